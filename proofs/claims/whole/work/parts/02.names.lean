/-- the words that every method may use: those of the tables that last -/
def BG : List Cond := lw_tbl.filter goodWord
theorem bg1 {w : Cond} {i : Nat} (h : tables_1_1[i]? = some w) (g : goodWord w = true) : w ∈ BG :=
  List.mem_filter.mpr ⟨List.mem_append_right _ (List.mem_append_left _ (List.mem_of_getElem? h)), g⟩
theorem bg2 {w : Cond} {i : Nat} (h : tables_1_2[i]? = some w) (g : goodWord w = true) : w ∈ BG :=
  List.mem_filter.mpr ⟨List.mem_append_right _ (List.mem_append_right _ (List.mem_append_left _ (List.mem_of_getElem? h))), g⟩
theorem bg3 {w : Cond} {i : Nat} (h : tables_1_3[i]? = some w) (g : goodWord w = true) : w ∈ BG :=
  List.mem_filter.mpr ⟨List.mem_append_right _ (List.mem_append_right _ (List.mem_append_right _ (List.mem_append_left _ (List.mem_of_getElem? h)))), g⟩
theorem bg4 {w : Cond} {i : Nat} (h : tables_1_4[i]? = some w) (g : goodWord w = true) : w ∈ BG :=
  List.mem_filter.mpr ⟨List.mem_append_right _ (List.mem_append_right _ (List.mem_append_right _ (List.mem_append_right _ (List.mem_of_getElem? h)))), g⟩
theorem bgp {w : Cond} {i : Nat} (h : (k2_sels lw_privs)[i]? = some w) (g : goodWord w = true) : w ∈ BG :=
  List.mem_filter.mpr ⟨List.mem_append_left _ (List.mem_of_getElem? h), g⟩
theorem bg_good {w : Cond} (h : w ∈ BG) : w ∈ BG ∧ ((w.onTables && w.keeps) = true ∨ ∃ ty, w = .arrayClass ty) := ⟨h, good_of_word (List.mem_filter.mp h).2⟩
theorem gwC {c : Cond} (hc : c ∈ BG) : GoodIn BG (c :: BG) := fun w h => (List.mem_cons.mp h).elim (fun e => bg_good (e ▸ hc)) bg_good
theorem gwV {own C : String} {idx : Nat} {y : MethodName} {c : Cond} (h1 : Cond.methodLink own idx y ∈ BG) (h2 : Cond.instanceMethod y ∈ BG) (h3 : Cond.selects C y y ∈ BG) (h4 : Cond.initialized C ∈ BG) (hc : c ∈ BG) : GoodIn BG (wsV own idx C y (c :: BG)) := by
  intro w h
  unfold wsV at h
  simp only [List.cons_append, List.nil_append, List.mem_cons] at h
  rcases h with rfl | rfl | rfl | rfl | rfl | h
  · exact bg_good h1
  · exact bg_good h2
  · exact bg_good h3
  · exact bg_good h4
  · exact bg_good hc
  · exact bg_good h
theorem gwS {own : String} {idx : Nat} {y : MethodName} {c : Cond} (h1 : Cond.methodLink own idx y ∈ BG) (h2 : Cond.static y ∈ BG) (h4 : Cond.initialized y.cls ∈ BG) (hc : c ∈ BG) : GoodIn BG (va_wsS own idx y (c :: BG)) := by
  intro w h
  unfold va_wsS at h
  simp only [List.cons_append, List.nil_append, List.mem_cons] at h
  rcases h with rfl | rfl | rfl | rfl | h
  · exact bg_good h1
  · exact bg_good h2
  · exact bg_good h4
  · exact bg_good hc
  · exact bg_good h
def R_Er : String := "SignatureForest$Eraser"
def R_Rd : String := "SignatureForest$Reader"
def R_Rw : String := "SignatureForest$Row"
def R_Sk : String := "SignatureForest$Seeker"
def R_Sh : String := "SignatureForest$Shower"
def R_Sg : String := "SignatureForest$Signature"
def R_Fo : String := "SignatureForest"
def R_Mo : String := "SignatureForestModel"
def R_JS : String := "java/lang/String"
def R_JL : String := "java/lang/StringLatin1"
def R_JM : String := "java/lang/Math"
def R_JY : String := "java/lang/System"
def R_JO : String := "java/lang/Object"
def R_JU : String := "java/lang/StringUTF16"
def R_JP : String := "jdk/internal/util/Preconditions"
def T_Er : u_T := fun k => match k with
  | _ => ("SignatureForest$Eraser", "erased", "LSignatureForest$Row;", true)
def ty_Er : Nat → FieldType := fun k => match k with
  | _ => .object "SignatureForest$Row"
theorem nm_Er : ∀ a, a < 1 → ∀ b, b < 1 → a ≠ b → (T_Er a).2.1 ≠ (T_Er b).2.1 := by decide +kernel
theorem tyok_Er : ∀ k, k < 1 → parseFieldDescriptor (T_Er k).2.2.1 = some (ty_Er k) := by decide +kernel
def T_Rd : u_T := fun k => match k with
  | 0 => ("SignatureForest$Reader", "roles", "[I", true)
  | 1 => ("SignatureForest$Reader", "nameStarts", "[I", true)
  | 2 => ("SignatureForest$Reader", "nameEnds", "[I", true)
  | 3 => ("SignatureForest$Reader", "nameCount", "I", false)
  | 4 => ("SignatureForest$Reader", "sort", "I", false)
  | 5 => ("SignatureForest$Reader", "section", "I", false)
  | 6 => ("SignatureForest$Reader", "depth", "I", false)
  | _ => ("SignatureForest$Reader", "last", "I", false)
def ty_Rd : Nat → FieldType := fun k => match k with
  | 0 => .array .int
  | 1 => .array .int
  | 2 => .array .int
  | 3 => .int
  | 4 => .int
  | 5 => .int
  | 6 => .int
  | _ => .int
theorem nm_Rd : ∀ a, a < 8 → ∀ b, b < 8 → a ≠ b → (T_Rd a).2.1 ≠ (T_Rd b).2.1 := by decide +kernel
theorem tyok_Rd : ∀ k, k < 8 → parseFieldDescriptor (T_Rd k).2.2.1 = some (ty_Rd k) := by decide +kernel
def T_Rw : u_T := fun k => match k with
  | 0 => ("SignatureForest$Row", "letters", "[C", true)
  | _ => ("SignatureForest$Row", "size", "I", false)
def ty_Rw : Nat → FieldType := fun k => match k with
  | 0 => .array .char
  | _ => .int
theorem nm_Rw : ∀ a, a < 2 → ∀ b, b < 2 → a ≠ b → (T_Rw a).2.1 ≠ (T_Rw b).2.1 := by decide +kernel
theorem tyok_Rw : ∀ k, k < 2 → parseFieldDescriptor (T_Rw k).2.2.1 = some (ty_Rw k) := by decide +kernel
def T_Sk : u_T := fun k => match k with
  | 0 => ("SignatureForest$Seeker", "wanted", "I", false)
  | 1 => ("SignatureForest$Seeker", "passed", "I", false)
  | _ => ("SignatureForest$Seeker", "found", "I", false)
def ty_Sk : Nat → FieldType := fun k => match k with
  | 0 => .int
  | 1 => .int
  | _ => .int
theorem nm_Sk : ∀ a, a < 3 → ∀ b, b < 3 → a ≠ b → (T_Sk a).2.1 ≠ (T_Sk b).2.1 := by decide +kernel
theorem tyok_Sk : ∀ k, k < 3 → parseFieldDescriptor (T_Sk k).2.2.1 = some (ty_Sk k) := by decide +kernel
def T_Sh : u_T := fun k => match k with
  | 0 => ("SignatureForest$Shower", "waiting", "[I", true)
  | 1 => ("SignatureForest$Shower", "depth", "I", false)
  | 2 => ("SignatureForest$Shower", "classPassed", "Z", false)
  | _ => ("SignatureForest$Shower", "thrownPassed", "Z", false)
def ty_Sh : Nat → FieldType := fun k => match k with
  | 0 => .array .int
  | 1 => .int
  | 2 => .boolean
  | _ => .boolean
theorem nm_Sh : ∀ a, a < 4 → ∀ b, b < 4 → a ≠ b → (T_Sh a).2.1 ≠ (T_Sh b).2.1 := by decide +kernel
theorem tyok_Sh : ∀ k, k < 4 → parseFieldDescriptor (T_Sh k).2.2.1 = some (ty_Sh k) := by decide +kernel
def T_Sg : u_T := fun k => match k with
  | 0 => ("SignatureForest$Signature", "sort", "I", true)
  | 1 => ("SignatureForest$Signature", "letters", "[C", true)
  | 2 => ("SignatureForest$Signature", "roles", "[I", true)
  | 3 => ("SignatureForest$Signature", "nameStarts", "[I", true)
  | 4 => ("SignatureForest$Signature", "nameEnds", "[I", true)
  | 5 => ("SignatureForest$Signature", "bodyStart", "I", true)
  | _ => ("SignatureForest$Signature", "scopeNumber", "I", false)
def ty_Sg : Nat → FieldType := fun k => match k with
  | 0 => .int
  | 1 => .array .char
  | 2 => .array .int
  | 3 => .array .int
  | 4 => .array .int
  | 5 => .int
  | _ => .int
theorem nm_Sg : ∀ a, a < 7 → ∀ b, b < 7 → a ≠ b → (T_Sg a).2.1 ≠ (T_Sg b).2.1 := by decide +kernel
theorem tyok_Sg : ∀ k, k < 7 → parseFieldDescriptor (T_Sg k).2.2.1 = some (ty_Sg k) := by decide +kernel
def T_Fo : u_T := fun k => match k with
  | 0 => ("SignatureForest", "line", "LSignatureForest$Row;", true)
  | 1 => ("SignatureForest", "draft", "LSignatureForest$Row;", true)
  | 2 => ("SignatureForest", "reader", "LSignatureForest$Reader;", true)
  | 3 => ("SignatureForest", "seeker", "LSignatureForest$Seeker;", true)
  | 4 => ("SignatureForest", "shower", "LSignatureForest$Shower;", true)
  | 5 => ("SignatureForest", "eraser", "LSignatureForest$Eraser;", true)
  | 6 => ("SignatureForest", "otherEraser", "LSignatureForest$Eraser;", true)
  | 7 => ("SignatureForest", "made", "[LSignatureForest$Signature;", true)
  | _ => ("SignatureForest", "madeCount", "I", false)
def ty_Fo : Nat → FieldType := fun k => match k with
  | 0 => .object "SignatureForest$Row"
  | 1 => .object "SignatureForest$Row"
  | 2 => .object "SignatureForest$Reader"
  | 3 => .object "SignatureForest$Seeker"
  | 4 => .object "SignatureForest$Shower"
  | 5 => .object "SignatureForest$Eraser"
  | 6 => .object "SignatureForest$Eraser"
  | 7 => .array (.object "SignatureForest$Signature")
  | _ => .int
theorem nm_Fo : ∀ a, a < 9 → ∀ b, b < 9 → a ≠ b → (T_Fo a).2.1 ≠ (T_Fo b).2.1 := by decide +kernel
theorem tyok_Fo : ∀ k, k < 9 → parseFieldDescriptor (T_Fo k).2.2.1 = some (ty_Fo k) := by decide +kernel
def T_Mo : u_T := fun k => match k with
  | 0 => ("SignatureForestModel", "line", "[I", true)
  | 1 => ("SignatureForestModel", "length", "I", false)
  | 2 => ("SignatureForestModel", "text", "[I", true)
  | 3 => ("SignatureForestModel", "role", "[I", true)
  | 4 => ("SignatureForestModel", "size", "[I", true)
  | 5 => ("SignatureForestModel", "kind", "[I", true)
  | 6 => ("SignatureForestModel", "scope", "[I", true)
  | 7 => ("SignatureForestModel", "pFrom", "[I", true)
  | 8 => ("SignatureForestModel", "pTo", "[I", true)
  | 9 => ("SignatureForestModel", "pBound", "[I", true)
  | 10 => ("SignatureForestModel", "pBounds", "[I", true)
  | 11 => ("SignatureForestModel", "params", "[I", true)
  | 12 => ("SignatureForestModel", "made", "I", false)
  | 13 => ("SignatureForestModel", "state", "[I", true)
  | 14 => ("SignatureForestModel", "top", "I", false)
  | 15 => ("SignatureForestModel", "out", "[I", true)
  | 16 => ("SignatureForestModel", "written", "I", false)
  | 17 => ("SignatureForestModel", "other", "[I", true)
  | 18 => ("SignatureForestModel", "met", "[Z", true)
  | 19 => ("SignatureForestModel", "sig", "I", false)
  | 20 => ("SignatureForestModel", "spot", "I", false)
  | _ => ("SignatureForestModel", "inScope", "Z", false)
def ty_Mo : Nat → FieldType := fun k => match k with
  | 0 => .array .int
  | 1 => .int
  | 2 => .array .int
  | 3 => .array .int
  | 4 => .array .int
  | 5 => .array .int
  | 6 => .array .int
  | 7 => .array .int
  | 8 => .array .int
  | 9 => .array .int
  | 10 => .array .int
  | 11 => .array .int
  | 12 => .int
  | 13 => .array .int
  | 14 => .int
  | 15 => .array .int
  | 16 => .int
  | 17 => .array .int
  | 18 => .array .boolean
  | 19 => .int
  | 20 => .int
  | _ => .boolean
theorem nm_Mo : ∀ a, a < 22 → ∀ b, b < 22 → a ≠ b → (T_Mo a).2.1 ≠ (T_Mo b).2.1 := by decide +kernel
theorem tyok_Mo : ∀ k, k < 22 → parseFieldDescriptor (T_Mo k).2.2.1 = some (ty_Mo k) := by decide +kernel
abbrev vwCl : List vw_C := [(R_Er, T_Er, 1), (R_Rd, T_Rd, 8), (R_Rw, T_Rw, 2), (R_Sk, T_Sk, 3), (R_Sh, T_Sh, 4), (R_Sg, T_Sg, 7), (R_Fo, T_Fo, 9), (R_Mo, T_Mo, 22)]
def ltN : Nat := 13
def ltL : List Nat := [7, 8, 2, 4, 4, 6, 5, 3, 4, 5, 7, 4, 18]
def ltB : List (List Int32) := [[46, 59, 47, 58, 60, 62, 91], [66, 67, 68, 70, 73, 74, 83, 90], [91, 93], [98, 121, 116, 101], [99, 104, 97, 114], [100, 111, 117, 98, 108, 101], [102, 108, 111, 97, 116], [105, 110, 116], [108, 111, 110, 103], [115, 104, 111, 114, 116], [98, 111, 111, 108, 101, 97, 110], [118, 111, 105, 100], [76, 106, 97, 118, 97, 47, 108, 97, 110, 103, 47, 79, 98, 106, 101, 99, 116, 59]]
def y_JP_checkIndex : MethodName := ⟨R_JP, "checkIndex", "(IILjava/util/function/BiFunction;)I"⟩
abbrev cc_JP_checkIndex : ByteArray := prog_16_method_11_code
def y_JS_checkIndex : MethodName := ⟨R_JS, "checkIndex", "(II)V"⟩
abbrev cc_JS_checkIndex : ByteArray := prog_12_method_155_code
def y_JS_isLatin1 : MethodName := ⟨R_JS, "isLatin1", "()Z"⟩
abbrev cc_JS_isLatin1 : ByteArray := prog_12_method_154_code
def y_JS_coder : MethodName := ⟨R_JS, "coder", "()B"⟩
abbrev cc_JS_coder : ByteArray := prog_12_method_152_code
def y_JS_length : MethodName := ⟨R_JS, "length", "()I"⟩
abbrev cc_JS_length : ByteArray := prog_12_method_54_code
def y_JL_charAt : MethodName := ⟨R_JL, "charAt", "([BI)C"⟩
abbrev cc_JL_charAt : ByteArray := prog_13_method_2_code
def y_JS_charAt : MethodName := ⟨R_JS, "charAt", "(I)C"⟩
abbrev cc_JS_charAt : ByteArray := prog_12_method_56_code
def y_JL_canEncode : MethodName := ⟨R_JL, "canEncode", "(I)Z"⟩
abbrev cc_JL_canEncode : ByteArray := prog_13_method_4_code
def y_JL_indexOfChar : MethodName := ⟨R_JL, "indexOfChar", "([BIII)I"⟩
abbrev cc_JL_indexOfChar : ByteArray := prog_13_method_23_code
def y_JL_indexOf : MethodName := ⟨R_JL, "indexOf", "([BIII)I"⟩
abbrev cc_JL_indexOf : ByteArray := prog_13_method_22_code
def y_JM_max : MethodName := ⟨R_JM, "max", "(II)I"⟩
abbrev cc_JM_max : ByteArray := prog_11_method_65_code
def y_JM_min : MethodName := ⟨R_JM, "min", "(II)I"⟩
abbrev cc_JM_min : ByteArray := prog_11_method_69_code
def y_JS_indexOf2 : MethodName := ⟨R_JS, "indexOf", "(II)I"⟩
abbrev cc_JS_indexOf2 : ByteArray := prog_12_method_80_code
def y_JS_indexOf : MethodName := ⟨R_JS, "indexOf", "(I)I"⟩
abbrev cc_JS_indexOf : ByteArray := prog_12_method_79_code
def y_Fo_beginsReference : MethodName := ⟨R_Fo, "beginsReference", "(I)Z"⟩
abbrev cc_Fo_beginsReference : ByteArray := prog_1_method_24_code
def y_Fo_beginsItem : MethodName := ⟨R_Fo, "beginsItem", "(I)Z"⟩
abbrev cc_Fo_beginsItem : ByteArray := prog_1_method_25_code
def y_Fo_endsItem : MethodName := ⟨R_Fo, "endsItem", "(I)Z"⟩
abbrev cc_Fo_endsItem : ByteArray := prog_1_method_26_code
def y_Rw_add : MethodName := ⟨R_Rw, "add", "(C)Z"⟩
abbrev cc_Rw_add : ByteArray := prog_4_method_2_code
def y_Rw_addText : MethodName := ⟨R_Rw, "addText", "(Ljava/lang/String;)V"⟩
abbrev cc_Rw_addText : ByteArray := prog_4_method_4_code
def y_Rw_holdsSameAs : MethodName := ⟨R_Rw, "holdsSameAs", "(LSignatureForest$Row;)Z"⟩
abbrev cc_Rw_holdsSameAs : ByteArray := prog_4_method_5_code
def y_Rw_addAll : MethodName := ⟨R_Rw, "addAll", "([C)Z"⟩
abbrev cc_Rw_addAll : ByteArray := prog_4_method_3_code
def y_Rw_init : MethodName := ⟨R_Rw, "<init>", "(I)V"⟩
abbrev cc_Rw_init : ByteArray := prog_4_method_1_code
def y_Sk_start : MethodName := ⟨R_Sk, "start", "(I)V"⟩
abbrev cc_Sk_start : ByteArray := prog_5_method_2_code
def y_Sk_pass : MethodName := ⟨R_Sk, "pass", "(C)V"⟩
abbrev cc_Sk_pass : ByteArray := prog_5_method_3_code
def y_Sk_passText : MethodName := ⟨R_Sk, "passText", "(Ljava/lang/String;)V"⟩
abbrev cc_Sk_passText : ByteArray := prog_5_method_4_code
def y_Sk_passRow : MethodName := ⟨R_Sk, "passRow", "([CI)V"⟩
abbrev cc_Sk_passRow : ByteArray := prog_5_method_5_code
def y_Sk_init : MethodName := ⟨R_Sk, "<init>", "()V"⟩
abbrev cc_Sk_init : ByteArray := prog_5_method_1_code
def y_Rd_reference : MethodName := ⟨R_Rd, "reference", "(C)I"⟩
abbrev cc_Rd_reference : ByteArray := prog_3_method_20_code
def y_Rd_nameOnly : MethodName := ⟨R_Rd, "nameOnly", "(CI)I"⟩
abbrev cc_Rd_nameOnly : ByteArray := prog_3_method_21_code
def y_Rd_typeOnly : MethodName := ⟨R_Rd, "typeOnly", "(C)I"⟩
abbrev cc_Rd_typeOnly : ByteArray := prog_3_method_19_code
def y_Rd_argument : MethodName := ⟨R_Rd, "argument", "(C)I"⟩
abbrev cc_Rd_argument : ByteArray := prog_3_method_18_code
def y_Rd_closingOr : MethodName := ⟨R_Rd, "closingOr", "(CI)I"⟩
abbrev cc_Rd_closingOr : ByteArray := prog_3_method_17_code
def y_Rd_behindArguments : MethodName := ⟨R_Rd, "behindArguments", "(C)I"⟩
abbrev cc_Rd_behindArguments : ByteArray := prog_3_method_16_code
def y_Rd_inSegment : MethodName := ⟨R_Rd, "inSegment", "(CI)I"⟩
abbrev cc_Rd_inSegment : ByteArray := prog_3_method_15_code
def y_Rd_inTypes : MethodName := ⟨R_Rd, "inTypes", "(C)I"⟩
abbrev cc_Rd_inTypes : ByteArray := prog_3_method_14_code
def y_Rd_behindBound : MethodName := ⟨R_Rd, "behindBound", "(C)I"⟩
abbrev cc_Rd_behindBound : ByteArray := prog_3_method_13_code
def y_Rd_behindFirstColon : MethodName := ⟨R_Rd, "behindFirstColon", "(C)I"⟩
abbrev cc_Rd_behindFirstColon : ByteArray := prog_3_method_12_code
def y_Rd_behindItem : MethodName := ⟨R_Rd, "behindItem", "(C)I"⟩
abbrev cc_Rd_behindItem : ByteArray := prog_3_method_11_code
def y_Rd_atBody : MethodName := ⟨R_Rd, "atBody", "(C)I"⟩
abbrev cc_Rd_atBody : ByteArray := prog_3_method_10_code
def y_Rd_atStart : MethodName := ⟨R_Rd, "atStart", "(C)I"⟩
abbrev cc_Rd_atStart : ByteArray := prog_3_method_9_code
def y_Rd_roleOf : MethodName := ⟨R_Rd, "roleOf", "(C)I"⟩
abbrev cc_Rd_roleOf : ByteArray := prog_3_method_8_code
def y_Rd_sameName : MethodName := ⟨R_Rd, "sameName", "(LSignatureForest$Row;II)Z"⟩
abbrev cc_Rd_sameName : ByteArray := prog_3_method_7_code
def y_Rd_nameIsTaken : MethodName := ⟨R_Rd, "nameIsTaken", "(LSignatureForest$Row;)Z"⟩
abbrev cc_Rd_nameIsTaken : ByteArray := prog_3_method_6_code
def y_Rd_mayEnd : MethodName := ⟨R_Rd, "mayEnd", "()Z"⟩
abbrev cc_Rd_mayEnd : ByteArray := prog_3_method_5_code
def y_Rd_noteName : MethodName := ⟨R_Rd, "noteName", "(I)V"⟩
abbrev cc_Rd_noteName : ByteArray := prog_3_method_4_code
def y_Rd_take : MethodName := ⟨R_Rd, "take", "(II)V"⟩
abbrev cc_Rd_take : ByteArray := prog_3_method_3_code
def y_Rd_faultOf : MethodName := ⟨R_Rd, "faultOf", "(LSignatureForest$Row;I)I"⟩
abbrev cc_Rd_faultOf : ByteArray := prog_3_method_2_code
def y_Rd_init : MethodName := ⟨R_Rd, "<init>", "()V"⟩
abbrev cc_Rd_init : ByteArray := prog_3_method_1_code
def y_Sg_roleAt : MethodName := ⟨R_Sg, "roleAt", "(I)I"⟩
abbrev cc_Sg_roleAt : ByteArray := prog_7_method_2_code
def y_Sg_letterAt : MethodName := ⟨R_Sg, "letterAt", "(I)C"⟩
abbrev cc_Sg_letterAt : ByteArray := prog_7_method_3_code
def y_Sg_hasParameter : MethodName := ⟨R_Sg, "hasParameter", "(I)Z"⟩
abbrev cc_Sg_hasParameter : ByteArray := prog_7_method_4_code
def y_Sg_nameStart : MethodName := ⟨R_Sg, "nameStart", "(I)I"⟩
abbrev cc_Sg_nameStart : ByteArray := prog_7_method_5_code
def y_Sg_nameLength : MethodName := ⟨R_Sg, "nameLength", "(I)I"⟩
abbrev cc_Sg_nameLength : ByteArray := prog_7_method_6_code
def y_Sg_behindName : MethodName := ⟨R_Sg, "behindName", "(I)I"⟩
abbrev cc_Sg_behindName : ByteArray := prog_7_method_7_code
def y_Sg_parameterEnd : MethodName := ⟨R_Sg, "parameterEnd", "(I)I"⟩
abbrev cc_Sg_parameterEnd : ByteArray := prog_7_method_8_code
def y_Sg_boundCount : MethodName := ⟨R_Sg, "boundCount", "(I)I"⟩
abbrev cc_Sg_boundCount : ByteArray := prog_7_method_9_code
def y_Sg_firstBound : MethodName := ⟨R_Sg, "firstBound", "(I)I"⟩
abbrev cc_Sg_firstBound : ByteArray := prog_7_method_10_code
def y_Sg_sameLetters : MethodName := ⟨R_Sg, "sameLetters", "(ILSignatureForest$Signature;II)Z"⟩
abbrev cc_Sg_sameLetters : ByteArray := prog_7_method_12_code
def y_Sg_parameterNamed : MethodName := ⟨R_Sg, "parameterNamed", "(LSignatureForest$Signature;I)I"⟩
abbrev cc_Sg_parameterNamed : ByteArray := prog_7_method_11_code
def y_Sg_repeatsName : MethodName := ⟨R_Sg, "repeatsName", "(II)Z"⟩
abbrev cc_Sg_repeatsName : ByteArray := prog_7_method_13_code
def y_Sg_declarerAt : MethodName := ⟨R_Sg, "declarerAt", "(I)I"⟩
abbrev cc_Sg_declarerAt : ByteArray := prog_7_method_14_code
def y_Sg_ownNameAt : MethodName := ⟨R_Sg, "ownNameAt", "(I)I"⟩
abbrev cc_Sg_ownNameAt : ByteArray := prog_7_method_15_code
def y_Sg_behindType : MethodName := ⟨R_Sg, "behindType", "(I)I"⟩
abbrev cc_Sg_behindType : ByteArray := prog_7_method_16_code
def y_Sg_classCount : MethodName := ⟨R_Sg, "classCount", "()I"⟩
abbrev cc_Sg_classCount : ByteArray := prog_7_method_17_code
def y_Sg_argumentDepth : MethodName := ⟨R_Sg, "argumentDepth", "()I"⟩
abbrev cc_Sg_argumentDepth : ByteArray := prog_7_method_18_code
def y_Sg_longestBrackets : MethodName := ⟨R_Sg, "longestBrackets", "()I"⟩
abbrev cc_Sg_longestBrackets : ByteArray := prog_7_method_19_code
def y_Sg_init : MethodName := ⟨R_Sg, "<init>", "(LSignatureForest$Row;LSignatureForest$Reader;I)V"⟩
abbrev cc_Sg_init : ByteArray := prog_7_method_1_code
def y_Fo_becomes : MethodName := ⟨R_Fo, "becomes", "(LSignatureForest$Signature;LSignatureForest$Signature;)Z"⟩
abbrev cc_Fo_becomes : ByteArray := prog_1_method_20_code
def y_Sh_wordOf : MethodName := ⟨R_Sh, "wordOf", "(C)Ljava/lang/String;"⟩
abbrev cc_Sh_wordOf : ByteArray := prog_6_method_9_code
def y_Sh_partingItems : MethodName := ⟨R_Sh, "partingItems", "(LSignatureForest$Signature;)C"⟩
abbrev cc_Sh_partingItems : ByteArray := prog_6_method_4_code
def y_Sh_part : MethodName := ⟨R_Sh, "part", "(LSignatureForest$Signature;IILSignatureForest$Seeker;)V"⟩
abbrev cc_Sh_part : ByteArray := prog_6_method_3_code
def y_Sh_changeDepth : MethodName := ⟨R_Sh, "changeDepth", "(I)V"⟩
abbrev cc_Sh_changeDepth : ByteArray := prog_6_method_6_code
def y_Sh_showWaiting : MethodName := ⟨R_Sh, "showWaiting", "(LSignatureForest$Seeker;)V"⟩
abbrev cc_Sh_showWaiting : ByteArray := prog_6_method_7_code
def y_Sh_showColon : MethodName := ⟨R_Sh, "showColon", "(LSignatureForest$Signature;IILSignatureForest$Seeker;)V"⟩
abbrev cc_Sh_showColon : ByteArray := prog_6_method_8_code
def y_Sh_showLetter : MethodName := ⟨R_Sh, "showLetter", "(LSignatureForest$Signature;IILSignatureForest$Seeker;)V"⟩
abbrev cc_Sh_showLetter : ByteArray := prog_6_method_5_code
def y_Sh_show : MethodName := ⟨R_Sh, "show", "(LSignatureForest$Signature;LSignatureForest$Seeker;)V"⟩
abbrev cc_Sh_show : ByteArray := prog_6_method_2_code
def y_Sh_init : MethodName := ⟨R_Sh, "<init>", "()V"⟩
abbrev cc_Sh_init : ByteArray := prog_6_method_1_code
def y_Er_eraseBrackets : MethodName := ⟨R_Er, "eraseBrackets", "(LSignatureForest$Signature;I)I"⟩
abbrev cc_Er_eraseBrackets : ByteArray := prog_2_method_3_code
def y_Er_eraseNamed : MethodName := ⟨R_Er, "eraseNamed", "(LSignatureForest$Signature;I)V"⟩
abbrev cc_Er_eraseNamed : ByteArray := prog_2_method_4_code
def y_Er_erase : MethodName := ⟨R_Er, "erase", "(LSignatureForest$Signature;LSignatureForest$Signature;I)V"⟩
abbrev cc_Er_erase : ByteArray := prog_2_method_2_code
def y_Er_init : MethodName := ⟨R_Er, "<init>", "()V"⟩
abbrev cc_Er_init : ByteArray := prog_2_method_1_code
def y_Fo_find : MethodName := ⟨R_Fo, "find", "(I)LSignatureForest$Signature;"⟩
abbrev cc_Fo_find : ByteArray := prog_1_method_16_code
def y_Fo_passErased : MethodName := ⟨R_Fo, "passErased", "(LSignatureForest$Signature;)V"⟩
abbrev cc_Fo_passErased : ByteArray := prog_1_method_19_code
def y_Fo_seek : MethodName := ⟨R_Fo, "seek", "(LSignatureForest$Signature;II)Z"⟩
abbrev cc_Fo_seek : ByteArray := prog_1_method_18_code
def y_Fo_text : MethodName := ⟨R_Fo, "text", "(III)I"⟩
abbrev cc_Fo_text : ByteArray := prog_1_method_7_code
def y_Fo_length : MethodName := ⟨R_Fo, "length", "(II)I"⟩
abbrev cc_Fo_length : ByteArray := prog_1_method_8_code
def y_Fo_kind : MethodName := ⟨R_Fo, "kind", "(I)I"⟩
abbrev cc_Fo_kind : ByteArray := prog_1_method_6_code
def y_Fo_parameters : MethodName := ⟨R_Fo, "parameters", "(I)I"⟩
abbrev cc_Fo_parameters : ByteArray := prog_1_method_12_code
def y_Fo_bounds : MethodName := ⟨R_Fo, "bounds", "(II)I"⟩
abbrev cc_Fo_bounds : ByteArray := prog_1_method_13_code
def y_Fo_variablesDeclared : MethodName := ⟨R_Fo, "variablesDeclared", "(LSignatureForest$Signature;I)I"⟩
abbrev cc_Fo_variablesDeclared : ByteArray := prog_1_method_23_code
def y_Fo_measure : MethodName := ⟨R_Fo, "measure", "(II)I"⟩
abbrev cc_Fo_measure : ByteArray := prog_1_method_14_code
def y_Fo_alike : MethodName := ⟨R_Fo, "alike", "(II)I"⟩
abbrev cc_Fo_alike : ByteArray := prog_1_method_9_code
def y_Fo_sameErasedTypes : MethodName := ⟨R_Fo, "sameErasedTypes", "(LSignatureForest$Signature;LSignatureForest$Signature;)Z"⟩
abbrev cc_Fo_sameErasedTypes : ByteArray := prog_1_method_21_code
def y_Fo_clash : MethodName := ⟨R_Fo, "clash", "(II)I"⟩
abbrev cc_Fo_clash : ByteArray := prog_1_method_10_code
def y_Fo_type : MethodName := ⟨R_Fo, "type", "(I)I"⟩
abbrev cc_Fo_type : ByteArray := prog_1_method_2_code
def y_Fo_clear : MethodName := ⟨R_Fo, "clear", "()V"⟩
abbrev cc_Fo_clear : ByteArray := prog_1_method_3_code
def y_Fo_count : MethodName := ⟨R_Fo, "count", "(I)I"⟩
abbrev cc_Fo_count : ByteArray := prog_1_method_15_code
def y_Fo_scope : MethodName := ⟨R_Fo, "scope", "(II)I"⟩
abbrev cc_Fo_scope : ByteArray := prog_1_method_5_code
def y_Fo_writeFilled : MethodName := ⟨R_Fo, "writeFilled", "(LSignatureForest$Signature;ILSignatureForest$Signature;)Z"⟩
abbrev cc_Fo_writeFilled : ByteArray := prog_1_method_22_code
def y_Fo_keep : MethodName := ⟨R_Fo, "keep", "(LSignatureForest$Row;I)I"⟩
abbrev cc_Fo_keep : ByteArray := prog_1_method_17_code
def y_Fo_read : MethodName := ⟨R_Fo, "read", "(I)I"⟩
abbrev cc_Fo_read : ByteArray := prog_1_method_4_code
def y_Fo_fill : MethodName := ⟨R_Fo, "fill", "(III)I"⟩
abbrev cc_Fo_fill : ByteArray := prog_1_method_11_code
def y_Fo_init : MethodName := ⟨R_Fo, "<init>", "()V"⟩
abbrev cc_Fo_init : ByteArray := prog_1_method_1_code
def y_Mo_type : MethodName := ⟨R_Mo, "type", "(I)I"⟩
abbrev cc_Mo_type : ByteArray := prog_9_method_2_code
def y_Mo_clear : MethodName := ⟨R_Mo, "clear", "()V"⟩
abbrev cc_Mo_clear : ByteArray := prog_9_method_3_code
def y_Mo_at : MethodName := ⟨R_Mo, "at", "(II)I"⟩
abbrev cc_Mo_at : ByteArray := prog_9_method_15_code
def y_Mo_go : MethodName := ⟨R_Mo, "go", "(II)I"⟩
abbrev cc_Mo_go : ByteArray := prog_9_method_6_code
def y_Mo_push : MethodName := ⟨R_Mo, "push", "(III)I"⟩
abbrev cc_Mo_push : ByteArray := prog_9_method_7_code
def y_Mo_base : MethodName := ⟨R_Mo, "base", "(I)Z"⟩
abbrev cc_Mo_base : ByteArray := prog_9_method_5_code
def y_Mo_pop : MethodName := ⟨R_Mo, "pop", "(I)I"⟩
abbrev cc_Mo_pop : ByteArray := prog_9_method_8_code
def y_Mo_start : MethodName := ⟨R_Mo, "start", "(II)I"⟩
abbrev cc_Mo_start : ByteArray := prog_9_method_11_code
def y_Mo_inner : MethodName := ⟨R_Mo, "inner", "(III)I"⟩
abbrev cc_Mo_inner : ByteArray := prog_9_method_10_code
def y_Mo_inArguments : MethodName := ⟨R_Mo, "inArguments", "(II)I"⟩
abbrev cc_Mo_inArguments : ByteArray := prog_9_method_13_code
def y_Mo_name : MethodName := ⟨R_Mo, "name", "(I)Z"⟩
abbrev cc_Mo_name : ByteArray := prog_9_method_4_code
def y_Mo_inClass : MethodName := ⟨R_Mo, "inClass", "(II)I"⟩
abbrev cc_Mo_inClass : ByteArray := prog_9_method_12_code
def y_Mo_alikeNames : MethodName := ⟨R_Mo, "alikeNames", "(IIIIII)Z"⟩
abbrev cc_Mo_alikeNames : ByteArray := prog_9_method_16_code
def y_Mo_twice : MethodName := ⟨R_Mo, "twice", "(I)Z"⟩
abbrev cc_Mo_twice : ByteArray := prog_9_method_17_code
def y_Mo_inParameters : MethodName := ⟨R_Mo, "inParameters", "(III)I"⟩
abbrev cc_Mo_inParameters : ByteArray := prog_9_method_14_code
def y_Mo_step : MethodName := ⟨R_Mo, "step", "(II)I"⟩
abbrev cc_Mo_step : ByteArray := prog_9_method_9_code
def y_Mo_judge : MethodName := ⟨R_Mo, "judge", "(I)I"⟩
abbrev cc_Mo_judge : ByteArray := prog_9_method_18_code
def y_Mo_read : MethodName := ⟨R_Mo, "read", "(I)I"⟩
abbrev cc_Mo_read : ByteArray := prog_9_method_19_code
def y_Mo_no : MethodName := ⟨R_Mo, "no", "(I)Z"⟩
abbrev cc_Mo_no : ByteArray := prog_9_method_20_code
def y_Mo_scope : MethodName := ⟨R_Mo, "scope", "(II)I"⟩
abbrev cc_Mo_scope : ByteArray := prog_9_method_21_code
def y_Mo_kind : MethodName := ⟨R_Mo, "kind", "(I)I"⟩
abbrev cc_Mo_kind : ByteArray := prog_9_method_22_code
def y_Mo_roleAt : MethodName := ⟨R_Mo, "roleAt", "(II)I"⟩
abbrev cc_Mo_roleAt : ByteArray := prog_9_method_23_code
def y_Mo_nameEnd : MethodName := ⟨R_Mo, "nameEnd", "(II)I"⟩
abbrev cc_Mo_nameEnd : ByteArray := prog_9_method_24_code
def y_Mo_behind : MethodName := ⟨R_Mo, "behind", "(II)I"⟩
abbrev cc_Mo_behind : ByteArray := prog_9_method_35_code
def y_Mo_bodyStart : MethodName := ⟨R_Mo, "bodyStart", "(I)I"⟩
abbrev cc_Mo_bodyStart : ByteArray := prog_9_method_36_code
def y_Mo_put : MethodName := ⟨R_Mo, "put", "(I)V"⟩
abbrev cc_Mo_put : ByteArray := prog_9_method_27_code
def y_Mo_param : MethodName := ⟨R_Mo, "param", "(III)I"⟩
abbrev cc_Mo_param : ByteArray := prog_9_method_25_code
def y_Mo_word : MethodName := ⟨R_Mo, "word", "(J)V"⟩
abbrev cc_Mo_word : ByteArray := prog_9_method_28_code
def y_Mo_resolve : MethodName := ⟨R_Mo, "resolve", "()Z"⟩
abbrev cc_Mo_resolve : ByteArray := prog_9_method_33_code
def y_Mo_erase : MethodName := ⟨R_Mo, "erase", "(II)V"⟩
abbrev cc_Mo_erase : ByteArray := prog_9_method_34_code
def y_Mo_eraseAll : MethodName := ⟨R_Mo, "eraseAll", "(IZ)V"⟩
abbrev cc_Mo_eraseAll : ByteArray := prog_9_method_37_code
def y_Mo_baseWord : MethodName := ⟨R_Mo, "baseWord", "(I)J"⟩
abbrev cc_Mo_baseWord : ByteArray := prog_9_method_29_code
def y_Mo_brackets : MethodName := ⟨R_Mo, "brackets", "(I)V"⟩
abbrev cc_Mo_brackets : ByteArray := prog_9_method_30_code
def y_Mo_part : MethodName := ⟨R_Mo, "part", "(IIII)V"⟩
abbrev cc_Mo_part : ByteArray := prog_9_method_31_code
def y_Mo_show : MethodName := ⟨R_Mo, "show", "(I)V"⟩
abbrev cc_Mo_show : ByteArray := prog_9_method_32_code
def y_Mo_make : MethodName := ⟨R_Mo, "make", "(II)Z"⟩
abbrev cc_Mo_make : ByteArray := prog_9_method_38_code
def y_Mo_text : MethodName := ⟨R_Mo, "text", "(III)I"⟩
abbrev cc_Mo_text : ByteArray := prog_9_method_39_code
def y_Mo_length : MethodName := ⟨R_Mo, "length", "(II)I"⟩
abbrev cc_Mo_length : ByteArray := prog_9_method_40_code
def y_Mo_own : MethodName := ⟨R_Mo, "own", "(II)Z"⟩
abbrev cc_Mo_own : ByteArray := prog_9_method_26_code
def y_Mo_alike : MethodName := ⟨R_Mo, "alike", "(II)I"⟩
abbrev cc_Mo_alike : ByteArray := prog_9_method_41_code
def y_Mo_clash : MethodName := ⟨R_Mo, "clash", "(II)I"⟩
abbrev cc_Mo_clash : ByteArray := prog_9_method_42_code
def y_Mo_fill : MethodName := ⟨R_Mo, "fill", "(III)I"⟩
abbrev cc_Mo_fill : ByteArray := prog_9_method_43_code
def y_Mo_parameters : MethodName := ⟨R_Mo, "parameters", "(I)I"⟩
abbrev cc_Mo_parameters : ByteArray := prog_9_method_44_code
def y_Mo_bounds : MethodName := ⟨R_Mo, "bounds", "(II)I"⟩
abbrev cc_Mo_bounds : ByteArray := prog_9_method_45_code
def y_Mo_measure : MethodName := ⟨R_Mo, "measure", "(II)I"⟩
abbrev cc_Mo_measure : ByteArray := prog_9_method_46_code
def y_Mo_count : MethodName := ⟨R_Mo, "count", "(I)I"⟩
abbrev cc_Mo_count : ByteArray := prog_9_method_47_code
def y_Mo_init : MethodName := ⟨R_Mo, "<init>", "()V"⟩
abbrev cc_Mo_init : ByteArray := prog_9_method_1_code
abbrev wc_JP_checkIndex : List Cond := Cond.code y_JP_checkIndex cc_JP_checkIndex 3 (some .int) :: BG
theorem hd_JP_checkIndex : y_JP_checkIndex.cls = R_JP ∧ y_JP_checkIndex.cls ≠ "java/lang/invoke/MethodHandle" ∧ y_JP_checkIndex.cls ≠ "java/lang/invoke/VarHandle" ∧ (parseMethodDescriptor y_JP_checkIndex.desc).map (fun d => d.parameters.length) = some 3 := by decide +kernel
abbrev wc_JS_checkIndex : List Cond := Cond.code y_JS_checkIndex cc_JS_checkIndex 2 none :: BG
theorem hd_JS_checkIndex : y_JS_checkIndex.cls = R_JS ∧ y_JS_checkIndex.cls ≠ "java/lang/invoke/MethodHandle" ∧ y_JS_checkIndex.cls ≠ "java/lang/invoke/VarHandle" ∧ (parseMethodDescriptor y_JS_checkIndex.desc).map (fun d => d.parameters.length) = some 2 := by decide +kernel
abbrev wc_JS_isLatin1 : List Cond := Cond.code y_JS_isLatin1 cc_JS_isLatin1 1 (some .boolean) :: BG
theorem hd_JS_isLatin1 : y_JS_isLatin1.cls = R_JS ∧ y_JS_isLatin1.cls ≠ "java/lang/invoke/MethodHandle" ∧ y_JS_isLatin1.cls ≠ "java/lang/invoke/VarHandle" ∧ (parseMethodDescriptor y_JS_isLatin1.desc).map (fun d => d.parameters.length) = some 0 := by decide +kernel
abbrev wc_JS_coder : List Cond := Cond.code y_JS_coder cc_JS_coder 1 (some .byte) :: BG
theorem hd_JS_coder : y_JS_coder.cls = R_JS ∧ y_JS_coder.cls ≠ "java/lang/invoke/MethodHandle" ∧ y_JS_coder.cls ≠ "java/lang/invoke/VarHandle" ∧ (parseMethodDescriptor y_JS_coder.desc).map (fun d => d.parameters.length) = some 0 := by decide +kernel
abbrev wc_JS_length : List Cond := Cond.code y_JS_length cc_JS_length 1 (some .int) :: BG
theorem hd_JS_length : y_JS_length.cls = R_JS ∧ y_JS_length.cls ≠ "java/lang/invoke/MethodHandle" ∧ y_JS_length.cls ≠ "java/lang/invoke/VarHandle" ∧ (parseMethodDescriptor y_JS_length.desc).map (fun d => d.parameters.length) = some 0 := by decide +kernel
abbrev wc_JL_charAt : List Cond := Cond.code y_JL_charAt cc_JL_charAt 2 (some .char) :: BG
theorem hd_JL_charAt : y_JL_charAt.cls = R_JL ∧ y_JL_charAt.cls ≠ "java/lang/invoke/MethodHandle" ∧ y_JL_charAt.cls ≠ "java/lang/invoke/VarHandle" ∧ (parseMethodDescriptor y_JL_charAt.desc).map (fun d => d.parameters.length) = some 2 := by decide +kernel
abbrev wc_JS_charAt : List Cond := Cond.code y_JS_charAt cc_JS_charAt 2 (some .char) :: BG
theorem hd_JS_charAt : y_JS_charAt.cls = R_JS ∧ y_JS_charAt.cls ≠ "java/lang/invoke/MethodHandle" ∧ y_JS_charAt.cls ≠ "java/lang/invoke/VarHandle" ∧ (parseMethodDescriptor y_JS_charAt.desc).map (fun d => d.parameters.length) = some 1 := by decide +kernel
abbrev wc_JL_canEncode : List Cond := Cond.code y_JL_canEncode cc_JL_canEncode 1 (some .boolean) :: BG
theorem hd_JL_canEncode : y_JL_canEncode.cls = R_JL ∧ y_JL_canEncode.cls ≠ "java/lang/invoke/MethodHandle" ∧ y_JL_canEncode.cls ≠ "java/lang/invoke/VarHandle" ∧ (parseMethodDescriptor y_JL_canEncode.desc).map (fun d => d.parameters.length) = some 1 := by decide +kernel
abbrev wc_JL_indexOfChar : List Cond := Cond.code y_JL_indexOfChar cc_JL_indexOfChar 6 (some .int) :: BG
theorem hd_JL_indexOfChar : y_JL_indexOfChar.cls = R_JL ∧ y_JL_indexOfChar.cls ≠ "java/lang/invoke/MethodHandle" ∧ y_JL_indexOfChar.cls ≠ "java/lang/invoke/VarHandle" ∧ (parseMethodDescriptor y_JL_indexOfChar.desc).map (fun d => d.parameters.length) = some 4 := by decide +kernel
abbrev wc_JL_indexOf : List Cond := Cond.code y_JL_indexOf cc_JL_indexOf 4 (some .int) :: BG
theorem hd_JL_indexOf : y_JL_indexOf.cls = R_JL ∧ y_JL_indexOf.cls ≠ "java/lang/invoke/MethodHandle" ∧ y_JL_indexOf.cls ≠ "java/lang/invoke/VarHandle" ∧ (parseMethodDescriptor y_JL_indexOf.desc).map (fun d => d.parameters.length) = some 4 := by decide +kernel
abbrev wc_JM_max : List Cond := Cond.code y_JM_max cc_JM_max 2 (some .int) :: BG
theorem hd_JM_max : y_JM_max.cls = R_JM ∧ y_JM_max.cls ≠ "java/lang/invoke/MethodHandle" ∧ y_JM_max.cls ≠ "java/lang/invoke/VarHandle" ∧ (parseMethodDescriptor y_JM_max.desc).map (fun d => d.parameters.length) = some 2 := by decide +kernel
abbrev wc_JM_min : List Cond := Cond.code y_JM_min cc_JM_min 2 (some .int) :: BG
theorem hd_JM_min : y_JM_min.cls = R_JM ∧ y_JM_min.cls ≠ "java/lang/invoke/MethodHandle" ∧ y_JM_min.cls ≠ "java/lang/invoke/VarHandle" ∧ (parseMethodDescriptor y_JM_min.desc).map (fun d => d.parameters.length) = some 2 := by decide +kernel
abbrev wc_JS_indexOf2 : List Cond := Cond.code y_JS_indexOf2 cc_JS_indexOf2 3 (some .int) :: BG
theorem hd_JS_indexOf2 : y_JS_indexOf2.cls = R_JS ∧ y_JS_indexOf2.cls ≠ "java/lang/invoke/MethodHandle" ∧ y_JS_indexOf2.cls ≠ "java/lang/invoke/VarHandle" ∧ (parseMethodDescriptor y_JS_indexOf2.desc).map (fun d => d.parameters.length) = some 2 := by decide +kernel
abbrev wc_JS_indexOf : List Cond := Cond.code y_JS_indexOf cc_JS_indexOf 2 (some .int) :: BG
theorem hd_JS_indexOf : y_JS_indexOf.cls = R_JS ∧ y_JS_indexOf.cls ≠ "java/lang/invoke/MethodHandle" ∧ y_JS_indexOf.cls ≠ "java/lang/invoke/VarHandle" ∧ (parseMethodDescriptor y_JS_indexOf.desc).map (fun d => d.parameters.length) = some 1 := by decide +kernel
abbrev wc_Fo_beginsReference : List Cond := Cond.code y_Fo_beginsReference cc_Fo_beginsReference 1 (some .boolean) :: BG
theorem hd_Fo_beginsReference : y_Fo_beginsReference.cls = R_Fo ∧ y_Fo_beginsReference.cls ≠ "java/lang/invoke/MethodHandle" ∧ y_Fo_beginsReference.cls ≠ "java/lang/invoke/VarHandle" ∧ (parseMethodDescriptor y_Fo_beginsReference.desc).map (fun d => d.parameters.length) = some 1 := by decide +kernel
abbrev wc_Fo_beginsItem : List Cond := Cond.code y_Fo_beginsItem cc_Fo_beginsItem 1 (some .boolean) :: BG
theorem hd_Fo_beginsItem : y_Fo_beginsItem.cls = R_Fo ∧ y_Fo_beginsItem.cls ≠ "java/lang/invoke/MethodHandle" ∧ y_Fo_beginsItem.cls ≠ "java/lang/invoke/VarHandle" ∧ (parseMethodDescriptor y_Fo_beginsItem.desc).map (fun d => d.parameters.length) = some 1 := by decide +kernel
abbrev wc_Fo_endsItem : List Cond := Cond.code y_Fo_endsItem cc_Fo_endsItem 1 (some .boolean) :: BG
theorem hd_Fo_endsItem : y_Fo_endsItem.cls = R_Fo ∧ y_Fo_endsItem.cls ≠ "java/lang/invoke/MethodHandle" ∧ y_Fo_endsItem.cls ≠ "java/lang/invoke/VarHandle" ∧ (parseMethodDescriptor y_Fo_endsItem.desc).map (fun d => d.parameters.length) = some 1 := by decide +kernel
abbrev wc_Rw_add : List Cond := Cond.code y_Rw_add cc_Rw_add 2 (some .boolean) :: BG
theorem hd_Rw_add : y_Rw_add.cls = R_Rw ∧ y_Rw_add.cls ≠ "java/lang/invoke/MethodHandle" ∧ y_Rw_add.cls ≠ "java/lang/invoke/VarHandle" ∧ (parseMethodDescriptor y_Rw_add.desc).map (fun d => d.parameters.length) = some 1 := by decide +kernel
abbrev wc_Rw_addText : List Cond := Cond.code y_Rw_addText cc_Rw_addText 3 none :: BG
theorem hd_Rw_addText : y_Rw_addText.cls = R_Rw ∧ y_Rw_addText.cls ≠ "java/lang/invoke/MethodHandle" ∧ y_Rw_addText.cls ≠ "java/lang/invoke/VarHandle" ∧ (parseMethodDescriptor y_Rw_addText.desc).map (fun d => d.parameters.length) = some 1 := by decide +kernel
abbrev wc_Rw_holdsSameAs : List Cond := Cond.code y_Rw_holdsSameAs cc_Rw_holdsSameAs 3 (some .boolean) :: BG
theorem hd_Rw_holdsSameAs : y_Rw_holdsSameAs.cls = R_Rw ∧ y_Rw_holdsSameAs.cls ≠ "java/lang/invoke/MethodHandle" ∧ y_Rw_holdsSameAs.cls ≠ "java/lang/invoke/VarHandle" ∧ (parseMethodDescriptor y_Rw_holdsSameAs.desc).map (fun d => d.parameters.length) = some 1 := by decide +kernel
abbrev wc_Rw_addAll : List Cond := Cond.code y_Rw_addAll cc_Rw_addAll 2 (some .boolean) :: BG
theorem hd_Rw_addAll : y_Rw_addAll.cls = R_Rw ∧ y_Rw_addAll.cls ≠ "java/lang/invoke/MethodHandle" ∧ y_Rw_addAll.cls ≠ "java/lang/invoke/VarHandle" ∧ (parseMethodDescriptor y_Rw_addAll.desc).map (fun d => d.parameters.length) = some 1 := by decide +kernel
abbrev wc_Rw_init : List Cond := Cond.code y_Rw_init cc_Rw_init 2 none :: BG
theorem hd_Rw_init : y_Rw_init.cls = R_Rw ∧ y_Rw_init.cls ≠ "java/lang/invoke/MethodHandle" ∧ y_Rw_init.cls ≠ "java/lang/invoke/VarHandle" ∧ (parseMethodDescriptor y_Rw_init.desc).map (fun d => d.parameters.length) = some 1 := by decide +kernel
abbrev wc_Sk_start : List Cond := Cond.code y_Sk_start cc_Sk_start 2 none :: BG
theorem hd_Sk_start : y_Sk_start.cls = R_Sk ∧ y_Sk_start.cls ≠ "java/lang/invoke/MethodHandle" ∧ y_Sk_start.cls ≠ "java/lang/invoke/VarHandle" ∧ (parseMethodDescriptor y_Sk_start.desc).map (fun d => d.parameters.length) = some 1 := by decide +kernel
abbrev wc_Sk_pass : List Cond := Cond.code y_Sk_pass cc_Sk_pass 2 none :: BG
theorem hd_Sk_pass : y_Sk_pass.cls = R_Sk ∧ y_Sk_pass.cls ≠ "java/lang/invoke/MethodHandle" ∧ y_Sk_pass.cls ≠ "java/lang/invoke/VarHandle" ∧ (parseMethodDescriptor y_Sk_pass.desc).map (fun d => d.parameters.length) = some 1 := by decide +kernel
abbrev wc_Sk_passText : List Cond := Cond.code y_Sk_passText cc_Sk_passText 3 none :: BG
theorem hd_Sk_passText : y_Sk_passText.cls = R_Sk ∧ y_Sk_passText.cls ≠ "java/lang/invoke/MethodHandle" ∧ y_Sk_passText.cls ≠ "java/lang/invoke/VarHandle" ∧ (parseMethodDescriptor y_Sk_passText.desc).map (fun d => d.parameters.length) = some 1 := by decide +kernel
abbrev wc_Sk_passRow : List Cond := Cond.code y_Sk_passRow cc_Sk_passRow 4 none :: BG
theorem hd_Sk_passRow : y_Sk_passRow.cls = R_Sk ∧ y_Sk_passRow.cls ≠ "java/lang/invoke/MethodHandle" ∧ y_Sk_passRow.cls ≠ "java/lang/invoke/VarHandle" ∧ (parseMethodDescriptor y_Sk_passRow.desc).map (fun d => d.parameters.length) = some 2 := by decide +kernel
abbrev wc_Sk_init : List Cond := Cond.code y_Sk_init cc_Sk_init 1 none :: BG
theorem hd_Sk_init : y_Sk_init.cls = R_Sk ∧ y_Sk_init.cls ≠ "java/lang/invoke/MethodHandle" ∧ y_Sk_init.cls ≠ "java/lang/invoke/VarHandle" ∧ (parseMethodDescriptor y_Sk_init.desc).map (fun d => d.parameters.length) = some 0 := by decide +kernel
abbrev wc_Rd_reference : List Cond := Cond.code y_Rd_reference cc_Rd_reference 1 (some .int) :: BG
theorem hd_Rd_reference : y_Rd_reference.cls = R_Rd ∧ y_Rd_reference.cls ≠ "java/lang/invoke/MethodHandle" ∧ y_Rd_reference.cls ≠ "java/lang/invoke/VarHandle" ∧ (parseMethodDescriptor y_Rd_reference.desc).map (fun d => d.parameters.length) = some 1 := by decide +kernel
abbrev wc_Rd_nameOnly : List Cond := Cond.code y_Rd_nameOnly cc_Rd_nameOnly 2 (some .int) :: BG
theorem hd_Rd_nameOnly : y_Rd_nameOnly.cls = R_Rd ∧ y_Rd_nameOnly.cls ≠ "java/lang/invoke/MethodHandle" ∧ y_Rd_nameOnly.cls ≠ "java/lang/invoke/VarHandle" ∧ (parseMethodDescriptor y_Rd_nameOnly.desc).map (fun d => d.parameters.length) = some 2 := by decide +kernel
abbrev wc_Rd_typeOnly : List Cond := Cond.code y_Rd_typeOnly cc_Rd_typeOnly 1 (some .int) :: BG
theorem hd_Rd_typeOnly : y_Rd_typeOnly.cls = R_Rd ∧ y_Rd_typeOnly.cls ≠ "java/lang/invoke/MethodHandle" ∧ y_Rd_typeOnly.cls ≠ "java/lang/invoke/VarHandle" ∧ (parseMethodDescriptor y_Rd_typeOnly.desc).map (fun d => d.parameters.length) = some 1 := by decide +kernel
abbrev wc_Rd_argument : List Cond := Cond.code y_Rd_argument cc_Rd_argument 1 (some .int) :: BG
theorem hd_Rd_argument : y_Rd_argument.cls = R_Rd ∧ y_Rd_argument.cls ≠ "java/lang/invoke/MethodHandle" ∧ y_Rd_argument.cls ≠ "java/lang/invoke/VarHandle" ∧ (parseMethodDescriptor y_Rd_argument.desc).map (fun d => d.parameters.length) = some 1 := by decide +kernel
abbrev wc_Rd_closingOr : List Cond := Cond.code y_Rd_closingOr cc_Rd_closingOr 2 (some .int) :: BG
theorem hd_Rd_closingOr : y_Rd_closingOr.cls = R_Rd ∧ y_Rd_closingOr.cls ≠ "java/lang/invoke/MethodHandle" ∧ y_Rd_closingOr.cls ≠ "java/lang/invoke/VarHandle" ∧ (parseMethodDescriptor y_Rd_closingOr.desc).map (fun d => d.parameters.length) = some 2 := by decide +kernel
abbrev wc_Rd_behindArguments : List Cond := Cond.code y_Rd_behindArguments cc_Rd_behindArguments 1 (some .int) :: BG
theorem hd_Rd_behindArguments : y_Rd_behindArguments.cls = R_Rd ∧ y_Rd_behindArguments.cls ≠ "java/lang/invoke/MethodHandle" ∧ y_Rd_behindArguments.cls ≠ "java/lang/invoke/VarHandle" ∧ (parseMethodDescriptor y_Rd_behindArguments.desc).map (fun d => d.parameters.length) = some 1 := by decide +kernel
abbrev wc_Rd_inSegment : List Cond := Cond.code y_Rd_inSegment cc_Rd_inSegment 2 (some .int) :: BG
theorem hd_Rd_inSegment : y_Rd_inSegment.cls = R_Rd ∧ y_Rd_inSegment.cls ≠ "java/lang/invoke/MethodHandle" ∧ y_Rd_inSegment.cls ≠ "java/lang/invoke/VarHandle" ∧ (parseMethodDescriptor y_Rd_inSegment.desc).map (fun d => d.parameters.length) = some 2 := by decide +kernel
abbrev wc_Rd_inTypes : List Cond := Cond.code y_Rd_inTypes cc_Rd_inTypes 1 (some .int) :: BG
theorem hd_Rd_inTypes : y_Rd_inTypes.cls = R_Rd ∧ y_Rd_inTypes.cls ≠ "java/lang/invoke/MethodHandle" ∧ y_Rd_inTypes.cls ≠ "java/lang/invoke/VarHandle" ∧ (parseMethodDescriptor y_Rd_inTypes.desc).map (fun d => d.parameters.length) = some 1 := by decide +kernel
abbrev wc_Rd_behindBound : List Cond := Cond.code y_Rd_behindBound cc_Rd_behindBound 1 (some .int) :: BG
theorem hd_Rd_behindBound : y_Rd_behindBound.cls = R_Rd ∧ y_Rd_behindBound.cls ≠ "java/lang/invoke/MethodHandle" ∧ y_Rd_behindBound.cls ≠ "java/lang/invoke/VarHandle" ∧ (parseMethodDescriptor y_Rd_behindBound.desc).map (fun d => d.parameters.length) = some 1 := by decide +kernel
abbrev wc_Rd_behindFirstColon : List Cond := Cond.code y_Rd_behindFirstColon cc_Rd_behindFirstColon 2 (some .int) :: BG
theorem hd_Rd_behindFirstColon : y_Rd_behindFirstColon.cls = R_Rd ∧ y_Rd_behindFirstColon.cls ≠ "java/lang/invoke/MethodHandle" ∧ y_Rd_behindFirstColon.cls ≠ "java/lang/invoke/VarHandle" ∧ (parseMethodDescriptor y_Rd_behindFirstColon.desc).map (fun d => d.parameters.length) = some 1 := by decide +kernel
abbrev wc_Rd_behindItem : List Cond := Cond.code y_Rd_behindItem cc_Rd_behindItem 2 (some .int) :: BG
theorem hd_Rd_behindItem : y_Rd_behindItem.cls = R_Rd ∧ y_Rd_behindItem.cls ≠ "java/lang/invoke/MethodHandle" ∧ y_Rd_behindItem.cls ≠ "java/lang/invoke/VarHandle" ∧ (parseMethodDescriptor y_Rd_behindItem.desc).map (fun d => d.parameters.length) = some 1 := by decide +kernel
abbrev wc_Rd_atBody : List Cond := Cond.code y_Rd_atBody cc_Rd_atBody 2 (some .int) :: BG
theorem hd_Rd_atBody : y_Rd_atBody.cls = R_Rd ∧ y_Rd_atBody.cls ≠ "java/lang/invoke/MethodHandle" ∧ y_Rd_atBody.cls ≠ "java/lang/invoke/VarHandle" ∧ (parseMethodDescriptor y_Rd_atBody.desc).map (fun d => d.parameters.length) = some 1 := by decide +kernel
abbrev wc_Rd_atStart : List Cond := Cond.code y_Rd_atStart cc_Rd_atStart 2 (some .int) :: BG
theorem hd_Rd_atStart : y_Rd_atStart.cls = R_Rd ∧ y_Rd_atStart.cls ≠ "java/lang/invoke/MethodHandle" ∧ y_Rd_atStart.cls ≠ "java/lang/invoke/VarHandle" ∧ (parseMethodDescriptor y_Rd_atStart.desc).map (fun d => d.parameters.length) = some 1 := by decide +kernel
abbrev wc_Rd_roleOf : List Cond := Cond.code y_Rd_roleOf cc_Rd_roleOf 2 (some .int) :: BG
theorem hd_Rd_roleOf : y_Rd_roleOf.cls = R_Rd ∧ y_Rd_roleOf.cls ≠ "java/lang/invoke/MethodHandle" ∧ y_Rd_roleOf.cls ≠ "java/lang/invoke/VarHandle" ∧ (parseMethodDescriptor y_Rd_roleOf.desc).map (fun d => d.parameters.length) = some 1 := by decide +kernel
abbrev wc_Rd_sameName : List Cond := Cond.code y_Rd_sameName cc_Rd_sameName 6 (some .boolean) :: BG
theorem hd_Rd_sameName : y_Rd_sameName.cls = R_Rd ∧ y_Rd_sameName.cls ≠ "java/lang/invoke/MethodHandle" ∧ y_Rd_sameName.cls ≠ "java/lang/invoke/VarHandle" ∧ (parseMethodDescriptor y_Rd_sameName.desc).map (fun d => d.parameters.length) = some 3 := by decide +kernel
abbrev wc_Rd_nameIsTaken : List Cond := Cond.code y_Rd_nameIsTaken cc_Rd_nameIsTaken 3 (some .boolean) :: BG
theorem hd_Rd_nameIsTaken : y_Rd_nameIsTaken.cls = R_Rd ∧ y_Rd_nameIsTaken.cls ≠ "java/lang/invoke/MethodHandle" ∧ y_Rd_nameIsTaken.cls ≠ "java/lang/invoke/VarHandle" ∧ (parseMethodDescriptor y_Rd_nameIsTaken.desc).map (fun d => d.parameters.length) = some 1 := by decide +kernel
abbrev wc_Rd_mayEnd : List Cond := Cond.code y_Rd_mayEnd cc_Rd_mayEnd 2 (some .boolean) :: BG
theorem hd_Rd_mayEnd : y_Rd_mayEnd.cls = R_Rd ∧ y_Rd_mayEnd.cls ≠ "java/lang/invoke/MethodHandle" ∧ y_Rd_mayEnd.cls ≠ "java/lang/invoke/VarHandle" ∧ (parseMethodDescriptor y_Rd_mayEnd.desc).map (fun d => d.parameters.length) = some 0 := by decide +kernel
abbrev wc_Rd_noteName : List Cond := Cond.code y_Rd_noteName cc_Rd_noteName 2 none :: BG
theorem hd_Rd_noteName : y_Rd_noteName.cls = R_Rd ∧ y_Rd_noteName.cls ≠ "java/lang/invoke/MethodHandle" ∧ y_Rd_noteName.cls ≠ "java/lang/invoke/VarHandle" ∧ (parseMethodDescriptor y_Rd_noteName.desc).map (fun d => d.parameters.length) = some 1 := by decide +kernel
abbrev wc_Rd_take : List Cond := Cond.code y_Rd_take cc_Rd_take 3 none :: BG
theorem hd_Rd_take : y_Rd_take.cls = R_Rd ∧ y_Rd_take.cls ≠ "java/lang/invoke/MethodHandle" ∧ y_Rd_take.cls ≠ "java/lang/invoke/VarHandle" ∧ (parseMethodDescriptor y_Rd_take.desc).map (fun d => d.parameters.length) = some 2 := by decide +kernel
abbrev wc_Rd_faultOf : List Cond := Cond.code y_Rd_faultOf cc_Rd_faultOf 5 (some .int) :: BG
theorem hd_Rd_faultOf : y_Rd_faultOf.cls = R_Rd ∧ y_Rd_faultOf.cls ≠ "java/lang/invoke/MethodHandle" ∧ y_Rd_faultOf.cls ≠ "java/lang/invoke/VarHandle" ∧ (parseMethodDescriptor y_Rd_faultOf.desc).map (fun d => d.parameters.length) = some 2 := by decide +kernel
abbrev wc_Rd_init : List Cond := Cond.code y_Rd_init cc_Rd_init 1 none :: BG
theorem hd_Rd_init : y_Rd_init.cls = R_Rd ∧ y_Rd_init.cls ≠ "java/lang/invoke/MethodHandle" ∧ y_Rd_init.cls ≠ "java/lang/invoke/VarHandle" ∧ (parseMethodDescriptor y_Rd_init.desc).map (fun d => d.parameters.length) = some 0 := by decide +kernel
abbrev wc_Sg_roleAt : List Cond := Cond.code y_Sg_roleAt cc_Sg_roleAt 2 (some .int) :: BG
theorem hd_Sg_roleAt : y_Sg_roleAt.cls = R_Sg ∧ y_Sg_roleAt.cls ≠ "java/lang/invoke/MethodHandle" ∧ y_Sg_roleAt.cls ≠ "java/lang/invoke/VarHandle" ∧ (parseMethodDescriptor y_Sg_roleAt.desc).map (fun d => d.parameters.length) = some 1 := by decide +kernel
abbrev wc_Sg_letterAt : List Cond := Cond.code y_Sg_letterAt cc_Sg_letterAt 2 (some .char) :: BG
theorem hd_Sg_letterAt : y_Sg_letterAt.cls = R_Sg ∧ y_Sg_letterAt.cls ≠ "java/lang/invoke/MethodHandle" ∧ y_Sg_letterAt.cls ≠ "java/lang/invoke/VarHandle" ∧ (parseMethodDescriptor y_Sg_letterAt.desc).map (fun d => d.parameters.length) = some 1 := by decide +kernel
abbrev wc_Sg_hasParameter : List Cond := Cond.code y_Sg_hasParameter cc_Sg_hasParameter 2 (some .boolean) :: BG
theorem hd_Sg_hasParameter : y_Sg_hasParameter.cls = R_Sg ∧ y_Sg_hasParameter.cls ≠ "java/lang/invoke/MethodHandle" ∧ y_Sg_hasParameter.cls ≠ "java/lang/invoke/VarHandle" ∧ (parseMethodDescriptor y_Sg_hasParameter.desc).map (fun d => d.parameters.length) = some 1 := by decide +kernel
abbrev wc_Sg_nameStart : List Cond := Cond.code y_Sg_nameStart cc_Sg_nameStart 2 (some .int) :: BG
theorem hd_Sg_nameStart : y_Sg_nameStart.cls = R_Sg ∧ y_Sg_nameStart.cls ≠ "java/lang/invoke/MethodHandle" ∧ y_Sg_nameStart.cls ≠ "java/lang/invoke/VarHandle" ∧ (parseMethodDescriptor y_Sg_nameStart.desc).map (fun d => d.parameters.length) = some 1 := by decide +kernel
abbrev wc_Sg_nameLength : List Cond := Cond.code y_Sg_nameLength cc_Sg_nameLength 2 (some .int) :: BG
theorem hd_Sg_nameLength : y_Sg_nameLength.cls = R_Sg ∧ y_Sg_nameLength.cls ≠ "java/lang/invoke/MethodHandle" ∧ y_Sg_nameLength.cls ≠ "java/lang/invoke/VarHandle" ∧ (parseMethodDescriptor y_Sg_nameLength.desc).map (fun d => d.parameters.length) = some 1 := by decide +kernel
abbrev wc_Sg_behindName : List Cond := Cond.code y_Sg_behindName cc_Sg_behindName 4 (some .int) :: BG
theorem hd_Sg_behindName : y_Sg_behindName.cls = R_Sg ∧ y_Sg_behindName.cls ≠ "java/lang/invoke/MethodHandle" ∧ y_Sg_behindName.cls ≠ "java/lang/invoke/VarHandle" ∧ (parseMethodDescriptor y_Sg_behindName.desc).map (fun d => d.parameters.length) = some 1 := by decide +kernel
abbrev wc_Sg_parameterEnd : List Cond := Cond.code y_Sg_parameterEnd cc_Sg_parameterEnd 2 (some .int) :: BG
theorem hd_Sg_parameterEnd : y_Sg_parameterEnd.cls = R_Sg ∧ y_Sg_parameterEnd.cls ≠ "java/lang/invoke/MethodHandle" ∧ y_Sg_parameterEnd.cls ≠ "java/lang/invoke/VarHandle" ∧ (parseMethodDescriptor y_Sg_parameterEnd.desc).map (fun d => d.parameters.length) = some 1 := by decide +kernel
abbrev wc_Sg_boundCount : List Cond := Cond.code y_Sg_boundCount cc_Sg_boundCount 6 (some .int) :: BG
theorem hd_Sg_boundCount : y_Sg_boundCount.cls = R_Sg ∧ y_Sg_boundCount.cls ≠ "java/lang/invoke/MethodHandle" ∧ y_Sg_boundCount.cls ≠ "java/lang/invoke/VarHandle" ∧ (parseMethodDescriptor y_Sg_boundCount.desc).map (fun d => d.parameters.length) = some 1 := by decide +kernel
abbrev wc_Sg_firstBound : List Cond := Cond.code y_Sg_firstBound cc_Sg_firstBound 3 (some .int) :: BG
theorem hd_Sg_firstBound : y_Sg_firstBound.cls = R_Sg ∧ y_Sg_firstBound.cls ≠ "java/lang/invoke/MethodHandle" ∧ y_Sg_firstBound.cls ≠ "java/lang/invoke/VarHandle" ∧ (parseMethodDescriptor y_Sg_firstBound.desc).map (fun d => d.parameters.length) = some 1 := by decide +kernel
abbrev wc_Sg_sameLetters : List Cond := Cond.code y_Sg_sameLetters cc_Sg_sameLetters 6 (some .boolean) :: BG
theorem hd_Sg_sameLetters : y_Sg_sameLetters.cls = R_Sg ∧ y_Sg_sameLetters.cls ≠ "java/lang/invoke/MethodHandle" ∧ y_Sg_sameLetters.cls ≠ "java/lang/invoke/VarHandle" ∧ (parseMethodDescriptor y_Sg_sameLetters.desc).map (fun d => d.parameters.length) = some 4 := by decide +kernel
abbrev wc_Sg_parameterNamed : List Cond := Cond.code y_Sg_parameterNamed cc_Sg_parameterNamed 5 (some .int) :: BG
theorem hd_Sg_parameterNamed : y_Sg_parameterNamed.cls = R_Sg ∧ y_Sg_parameterNamed.cls ≠ "java/lang/invoke/MethodHandle" ∧ y_Sg_parameterNamed.cls ≠ "java/lang/invoke/VarHandle" ∧ (parseMethodDescriptor y_Sg_parameterNamed.desc).map (fun d => d.parameters.length) = some 2 := by decide +kernel
abbrev wc_Sg_repeatsName : List Cond := Cond.code y_Sg_repeatsName cc_Sg_repeatsName 3 (some .boolean) :: BG
theorem hd_Sg_repeatsName : y_Sg_repeatsName.cls = R_Sg ∧ y_Sg_repeatsName.cls ≠ "java/lang/invoke/MethodHandle" ∧ y_Sg_repeatsName.cls ≠ "java/lang/invoke/VarHandle" ∧ (parseMethodDescriptor y_Sg_repeatsName.desc).map (fun d => d.parameters.length) = some 2 := by decide +kernel
abbrev wc_Sg_declarerAt : List Cond := Cond.code y_Sg_declarerAt cc_Sg_declarerAt 2 (some .int) :: BG
theorem hd_Sg_declarerAt : y_Sg_declarerAt.cls = R_Sg ∧ y_Sg_declarerAt.cls ≠ "java/lang/invoke/MethodHandle" ∧ y_Sg_declarerAt.cls ≠ "java/lang/invoke/VarHandle" ∧ (parseMethodDescriptor y_Sg_declarerAt.desc).map (fun d => d.parameters.length) = some 1 := by decide +kernel
abbrev wc_Sg_ownNameAt : List Cond := Cond.code y_Sg_ownNameAt cc_Sg_ownNameAt 4 (some .int) :: BG
theorem hd_Sg_ownNameAt : y_Sg_ownNameAt.cls = R_Sg ∧ y_Sg_ownNameAt.cls ≠ "java/lang/invoke/MethodHandle" ∧ y_Sg_ownNameAt.cls ≠ "java/lang/invoke/VarHandle" ∧ (parseMethodDescriptor y_Sg_ownNameAt.desc).map (fun d => d.parameters.length) = some 1 := by decide +kernel
abbrev wc_Sg_behindType : List Cond := Cond.code y_Sg_behindType cc_Sg_behindType 5 (some .int) :: BG
theorem hd_Sg_behindType : y_Sg_behindType.cls = R_Sg ∧ y_Sg_behindType.cls ≠ "java/lang/invoke/MethodHandle" ∧ y_Sg_behindType.cls ≠ "java/lang/invoke/VarHandle" ∧ (parseMethodDescriptor y_Sg_behindType.desc).map (fun d => d.parameters.length) = some 1 := by decide +kernel
abbrev wc_Sg_classCount : List Cond := Cond.code y_Sg_classCount cc_Sg_classCount 3 (some .int) :: BG
theorem hd_Sg_classCount : y_Sg_classCount.cls = R_Sg ∧ y_Sg_classCount.cls ≠ "java/lang/invoke/MethodHandle" ∧ y_Sg_classCount.cls ≠ "java/lang/invoke/VarHandle" ∧ (parseMethodDescriptor y_Sg_classCount.desc).map (fun d => d.parameters.length) = some 0 := by decide +kernel
abbrev wc_Sg_argumentDepth : List Cond := Cond.code y_Sg_argumentDepth cc_Sg_argumentDepth 5 (some .int) :: BG
theorem hd_Sg_argumentDepth : y_Sg_argumentDepth.cls = R_Sg ∧ y_Sg_argumentDepth.cls ≠ "java/lang/invoke/MethodHandle" ∧ y_Sg_argumentDepth.cls ≠ "java/lang/invoke/VarHandle" ∧ (parseMethodDescriptor y_Sg_argumentDepth.desc).map (fun d => d.parameters.length) = some 0 := by decide +kernel
abbrev wc_Sg_longestBrackets : List Cond := Cond.code y_Sg_longestBrackets cc_Sg_longestBrackets 4 (some .int) :: BG
theorem hd_Sg_longestBrackets : y_Sg_longestBrackets.cls = R_Sg ∧ y_Sg_longestBrackets.cls ≠ "java/lang/invoke/MethodHandle" ∧ y_Sg_longestBrackets.cls ≠ "java/lang/invoke/VarHandle" ∧ (parseMethodDescriptor y_Sg_longestBrackets.desc).map (fun d => d.parameters.length) = some 0 := by decide +kernel
abbrev wc_Sg_init : List Cond := Cond.code y_Sg_init cc_Sg_init 6 none :: BG
theorem hd_Sg_init : y_Sg_init.cls = R_Sg ∧ y_Sg_init.cls ≠ "java/lang/invoke/MethodHandle" ∧ y_Sg_init.cls ≠ "java/lang/invoke/VarHandle" ∧ (parseMethodDescriptor y_Sg_init.desc).map (fun d => d.parameters.length) = some 3 := by decide +kernel
abbrev wc_Fo_becomes : List Cond := Cond.code y_Fo_becomes cc_Fo_becomes 8 (some .boolean) :: BG
theorem hd_Fo_becomes : y_Fo_becomes.cls = R_Fo ∧ y_Fo_becomes.cls ≠ "java/lang/invoke/MethodHandle" ∧ y_Fo_becomes.cls ≠ "java/lang/invoke/VarHandle" ∧ (parseMethodDescriptor y_Fo_becomes.desc).map (fun d => d.parameters.length) = some 2 := by decide +kernel
abbrev wc_Sh_wordOf : List Cond := Cond.code y_Sh_wordOf cc_Sh_wordOf 1 (some (.object "java/lang/String")) :: BG
theorem hd_Sh_wordOf : y_Sh_wordOf.cls = R_Sh ∧ y_Sh_wordOf.cls ≠ "java/lang/invoke/MethodHandle" ∧ y_Sh_wordOf.cls ≠ "java/lang/invoke/VarHandle" ∧ (parseMethodDescriptor y_Sh_wordOf.desc).map (fun d => d.parameters.length) = some 1 := by decide +kernel
abbrev wc_Sh_partingItems : List Cond := Cond.code y_Sh_partingItems cc_Sh_partingItems 2 (some .char) :: BG
theorem hd_Sh_partingItems : y_Sh_partingItems.cls = R_Sh ∧ y_Sh_partingItems.cls ≠ "java/lang/invoke/MethodHandle" ∧ y_Sh_partingItems.cls ≠ "java/lang/invoke/VarHandle" ∧ (parseMethodDescriptor y_Sh_partingItems.desc).map (fun d => d.parameters.length) = some 1 := by decide +kernel
abbrev wc_Sh_part : List Cond := Cond.code y_Sh_part cc_Sh_part 6 none :: BG
theorem hd_Sh_part : y_Sh_part.cls = R_Sh ∧ y_Sh_part.cls ≠ "java/lang/invoke/MethodHandle" ∧ y_Sh_part.cls ≠ "java/lang/invoke/VarHandle" ∧ (parseMethodDescriptor y_Sh_part.desc).map (fun d => d.parameters.length) = some 4 := by decide +kernel
abbrev wc_Sh_changeDepth : List Cond := Cond.code y_Sh_changeDepth cc_Sh_changeDepth 2 none :: BG
theorem hd_Sh_changeDepth : y_Sh_changeDepth.cls = R_Sh ∧ y_Sh_changeDepth.cls ≠ "java/lang/invoke/MethodHandle" ∧ y_Sh_changeDepth.cls ≠ "java/lang/invoke/VarHandle" ∧ (parseMethodDescriptor y_Sh_changeDepth.desc).map (fun d => d.parameters.length) = some 1 := by decide +kernel
abbrev wc_Sh_showWaiting : List Cond := Cond.code y_Sh_showWaiting cc_Sh_showWaiting 3 none :: BG
theorem hd_Sh_showWaiting : y_Sh_showWaiting.cls = R_Sh ∧ y_Sh_showWaiting.cls ≠ "java/lang/invoke/MethodHandle" ∧ y_Sh_showWaiting.cls ≠ "java/lang/invoke/VarHandle" ∧ (parseMethodDescriptor y_Sh_showWaiting.desc).map (fun d => d.parameters.length) = some 1 := by decide +kernel
abbrev wc_Sh_showColon : List Cond := Cond.code y_Sh_showColon cc_Sh_showColon 5 none :: BG
theorem hd_Sh_showColon : y_Sh_showColon.cls = R_Sh ∧ y_Sh_showColon.cls ≠ "java/lang/invoke/MethodHandle" ∧ y_Sh_showColon.cls ≠ "java/lang/invoke/VarHandle" ∧ (parseMethodDescriptor y_Sh_showColon.desc).map (fun d => d.parameters.length) = some 4 := by decide +kernel
abbrev wc_Sh_showLetter : List Cond := Cond.code y_Sh_showLetter cc_Sh_showLetter 6 none :: BG
theorem hd_Sh_showLetter : y_Sh_showLetter.cls = R_Sh ∧ y_Sh_showLetter.cls ≠ "java/lang/invoke/MethodHandle" ∧ y_Sh_showLetter.cls ≠ "java/lang/invoke/VarHandle" ∧ (parseMethodDescriptor y_Sh_showLetter.desc).map (fun d => d.parameters.length) = some 4 := by decide +kernel
abbrev wc_Sh_show : List Cond := Cond.code y_Sh_show cc_Sh_show 5 none :: BG
theorem hd_Sh_show : y_Sh_show.cls = R_Sh ∧ y_Sh_show.cls ≠ "java/lang/invoke/MethodHandle" ∧ y_Sh_show.cls ≠ "java/lang/invoke/VarHandle" ∧ (parseMethodDescriptor y_Sh_show.desc).map (fun d => d.parameters.length) = some 2 := by decide +kernel
abbrev wc_Sh_init : List Cond := Cond.code y_Sh_init cc_Sh_init 1 none :: BG
theorem hd_Sh_init : y_Sh_init.cls = R_Sh ∧ y_Sh_init.cls ≠ "java/lang/invoke/MethodHandle" ∧ y_Sh_init.cls ≠ "java/lang/invoke/VarHandle" ∧ (parseMethodDescriptor y_Sh_init.desc).map (fun d => d.parameters.length) = some 0 := by decide +kernel
abbrev wc_Er_eraseBrackets : List Cond := Cond.code y_Er_eraseBrackets cc_Er_eraseBrackets 4 (some .int) :: BG
theorem hd_Er_eraseBrackets : y_Er_eraseBrackets.cls = R_Er ∧ y_Er_eraseBrackets.cls ≠ "java/lang/invoke/MethodHandle" ∧ y_Er_eraseBrackets.cls ≠ "java/lang/invoke/VarHandle" ∧ (parseMethodDescriptor y_Er_eraseBrackets.desc).map (fun d => d.parameters.length) = some 2 := by decide +kernel
abbrev wc_Er_eraseNamed : List Cond := Cond.code y_Er_eraseNamed cc_Er_eraseNamed 7 none :: BG
theorem hd_Er_eraseNamed : y_Er_eraseNamed.cls = R_Er ∧ y_Er_eraseNamed.cls ≠ "java/lang/invoke/MethodHandle" ∧ y_Er_eraseNamed.cls ≠ "java/lang/invoke/VarHandle" ∧ (parseMethodDescriptor y_Er_eraseNamed.desc).map (fun d => d.parameters.length) = some 2 := by decide +kernel
abbrev wc_Er_erase : List Cond := Cond.code y_Er_erase cc_Er_erase 12 none :: BG
theorem hd_Er_erase : y_Er_erase.cls = R_Er ∧ y_Er_erase.cls ≠ "java/lang/invoke/MethodHandle" ∧ y_Er_erase.cls ≠ "java/lang/invoke/VarHandle" ∧ (parseMethodDescriptor y_Er_erase.desc).map (fun d => d.parameters.length) = some 3 := by decide +kernel
abbrev wc_Er_init : List Cond := Cond.code y_Er_init cc_Er_init 1 none :: BG
theorem hd_Er_init : y_Er_init.cls = R_Er ∧ y_Er_init.cls ≠ "java/lang/invoke/MethodHandle" ∧ y_Er_init.cls ≠ "java/lang/invoke/VarHandle" ∧ (parseMethodDescriptor y_Er_init.desc).map (fun d => d.parameters.length) = some 0 := by decide +kernel
abbrev wc_Fo_find : List Cond := Cond.code y_Fo_find cc_Fo_find 2 (some (.object "SignatureForest$Signature")) :: BG
theorem hd_Fo_find : y_Fo_find.cls = R_Fo ∧ y_Fo_find.cls ≠ "java/lang/invoke/MethodHandle" ∧ y_Fo_find.cls ≠ "java/lang/invoke/VarHandle" ∧ (parseMethodDescriptor y_Fo_find.desc).map (fun d => d.parameters.length) = some 1 := by decide +kernel
abbrev wc_Fo_passErased : List Cond := Cond.code y_Fo_passErased cc_Fo_passErased 6 none :: BG
theorem hd_Fo_passErased : y_Fo_passErased.cls = R_Fo ∧ y_Fo_passErased.cls ≠ "java/lang/invoke/MethodHandle" ∧ y_Fo_passErased.cls ≠ "java/lang/invoke/VarHandle" ∧ (parseMethodDescriptor y_Fo_passErased.desc).map (fun d => d.parameters.length) = some 1 := by decide +kernel
abbrev wc_Fo_seek : List Cond := Cond.code y_Fo_seek cc_Fo_seek 4 (some .boolean) :: BG
theorem hd_Fo_seek : y_Fo_seek.cls = R_Fo ∧ y_Fo_seek.cls ≠ "java/lang/invoke/MethodHandle" ∧ y_Fo_seek.cls ≠ "java/lang/invoke/VarHandle" ∧ (parseMethodDescriptor y_Fo_seek.desc).map (fun d => d.parameters.length) = some 3 := by decide +kernel
abbrev wc_Fo_text : List Cond := Cond.code y_Fo_text cc_Fo_text 5 (some .int) :: BG
theorem hd_Fo_text : y_Fo_text.cls = R_Fo ∧ y_Fo_text.cls ≠ "java/lang/invoke/MethodHandle" ∧ y_Fo_text.cls ≠ "java/lang/invoke/VarHandle" ∧ (parseMethodDescriptor y_Fo_text.desc).map (fun d => d.parameters.length) = some 3 := by decide +kernel
abbrev wc_Fo_length : List Cond := Cond.code y_Fo_length cc_Fo_length 4 (some .int) :: BG
theorem hd_Fo_length : y_Fo_length.cls = R_Fo ∧ y_Fo_length.cls ≠ "java/lang/invoke/MethodHandle" ∧ y_Fo_length.cls ≠ "java/lang/invoke/VarHandle" ∧ (parseMethodDescriptor y_Fo_length.desc).map (fun d => d.parameters.length) = some 2 := by decide +kernel
abbrev wc_Fo_kind : List Cond := Cond.code y_Fo_kind cc_Fo_kind 3 (some .int) :: BG
theorem hd_Fo_kind : y_Fo_kind.cls = R_Fo ∧ y_Fo_kind.cls ≠ "java/lang/invoke/MethodHandle" ∧ y_Fo_kind.cls ≠ "java/lang/invoke/VarHandle" ∧ (parseMethodDescriptor y_Fo_kind.desc).map (fun d => d.parameters.length) = some 1 := by decide +kernel
abbrev wc_Fo_parameters : List Cond := Cond.code y_Fo_parameters cc_Fo_parameters 3 (some .int) :: BG
theorem hd_Fo_parameters : y_Fo_parameters.cls = R_Fo ∧ y_Fo_parameters.cls ≠ "java/lang/invoke/MethodHandle" ∧ y_Fo_parameters.cls ≠ "java/lang/invoke/VarHandle" ∧ (parseMethodDescriptor y_Fo_parameters.desc).map (fun d => d.parameters.length) = some 1 := by decide +kernel
abbrev wc_Fo_bounds : List Cond := Cond.code y_Fo_bounds cc_Fo_bounds 4 (some .int) :: BG
theorem hd_Fo_bounds : y_Fo_bounds.cls = R_Fo ∧ y_Fo_bounds.cls ≠ "java/lang/invoke/MethodHandle" ∧ y_Fo_bounds.cls ≠ "java/lang/invoke/VarHandle" ∧ (parseMethodDescriptor y_Fo_bounds.desc).map (fun d => d.parameters.length) = some 2 := by decide +kernel
abbrev wc_Fo_variablesDeclared : List Cond := Cond.code y_Fo_variablesDeclared cc_Fo_variablesDeclared 7 (some .int) :: BG
theorem hd_Fo_variablesDeclared : y_Fo_variablesDeclared.cls = R_Fo ∧ y_Fo_variablesDeclared.cls ≠ "java/lang/invoke/MethodHandle" ∧ y_Fo_variablesDeclared.cls ≠ "java/lang/invoke/VarHandle" ∧ (parseMethodDescriptor y_Fo_variablesDeclared.desc).map (fun d => d.parameters.length) = some 2 := by decide +kernel
abbrev wc_Fo_measure : List Cond := Cond.code y_Fo_measure cc_Fo_measure 4 (some .int) :: BG
theorem hd_Fo_measure : y_Fo_measure.cls = R_Fo ∧ y_Fo_measure.cls ≠ "java/lang/invoke/MethodHandle" ∧ y_Fo_measure.cls ≠ "java/lang/invoke/VarHandle" ∧ (parseMethodDescriptor y_Fo_measure.desc).map (fun d => d.parameters.length) = some 2 := by decide +kernel
abbrev wc_Fo_alike : List Cond := Cond.code y_Fo_alike cc_Fo_alike 6 (some .int) :: BG
theorem hd_Fo_alike : y_Fo_alike.cls = R_Fo ∧ y_Fo_alike.cls ≠ "java/lang/invoke/MethodHandle" ∧ y_Fo_alike.cls ≠ "java/lang/invoke/VarHandle" ∧ (parseMethodDescriptor y_Fo_alike.desc).map (fun d => d.parameters.length) = some 2 := by decide +kernel
abbrev wc_Fo_sameErasedTypes : List Cond := Cond.code y_Fo_sameErasedTypes cc_Fo_sameErasedTypes 10 (some .boolean) :: BG
theorem hd_Fo_sameErasedTypes : y_Fo_sameErasedTypes.cls = R_Fo ∧ y_Fo_sameErasedTypes.cls ≠ "java/lang/invoke/MethodHandle" ∧ y_Fo_sameErasedTypes.cls ≠ "java/lang/invoke/VarHandle" ∧ (parseMethodDescriptor y_Fo_sameErasedTypes.desc).map (fun d => d.parameters.length) = some 2 := by decide +kernel
abbrev wc_Fo_clash : List Cond := Cond.code y_Fo_clash cc_Fo_clash 5 (some .int) :: BG
theorem hd_Fo_clash : y_Fo_clash.cls = R_Fo ∧ y_Fo_clash.cls ≠ "java/lang/invoke/MethodHandle" ∧ y_Fo_clash.cls ≠ "java/lang/invoke/VarHandle" ∧ (parseMethodDescriptor y_Fo_clash.desc).map (fun d => d.parameters.length) = some 2 := by decide +kernel
abbrev wc_Fo_type : List Cond := Cond.code y_Fo_type cc_Fo_type 2 (some .int) :: BG
theorem hd_Fo_type : y_Fo_type.cls = R_Fo ∧ y_Fo_type.cls ≠ "java/lang/invoke/MethodHandle" ∧ y_Fo_type.cls ≠ "java/lang/invoke/VarHandle" ∧ (parseMethodDescriptor y_Fo_type.desc).map (fun d => d.parameters.length) = some 1 := by decide +kernel
abbrev wc_Fo_clear : List Cond := Cond.code y_Fo_clear cc_Fo_clear 1 none :: BG
theorem hd_Fo_clear : y_Fo_clear.cls = R_Fo ∧ y_Fo_clear.cls ≠ "java/lang/invoke/MethodHandle" ∧ y_Fo_clear.cls ≠ "java/lang/invoke/VarHandle" ∧ (parseMethodDescriptor y_Fo_clear.desc).map (fun d => d.parameters.length) = some 0 := by decide +kernel
abbrev wc_Fo_count : List Cond := Cond.code y_Fo_count cc_Fo_count 2 (some .int) :: BG
theorem hd_Fo_count : y_Fo_count.cls = R_Fo ∧ y_Fo_count.cls ≠ "java/lang/invoke/MethodHandle" ∧ y_Fo_count.cls ≠ "java/lang/invoke/VarHandle" ∧ (parseMethodDescriptor y_Fo_count.desc).map (fun d => d.parameters.length) = some 1 := by decide +kernel
abbrev wc_Fo_scope : List Cond := Cond.code y_Fo_scope cc_Fo_scope 5 (some .int) :: BG
theorem hd_Fo_scope : y_Fo_scope.cls = R_Fo ∧ y_Fo_scope.cls ≠ "java/lang/invoke/MethodHandle" ∧ y_Fo_scope.cls ≠ "java/lang/invoke/VarHandle" ∧ (parseMethodDescriptor y_Fo_scope.desc).map (fun d => d.parameters.length) = some 2 := by decide +kernel
abbrev wc_Fo_writeFilled : List Cond := Cond.code y_Fo_writeFilled cc_Fo_writeFilled 10 (some .boolean) :: BG
theorem hd_Fo_writeFilled : y_Fo_writeFilled.cls = R_Fo ∧ y_Fo_writeFilled.cls ≠ "java/lang/invoke/MethodHandle" ∧ y_Fo_writeFilled.cls ≠ "java/lang/invoke/VarHandle" ∧ (parseMethodDescriptor y_Fo_writeFilled.desc).map (fun d => d.parameters.length) = some 3 := by decide +kernel
abbrev wc_Fo_keep : List Cond := Cond.code y_Fo_keep cc_Fo_keep 3 (some .int) :: BG
theorem hd_Fo_keep : y_Fo_keep.cls = R_Fo ∧ y_Fo_keep.cls ≠ "java/lang/invoke/MethodHandle" ∧ y_Fo_keep.cls ≠ "java/lang/invoke/VarHandle" ∧ (parseMethodDescriptor y_Fo_keep.desc).map (fun d => d.parameters.length) = some 2 := by decide +kernel
abbrev wc_Fo_read : List Cond := Cond.code y_Fo_read cc_Fo_read 4 (some .int) :: BG
theorem hd_Fo_read : y_Fo_read.cls = R_Fo ∧ y_Fo_read.cls ≠ "java/lang/invoke/MethodHandle" ∧ y_Fo_read.cls ≠ "java/lang/invoke/VarHandle" ∧ (parseMethodDescriptor y_Fo_read.desc).map (fun d => d.parameters.length) = some 1 := by decide +kernel
abbrev wc_Fo_fill : List Cond := Cond.code y_Fo_fill cc_Fo_fill 6 (some .int) :: BG
theorem hd_Fo_fill : y_Fo_fill.cls = R_Fo ∧ y_Fo_fill.cls ≠ "java/lang/invoke/MethodHandle" ∧ y_Fo_fill.cls ≠ "java/lang/invoke/VarHandle" ∧ (parseMethodDescriptor y_Fo_fill.desc).map (fun d => d.parameters.length) = some 3 := by decide +kernel
abbrev wc_Fo_init : List Cond := Cond.code y_Fo_init cc_Fo_init 1 none :: BG
theorem hd_Fo_init : y_Fo_init.cls = R_Fo ∧ y_Fo_init.cls ≠ "java/lang/invoke/MethodHandle" ∧ y_Fo_init.cls ≠ "java/lang/invoke/VarHandle" ∧ (parseMethodDescriptor y_Fo_init.desc).map (fun d => d.parameters.length) = some 0 := by decide +kernel
abbrev wc_Mo_type : List Cond := Cond.code y_Mo_type cc_Mo_type 2 (some .int) :: BG
theorem hd_Mo_type : y_Mo_type.cls = R_Mo ∧ y_Mo_type.cls ≠ "java/lang/invoke/MethodHandle" ∧ y_Mo_type.cls ≠ "java/lang/invoke/VarHandle" ∧ (parseMethodDescriptor y_Mo_type.desc).map (fun d => d.parameters.length) = some 1 := by decide +kernel
abbrev wc_Mo_clear : List Cond := Cond.code y_Mo_clear cc_Mo_clear 1 none :: BG
theorem hd_Mo_clear : y_Mo_clear.cls = R_Mo ∧ y_Mo_clear.cls ≠ "java/lang/invoke/MethodHandle" ∧ y_Mo_clear.cls ≠ "java/lang/invoke/VarHandle" ∧ (parseMethodDescriptor y_Mo_clear.desc).map (fun d => d.parameters.length) = some 0 := by decide +kernel
abbrev wc_Mo_at : List Cond := Cond.code y_Mo_at cc_Mo_at 3 (some .int) :: BG
theorem hd_Mo_at : y_Mo_at.cls = R_Mo ∧ y_Mo_at.cls ≠ "java/lang/invoke/MethodHandle" ∧ y_Mo_at.cls ≠ "java/lang/invoke/VarHandle" ∧ (parseMethodDescriptor y_Mo_at.desc).map (fun d => d.parameters.length) = some 2 := by decide +kernel
abbrev wc_Mo_go : List Cond := Cond.code y_Mo_go cc_Mo_go 3 (some .int) :: BG
theorem hd_Mo_go : y_Mo_go.cls = R_Mo ∧ y_Mo_go.cls ≠ "java/lang/invoke/MethodHandle" ∧ y_Mo_go.cls ≠ "java/lang/invoke/VarHandle" ∧ (parseMethodDescriptor y_Mo_go.desc).map (fun d => d.parameters.length) = some 2 := by decide +kernel
abbrev wc_Mo_push : List Cond := Cond.code y_Mo_push cc_Mo_push 4 (some .int) :: BG
theorem hd_Mo_push : y_Mo_push.cls = R_Mo ∧ y_Mo_push.cls ≠ "java/lang/invoke/MethodHandle" ∧ y_Mo_push.cls ≠ "java/lang/invoke/VarHandle" ∧ (parseMethodDescriptor y_Mo_push.desc).map (fun d => d.parameters.length) = some 3 := by decide +kernel
abbrev wc_Mo_base : List Cond := Cond.code y_Mo_base cc_Mo_base 1 (some .boolean) :: BG
theorem hd_Mo_base : y_Mo_base.cls = R_Mo ∧ y_Mo_base.cls ≠ "java/lang/invoke/MethodHandle" ∧ y_Mo_base.cls ≠ "java/lang/invoke/VarHandle" ∧ (parseMethodDescriptor y_Mo_base.desc).map (fun d => d.parameters.length) = some 1 := by decide +kernel
abbrev wc_Mo_pop : List Cond := Cond.code y_Mo_pop cc_Mo_pop 2 (some .int) :: BG
theorem hd_Mo_pop : y_Mo_pop.cls = R_Mo ∧ y_Mo_pop.cls ≠ "java/lang/invoke/MethodHandle" ∧ y_Mo_pop.cls ≠ "java/lang/invoke/VarHandle" ∧ (parseMethodDescriptor y_Mo_pop.desc).map (fun d => d.parameters.length) = some 1 := by decide +kernel
abbrev wc_Mo_start : List Cond := Cond.code y_Mo_start cc_Mo_start 3 (some .int) :: BG
theorem hd_Mo_start : y_Mo_start.cls = R_Mo ∧ y_Mo_start.cls ≠ "java/lang/invoke/MethodHandle" ∧ y_Mo_start.cls ≠ "java/lang/invoke/VarHandle" ∧ (parseMethodDescriptor y_Mo_start.desc).map (fun d => d.parameters.length) = some 2 := by decide +kernel
abbrev wc_Mo_inner : List Cond := Cond.code y_Mo_inner cc_Mo_inner 5 (some .int) :: BG
theorem hd_Mo_inner : y_Mo_inner.cls = R_Mo ∧ y_Mo_inner.cls ≠ "java/lang/invoke/MethodHandle" ∧ y_Mo_inner.cls ≠ "java/lang/invoke/VarHandle" ∧ (parseMethodDescriptor y_Mo_inner.desc).map (fun d => d.parameters.length) = some 3 := by decide +kernel
abbrev wc_Mo_inArguments : List Cond := Cond.code y_Mo_inArguments cc_Mo_inArguments 3 (some .int) :: BG
theorem hd_Mo_inArguments : y_Mo_inArguments.cls = R_Mo ∧ y_Mo_inArguments.cls ≠ "java/lang/invoke/MethodHandle" ∧ y_Mo_inArguments.cls ≠ "java/lang/invoke/VarHandle" ∧ (parseMethodDescriptor y_Mo_inArguments.desc).map (fun d => d.parameters.length) = some 2 := by decide +kernel
abbrev wc_Mo_name : List Cond := Cond.code y_Mo_name cc_Mo_name 1 (some .boolean) :: BG
theorem hd_Mo_name : y_Mo_name.cls = R_Mo ∧ y_Mo_name.cls ≠ "java/lang/invoke/MethodHandle" ∧ y_Mo_name.cls ≠ "java/lang/invoke/VarHandle" ∧ (parseMethodDescriptor y_Mo_name.desc).map (fun d => d.parameters.length) = some 1 := by decide +kernel
abbrev wc_Mo_inClass : List Cond := Cond.code y_Mo_inClass cc_Mo_inClass 4 (some .int) :: BG
theorem hd_Mo_inClass : y_Mo_inClass.cls = R_Mo ∧ y_Mo_inClass.cls ≠ "java/lang/invoke/MethodHandle" ∧ y_Mo_inClass.cls ≠ "java/lang/invoke/VarHandle" ∧ (parseMethodDescriptor y_Mo_inClass.desc).map (fun d => d.parameters.length) = some 2 := by decide +kernel
abbrev wc_Mo_alikeNames : List Cond := Cond.code y_Mo_alikeNames cc_Mo_alikeNames 8 (some .boolean) :: BG
theorem hd_Mo_alikeNames : y_Mo_alikeNames.cls = R_Mo ∧ y_Mo_alikeNames.cls ≠ "java/lang/invoke/MethodHandle" ∧ y_Mo_alikeNames.cls ≠ "java/lang/invoke/VarHandle" ∧ (parseMethodDescriptor y_Mo_alikeNames.desc).map (fun d => d.parameters.length) = some 6 := by decide +kernel
abbrev wc_Mo_twice : List Cond := Cond.code y_Mo_twice cc_Mo_twice 4 (some .boolean) :: BG
theorem hd_Mo_twice : y_Mo_twice.cls = R_Mo ∧ y_Mo_twice.cls ≠ "java/lang/invoke/MethodHandle" ∧ y_Mo_twice.cls ≠ "java/lang/invoke/VarHandle" ∧ (parseMethodDescriptor y_Mo_twice.desc).map (fun d => d.parameters.length) = some 1 := by decide +kernel
abbrev wc_Mo_inParameters : List Cond := Cond.code y_Mo_inParameters cc_Mo_inParameters 4 (some .int) :: BG
theorem hd_Mo_inParameters : y_Mo_inParameters.cls = R_Mo ∧ y_Mo_inParameters.cls ≠ "java/lang/invoke/MethodHandle" ∧ y_Mo_inParameters.cls ≠ "java/lang/invoke/VarHandle" ∧ (parseMethodDescriptor y_Mo_inParameters.desc).map (fun d => d.parameters.length) = some 3 := by decide +kernel
abbrev wc_Mo_step : List Cond := Cond.code y_Mo_step cc_Mo_step 4 (some .int) :: BG
theorem hd_Mo_step : y_Mo_step.cls = R_Mo ∧ y_Mo_step.cls ≠ "java/lang/invoke/MethodHandle" ∧ y_Mo_step.cls ≠ "java/lang/invoke/VarHandle" ∧ (parseMethodDescriptor y_Mo_step.desc).map (fun d => d.parameters.length) = some 2 := by decide +kernel
abbrev wc_Mo_judge : List Cond := Cond.code y_Mo_judge cc_Mo_judge 8 (some .int) :: BG
theorem hd_Mo_judge : y_Mo_judge.cls = R_Mo ∧ y_Mo_judge.cls ≠ "java/lang/invoke/MethodHandle" ∧ y_Mo_judge.cls ≠ "java/lang/invoke/VarHandle" ∧ (parseMethodDescriptor y_Mo_judge.desc).map (fun d => d.parameters.length) = some 1 := by decide +kernel
abbrev wc_Mo_read : List Cond := Cond.code y_Mo_read cc_Mo_read 3 (some .int) :: BG
theorem hd_Mo_read : y_Mo_read.cls = R_Mo ∧ y_Mo_read.cls ≠ "java/lang/invoke/MethodHandle" ∧ y_Mo_read.cls ≠ "java/lang/invoke/VarHandle" ∧ (parseMethodDescriptor y_Mo_read.desc).map (fun d => d.parameters.length) = some 1 := by decide +kernel
abbrev wc_Mo_no : List Cond := Cond.code y_Mo_no cc_Mo_no 2 (some .boolean) :: BG
theorem hd_Mo_no : y_Mo_no.cls = R_Mo ∧ y_Mo_no.cls ≠ "java/lang/invoke/MethodHandle" ∧ y_Mo_no.cls ≠ "java/lang/invoke/VarHandle" ∧ (parseMethodDescriptor y_Mo_no.desc).map (fun d => d.parameters.length) = some 1 := by decide +kernel
abbrev wc_Mo_scope : List Cond := Cond.code y_Mo_scope cc_Mo_scope 4 (some .int) :: BG
theorem hd_Mo_scope : y_Mo_scope.cls = R_Mo ∧ y_Mo_scope.cls ≠ "java/lang/invoke/MethodHandle" ∧ y_Mo_scope.cls ≠ "java/lang/invoke/VarHandle" ∧ (parseMethodDescriptor y_Mo_scope.desc).map (fun d => d.parameters.length) = some 2 := by decide +kernel
abbrev wc_Mo_kind : List Cond := Cond.code y_Mo_kind cc_Mo_kind 2 (some .int) :: BG
theorem hd_Mo_kind : y_Mo_kind.cls = R_Mo ∧ y_Mo_kind.cls ≠ "java/lang/invoke/MethodHandle" ∧ y_Mo_kind.cls ≠ "java/lang/invoke/VarHandle" ∧ (parseMethodDescriptor y_Mo_kind.desc).map (fun d => d.parameters.length) = some 1 := by decide +kernel
abbrev wc_Mo_roleAt : List Cond := Cond.code y_Mo_roleAt cc_Mo_roleAt 3 (some .int) :: BG
theorem hd_Mo_roleAt : y_Mo_roleAt.cls = R_Mo ∧ y_Mo_roleAt.cls ≠ "java/lang/invoke/MethodHandle" ∧ y_Mo_roleAt.cls ≠ "java/lang/invoke/VarHandle" ∧ (parseMethodDescriptor y_Mo_roleAt.desc).map (fun d => d.parameters.length) = some 2 := by decide +kernel
abbrev wc_Mo_nameEnd : List Cond := Cond.code y_Mo_nameEnd cc_Mo_nameEnd 4 (some .int) :: BG
theorem hd_Mo_nameEnd : y_Mo_nameEnd.cls = R_Mo ∧ y_Mo_nameEnd.cls ≠ "java/lang/invoke/MethodHandle" ∧ y_Mo_nameEnd.cls ≠ "java/lang/invoke/VarHandle" ∧ (parseMethodDescriptor y_Mo_nameEnd.desc).map (fun d => d.parameters.length) = some 2 := by decide +kernel
abbrev wc_Mo_behind : List Cond := Cond.code y_Mo_behind cc_Mo_behind 6 (some .int) :: BG
theorem hd_Mo_behind : y_Mo_behind.cls = R_Mo ∧ y_Mo_behind.cls ≠ "java/lang/invoke/MethodHandle" ∧ y_Mo_behind.cls ≠ "java/lang/invoke/VarHandle" ∧ (parseMethodDescriptor y_Mo_behind.desc).map (fun d => d.parameters.length) = some 2 := by decide +kernel
abbrev wc_Mo_bodyStart : List Cond := Cond.code y_Mo_bodyStart cc_Mo_bodyStart 3 (some .int) :: BG
theorem hd_Mo_bodyStart : y_Mo_bodyStart.cls = R_Mo ∧ y_Mo_bodyStart.cls ≠ "java/lang/invoke/MethodHandle" ∧ y_Mo_bodyStart.cls ≠ "java/lang/invoke/VarHandle" ∧ (parseMethodDescriptor y_Mo_bodyStart.desc).map (fun d => d.parameters.length) = some 1 := by decide +kernel
abbrev wc_Mo_put : List Cond := Cond.code y_Mo_put cc_Mo_put 2 none :: BG
theorem hd_Mo_put : y_Mo_put.cls = R_Mo ∧ y_Mo_put.cls ≠ "java/lang/invoke/MethodHandle" ∧ y_Mo_put.cls ≠ "java/lang/invoke/VarHandle" ∧ (parseMethodDescriptor y_Mo_put.desc).map (fun d => d.parameters.length) = some 1 := by decide +kernel
abbrev wc_Mo_param : List Cond := Cond.code y_Mo_param cc_Mo_param 6 (some .int) :: BG
theorem hd_Mo_param : y_Mo_param.cls = R_Mo ∧ y_Mo_param.cls ≠ "java/lang/invoke/MethodHandle" ∧ y_Mo_param.cls ≠ "java/lang/invoke/VarHandle" ∧ (parseMethodDescriptor y_Mo_param.desc).map (fun d => d.parameters.length) = some 3 := by decide +kernel
abbrev wc_Mo_word : List Cond := Cond.code y_Mo_word cc_Mo_word 5 none :: BG
theorem hd_Mo_word : y_Mo_word.cls = R_Mo ∧ y_Mo_word.cls ≠ "java/lang/invoke/MethodHandle" ∧ y_Mo_word.cls ≠ "java/lang/invoke/VarHandle" ∧ (parseMethodDescriptor y_Mo_word.desc).map (fun d => d.parameters.length) = some 1 := by decide +kernel
abbrev wc_Mo_resolve : List Cond := Cond.code y_Mo_resolve cc_Mo_resolve 3 (some .boolean) :: BG
theorem hd_Mo_resolve : y_Mo_resolve.cls = R_Mo ∧ y_Mo_resolve.cls ≠ "java/lang/invoke/MethodHandle" ∧ y_Mo_resolve.cls ≠ "java/lang/invoke/VarHandle" ∧ (parseMethodDescriptor y_Mo_resolve.desc).map (fun d => d.parameters.length) = some 0 := by decide +kernel
abbrev wc_Mo_erase : List Cond := Cond.code y_Mo_erase cc_Mo_erase 6 none :: BG
theorem hd_Mo_erase : y_Mo_erase.cls = R_Mo ∧ y_Mo_erase.cls ≠ "java/lang/invoke/MethodHandle" ∧ y_Mo_erase.cls ≠ "java/lang/invoke/VarHandle" ∧ (parseMethodDescriptor y_Mo_erase.desc).map (fun d => d.parameters.length) = some 2 := by decide +kernel
abbrev wc_Mo_eraseAll : List Cond := Cond.code y_Mo_eraseAll cc_Mo_eraseAll 5 none :: BG
theorem hd_Mo_eraseAll : y_Mo_eraseAll.cls = R_Mo ∧ y_Mo_eraseAll.cls ≠ "java/lang/invoke/MethodHandle" ∧ y_Mo_eraseAll.cls ≠ "java/lang/invoke/VarHandle" ∧ (parseMethodDescriptor y_Mo_eraseAll.desc).map (fun d => d.parameters.length) = some 2 := by decide +kernel
abbrev wc_Mo_baseWord : List Cond := Cond.code y_Mo_baseWord cc_Mo_baseWord 1 (some .long) :: BG
theorem hd_Mo_baseWord : y_Mo_baseWord.cls = R_Mo ∧ y_Mo_baseWord.cls ≠ "java/lang/invoke/MethodHandle" ∧ y_Mo_baseWord.cls ≠ "java/lang/invoke/VarHandle" ∧ (parseMethodDescriptor y_Mo_baseWord.desc).map (fun d => d.parameters.length) = some 1 := by decide +kernel
abbrev wc_Mo_brackets : List Cond := Cond.code y_Mo_brackets cc_Mo_brackets 3 none :: BG
theorem hd_Mo_brackets : y_Mo_brackets.cls = R_Mo ∧ y_Mo_brackets.cls ≠ "java/lang/invoke/MethodHandle" ∧ y_Mo_brackets.cls ≠ "java/lang/invoke/VarHandle" ∧ (parseMethodDescriptor y_Mo_brackets.desc).map (fun d => d.parameters.length) = some 1 := by decide +kernel
abbrev wc_Mo_part : List Cond := Cond.code y_Mo_part cc_Mo_part 8 none :: BG
theorem hd_Mo_part : y_Mo_part.cls = R_Mo ∧ y_Mo_part.cls ≠ "java/lang/invoke/MethodHandle" ∧ y_Mo_part.cls ≠ "java/lang/invoke/VarHandle" ∧ (parseMethodDescriptor y_Mo_part.desc).map (fun d => d.parameters.length) = some 4 := by decide +kernel
abbrev wc_Mo_show : List Cond := Cond.code y_Mo_show cc_Mo_show 12 none :: BG
theorem hd_Mo_show : y_Mo_show.cls = R_Mo ∧ y_Mo_show.cls ≠ "java/lang/invoke/MethodHandle" ∧ y_Mo_show.cls ≠ "java/lang/invoke/VarHandle" ∧ (parseMethodDescriptor y_Mo_show.desc).map (fun d => d.parameters.length) = some 1 := by decide +kernel
abbrev wc_Mo_make : List Cond := Cond.code y_Mo_make cc_Mo_make 4 (some .boolean) :: BG
theorem hd_Mo_make : y_Mo_make.cls = R_Mo ∧ y_Mo_make.cls ≠ "java/lang/invoke/MethodHandle" ∧ y_Mo_make.cls ≠ "java/lang/invoke/VarHandle" ∧ (parseMethodDescriptor y_Mo_make.desc).map (fun d => d.parameters.length) = some 2 := by decide +kernel
abbrev wc_Mo_text : List Cond := Cond.code y_Mo_text cc_Mo_text 4 (some .int) :: BG
theorem hd_Mo_text : y_Mo_text.cls = R_Mo ∧ y_Mo_text.cls ≠ "java/lang/invoke/MethodHandle" ∧ y_Mo_text.cls ≠ "java/lang/invoke/VarHandle" ∧ (parseMethodDescriptor y_Mo_text.desc).map (fun d => d.parameters.length) = some 3 := by decide +kernel
abbrev wc_Mo_length : List Cond := Cond.code y_Mo_length cc_Mo_length 3 (some .int) :: BG
theorem hd_Mo_length : y_Mo_length.cls = R_Mo ∧ y_Mo_length.cls ≠ "java/lang/invoke/MethodHandle" ∧ y_Mo_length.cls ≠ "java/lang/invoke/VarHandle" ∧ (parseMethodDescriptor y_Mo_length.desc).map (fun d => d.parameters.length) = some 2 := by decide +kernel
abbrev wc_Mo_own : List Cond := Cond.code y_Mo_own cc_Mo_own 3 (some .boolean) :: BG
theorem hd_Mo_own : y_Mo_own.cls = R_Mo ∧ y_Mo_own.cls ≠ "java/lang/invoke/MethodHandle" ∧ y_Mo_own.cls ≠ "java/lang/invoke/VarHandle" ∧ (parseMethodDescriptor y_Mo_own.desc).map (fun d => d.parameters.length) = some 2 := by decide +kernel
abbrev wc_Mo_alike : List Cond := Cond.code y_Mo_alike cc_Mo_alike 9 (some .int) :: BG
theorem hd_Mo_alike : y_Mo_alike.cls = R_Mo ∧ y_Mo_alike.cls ≠ "java/lang/invoke/MethodHandle" ∧ y_Mo_alike.cls ≠ "java/lang/invoke/VarHandle" ∧ (parseMethodDescriptor y_Mo_alike.desc).map (fun d => d.parameters.length) = some 2 := by decide +kernel
abbrev wc_Mo_clash : List Cond := Cond.code y_Mo_clash cc_Mo_clash 5 (some .int) :: BG
theorem hd_Mo_clash : y_Mo_clash.cls = R_Mo ∧ y_Mo_clash.cls ≠ "java/lang/invoke/MethodHandle" ∧ y_Mo_clash.cls ≠ "java/lang/invoke/VarHandle" ∧ (parseMethodDescriptor y_Mo_clash.desc).map (fun d => d.parameters.length) = some 2 := by decide +kernel
abbrev wc_Mo_fill : List Cond := Cond.code y_Mo_fill cc_Mo_fill 10 (some .int) :: BG
theorem hd_Mo_fill : y_Mo_fill.cls = R_Mo ∧ y_Mo_fill.cls ≠ "java/lang/invoke/MethodHandle" ∧ y_Mo_fill.cls ≠ "java/lang/invoke/VarHandle" ∧ (parseMethodDescriptor y_Mo_fill.desc).map (fun d => d.parameters.length) = some 3 := by decide +kernel
abbrev wc_Mo_parameters : List Cond := Cond.code y_Mo_parameters cc_Mo_parameters 2 (some .int) :: BG
theorem hd_Mo_parameters : y_Mo_parameters.cls = R_Mo ∧ y_Mo_parameters.cls ≠ "java/lang/invoke/MethodHandle" ∧ y_Mo_parameters.cls ≠ "java/lang/invoke/VarHandle" ∧ (parseMethodDescriptor y_Mo_parameters.desc).map (fun d => d.parameters.length) = some 1 := by decide +kernel
abbrev wc_Mo_bounds : List Cond := Cond.code y_Mo_bounds cc_Mo_bounds 3 (some .int) :: BG
theorem hd_Mo_bounds : y_Mo_bounds.cls = R_Mo ∧ y_Mo_bounds.cls ≠ "java/lang/invoke/MethodHandle" ∧ y_Mo_bounds.cls ≠ "java/lang/invoke/VarHandle" ∧ (parseMethodDescriptor y_Mo_bounds.desc).map (fun d => d.parameters.length) = some 2 := by decide +kernel
abbrev wc_Mo_measure : List Cond := Cond.code y_Mo_measure cc_Mo_measure 9 (some .int) :: BG
theorem hd_Mo_measure : y_Mo_measure.cls = R_Mo ∧ y_Mo_measure.cls ≠ "java/lang/invoke/MethodHandle" ∧ y_Mo_measure.cls ≠ "java/lang/invoke/VarHandle" ∧ (parseMethodDescriptor y_Mo_measure.desc).map (fun d => d.parameters.length) = some 2 := by decide +kernel
abbrev wc_Mo_count : List Cond := Cond.code y_Mo_count cc_Mo_count 2 (some .int) :: BG
theorem hd_Mo_count : y_Mo_count.cls = R_Mo ∧ y_Mo_count.cls ≠ "java/lang/invoke/MethodHandle" ∧ y_Mo_count.cls ≠ "java/lang/invoke/VarHandle" ∧ (parseMethodDescriptor y_Mo_count.desc).map (fun d => d.parameters.length) = some 1 := by decide +kernel
abbrev wc_Mo_init : List Cond := Cond.code y_Mo_init cc_Mo_init 1 none :: BG
theorem hd_Mo_init : y_Mo_init.cls = R_Mo ∧ y_Mo_init.cls ≠ "java/lang/invoke/MethodHandle" ∧ y_Mo_init.cls ≠ "java/lang/invoke/VarHandle" ∧ (parseMethodDescriptor y_Mo_init.desc).map (fun d => d.parameters.length) = some 0 := by decide +kernel
theorem t32_0 : (0 : Int32).toInt = 0 := by decide +kernel
theorem t32_1 : (1 : Int32).toInt = 1 := by decide +kernel
theorem t32_2 : (2 : Int32).toInt = 2 := by decide +kernel
theorem t32_3 : (3 : Int32).toInt = 3 := by decide +kernel
theorem t32_4 : (4 : Int32).toInt = 4 := by decide +kernel
theorem t32_5 : (5 : Int32).toInt = 5 := by decide +kernel
theorem t32_6 : (6 : Int32).toInt = 6 := by decide +kernel
theorem t32_7 : (7 : Int32).toInt = 7 := by decide +kernel
theorem t32_8 : (8 : Int32).toInt = 8 := by decide +kernel
theorem t32_9 : (9 : Int32).toInt = 9 := by decide +kernel
theorem t32_10 : (10 : Int32).toInt = 10 := by decide +kernel
theorem t32_11 : (11 : Int32).toInt = 11 := by decide +kernel
theorem t32_12 : (12 : Int32).toInt = 12 := by decide +kernel
theorem t32_13 : (13 : Int32).toInt = 13 := by decide +kernel
theorem t32_14 : (14 : Int32).toInt = 14 := by decide +kernel
theorem t32_15 : (15 : Int32).toInt = 15 := by decide +kernel
theorem t32_16 : (16 : Int32).toInt = 16 := by decide +kernel
theorem t32_17 : (17 : Int32).toInt = 17 := by decide +kernel
theorem t32_18 : (18 : Int32).toInt = 18 := by decide +kernel
theorem t32_19 : (19 : Int32).toInt = 19 := by decide +kernel
theorem t32_20 : (20 : Int32).toInt = 20 := by decide +kernel
theorem t32_21 : (21 : Int32).toInt = 21 := by decide +kernel
theorem t32_22 : (22 : Int32).toInt = 22 := by decide +kernel
theorem t32_23 : (23 : Int32).toInt = 23 := by decide +kernel
theorem t32_24 : (24 : Int32).toInt = 24 := by decide +kernel
theorem t32_25 : (25 : Int32).toInt = 25 := by decide +kernel
theorem t32_26 : (26 : Int32).toInt = 26 := by decide +kernel
theorem t32_27 : (27 : Int32).toInt = 27 := by decide +kernel
theorem t32_28 : (28 : Int32).toInt = 28 := by decide +kernel
theorem t32_66 : (66 : Int32).toInt = 66 := by decide +kernel
theorem t32_67 : (67 : Int32).toInt = 67 := by decide +kernel
theorem t32_68 : (68 : Int32).toInt = 68 := by decide +kernel
theorem t32_69 : (69 : Int32).toInt = 69 := by decide +kernel
theorem t32_70 : (70 : Int32).toInt = 70 := by decide +kernel
theorem t32_71 : (71 : Int32).toInt = 71 := by decide +kernel
theorem t32_72 : (72 : Int32).toInt = 72 := by decide +kernel
theorem t32_73 : (73 : Int32).toInt = 73 := by decide +kernel
theorem t32_74 : (74 : Int32).toInt = 74 := by decide +kernel
theorem t32_75 : (75 : Int32).toInt = 75 := by decide +kernel
theorem t32_76 : (76 : Int32).toInt = 76 := by decide +kernel
theorem t32_77 : (77 : Int32).toInt = 77 := by decide +kernel
theorem t32_78 : (78 : Int32).toInt = 78 := by decide +kernel
theorem t32_79 : (79 : Int32).toInt = 79 := by decide +kernel
theorem t32_80 : (80 : Int32).toInt = 80 := by decide +kernel
theorem t32_81 : (81 : Int32).toInt = 81 := by decide +kernel
theorem t32_82 : (82 : Int32).toInt = 82 := by decide +kernel
theorem t32_83 : (83 : Int32).toInt = 83 := by decide +kernel
theorem t32_84 : (84 : Int32).toInt = 84 := by decide +kernel
theorem t32_85 : (85 : Int32).toInt = 85 := by decide +kernel
theorem t32_86 : (86 : Int32).toInt = 86 := by decide +kernel
theorem t32_87 : (87 : Int32).toInt = 87 := by decide +kernel
theorem t32_88 : (88 : Int32).toInt = 88 := by decide +kernel
theorem t32_89 : (89 : Int32).toInt = 89 := by decide +kernel
theorem t32_90 : (90 : Int32).toInt = 90 := by decide +kernel
theorem t32_91 : (91 : Int32).toInt = 91 := by decide +kernel
def nsF : List (String × Nat × String × String × String × String) := [(R_Sg, 27, "SignatureForest$Row", "letters", "[C", R_Fo), (R_Rd, 42, "SignatureForest$Row", "letters", "[C", R_Fo), (R_Fo, 176, "SignatureForest$Row", "letters", "[C", R_Fo), (R_Sg, 18, "SignatureForest$Row", "size", "I", R_Fo), (R_Er, 20, "SignatureForest$Row", "size", "I", R_Fo), (R_Rd, 37, "SignatureForest$Row", "size", "I", R_Fo), (R_Fo, 62, "SignatureForest$Row", "size", "I", R_Fo), (R_Sg, 38, "SignatureForest$Reader", "roles", "[I", R_Fo), (R_Sg, 45, "SignatureForest$Reader", "nameStarts", "[I", R_Fo), (R_Sg, 49, "SignatureForest$Reader", "nameEnds", "[I", R_Fo), (R_Sg, 39, "SignatureForest$Reader", "nameCount", "I", R_Fo), (R_Sg, 9, "SignatureForest$Reader", "sort", "I", R_Fo), (R_Fo, 90, "SignatureForest$Seeker", "passed", "I", R_Fo), (R_Fo, 87, "SignatureForest$Seeker", "found", "I", R_Fo), (R_Fo, 173, "SignatureForest$Eraser", "erased", "LSignatureForest$Row;", R_Fo), (R_Sh, 60, "SignatureForest$Signature", "sort", "I", R_Fo), (R_Fo, 77, "SignatureForest$Signature", "sort", "I", R_Fo), (R_Sh, 26, "SignatureForest$Signature", "letters", "[C", R_Fo), (R_Er, 50, "SignatureForest$Signature", "letters", "[C", R_Fo), (R_Fo, 139, "SignatureForest$Signature", "letters", "[C", R_Fo), (R_Fo, 93, "SignatureForest$Signature", "nameStarts", "[I", R_Fo), (R_Fo, 155, "SignatureForest$Signature", "bodyStart", "I", R_Fo), (R_Fo, 80, "SignatureForest$Signature", "scopeNumber", "I", R_Fo)]
def nsM : List (String × Nat × MethodName × String) := [(R_Fo, 30, y_Sk_init, R_Fo), (R_Rd, 66, y_Fo_endsItem, R_Fo), (R_Sh, 43, y_Fo_endsItem, R_Fo), (R_Sh, 47, y_Fo_beginsItem, R_Fo), (R_Sh, 88, y_Fo_beginsReference, R_Fo), (R_Sg, 91, y_Fo_endsItem, R_Fo), (R_Sg, 70, y_Fo_beginsReference, R_Fo)]
def srF : List (String × Nat × String × Nat) := [(R_Rd, 122, ".;/:<>[", 0), (R_Rd, 114, "BCDFIJSZ", 1), (R_Sh, 86, "[]", 2), (R_Sh, 91, "byte", 3), (R_Sh, 93, "char", 4), (R_Sh, 95, "double", 5), (R_Sh, 97, "float", 6), (R_Sh, 99, "int", 7), (R_Sh, 101, "long", 8), (R_Sh, 103, "short", 9), (R_Sh, 105, "boolean", 10), (R_Sh, 107, "void", 11), (R_Er, 44, "Ljava/lang/Object;", 12)]
theorem b_0 : Cond.fieldLink R_JS 1053 "jdk/internal/util/Preconditions" "SIOOBE_FORMATTER" "Ljava/util/function/BiFunction;" ∈ BG := bg2 (i := 16) rfl rfl
theorem b_1 : Cond.code y_JP_checkIndex cc_JP_checkIndex 3 (some .int) ∈ BG := bg2 (i := 227) rfl rfl
theorem b_2 : Cond.methodLink R_JS 1059 y_JP_checkIndex ∈ BG := bg2 (i := 225) rfl rfl
theorem b_3 : Cond.static y_JP_checkIndex ∈ BG := bg2 (i := 226) rfl rfl
theorem b_4 : Cond.initialized R_JP ∈ BG := bg1 (i := 12) rfl rfl
theorem b_5 : Cond.fieldLink R_JS 38 "java/lang/String" "COMPACT_STRINGS" "Z" ∈ BG := bg1 (i := 213) rfl rfl
theorem b_6 : Cond.fieldLink R_JS 15 "java/lang/String" "coder" "B" ∈ BG := bg4 (i := 206) rfl rfl
theorem b_7 : Cond.fieldLink R_JS 9 "java/lang/String" "value" "[B" ∈ BG := bg4 (i := 207) rfl rfl
theorem b_8 : Cond.code y_JS_coder cc_JS_coder 1 (some .byte) ∈ BG := bg1 (i := 222) rfl rfl
theorem b_9 : Cond.methodLink R_JS 335 y_JS_coder ∈ BG := bg1 (i := 219) rfl rfl
theorem b_10 : Cond.instanceMethod y_JS_coder ∈ BG := bg1 (i := 220) rfl rfl
theorem b_11 : Cond.selects R_JS y_JS_coder y_JS_coder ∈ BG := bg1 (i := 221) rfl rfl
theorem b_12 : Cond.initialized R_JS ∈ BG := bg1 (i := 8) rfl rfl
theorem b_13 : Cond.code y_JS_checkIndex cc_JS_checkIndex 2 none ∈ BG := bg2 (i := 224) rfl rfl
theorem b_14 : Cond.methodLink R_JL 9 y_JS_checkIndex ∈ BG := bg2 (i := 222) rfl rfl
theorem b_15 : Cond.static y_JS_checkIndex ∈ BG := bg2 (i := 223) rfl rfl
theorem b_16 : Cond.code y_JS_isLatin1 cc_JS_isLatin1 1 (some .boolean) ∈ BG := bg1 (i := 212) rfl rfl
theorem b_17 : Cond.methodLink R_JS 492 y_JS_isLatin1 ∈ BG := bg1 (i := 209) rfl rfl
theorem b_18 : Cond.instanceMethod y_JS_isLatin1 ∈ BG := bg1 (i := 210) rfl rfl
theorem b_19 : Cond.selects R_JS y_JS_isLatin1 y_JS_isLatin1 ∈ BG := bg1 (i := 211) rfl rfl
theorem b_20 : Cond.code y_JL_charAt cc_JL_charAt 2 (some .char) ∈ BG := bg2 (i := 221) rfl rfl
theorem b_21 : Cond.methodLink R_JS 495 y_JL_charAt ∈ BG := bg2 (i := 219) rfl rfl
theorem b_22 : Cond.static y_JL_charAt ∈ BG := bg2 (i := 220) rfl rfl
theorem b_23 : Cond.initialized R_JL ∈ BG := bg1 (i := 9) rfl rfl
theorem b_24 : Cond.code y_JL_canEncode cc_JL_canEncode 1 (some .boolean) ∈ BG := bg1 (i := 228) rfl rfl
theorem b_25 : Cond.methodLink R_JL 88 y_JL_canEncode ∈ BG := bg1 (i := 226) rfl rfl
theorem b_26 : Cond.static y_JL_canEncode ∈ BG := bg1 (i := 227) rfl rfl
theorem b_27 : Cond.methodLink R_JL 92 y_JM_max ∈ BG := bg1 (i := 229) rfl rfl
theorem b_28 : Cond.static y_JM_max ∈ BG := bg1 (i := 230) rfl rfl
theorem b_29 : Cond.initialized R_JM ∈ BG := bg1 (i := 10) rfl rfl
theorem b_30 : Cond.code y_JM_max cc_JM_max 2 (some .int) ∈ BG := bg1 (i := 231) rfl rfl
theorem b_31 : Cond.methodLink R_JL 38 y_JM_min ∈ BG := bg1 (i := 232) rfl rfl
theorem b_32 : Cond.static y_JM_min ∈ BG := bg1 (i := 233) rfl rfl
theorem b_33 : Cond.code y_JM_min cc_JM_min 2 (some .int) ∈ BG := bg1 (i := 234) rfl rfl
theorem b_34 : Cond.code y_JL_indexOfChar cc_JL_indexOfChar 6 (some .int) ∈ BG := bg1 (i := 237) rfl rfl
theorem b_35 : Cond.methodLink R_JL 95 y_JL_indexOfChar ∈ BG := bg1 (i := 235) rfl rfl
theorem b_36 : Cond.static y_JL_indexOfChar ∈ BG := bg1 (i := 236) rfl rfl
theorem b_37 : Cond.code y_JS_length cc_JS_length 1 (some .int) ∈ BG := bg1 (i := 218) rfl rfl
theorem b_38 : Cond.methodLink R_JS 505 y_JS_length ∈ BG := bg1 (i := 215) rfl rfl
theorem b_39 : Cond.instanceMethod y_JS_length ∈ BG := bg1 (i := 216) rfl rfl
theorem b_40 : Cond.selects R_JS y_JS_length y_JS_length ∈ BG := bg1 (i := 217) rfl rfl
theorem b_41 : Cond.code y_JL_indexOf cc_JL_indexOf 4 (some .int) ∈ BG := bg1 (i := 225) rfl rfl
theorem b_42 : Cond.methodLink R_JS 637 y_JL_indexOf ∈ BG := bg1 (i := 223) rfl rfl
theorem b_43 : Cond.static y_JL_indexOf ∈ BG := bg1 (i := 224) rfl rfl
theorem b_44 : Cond.code y_JS_indexOf2 cc_JS_indexOf2 3 (some .int) ∈ BG := bg1 (i := 208) rfl rfl
theorem b_45 : Cond.methodLink R_JS 633 y_JS_indexOf2 ∈ BG := bg1 (i := 205) rfl rfl
theorem b_46 : Cond.instanceMethod y_JS_indexOf2 ∈ BG := bg1 (i := 206) rfl rfl
theorem b_47 : Cond.selects R_JS y_JS_indexOf2 y_JS_indexOf2 ∈ BG := bg1 (i := 207) rfl rfl
theorem b_48 : Cond.code y_Fo_beginsReference cc_Fo_beginsReference 1 (some .boolean) ∈ BG := bg2 (i := 188) rfl rfl
theorem b_49 : Cond.methodLink R_Fo 210 y_Fo_beginsReference ∈ BG := bg2 (i := 186) rfl rfl
theorem b_50 : Cond.static y_Fo_beginsReference ∈ BG := bg2 (i := 187) rfl rfl
theorem b_51 : Cond.initialized R_Fo ∈ BG := bg1 (i := 1) rfl rfl
theorem b_52 : Cond.fieldLink R_Rw 13 "SignatureForest$Row" "size" "I" ∈ BG := bg1 (i := 35) rfl rfl
theorem b_53 : Cond.fieldLink R_Rw 7 "SignatureForest$Row" "letters" "[C" ∈ BG := bg1 (i := 30) rfl rfl
theorem b_54 : Cond.methodLink R_Rw 23 y_JS_length ∈ BG := bg3 (i := 79) rfl rfl
theorem b_55 : Cond.code y_JS_charAt cc_JS_charAt 2 (some .char) ∈ BG := bg2 (i := 218) rfl rfl
theorem b_56 : Cond.methodLink R_Rw 29 y_JS_charAt ∈ BG := bg3 (i := 80) rfl rfl
theorem b_57 : Cond.instanceMethod y_JS_charAt ∈ BG := bg2 (i := 216) rfl rfl
theorem b_58 : Cond.selects R_JS y_JS_charAt y_JS_charAt ∈ BG := bg2 (i := 217) rfl rfl
theorem b_59 : Cond.code y_Rw_add cc_Rw_add 2 (some .boolean) ∈ BG := bg1 (i := 169) rfl rfl
theorem b_60 : Cond.methodLink R_Rw 33 y_Rw_add ∈ BG := bg3 (i := 81) rfl rfl
theorem b_61 : Cond.instanceMethod y_Rw_add ∈ BG := bg1 (i := 167) rfl rfl
theorem b_62 : Cond.selects R_Rw y_Rw_add y_Rw_add ∈ BG := bg1 (i := 168) rfl rfl
theorem b_63 : Cond.initialized R_Rw ∈ BG := bg1 (i := 2) rfl rfl
theorem b_64 : Cond.methodLink R_Rw 17 arraycopyName ∈ BG := bg3 (i := 138) rfl rfl
theorem b_65 : Cond.native arraycopyName ∈ BG := bg2 (i := 110) rfl rfl
theorem b_66 : Cond.static arraycopyName ∈ BG := bg2 (i := 109) rfl rfl
theorem b_67 : Cond.initialized R_JY ∈ BG := bg1 (i := 15) rfl rfl
theorem b_68 : Cond.methodLink R_Rw 1 objectInit ∈ BG := bg1 (i := 29) rfl rfl
theorem b_69 : Cond.instanceMethod objectInit ∈ BG := bg1 (i := 22) rfl rfl
theorem b_70 : Cond.code objectInit ⟨#[0xb1]⟩ 1 none ∈ BG := bg1 (i := 23) rfl rfl
theorem b_71 : Cond.arrayClass .char ∈ BG := bg1 (i := 44) rfl rfl
theorem b_72 : Cond.fieldLink R_Sk 9 "SignatureForest$Seeker" "wanted" "I" ∈ BG := bg1 (i := 88) rfl rfl
theorem b_73 : Cond.fieldLink R_Sk 15 "SignatureForest$Seeker" "passed" "I" ∈ BG := bg1 (i := 89) rfl rfl
theorem b_74 : Cond.fieldLink R_Sk 18 "SignatureForest$Seeker" "found" "I" ∈ BG := bg1 (i := 91) rfl rfl
theorem b_75 : Cond.methodLink R_Sk 21 y_JS_length ∈ BG := bg2 (i := 214) rfl rfl
theorem b_76 : Cond.methodLink R_Sk 27 y_JS_charAt ∈ BG := bg2 (i := 215) rfl rfl
theorem b_77 : Cond.code y_Sk_pass cc_Sk_pass 2 none ∈ BG := bg2 (i := 196) rfl rfl
theorem b_78 : Cond.methodLink R_Sk 31 y_Sk_pass ∈ BG := bg2 (i := 235) rfl rfl
theorem b_79 : Cond.instanceMethod y_Sk_pass ∈ BG := bg2 (i := 194) rfl rfl
theorem b_80 : Cond.selects R_Sk y_Sk_pass y_Sk_pass ∈ BG := bg2 (i := 195) rfl rfl
theorem b_81 : Cond.initialized R_Sk ∈ BG := bg1 (i := 4) rfl rfl
theorem b_82 : Cond.methodLink R_Sk 3 objectInit ∈ BG := bg1 (i := 87) rfl rfl
theorem b_83 : Cond.code y_JS_indexOf cc_JS_indexOf 2 (some .int) ∈ BG := bg1 (i := 204) rfl rfl
theorem b_84 : Cond.methodLink R_Rd 116 y_JS_indexOf ∈ BG := bg1 (i := 201) rfl rfl
theorem b_85 : Cond.instanceMethod y_JS_indexOf ∈ BG := bg1 (i := 202) rfl rfl
theorem b_86 : Cond.selects R_JS y_JS_indexOf y_JS_indexOf ∈ BG := bg1 (i := 203) rfl rfl
theorem b_87 : Cond.code y_Rd_reference cc_Rd_reference 1 (some .int) ∈ BG := bg1 (i := 192) rfl rfl
theorem b_88 : Cond.methodLink R_Rd 87 y_Rd_reference ∈ BG := bg1 (i := 190) rfl rfl
theorem b_89 : Cond.static y_Rd_reference ∈ BG := bg1 (i := 191) rfl rfl
theorem b_90 : Cond.initialized R_Rd ∈ BG := bg1 (i := 3) rfl rfl
theorem b_91 : Cond.code y_Rd_closingOr cc_Rd_closingOr 2 (some .int) ∈ BG := bg2 (i := 58) rfl rfl
theorem b_92 : Cond.methodLink R_Rd 111 y_Rd_closingOr ∈ BG := bg2 (i := 56) rfl rfl
theorem b_93 : Cond.static y_Rd_closingOr ∈ BG := bg2 (i := 57) rfl rfl
theorem b_94 : Cond.code y_Rd_nameOnly cc_Rd_nameOnly 2 (some .int) ∈ BG := bg1 (i := 199) rfl rfl
theorem b_95 : Cond.methodLink R_Rd 77 y_Rd_nameOnly ∈ BG := bg1 (i := 197) rfl rfl
theorem b_96 : Cond.static y_Rd_nameOnly ∈ BG := bg1 (i := 198) rfl rfl
theorem b_97 : Cond.code y_Rd_typeOnly cc_Rd_typeOnly 1 (some .int) ∈ BG := bg2 (i := 67) rfl rfl
theorem b_98 : Cond.methodLink R_Rd 99 y_Rd_typeOnly ∈ BG := bg2 (i := 65) rfl rfl
theorem b_99 : Cond.static y_Rd_typeOnly ∈ BG := bg2 (i := 66) rfl rfl
theorem b_100 : Cond.code y_Rd_behindBound cc_Rd_behindBound 1 (some .int) ∈ BG := bg2 (i := 52) rfl rfl
theorem b_101 : Cond.methodLink R_Rd 108 y_Rd_behindBound ∈ BG := bg2 (i := 50) rfl rfl
theorem b_102 : Cond.static y_Rd_behindBound ∈ BG := bg2 (i := 51) rfl rfl
theorem b_103 : Cond.fieldLink R_Rd 31 "SignatureForest$Reader" "depth" "I" ∈ BG := bg1 (i := 62) rfl rfl
theorem b_104 : Cond.fieldLink R_Rd 28 "SignatureForest$Reader" "section" "I" ∈ BG := bg1 (i := 61) rfl rfl
theorem b_105 : Cond.code y_Rd_inTypes cc_Rd_inTypes 1 (some .int) ∈ BG := bg2 (i := 71) rfl rfl
theorem b_106 : Cond.methodLink R_Rd 102 y_Rd_inTypes ∈ BG := bg2 (i := 69) rfl rfl
theorem b_107 : Cond.static y_Rd_inTypes ∈ BG := bg2 (i := 70) rfl rfl
theorem b_108 : Cond.code y_Rd_argument cc_Rd_argument 1 (some .int) ∈ BG := bg2 (i := 61) rfl rfl
theorem b_109 : Cond.methodLink R_Rd 93 y_Rd_argument ∈ BG := bg2 (i := 59) rfl rfl
theorem b_110 : Cond.static y_Rd_argument ∈ BG := bg2 (i := 60) rfl rfl
theorem b_111 : Cond.fieldLink R_Rd 21 "SignatureForest$Reader" "sort" "I" ∈ BG := bg1 (i := 60) rfl rfl
theorem b_112 : Cond.code y_Rd_atBody cc_Rd_atBody 2 (some .int) ∈ BG := bg1 (i := 196) rfl rfl
theorem b_113 : Cond.methodLink R_Rd 84 y_Rd_atBody ∈ BG := bg1 (i := 193) rfl rfl
theorem b_114 : Cond.instanceMethod y_Rd_atBody ∈ BG := bg1 (i := 195) rfl rfl
theorem b_115 : Cond.selects R_Rd y_Rd_atBody y_Rd_atBody ∈ BG := bgp (i := 2) rfl rfl
theorem b_116 : Cond.fieldLink R_Rd 34 "SignatureForest$Reader" "last" "I" ∈ BG := bg1 (i := 63) rfl rfl
theorem b_117 : Cond.code y_Rd_atStart cc_Rd_atStart 2 (some .int) ∈ BG := bg1 (i := 189) rfl rfl
theorem b_118 : Cond.methodLink R_Rd 74 y_Rd_atStart ∈ BG := bg1 (i := 186) rfl rfl
theorem b_119 : Cond.instanceMethod y_Rd_atStart ∈ BG := bg1 (i := 188) rfl rfl
theorem b_120 : Cond.selects R_Rd y_Rd_atStart y_Rd_atStart ∈ BG := bgp (i := 1) rfl rfl
theorem b_121 : Cond.code y_Rd_behindFirstColon cc_Rd_behindFirstColon 2 (some .int) ∈ BG := bg2 (i := 49) rfl rfl
theorem b_122 : Cond.methodLink R_Rd 81 y_Rd_behindFirstColon ∈ BG := bg2 (i := 47) rfl rfl
theorem b_123 : Cond.static y_Rd_behindFirstColon ∈ BG := bg2 (i := 48) rfl rfl
theorem b_124 : Cond.code y_Rd_inSegment cc_Rd_inSegment 2 (some .int) ∈ BG := bg2 (i := 55) rfl rfl
theorem b_125 : Cond.methodLink R_Rd 90 y_Rd_inSegment ∈ BG := bg2 (i := 53) rfl rfl
theorem b_126 : Cond.static y_Rd_inSegment ∈ BG := bg2 (i := 54) rfl rfl
theorem b_127 : Cond.code y_Rd_behindArguments cc_Rd_behindArguments 1 (some .int) ∈ BG := bg2 (i := 64) rfl rfl
theorem b_128 : Cond.methodLink R_Rd 96 y_Rd_behindArguments ∈ BG := bg2 (i := 62) rfl rfl
theorem b_129 : Cond.static y_Rd_behindArguments ∈ BG := bg2 (i := 63) rfl rfl
theorem b_130 : Cond.code y_Rd_behindItem cc_Rd_behindItem 2 (some .int) ∈ BG := bg2 (i := 75) rfl rfl
theorem b_131 : Cond.methodLink R_Rd 105 y_Rd_behindItem ∈ BG := bg2 (i := 72) rfl rfl
theorem b_132 : Cond.instanceMethod y_Rd_behindItem ∈ BG := bg2 (i := 74) rfl rfl
theorem b_133 : Cond.selects R_Rd y_Rd_behindItem y_Rd_behindItem ∈ BG := bgp (i := 3) rfl rfl
theorem b_134 : Cond.fieldLink R_Rd 18 "SignatureForest$Reader" "nameEnds" "[I" ∈ BG := bg1 (i := 55) rfl rfl
theorem b_135 : Cond.fieldLink R_Rd 15 "SignatureForest$Reader" "nameStarts" "[I" ∈ BG := bg1 (i := 53) rfl rfl
theorem b_136 : Cond.fieldLink R_Rd 25 "SignatureForest$Reader" "nameCount" "I" ∈ BG := bg1 (i := 58) rfl rfl
theorem b_137 : Cond.code y_Rd_sameName cc_Rd_sameName 6 (some .boolean) ∈ BG := bg2 (i := 83) rfl rfl
theorem b_138 : Cond.methodLink R_Rd 70 y_Rd_sameName ∈ BG := bg2 (i := 80) rfl rfl
theorem b_139 : Cond.instanceMethod y_Rd_sameName ∈ BG := bg2 (i := 82) rfl rfl
theorem b_140 : Cond.selects R_Rd y_Rd_sameName y_Rd_sameName ∈ BG := bgp (i := 5) rfl rfl
theorem b_141 : Cond.code y_Fo_endsItem cc_Fo_endsItem 1 (some .boolean) ∈ BG := bg2 (i := 98) rfl rfl
theorem b_142 : Cond.static y_Fo_endsItem ∈ BG := bg2 (i := 97) rfl rfl
theorem b_143 : Cond.code y_Rd_noteName cc_Rd_noteName 2 none ∈ BG := bg2 (i := 91) rfl rfl
theorem b_144 : Cond.methodLink R_Rd 62 y_Rd_noteName ∈ BG := bg2 (i := 88) rfl rfl
theorem b_145 : Cond.instanceMethod y_Rd_noteName ∈ BG := bg2 (i := 90) rfl rfl
theorem b_146 : Cond.selects R_Rd y_Rd_noteName y_Rd_noteName ∈ BG := bgp (i := 7) rfl rfl
theorem b_147 : Cond.fieldLink R_Rd 9 "SignatureForest$Reader" "roles" "[I" ∈ BG := bg1 (i := 51) rfl rfl
theorem b_148 : Cond.code y_Rd_roleOf cc_Rd_roleOf 2 (some .int) ∈ BG := bg1 (i := 185) rfl rfl
theorem b_149 : Cond.methodLink R_Rd 46 y_Rd_roleOf ∈ BG := bg1 (i := 182) rfl rfl
theorem b_150 : Cond.instanceMethod y_Rd_roleOf ∈ BG := bg1 (i := 184) rfl rfl
theorem b_151 : Cond.selects R_Rd y_Rd_roleOf y_Rd_roleOf ∈ BG := bgp (i := 0) rfl rfl
theorem b_152 : Cond.code y_Rd_nameIsTaken cc_Rd_nameIsTaken 3 (some .boolean) ∈ BG := bg2 (i := 79) rfl rfl
theorem b_153 : Cond.methodLink R_Rd 50 y_Rd_nameIsTaken ∈ BG := bg2 (i := 76) rfl rfl
theorem b_154 : Cond.instanceMethod y_Rd_nameIsTaken ∈ BG := bg2 (i := 78) rfl rfl
theorem b_155 : Cond.selects R_Rd y_Rd_nameIsTaken y_Rd_nameIsTaken ∈ BG := bgp (i := 4) rfl rfl
theorem b_156 : Cond.code y_Rd_mayEnd cc_Rd_mayEnd 2 (some .boolean) ∈ BG := bg2 (i := 95) rfl rfl
theorem b_157 : Cond.methodLink R_Rd 58 y_Rd_mayEnd ∈ BG := bg2 (i := 92) rfl rfl
theorem b_158 : Cond.instanceMethod y_Rd_mayEnd ∈ BG := bg2 (i := 94) rfl rfl
theorem b_159 : Cond.selects R_Rd y_Rd_mayEnd y_Rd_mayEnd ∈ BG := bgp (i := 8) rfl rfl
theorem b_160 : Cond.code y_Rd_take cc_Rd_take 3 none ∈ BG := bg2 (i := 87) rfl rfl
theorem b_161 : Cond.methodLink R_Rd 54 y_Rd_take ∈ BG := bg2 (i := 84) rfl rfl
theorem b_162 : Cond.instanceMethod y_Rd_take ∈ BG := bg2 (i := 86) rfl rfl
theorem b_163 : Cond.selects R_Rd y_Rd_take y_Rd_take ∈ BG := bgp (i := 6) rfl rfl
theorem b_164 : Cond.methodLink R_Rd 3 objectInit ∈ BG := bg1 (i := 50) rfl rfl
theorem b_165 : Cond.arrayClass .int ∈ BG := bg1 (i := 81) rfl rfl
theorem b_166 : Cond.fieldLink R_Sg 34 "SignatureForest$Signature" "roles" "[I" ∈ BG := bg2 (i := 118) rfl rfl
theorem b_167 : Cond.fieldLink R_Sg 23 "SignatureForest$Signature" "letters" "[C" ∈ BG := bg2 (i := 114) rfl rfl
theorem b_168 : Cond.fieldLink R_Sg 42 "SignatureForest$Signature" "nameStarts" "[I" ∈ BG := bg2 (i := 119) rfl rfl
theorem b_169 : Cond.code y_Sg_hasParameter cc_Sg_hasParameter 2 (some .boolean) ∈ BG := bg3 (i := 59) rfl rfl
theorem b_170 : Cond.methodLink R_Sg 56 y_Sg_hasParameter ∈ BG := bg3 (i := 56) rfl rfl
theorem b_171 : Cond.instanceMethod y_Sg_hasParameter ∈ BG := bg3 (i := 57) rfl rfl
theorem b_172 : Cond.selects R_Sg y_Sg_hasParameter y_Sg_hasParameter ∈ BG := bg3 (i := 58) rfl rfl
theorem b_173 : Cond.initialized R_Sg ∈ BG := bg1 (i := 14) rfl rfl
theorem b_174 : Cond.fieldLink R_Sg 46 "SignatureForest$Signature" "nameEnds" "[I" ∈ BG := bg2 (i := 121) rfl rfl
theorem b_175 : Cond.code y_Sg_roleAt cc_Sg_roleAt 2 (some .int) ∈ BG := bg2 (i := 177) rfl rfl
theorem b_176 : Cond.methodLink R_Sg 60 y_Sg_roleAt ∈ BG := bg3 (i := 41) rfl rfl
theorem b_177 : Cond.instanceMethod y_Sg_roleAt ∈ BG := bg2 (i := 175) rfl rfl
theorem b_178 : Cond.selects R_Sg y_Sg_roleAt y_Sg_roleAt ∈ BG := bg2 (i := 176) rfl rfl
theorem b_179 : Cond.fieldLink R_Sg 53 "SignatureForest$Signature" "bodyStart" "I" ∈ BG := bg2 (i := 122) rfl rfl
theorem b_180 : Cond.code y_Sg_nameStart cc_Sg_nameStart 2 (some .int) ∈ BG := bg3 (i := 72) rfl rfl
theorem b_181 : Cond.methodLink R_Sg 64 y_Sg_nameStart ∈ BG := bg3 (i := 69) rfl rfl
theorem b_182 : Cond.instanceMethod y_Sg_nameStart ∈ BG := bg3 (i := 70) rfl rfl
theorem b_183 : Cond.selects R_Sg y_Sg_nameStart y_Sg_nameStart ∈ BG := bg3 (i := 71) rfl rfl
theorem b_184 : Cond.code y_Sg_parameterEnd cc_Sg_parameterEnd 2 (some .int) ∈ BG := bg3 (i := 133) rfl rfl
theorem b_185 : Cond.methodLink R_Sg 67 y_Sg_parameterEnd ∈ BG := bg3 (i := 151) rfl rfl
theorem b_186 : Cond.instanceMethod y_Sg_parameterEnd ∈ BG := bg3 (i := 131) rfl rfl
theorem b_187 : Cond.selects R_Sg y_Sg_parameterEnd y_Sg_parameterEnd ∈ BG := bg3 (i := 132) rfl rfl
theorem b_188 : Cond.code y_Sg_nameLength cc_Sg_nameLength 2 (some .int) ∈ BG := bg3 (i := 55) rfl rfl
theorem b_189 : Cond.methodLink R_Sg 73 y_Sg_nameLength ∈ BG := bg3 (i := 52) rfl rfl
theorem b_190 : Cond.instanceMethod y_Sg_nameLength ∈ BG := bg3 (i := 53) rfl rfl
theorem b_191 : Cond.selects R_Sg y_Sg_nameLength y_Sg_nameLength ∈ BG := bg3 (i := 54) rfl rfl
theorem b_192 : Cond.code y_Sg_letterAt cc_Sg_letterAt 2 (some .char) ∈ BG := bg2 (i := 204) rfl rfl
theorem b_193 : Cond.methodLink R_Sg 83 y_Sg_letterAt ∈ BG := bg3 (i := 64) rfl rfl
theorem b_194 : Cond.instanceMethod y_Sg_letterAt ∈ BG := bg2 (i := 202) rfl rfl
theorem b_195 : Cond.selects R_Sg y_Sg_letterAt y_Sg_letterAt ∈ BG := bg2 (i := 203) rfl rfl
theorem b_196 : Cond.code y_Sg_behindName cc_Sg_behindName 4 (some .int) ∈ BG := bg3 (i := 51) rfl rfl
theorem b_197 : Cond.methodLink R_Sg 76 y_Sg_behindName ∈ BG := bg3 (i := 48) rfl rfl
theorem b_198 : Cond.instanceMethod y_Sg_behindName ∈ BG := bg3 (i := 49) rfl rfl
theorem b_199 : Cond.selects R_Sg y_Sg_behindName y_Sg_behindName ∈ BG := bg3 (i := 50) rfl rfl
theorem b_200 : Cond.code y_Sg_sameLetters cc_Sg_sameLetters 6 (some .boolean) ∈ BG := bg3 (i := 63) rfl rfl
theorem b_201 : Cond.methodLink R_Sg 79 y_Sg_sameLetters ∈ BG := bg3 (i := 60) rfl rfl
theorem b_202 : Cond.instanceMethod y_Sg_sameLetters ∈ BG := bg3 (i := 62) rfl rfl
theorem b_203 : Cond.selects R_Sg y_Sg_sameLetters y_Sg_sameLetters ∈ BG := bgp (i := 20) rfl rfl
theorem b_204 : Cond.code y_Sg_parameterNamed cc_Sg_parameterNamed 5 (some .int) ∈ BG := bg3 (i := 47) rfl rfl
theorem b_205 : Cond.methodLink R_Sg 87 y_Sg_parameterNamed ∈ BG := bg3 (i := 98) rfl rfl
theorem b_206 : Cond.instanceMethod y_Sg_parameterNamed ∈ BG := bg3 (i := 45) rfl rfl
theorem b_207 : Cond.selects R_Sg y_Sg_parameterNamed y_Sg_parameterNamed ∈ BG := bg3 (i := 46) rfl rfl
theorem b_208 : Cond.methodLink R_Sg 94 y_JM_max ∈ BG := bg3 (i := 169) rfl rfl
theorem b_209 : Cond.methodLink R_Sg 3 objectInit ∈ BG := bg2 (i := 107) rfl rfl
theorem b_210 : Cond.fieldLink R_Sg 15 "SignatureForest$Signature" "sort" "I" ∈ BG := bg2 (i := 111) rfl rfl
theorem b_211 : Cond.methodLink R_Sg 28 arraycopyName ∈ BG := bg2 (i := 108) rfl rfl
theorem b_212 : Cond.fieldLink R_Sg 50 "SignatureForest$Signature" "scopeNumber" "I" ∈ BG := bg2 (i := 124) rfl rfl
theorem b_213 : Cond.code y_Sg_ownNameAt cc_Sg_ownNameAt 4 (some .int) ∈ BG := bg3 (i := 97) rfl rfl
theorem b_214 : Cond.methodLink R_Fo 180 y_Sg_ownNameAt ∈ BG := bg3 (i := 94) rfl rfl
theorem b_215 : Cond.instanceMethod y_Sg_ownNameAt ∈ BG := bg3 (i := 95) rfl rfl
theorem b_216 : Cond.selects R_Sg y_Sg_ownNameAt y_Sg_ownNameAt ∈ BG := bg3 (i := 96) rfl rfl
theorem b_217 : Cond.code y_Sg_declarerAt cc_Sg_declarerAt 2 (some .int) ∈ BG := bg3 (i := 108) rfl rfl
theorem b_218 : Cond.methodLink R_Fo 193 y_Sg_declarerAt ∈ BG := bg3 (i := 105) rfl rfl
theorem b_219 : Cond.instanceMethod y_Sg_declarerAt ∈ BG := bg3 (i := 106) rfl rfl
theorem b_220 : Cond.selects R_Sg y_Sg_declarerAt y_Sg_declarerAt ∈ BG := bg3 (i := 107) rfl rfl
theorem b_221 : Cond.code y_Sg_repeatsName cc_Sg_repeatsName 3 (some .boolean) ∈ BG := bg3 (i := 102) rfl rfl
theorem b_222 : Cond.methodLink R_Fo 183 y_Sg_repeatsName ∈ BG := bg3 (i := 99) rfl rfl
theorem b_223 : Cond.instanceMethod y_Sg_repeatsName ∈ BG := bg3 (i := 100) rfl rfl
theorem b_224 : Cond.selects R_Sg y_Sg_repeatsName y_Sg_repeatsName ∈ BG := bg3 (i := 101) rfl rfl
theorem b_225 : Cond.methodLink R_Fo 187 y_Sg_nameLength ∈ BG := bg3 (i := 103) rfl rfl
theorem b_226 : Cond.methodLink R_Fo 190 y_Sg_behindName ∈ BG := bg3 (i := 104) rfl rfl
theorem b_227 : Cond.methodLink R_Fo 161 y_Sg_letterAt ∈ BG := bg3 (i := 21) rfl rfl
theorem b_228 : Cond.fieldLink R_Sh 15 "SignatureForest$Shower" "depth" "I" ∈ BG := bg1 (i := 107) rfl rfl
theorem b_229 : Cond.fieldLink R_Sh 19 "SignatureForest$Shower" "classPassed" "Z" ∈ BG := bg1 (i := 108) rfl rfl
theorem b_230 : Cond.methodLink R_Sh 32 y_Sg_roleAt ∈ BG := bg2 (i := 174) rfl rfl
theorem b_231 : Cond.code y_Fo_beginsItem cc_Fo_beginsItem 1 (some .boolean) ∈ BG := bg2 (i := 185) rfl rfl
theorem b_232 : Cond.static y_Fo_beginsItem ∈ BG := bg2 (i := 184) rfl rfl
theorem b_233 : Cond.code y_Sh_partingItems cc_Sh_partingItems 2 (some .char) ∈ BG := bg2 (i := 192) rfl rfl
theorem b_234 : Cond.methodLink R_Sh 50 y_Sh_partingItems ∈ BG := bg2 (i := 189) rfl rfl
theorem b_235 : Cond.instanceMethod y_Sh_partingItems ∈ BG := bg2 (i := 191) rfl rfl
theorem b_236 : Cond.selects R_Sh y_Sh_partingItems y_Sh_partingItems ∈ BG := bgp (i := 13) rfl rfl
theorem b_237 : Cond.initialized R_Sh ∈ BG := bg1 (i := 5) rfl rfl
theorem b_238 : Cond.methodLink R_Sh 54 y_Sk_pass ∈ BG := bg2 (i := 193) rfl rfl
theorem b_239 : Cond.fieldLink R_Sh 9 "SignatureForest$Shower" "waiting" "[I" ∈ BG := bg1 (i := 106) rfl rfl
theorem b_240 : Cond.code y_Sk_passText cc_Sk_passText 3 none ∈ BG := bg2 (i := 213) rfl rfl
theorem b_241 : Cond.methodLink R_Sh 75 y_Sk_passText ∈ BG := bg2 (i := 210) rfl rfl
theorem b_242 : Cond.instanceMethod y_Sk_passText ∈ BG := bg2 (i := 211) rfl rfl
theorem b_243 : Cond.selects R_Sk y_Sk_passText y_Sk_passText ∈ BG := bg2 (i := 212) rfl rfl
theorem b_244 : Cond.methodLink R_Sh 63 y_Sg_letterAt ∈ BG := bg2 (i := 201) rfl rfl
theorem b_245 : Cond.fieldLink R_Sh 23 "SignatureForest$Shower" "thrownPassed" "Z" ∈ BG := bg1 (i := 109) rfl rfl
theorem b_246 : Cond.code y_Sh_showColon cc_Sh_showColon 5 none ∈ BG := bg3 (i := 10) rfl rfl
theorem b_247 : Cond.methodLink R_Sh 79 y_Sh_showColon ∈ BG := bg3 (i := 8) rfl rfl
theorem b_248 : Cond.static y_Sh_showColon ∈ BG := bg3 (i := 9) rfl rfl
theorem b_249 : Cond.code y_Sh_showWaiting cc_Sh_showWaiting 3 none ∈ BG := bg2 (i := 208) rfl rfl
theorem b_250 : Cond.methodLink R_Sh 67 y_Sh_showWaiting ∈ BG := bg2 (i := 205) rfl rfl
theorem b_251 : Cond.instanceMethod y_Sh_showWaiting ∈ BG := bg2 (i := 207) rfl rfl
theorem b_252 : Cond.selects R_Sh y_Sh_showWaiting y_Sh_showWaiting ∈ BG := bgp (i := 15) rfl rfl
theorem b_253 : Cond.code y_Sh_wordOf cc_Sh_wordOf 1 (some (.object "java/lang/String")) ∈ BG := bg2 (i := 238) rfl rfl
theorem b_254 : Cond.methodLink R_Sh 71 y_Sh_wordOf ∈ BG := bg2 (i := 236) rfl rfl
theorem b_255 : Cond.static y_Sh_wordOf ∈ BG := bg2 (i := 237) rfl rfl
theorem b_256 : Cond.code y_Sh_changeDepth cc_Sh_changeDepth 2 none ∈ BG := bg3 (i := 15) rfl rfl
theorem b_257 : Cond.methodLink R_Sh 82 y_Sh_changeDepth ∈ BG := bg3 (i := 12) rfl rfl
theorem b_258 : Cond.instanceMethod y_Sh_changeDepth ∈ BG := bg3 (i := 14) rfl rfl
theorem b_259 : Cond.selects R_Sh y_Sh_changeDepth y_Sh_changeDepth ∈ BG := bgp (i := 16) rfl rfl
theorem b_260 : Cond.code y_Sh_part cc_Sh_part 6 none ∈ BG := bg2 (i := 181) rfl rfl
theorem b_261 : Cond.methodLink R_Sh 36 y_Sh_part ∈ BG := bg2 (i := 178) rfl rfl
theorem b_262 : Cond.instanceMethod y_Sh_part ∈ BG := bg2 (i := 180) rfl rfl
theorem b_263 : Cond.selects R_Sh y_Sh_part y_Sh_part ∈ BG := bgp (i := 12) rfl rfl
theorem b_264 : Cond.code y_Sh_showLetter cc_Sh_showLetter 6 none ∈ BG := bg2 (i := 200) rfl rfl
theorem b_265 : Cond.methodLink R_Sh 40 y_Sh_showLetter ∈ BG := bg2 (i := 197) rfl rfl
theorem b_266 : Cond.instanceMethod y_Sh_showLetter ∈ BG := bg2 (i := 199) rfl rfl
theorem b_267 : Cond.selects R_Sh y_Sh_showLetter y_Sh_showLetter ∈ BG := bgp (i := 14) rfl rfl
theorem b_268 : Cond.methodLink R_Sh 3 objectInit ∈ BG := bg1 (i := 105) rfl rfl
theorem b_269 : Cond.methodLink R_Er 28 y_Sg_roleAt ∈ BG := bg3 (i := 31) rfl rfl
theorem b_270 : Cond.fieldLink R_Er 14 "SignatureForest$Eraser" "erased" "LSignatureForest$Row;" ∈ BG := bg1 (i := 127) rfl rfl
theorem b_271 : Cond.methodLink R_Er 54 y_Rw_add ∈ BG := bg3 (i := 32) rfl rfl
theorem b_272 : Cond.code y_Sg_behindType cc_Sg_behindType 5 (some .int) ∈ BG := bg3 (i := 40) rfl rfl
theorem b_273 : Cond.methodLink R_Er 58 y_Sg_behindType ∈ BG := bg3 (i := 37) rfl rfl
theorem b_274 : Cond.instanceMethod y_Sg_behindType ∈ BG := bg3 (i := 38) rfl rfl
theorem b_275 : Cond.selects R_Sg y_Sg_behindType y_Sg_behindType ∈ BG := bg3 (i := 39) rfl rfl
theorem b_276 : Cond.methodLink R_Er 61 y_Sg_letterAt ∈ BG := bg3 (i := 43) rfl rfl
theorem b_277 : Cond.code y_Er_eraseBrackets cc_Er_eraseBrackets 4 (some .int) ∈ BG := bg3 (i := 30) rfl rfl
theorem b_278 : Cond.methodLink R_Er 24 y_Er_eraseBrackets ∈ BG := bg3 (i := 27) rfl rfl
theorem b_279 : Cond.instanceMethod y_Er_eraseBrackets ∈ BG := bg3 (i := 29) rfl rfl
theorem b_280 : Cond.selects R_Er y_Er_eraseBrackets y_Er_eraseBrackets ∈ BG := bgp (i := 18) rfl rfl
theorem b_281 : Cond.initialized R_Er ∈ BG := bg1 (i := 6) rfl rfl
theorem b_282 : Cond.methodLink R_Er 38 y_Sg_parameterNamed ∈ BG := bg3 (i := 44) rfl rfl
theorem b_283 : Cond.code y_Er_eraseNamed cc_Er_eraseNamed 7 none ∈ BG := bg3 (i := 36) rfl rfl
theorem b_284 : Cond.methodLink R_Er 34 y_Er_eraseNamed ∈ BG := bg3 (i := 33) rfl rfl
theorem b_285 : Cond.instanceMethod y_Er_eraseNamed ∈ BG := bg3 (i := 35) rfl rfl
theorem b_286 : Cond.selects R_Er y_Er_eraseNamed y_Er_eraseNamed ∈ BG := bgp (i := 19) rfl rfl
theorem b_287 : Cond.code y_Sg_firstBound cc_Sg_firstBound 3 (some .int) ∈ BG := bg3 (i := 68) rfl rfl
theorem b_288 : Cond.methodLink R_Er 41 y_Sg_firstBound ∈ BG := bg3 (i := 65) rfl rfl
theorem b_289 : Cond.instanceMethod y_Sg_firstBound ∈ BG := bg3 (i := 66) rfl rfl
theorem b_290 : Cond.selects R_Sg y_Sg_firstBound y_Sg_firstBound ∈ BG := bg3 (i := 67) rfl rfl
theorem b_291 : Cond.code y_Rw_addText cc_Rw_addText 3 none ∈ BG := bg3 (i := 78) rfl rfl
theorem b_292 : Cond.methodLink R_Er 46 y_Rw_addText ∈ BG := bg3 (i := 75) rfl rfl
theorem b_293 : Cond.instanceMethod y_Rw_addText ∈ BG := bg3 (i := 76) rfl rfl
theorem b_294 : Cond.selects R_Rw y_Rw_addText y_Rw_addText ∈ BG := bg3 (i := 77) rfl rfl
theorem b_295 : Cond.methodLink R_Er 3 objectInit ∈ BG := bg1 (i := 124) rfl rfl
theorem b_296 : Cond.classLink R_Er 9 R_Rw ∈ BG := bg1 (i := 125) rfl rfl
theorem b_297 : Cond.instantiable R_Rw 2 ∈ BG := bg1 (i := 25) rfl rfl
theorem b_298 : Cond.code y_Rw_init cc_Rw_init 2 none ∈ BG := bg1 (i := 28) rfl rfl
theorem b_299 : Cond.methodLink R_Er 11 y_Rw_init ∈ BG := bg1 (i := 126) rfl rfl
theorem b_300 : Cond.instanceMethod y_Rw_init ∈ BG := bg1 (i := 27) rfl rfl
theorem b_301 : Cond.fieldLink R_Fo 130 "SignatureForest" "madeCount" "I" ∈ BG := bg1 (i := 142) rfl rfl
theorem b_302 : Cond.fieldLink R_Fo 54 "SignatureForest" "made" "[LSignatureForest$Signature;" ∈ BG := bg1 (i := 141) rfl rfl
theorem b_303 : Cond.code y_Fo_find cc_Fo_find 2 (some (.object "SignatureForest$Signature")) ∈ BG := bg2 (i := 149) rfl rfl
theorem b_304 : Cond.methodLink R_Fo 73 y_Fo_find ∈ BG := bg2 (i := 146) rfl rfl
theorem b_305 : Cond.instanceMethod y_Fo_find ∈ BG := bg2 (i := 148) rfl rfl
theorem b_306 : Cond.selects R_Fo y_Fo_find y_Fo_find ∈ BG := bgp (i := 10) rfl rfl
theorem b_307 : Cond.methodLink R_Fo 158 y_Sg_roleAt ∈ BG := bg3 (i := 20) rfl rfl
theorem b_308 : Cond.fieldLink R_Fo 45 "SignatureForest" "eraser" "LSignatureForest$Eraser;" ∈ BG := bg1 (i := 139) rfl rfl
theorem b_309 : Cond.code y_Er_erase cc_Er_erase 12 none ∈ BG := bg3 (i := 26) rfl rfl
theorem b_310 : Cond.methodLink R_Fo 169 y_Er_erase ∈ BG := bg3 (i := 23) rfl rfl
theorem b_311 : Cond.instanceMethod y_Er_erase ∈ BG := bg3 (i := 24) rfl rfl
theorem b_312 : Cond.selects R_Er y_Er_erase y_Er_erase ∈ BG := bg3 (i := 25) rfl rfl
theorem b_313 : Cond.fieldLink R_Fo 31 "SignatureForest" "seeker" "LSignatureForest$Seeker;" ∈ BG := bg1 (i := 137) rfl rfl
theorem b_314 : Cond.code y_Sk_passRow cc_Sk_passRow 4 none ∈ BG := bg2 (i := 169) rfl rfl
theorem b_315 : Cond.methodLink R_Fo 143 y_Sk_passRow ∈ BG := bg2 (i := 166) rfl rfl
theorem b_316 : Cond.instanceMethod y_Sk_passRow ∈ BG := bg2 (i := 167) rfl rfl
theorem b_317 : Cond.selects R_Sk y_Sk_passRow y_Sk_passRow ∈ BG := bg2 (i := 168) rfl rfl
theorem b_318 : Cond.methodLink R_Fo 177 y_Sg_behindType ∈ BG := bg3 (i := 82) rfl rfl
theorem b_319 : Cond.methodLink R_Fo 165 y_Sk_pass ∈ BG := bg3 (i := 22) rfl rfl
theorem b_320 : Cond.code y_Sk_start cc_Sk_start 2 none ∈ BG := bg2 (i := 165) rfl rfl
theorem b_321 : Cond.methodLink R_Fo 136 y_Sk_start ∈ BG := bg2 (i := 162) rfl rfl
theorem b_322 : Cond.instanceMethod y_Sk_start ∈ BG := bg2 (i := 163) rfl rfl
theorem b_323 : Cond.selects R_Sk y_Sk_start y_Sk_start ∈ BG := bg2 (i := 164) rfl rfl
theorem b_324 : Cond.fieldLink R_Fo 38 "SignatureForest" "shower" "LSignatureForest$Shower;" ∈ BG := bg1 (i := 138) rfl rfl
theorem b_325 : Cond.code y_Sh_show cc_Sh_show 5 none ∈ BG := bg2 (i := 173) rfl rfl
theorem b_326 : Cond.methodLink R_Fo 147 y_Sh_show ∈ BG := bg2 (i := 170) rfl rfl
theorem b_327 : Cond.instanceMethod y_Sh_show ∈ BG := bg2 (i := 171) rfl rfl
theorem b_328 : Cond.selects R_Sh y_Sh_show y_Sh_show ∈ BG := bg2 (i := 172) rfl rfl
theorem b_329 : Cond.code y_Fo_passErased cc_Fo_passErased 6 none ∈ BG := bg3 (i := 19) rfl rfl
theorem b_330 : Cond.methodLink R_Fo 151 y_Fo_passErased ∈ BG := bg3 (i := 16) rfl rfl
theorem b_331 : Cond.instanceMethod y_Fo_passErased ∈ BG := bg3 (i := 18) rfl rfl
theorem b_332 : Cond.selects R_Fo y_Fo_passErased y_Fo_passErased ∈ BG := bgp (i := 17) rfl rfl
theorem b_333 : Cond.code y_Fo_seek cc_Fo_seek 4 (some .boolean) ∈ BG := bg2 (i := 161) rfl rfl
theorem b_334 : Cond.methodLink R_Fo 83 y_Fo_seek ∈ BG := bg2 (i := 158) rfl rfl
theorem b_335 : Cond.instanceMethod y_Fo_seek ∈ BG := bg2 (i := 160) rfl rfl
theorem b_336 : Cond.selects R_Fo y_Fo_seek y_Fo_seek ∈ BG := bgp (i := 11) rfl rfl
theorem b_337 : Cond.methodLink R_Fo 104 y_Sg_hasParameter ∈ BG := bg3 (i := 125) rfl rfl
theorem b_338 : Cond.code y_Sg_boundCount cc_Sg_boundCount 6 (some .int) ∈ BG := bg3 (i := 150) rfl rfl
theorem b_339 : Cond.methodLink R_Fo 112 y_Sg_boundCount ∈ BG := bg3 (i := 147) rfl rfl
theorem b_340 : Cond.instanceMethod y_Sg_boundCount ∈ BG := bg3 (i := 148) rfl rfl
theorem b_341 : Cond.selects R_Sg y_Sg_boundCount y_Sg_boundCount ∈ BG := bg3 (i := 149) rfl rfl
theorem b_342 : Cond.methodLink R_Fo 207 y_Sg_parameterNamed ∈ BG := bg3 (i := 160) rfl rfl
theorem b_343 : Cond.code y_Sg_classCount cc_Sg_classCount 3 (some .int) ∈ BG := bg3 (i := 164) rfl rfl
theorem b_344 : Cond.methodLink R_Fo 120 y_Sg_classCount ∈ BG := bg3 (i := 161) rfl rfl
theorem b_345 : Cond.instanceMethod y_Sg_classCount ∈ BG := bg3 (i := 162) rfl rfl
theorem b_346 : Cond.selects R_Sg y_Sg_classCount y_Sg_classCount ∈ BG := bg3 (i := 163) rfl rfl
theorem b_347 : Cond.code y_Sg_argumentDepth cc_Sg_argumentDepth 5 (some .int) ∈ BG := bg3 (i := 168) rfl rfl
theorem b_348 : Cond.methodLink R_Fo 124 y_Sg_argumentDepth ∈ BG := bg3 (i := 165) rfl rfl
theorem b_349 : Cond.instanceMethod y_Sg_argumentDepth ∈ BG := bg3 (i := 166) rfl rfl
theorem b_350 : Cond.selects R_Sg y_Sg_argumentDepth y_Sg_argumentDepth ∈ BG := bg3 (i := 167) rfl rfl
theorem b_351 : Cond.code y_Sg_longestBrackets cc_Sg_longestBrackets 4 (some .int) ∈ BG := bg3 (i := 173) rfl rfl
theorem b_352 : Cond.methodLink R_Fo 127 y_Sg_longestBrackets ∈ BG := bg3 (i := 170) rfl rfl
theorem b_353 : Cond.instanceMethod y_Sg_longestBrackets ∈ BG := bg3 (i := 171) rfl rfl
theorem b_354 : Cond.selects R_Sg y_Sg_longestBrackets y_Sg_longestBrackets ∈ BG := bg3 (i := 172) rfl rfl
theorem b_355 : Cond.code y_Fo_variablesDeclared cc_Fo_variablesDeclared 7 (some .int) ∈ BG := bg3 (i := 159) rfl rfl
theorem b_356 : Cond.methodLink R_Fo 116 y_Fo_variablesDeclared ∈ BG := bg3 (i := 156) rfl rfl
theorem b_357 : Cond.instanceMethod y_Fo_variablesDeclared ∈ BG := bg3 (i := 158) rfl rfl
theorem b_358 : Cond.selects R_Fo y_Fo_variablesDeclared y_Fo_variablesDeclared ∈ BG := bgp (i := 23) rfl rfl
theorem b_359 : Cond.code y_Fo_becomes cc_Fo_becomes 8 (some .boolean) ∈ BG := bg3 (i := 93) rfl rfl
theorem b_360 : Cond.methodLink R_Fo 97 y_Fo_becomes ∈ BG := bg3 (i := 91) rfl rfl
theorem b_361 : Cond.static y_Fo_becomes ∈ BG := bg3 (i := 92) rfl rfl
theorem b_362 : Cond.fieldLink R_Fo 49 "SignatureForest" "otherEraser" "LSignatureForest$Eraser;" ∈ BG := bg1 (i := 140) rfl rfl
theorem b_363 : Cond.code y_Rw_holdsSameAs cc_Rw_holdsSameAs 3 (some .boolean) ∈ BG := bg3 (i := 120) rfl rfl
theorem b_364 : Cond.methodLink R_Fo 196 y_Rw_holdsSameAs ∈ BG := bg3 (i := 117) rfl rfl
theorem b_365 : Cond.instanceMethod y_Rw_holdsSameAs ∈ BG := bg3 (i := 118) rfl rfl
theorem b_366 : Cond.selects R_Rw y_Rw_holdsSameAs y_Rw_holdsSameAs ∈ BG := bg3 (i := 119) rfl rfl
theorem b_367 : Cond.code y_Fo_sameErasedTypes cc_Fo_sameErasedTypes 10 (some .boolean) ∈ BG := bg3 (i := 116) rfl rfl
theorem b_368 : Cond.methodLink R_Fo 101 y_Fo_sameErasedTypes ∈ BG := bg3 (i := 113) rfl rfl
theorem b_369 : Cond.instanceMethod y_Fo_sameErasedTypes ∈ BG := bg3 (i := 115) rfl rfl
theorem b_370 : Cond.selects R_Fo y_Fo_sameErasedTypes y_Fo_sameErasedTypes ∈ BG := bgp (i := 21) rfl rfl
theorem b_371 : Cond.fieldLink R_Fo 14 "SignatureForest" "line" "LSignatureForest$Row;" ∈ BG := bg1 (i := 134) rfl rfl
theorem b_372 : Cond.methodLink R_Fo 58 y_Rw_add ∈ BG := bg1 (i := 166) rfl rfl
theorem b_373 : Cond.methodLink R_Fo 200 y_Sg_parameterEnd ∈ BG := bg3 (i := 130) rfl rfl
theorem b_374 : Cond.fieldLink R_Fo 18 "SignatureForest" "draft" "LSignatureForest$Row;" ∈ BG := bg1 (i := 135) rfl rfl
theorem b_375 : Cond.code y_Rw_addAll cc_Rw_addAll 2 (some .boolean) ∈ BG := bg3 (i := 137) rfl rfl
theorem b_376 : Cond.methodLink R_Fo 203 y_Rw_addAll ∈ BG := bg3 (i := 134) rfl rfl
theorem b_377 : Cond.instanceMethod y_Rw_addAll ∈ BG := bg3 (i := 135) rfl rfl
theorem b_378 : Cond.selects R_Rw y_Rw_addAll y_Rw_addAll ∈ BG := bg3 (i := 136) rfl rfl
theorem b_379 : Cond.classLink R_Fo 52 R_Sg ∈ BG := bg1 (i := 132) rfl rfl
theorem b_380 : Cond.instantiable R_Sg 7 ∈ BG := bg2 (i := 103) rfl rfl
theorem b_381 : Cond.fieldLink R_Fo 24 "SignatureForest" "reader" "LSignatureForest$Reader;" ∈ BG := bg1 (i := 136) rfl rfl
theorem b_382 : Cond.code y_Sg_init cc_Sg_init 6 none ∈ BG := bg2 (i := 106) rfl rfl
theorem b_383 : Cond.methodLink R_Fo 133 y_Sg_init ∈ BG := bg2 (i := 104) rfl rfl
theorem b_384 : Cond.instanceMethod y_Sg_init ∈ BG := bg2 (i := 105) rfl rfl
theorem b_385 : Cond.code y_Rd_faultOf cc_Rd_faultOf 5 (some .int) ∈ BG := bg1 (i := 181) rfl rfl
theorem b_386 : Cond.methodLink R_Fo 66 y_Rd_faultOf ∈ BG := bg1 (i := 178) rfl rfl
theorem b_387 : Cond.instanceMethod y_Rd_faultOf ∈ BG := bg1 (i := 179) rfl rfl
theorem b_388 : Cond.selects R_Rd y_Rd_faultOf y_Rd_faultOf ∈ BG := bg1 (i := 180) rfl rfl
theorem b_389 : Cond.code y_Fo_keep cc_Fo_keep 3 (some .int) ∈ BG := bg2 (i := 102) rfl rfl
theorem b_390 : Cond.methodLink R_Fo 70 y_Fo_keep ∈ BG := bg2 (i := 99) rfl rfl
theorem b_391 : Cond.instanceMethod y_Fo_keep ∈ BG := bg2 (i := 101) rfl rfl
theorem b_392 : Cond.selects R_Fo y_Fo_keep y_Fo_keep ∈ BG := bgp (i := 9) rfl rfl
theorem b_393 : Cond.code y_Fo_writeFilled cc_Fo_writeFilled 10 (some .boolean) ∈ BG := bg3 (i := 129) rfl rfl
theorem b_394 : Cond.methodLink R_Fo 108 y_Fo_writeFilled ∈ BG := bg3 (i := 126) rfl rfl
theorem b_395 : Cond.instanceMethod y_Fo_writeFilled ∈ BG := bg3 (i := 128) rfl rfl
theorem b_396 : Cond.selects R_Fo y_Fo_writeFilled y_Fo_writeFilled ∈ BG := bgp (i := 22) rfl rfl
theorem b_397 : Cond.methodLink R_Fo 1 objectInit ∈ BG := bg1 (i := 21) rfl rfl
theorem b_398 : Cond.classLink R_Fo 7 R_Rw ∈ BG := bg1 (i := 24) rfl rfl
theorem b_399 : Cond.methodLink R_Fo 11 y_Rw_init ∈ BG := bg1 (i := 26) rfl rfl
theorem b_400 : Cond.classLink R_Fo 21 R_Rd ∈ BG := bg1 (i := 45) rfl rfl
theorem b_401 : Cond.instantiable R_Rd 8 ∈ BG := bg1 (i := 46) rfl rfl
theorem b_402 : Cond.code y_Rd_init cc_Rd_init 1 none ∈ BG := bg1 (i := 49) rfl rfl
theorem b_403 : Cond.methodLink R_Fo 23 y_Rd_init ∈ BG := bg1 (i := 47) rfl rfl
theorem b_404 : Cond.instanceMethod y_Rd_init ∈ BG := bg1 (i := 48) rfl rfl
theorem b_405 : Cond.classLink R_Fo 28 R_Sk ∈ BG := bg1 (i := 82) rfl rfl
theorem b_406 : Cond.instantiable R_Sk 3 ∈ BG := bg1 (i := 83) rfl rfl
theorem b_407 : Cond.code y_Sk_init cc_Sk_init 1 none ∈ BG := bg1 (i := 86) rfl rfl
theorem b_408 : Cond.instanceMethod y_Sk_init ∈ BG := bg1 (i := 85) rfl rfl
theorem b_409 : Cond.classLink R_Fo 35 R_Sh ∈ BG := bg1 (i := 100) rfl rfl
theorem b_410 : Cond.instantiable R_Sh 4 ∈ BG := bg1 (i := 101) rfl rfl
theorem b_411 : Cond.code y_Sh_init cc_Sh_init 1 none ∈ BG := bg1 (i := 104) rfl rfl
theorem b_412 : Cond.methodLink R_Fo 37 y_Sh_init ∈ BG := bg1 (i := 102) rfl rfl
theorem b_413 : Cond.instanceMethod y_Sh_init ∈ BG := bg1 (i := 103) rfl rfl
theorem b_414 : Cond.classLink R_Fo 42 R_Er ∈ BG := bg1 (i := 119) rfl rfl
theorem b_415 : Cond.instantiable R_Er 1 ∈ BG := bg1 (i := 120) rfl rfl
theorem b_416 : Cond.code y_Er_init cc_Er_init 1 none ∈ BG := bg1 (i := 123) rfl rfl
theorem b_417 : Cond.methodLink R_Fo 44 y_Er_init ∈ BG := bg1 (i := 121) rfl rfl
theorem b_418 : Cond.instanceMethod y_Er_init ∈ BG := bg1 (i := 122) rfl rfl
theorem b_419 : Cond.fieldLink R_Mo 56 "SignatureForestModel" "length" "I" ∈ BG := bg3 (i := 185) rfl rfl
theorem b_420 : Cond.fieldLink R_Mo 7 "SignatureForestModel" "line" "[I" ∈ BG := bg3 (i := 184) rfl rfl
theorem b_421 : Cond.fieldLink R_Mo 13 "SignatureForestModel" "text" "[I" ∈ BG := bg3 (i := 186) rfl rfl
theorem b_422 : Cond.fieldLink R_Mo 43 "SignatureForestModel" "state" "[I" ∈ BG := bg3 (i := 197) rfl rfl
theorem b_423 : Cond.fieldLink R_Mo 60 "SignatureForestModel" "top" "I" ∈ BG := bg3 (i := 198) rfl rfl
theorem b_424 : Cond.code y_Mo_base cc_Mo_base 1 (some .boolean) ∈ BG := bg4 (i := 42) rfl rfl
theorem b_425 : Cond.methodLink R_Mo 94 y_Mo_base ∈ BG := bg4 (i := 40) rfl rfl
theorem b_426 : Cond.static y_Mo_base ∈ BG := bg4 (i := 41) rfl rfl
theorem b_427 : Cond.initialized R_Mo ∈ BG := bg1 (i := 7) rfl rfl
theorem b_428 : Cond.code y_Mo_pop cc_Mo_pop 2 (some .int) ∈ BG := bg4 (i := 46) rfl rfl
theorem b_429 : Cond.methodLink R_Mo 80 y_Mo_pop ∈ BG := bg4 (i := 43) rfl rfl
theorem b_430 : Cond.instanceMethod y_Mo_pop ∈ BG := bg4 (i := 45) rfl rfl
theorem b_431 : Cond.selects R_Mo y_Mo_pop y_Mo_pop ∈ BG := bgp (i := 28) rfl rfl
theorem b_432 : Cond.code y_Mo_go cc_Mo_go 3 (some .int) ∈ BG := bg4 (i := 50) rfl rfl
theorem b_433 : Cond.methodLink R_Mo 77 y_Mo_go ∈ BG := bg4 (i := 47) rfl rfl
theorem b_434 : Cond.instanceMethod y_Mo_go ∈ BG := bg4 (i := 49) rfl rfl
theorem b_435 : Cond.selects R_Mo y_Mo_go y_Mo_go ∈ BG := bgp (i := 29) rfl rfl
theorem b_436 : Cond.code y_Mo_push cc_Mo_push 4 (some .int) ∈ BG := bg4 (i := 61) rfl rfl
theorem b_437 : Cond.methodLink R_Mo 88 y_Mo_push ∈ BG := bg4 (i := 58) rfl rfl
theorem b_438 : Cond.instanceMethod y_Mo_push ∈ BG := bg4 (i := 60) rfl rfl
theorem b_439 : Cond.selects R_Mo y_Mo_push y_Mo_push ∈ BG := bgp (i := 31) rfl rfl
theorem b_440 : Cond.code y_Mo_start cc_Mo_start 3 (some .int) ∈ BG := bg4 (i := 39) rfl rfl
theorem b_441 : Cond.methodLink R_Mo 63 y_Mo_start ∈ BG := bg4 (i := 36) rfl rfl
theorem b_442 : Cond.instanceMethod y_Mo_start ∈ BG := bg4 (i := 38) rfl rfl
theorem b_443 : Cond.selects R_Mo y_Mo_start y_Mo_start ∈ BG := bgp (i := 27) rfl rfl
theorem b_444 : Cond.code y_Mo_inner cc_Mo_inner 5 (some .int) ∈ BG := bg4 (i := 69) rfl rfl
theorem b_445 : Cond.methodLink R_Mo 91 y_Mo_inner ∈ BG := bg4 (i := 66) rfl rfl
theorem b_446 : Cond.instanceMethod y_Mo_inner ∈ BG := bg4 (i := 68) rfl rfl
theorem b_447 : Cond.selects R_Mo y_Mo_inner y_Mo_inner ∈ BG := bgp (i := 33) rfl rfl
theorem b_448 : Cond.code y_Mo_name cc_Mo_name 1 (some .boolean) ∈ BG := bg4 (i := 57) rfl rfl
theorem b_449 : Cond.methodLink R_Mo 73 y_Mo_name ∈ BG := bg4 (i := 55) rfl rfl
theorem b_450 : Cond.static y_Mo_name ∈ BG := bg4 (i := 56) rfl rfl
theorem b_451 : Cond.code y_Mo_at cc_Mo_at 3 (some .int) ∈ BG := bg4 (i := 31) rfl rfl
theorem b_452 : Cond.methodLink R_Mo 100 y_Mo_at ∈ BG := bg4 (i := 28) rfl rfl
theorem b_453 : Cond.instanceMethod y_Mo_at ∈ BG := bg4 (i := 30) rfl rfl
theorem b_454 : Cond.selects R_Mo y_Mo_at y_Mo_at ∈ BG := bgp (i := 25) rfl rfl
theorem b_455 : Cond.fieldLink R_Mo 40 "SignatureForestModel" "params" "[I" ∈ BG := bg3 (i := 195) rfl rfl
theorem b_456 : Cond.fieldLink R_Mo 28 "SignatureForestModel" "pFrom" "[I" ∈ BG := bg3 (i := 191) rfl rfl
theorem b_457 : Cond.fieldLink R_Mo 31 "SignatureForestModel" "pTo" "[I" ∈ BG := bg3 (i := 192) rfl rfl
theorem b_458 : Cond.code y_Mo_alikeNames cc_Mo_alikeNames 8 (some .boolean) ∈ BG := bg4 (i := 81) rfl rfl
theorem b_459 : Cond.methodLink R_Mo 103 y_Mo_alikeNames ∈ BG := bg4 (i := 78) rfl rfl
theorem b_460 : Cond.instanceMethod y_Mo_alikeNames ∈ BG := bg4 (i := 80) rfl rfl
theorem b_461 : Cond.selects R_Mo y_Mo_alikeNames y_Mo_alikeNames ∈ BG := bgp (i := 36) rfl rfl
theorem b_462 : Cond.code y_Mo_twice cc_Mo_twice 4 (some .boolean) ∈ BG := bg4 (i := 77) rfl rfl
theorem b_463 : Cond.methodLink R_Mo 97 y_Mo_twice ∈ BG := bg4 (i := 74) rfl rfl
theorem b_464 : Cond.instanceMethod y_Mo_twice ∈ BG := bg4 (i := 76) rfl rfl
theorem b_465 : Cond.selects R_Mo y_Mo_twice y_Mo_twice ∈ BG := bgp (i := 35) rfl rfl
theorem b_466 : Cond.code y_Mo_inParameters cc_Mo_inParameters 4 (some .int) ∈ BG := bg4 (i := 73) rfl rfl
theorem b_467 : Cond.methodLink R_Mo 84 y_Mo_inParameters ∈ BG := bg4 (i := 70) rfl rfl
theorem b_468 : Cond.instanceMethod y_Mo_inParameters ∈ BG := bg4 (i := 72) rfl rfl
theorem b_469 : Cond.selects R_Mo y_Mo_inParameters y_Mo_inParameters ∈ BG := bgp (i := 34) rfl rfl
theorem b_470 : Cond.code y_Mo_inArguments cc_Mo_inArguments 3 (some .int) ∈ BG := bg4 (i := 65) rfl rfl
theorem b_471 : Cond.methodLink R_Mo 70 y_Mo_inArguments ∈ BG := bg4 (i := 62) rfl rfl
theorem b_472 : Cond.instanceMethod y_Mo_inArguments ∈ BG := bg4 (i := 64) rfl rfl
theorem b_473 : Cond.selects R_Mo y_Mo_inArguments y_Mo_inArguments ∈ BG := bgp (i := 32) rfl rfl
theorem b_474 : Cond.code y_Mo_inClass cc_Mo_inClass 4 (some .int) ∈ BG := bg4 (i := 54) rfl rfl
theorem b_475 : Cond.methodLink R_Mo 67 y_Mo_inClass ∈ BG := bg4 (i := 51) rfl rfl
theorem b_476 : Cond.instanceMethod y_Mo_inClass ∈ BG := bg4 (i := 53) rfl rfl
theorem b_477 : Cond.selects R_Mo y_Mo_inClass y_Mo_inClass ∈ BG := bgp (i := 30) rfl rfl
theorem b_478 : Cond.fieldLink R_Mo 22 "SignatureForestModel" "kind" "[I" ∈ BG := bg3 (i := 189) rfl rfl
theorem b_479 : Cond.fieldLink R_Mo 19 "SignatureForestModel" "size" "[I" ∈ BG := bg3 (i := 188) rfl rfl
theorem b_480 : Cond.code y_Mo_step cc_Mo_step 4 (some .int) ∈ BG := bg4 (i := 35) rfl rfl
theorem b_481 : Cond.methodLink R_Mo 107 y_Mo_step ∈ BG := bg4 (i := 32) rfl rfl
theorem b_482 : Cond.instanceMethod y_Mo_step ∈ BG := bg4 (i := 34) rfl rfl
theorem b_483 : Cond.selects R_Mo y_Mo_step y_Mo_step ∈ BG := bgp (i := 26) rfl rfl
theorem b_484 : Cond.fieldLink R_Mo 16 "SignatureForestModel" "role" "[I" ∈ BG := bg3 (i := 187) rfl rfl
theorem b_485 : Cond.fieldLink R_Mo 34 "SignatureForestModel" "pBound" "[I" ∈ BG := bg3 (i := 193) rfl rfl
theorem b_486 : Cond.fieldLink R_Mo 37 "SignatureForestModel" "pBounds" "[I" ∈ BG := bg3 (i := 194) rfl rfl
theorem b_487 : Cond.fieldLink R_Mo 110 "SignatureForestModel" "made" "I" ∈ BG := bg3 (i := 196) rfl rfl
theorem b_488 : Cond.code y_Mo_judge cc_Mo_judge 8 (some .int) ∈ BG := bg4 (i := 27) rfl rfl
theorem b_489 : Cond.methodLink R_Mo 113 y_Mo_judge ∈ BG := bg4 (i := 24) rfl rfl
theorem b_490 : Cond.instanceMethod y_Mo_judge ∈ BG := bg4 (i := 26) rfl rfl
theorem b_491 : Cond.selects R_Mo y_Mo_judge y_Mo_judge ∈ BG := bgp (i := 24) rfl rfl
theorem b_492 : Cond.fieldLink R_Mo 25 "SignatureForestModel" "scope" "[I" ∈ BG := bg3 (i := 190) rfl rfl
theorem b_493 : Cond.code y_Mo_no cc_Mo_no 2 (some .boolean) ∈ BG := bg4 (i := 89) rfl rfl
theorem b_494 : Cond.methodLink R_Mo 116 y_Mo_no ∈ BG := bg4 (i := 86) rfl rfl
theorem b_495 : Cond.instanceMethod y_Mo_no ∈ BG := bg4 (i := 88) rfl rfl
theorem b_496 : Cond.selects R_Mo y_Mo_no y_Mo_no ∈ BG := bgp (i := 37) rfl rfl
theorem b_497 : Cond.code y_Mo_roleAt cc_Mo_roleAt 3 (some .int) ∈ BG := bg4 (i := 109) rfl rfl
theorem b_498 : Cond.methodLink R_Mo 119 y_Mo_roleAt ∈ BG := bg4 (i := 106) rfl rfl
theorem b_499 : Cond.instanceMethod y_Mo_roleAt ∈ BG := bg4 (i := 108) rfl rfl
theorem b_500 : Cond.selects R_Mo y_Mo_roleAt y_Mo_roleAt ∈ BG := bgp (i := 40) rfl rfl
theorem b_501 : Cond.code y_Mo_nameEnd cc_Mo_nameEnd 4 (some .int) ∈ BG := bg4 (i := 162) rfl rfl
theorem b_502 : Cond.methodLink R_Mo 122 y_Mo_nameEnd ∈ BG := bg4 (i := 159) rfl rfl
theorem b_503 : Cond.instanceMethod y_Mo_nameEnd ∈ BG := bg4 (i := 161) rfl rfl
theorem b_504 : Cond.selects R_Mo y_Mo_nameEnd y_Mo_nameEnd ∈ BG := bgp (i := 50) rfl rfl
theorem b_505 : Cond.fieldLink R_Mo 46 "SignatureForestModel" "out" "[I" ∈ BG := bg3 (i := 199) rfl rfl
theorem b_506 : Cond.fieldLink R_Mo 128 "SignatureForestModel" "written" "I" ∈ BG := bg3 (i := 200) rfl rfl
theorem b_507 : Cond.constantLong R_Mo 131 128 ∈ BG := bg4 (i := 133) rfl rfl
theorem b_508 : Cond.code y_Mo_put cc_Mo_put 2 none ∈ BG := bg4 (i := 117) rfl rfl
theorem b_509 : Cond.methodLink R_Mo 133 y_Mo_put ∈ BG := bg4 (i := 114) rfl rfl
theorem b_510 : Cond.instanceMethod y_Mo_put ∈ BG := bg4 (i := 116) rfl rfl
theorem b_511 : Cond.selects R_Mo y_Mo_put y_Mo_put ∈ BG := bgp (i := 42) rfl rfl
theorem b_512 : Cond.fieldLink R_Mo 170 "SignatureForestModel" "sig" "I" ∈ BG := bg3 (i := 203) rfl rfl
theorem b_513 : Cond.fieldLink R_Mo 173 "SignatureForestModel" "spot" "I" ∈ BG := bg3 (i := 204) rfl rfl
theorem b_514 : Cond.code y_Mo_param cc_Mo_param 6 (some .int) ∈ BG := bg4 (i := 158) rfl rfl
theorem b_515 : Cond.methodLink R_Mo 125 y_Mo_param ∈ BG := bg4 (i := 155) rfl rfl
theorem b_516 : Cond.instanceMethod y_Mo_param ∈ BG := bg4 (i := 157) rfl rfl
theorem b_517 : Cond.selects R_Mo y_Mo_param y_Mo_param ∈ BG := bgp (i := 49) rfl rfl
theorem b_518 : Cond.fieldLink R_Mo 176 "SignatureForestModel" "inScope" "Z" ∈ BG := bg3 (i := 205) rfl rfl
theorem b_519 : Cond.fieldLink R_Mo 52 "SignatureForestModel" "met" "[Z" ∈ BG := bg3 (i := 202) rfl rfl
theorem b_520 : Cond.constantLong R_Mo 180 43253754164409953 ∈ BG := bg4 (i := 163) rfl rfl
theorem b_521 : Cond.code y_Mo_word cc_Mo_word 5 none ∈ BG := bg4 (i := 132) rfl rfl
theorem b_522 : Cond.methodLink R_Mo 161 y_Mo_word ∈ BG := bg4 (i := 129) rfl rfl
theorem b_523 : Cond.instanceMethod y_Mo_word ∈ BG := bg4 (i := 131) rfl rfl
theorem b_524 : Cond.selects R_Mo y_Mo_word y_Mo_word ∈ BG := bgp (i := 43) rfl rfl
theorem b_525 : Cond.constantLong R_Mo 182 62379129988362979 ∈ BG := bg4 (i := 164) rfl rfl
theorem b_526 : Cond.constantLong R_Mo 184 14907 ∈ BG := bg4 (i := 165) rfl rfl
theorem b_527 : Cond.code y_Mo_resolve cc_Mo_resolve 3 (some .boolean) ∈ BG := bg4 (i := 154) rfl rfl
theorem b_528 : Cond.methodLink R_Mo 186 y_Mo_resolve ∈ BG := bg4 (i := 151) rfl rfl
theorem b_529 : Cond.instanceMethod y_Mo_resolve ∈ BG := bg4 (i := 153) rfl rfl
theorem b_530 : Cond.selects R_Mo y_Mo_resolve y_Mo_resolve ∈ BG := bgp (i := 48) rfl rfl
theorem b_531 : Cond.code y_Mo_bodyStart cc_Mo_bodyStart 3 (some .int) ∈ BG := bg4 (i := 146) rfl rfl
theorem b_532 : Cond.methodLink R_Mo 190 y_Mo_bodyStart ∈ BG := bg4 (i := 143) rfl rfl
theorem b_533 : Cond.instanceMethod y_Mo_bodyStart ∈ BG := bg4 (i := 145) rfl rfl
theorem b_534 : Cond.selects R_Mo y_Mo_bodyStart y_Mo_bodyStart ∈ BG := bgp (i := 46) rfl rfl
theorem b_535 : Cond.code y_Mo_erase cc_Mo_erase 6 none ∈ BG := bg4 (i := 150) rfl rfl
theorem b_536 : Cond.methodLink R_Mo 193 y_Mo_erase ∈ BG := bg4 (i := 147) rfl rfl
theorem b_537 : Cond.instanceMethod y_Mo_erase ∈ BG := bg4 (i := 149) rfl rfl
theorem b_538 : Cond.selects R_Mo y_Mo_erase y_Mo_erase ∈ BG := bgp (i := 47) rfl rfl
theorem b_539 : Cond.code y_Mo_behind cc_Mo_behind 6 (some .int) ∈ BG := bg4 (i := 169) rfl rfl
theorem b_540 : Cond.methodLink R_Mo 197 y_Mo_behind ∈ BG := bg4 (i := 166) rfl rfl
theorem b_541 : Cond.instanceMethod y_Mo_behind ∈ BG := bg4 (i := 168) rfl rfl
theorem b_542 : Cond.selects R_Mo y_Mo_behind y_Mo_behind ∈ BG := bgp (i := 51) rfl rfl
theorem b_543 : Cond.constantLong R_Mo 137 207518309 ∈ BG := bg4 (i := 121) rfl rfl
theorem b_544 : Cond.constantLong R_Mo 139 209334514 ∈ BG := bg4 (i := 122) rfl rfl
theorem b_545 : Cond.constantLong R_Mo 141 3466017158757 ∈ BG := bg4 (i := 123) rfl rfl
theorem b_546 : Cond.constantLong R_Mo 143 27608740084 ∈ BG := bg4 (i := 124) rfl rfl
theorem b_547 : Cond.constantLong R_Mo 145 1734516 ∈ BG := bg4 (i := 125) rfl rfl
theorem b_548 : Cond.constantLong R_Mo 147 228325223 ∈ BG := bg4 (i := 126) rfl rfl
theorem b_549 : Cond.constantLong R_Mo 149 31090014580 ∈ BG := bg4 (i := 127) rfl rfl
theorem b_550 : Cond.constantLong R_Mo 151 434852513542382 ∈ BG := bg4 (i := 128) rfl rfl
theorem b_551 : Cond.code y_Mo_part cc_Mo_part 8 none ∈ BG := bg4 (i := 113) rfl rfl
theorem b_552 : Cond.methodLink R_Mo 153 y_Mo_part ∈ BG := bg4 (i := 110) rfl rfl
theorem b_553 : Cond.instanceMethod y_Mo_part ∈ BG := bg4 (i := 112) rfl rfl
theorem b_554 : Cond.selects R_Mo y_Mo_part y_Mo_part ∈ BG := bgp (i := 41) rfl rfl
theorem b_555 : Cond.constantLong R_Mo 168 249296100 ∈ BG := bg4 (i := 138) rfl rfl
theorem b_556 : Cond.code y_Mo_baseWord cc_Mo_baseWord 1 (some .long) ∈ BG := bg4 (i := 120) rfl rfl
theorem b_557 : Cond.methodLink R_Mo 157 y_Mo_baseWord ∈ BG := bg4 (i := 118) rfl rfl
theorem b_558 : Cond.static y_Mo_baseWord ∈ BG := bg4 (i := 119) rfl rfl
theorem b_559 : Cond.code y_Mo_brackets cc_Mo_brackets 3 none ∈ BG := bg4 (i := 137) rfl rfl
theorem b_560 : Cond.methodLink R_Mo 165 y_Mo_brackets ∈ BG := bg4 (i := 134) rfl rfl
theorem b_561 : Cond.instanceMethod y_Mo_brackets ∈ BG := bg4 (i := 136) rfl rfl
theorem b_562 : Cond.selects R_Mo y_Mo_brackets y_Mo_brackets ∈ BG := bgp (i := 44) rfl rfl
theorem b_563 : Cond.code y_Mo_eraseAll cc_Mo_eraseAll 5 none ∈ BG := bg4 (i := 142) rfl rfl
theorem b_564 : Cond.methodLink R_Mo 203 y_Mo_eraseAll ∈ BG := bg4 (i := 139) rfl rfl
theorem b_565 : Cond.instanceMethod y_Mo_eraseAll ∈ BG := bg4 (i := 141) rfl rfl
theorem b_566 : Cond.selects R_Mo y_Mo_eraseAll y_Mo_eraseAll ∈ BG := bgp (i := 45) rfl rfl
theorem b_567 : Cond.code y_Mo_show cc_Mo_show 12 none ∈ BG := bg4 (i := 105) rfl rfl
theorem b_568 : Cond.methodLink R_Mo 200 y_Mo_show ∈ BG := bg4 (i := 102) rfl rfl
theorem b_569 : Cond.instanceMethod y_Mo_show ∈ BG := bg4 (i := 104) rfl rfl
theorem b_570 : Cond.selects R_Mo y_Mo_show y_Mo_show ∈ BG := bgp (i := 39) rfl rfl
theorem b_571 : Cond.code y_Mo_make cc_Mo_make 4 (some .boolean) ∈ BG := bg4 (i := 101) rfl rfl
theorem b_572 : Cond.methodLink R_Mo 207 y_Mo_make ∈ BG := bg4 (i := 98) rfl rfl
theorem b_573 : Cond.instanceMethod y_Mo_make ∈ BG := bg4 (i := 100) rfl rfl
theorem b_574 : Cond.selects R_Mo y_Mo_make y_Mo_make ∈ BG := bgp (i := 38) rfl rfl
theorem b_575 : Cond.code y_Mo_own cc_Mo_own 3 (some .boolean) ∈ BG := bg4 (i := 181) rfl rfl
theorem b_576 : Cond.methodLink R_Mo 211 y_Mo_own ∈ BG := bg4 (i := 178) rfl rfl
theorem b_577 : Cond.instanceMethod y_Mo_own ∈ BG := bg4 (i := 180) rfl rfl
theorem b_578 : Cond.selects R_Mo y_Mo_own y_Mo_own ∈ BG := bgp (i := 52) rfl rfl
theorem b_579 : Cond.fieldLink R_Mo 49 "SignatureForestModel" "other" "[I" ∈ BG := bg3 (i := 201) rfl rfl
theorem b_580 : Cond.methodLink R_Mo 1 objectInit ∈ BG := bg3 (i := 183) rfl rfl
theorem b_581 : Cond.arrayClass .boolean ∈ BG := bg4 (i := 11) rfl rfl
theorem b_582 : Cond.laysFinal "SignatureForest$Eraser" "SignatureForest$Eraser" "erased" "LSignatureForest$Row;" ∈ BG := bg1 (i := 129) rfl rfl
theorem b_583 : Cond.laysFinal "SignatureForest$Reader" "SignatureForest$Reader" "roles" "[I" ∈ BG := bg1 (i := 64) rfl rfl
theorem b_584 : Cond.laysFinal "SignatureForest$Reader" "SignatureForest$Reader" "nameStarts" "[I" ∈ BG := bg1 (i := 66) rfl rfl
theorem b_585 : Cond.laysFinal "SignatureForest$Reader" "SignatureForest$Reader" "nameEnds" "[I" ∈ BG := bg1 (i := 68) rfl rfl
theorem b_586 : Cond.lays "SignatureForest$Reader" "SignatureForest$Reader" "nameCount" "I" ∈ BG := bg1 (i := 70) rfl rfl
theorem b_587 : Cond.lays "SignatureForest$Reader" "SignatureForest$Reader" "sort" "I" ∈ BG := bg1 (i := 72) rfl rfl
theorem b_588 : Cond.lays "SignatureForest$Reader" "SignatureForest$Reader" "section" "I" ∈ BG := bg1 (i := 74) rfl rfl
theorem b_589 : Cond.lays "SignatureForest$Reader" "SignatureForest$Reader" "depth" "I" ∈ BG := bg1 (i := 76) rfl rfl
theorem b_590 : Cond.lays "SignatureForest$Reader" "SignatureForest$Reader" "last" "I" ∈ BG := bg1 (i := 78) rfl rfl
theorem b_591 : Cond.laysFinal "SignatureForest$Row" "SignatureForest$Row" "letters" "[C" ∈ BG := bg1 (i := 39) rfl rfl
theorem b_592 : Cond.lays "SignatureForest$Row" "SignatureForest$Row" "size" "I" ∈ BG := bg1 (i := 41) rfl rfl
theorem b_593 : Cond.lays "SignatureForest$Seeker" "SignatureForest$Seeker" "wanted" "I" ∈ BG := bg1 (i := 93) rfl rfl
theorem b_594 : Cond.lays "SignatureForest$Seeker" "SignatureForest$Seeker" "passed" "I" ∈ BG := bg1 (i := 95) rfl rfl
theorem b_595 : Cond.lays "SignatureForest$Seeker" "SignatureForest$Seeker" "found" "I" ∈ BG := bg1 (i := 97) rfl rfl
theorem b_596 : Cond.laysFinal "SignatureForest$Shower" "SignatureForest$Shower" "waiting" "[I" ∈ BG := bg1 (i := 110) rfl rfl
theorem b_597 : Cond.lays "SignatureForest$Shower" "SignatureForest$Shower" "depth" "I" ∈ BG := bg1 (i := 112) rfl rfl
theorem b_598 : Cond.lays "SignatureForest$Shower" "SignatureForest$Shower" "classPassed" "Z" ∈ BG := bg1 (i := 114) rfl rfl
theorem b_599 : Cond.lays "SignatureForest$Shower" "SignatureForest$Shower" "thrownPassed" "Z" ∈ BG := bg1 (i := 116) rfl rfl
theorem b_600 : Cond.laysFinal "SignatureForest$Signature" "SignatureForest$Signature" "sort" "I" ∈ BG := bg2 (i := 126) rfl rfl
theorem b_601 : Cond.laysFinal "SignatureForest$Signature" "SignatureForest$Signature" "letters" "[C" ∈ BG := bg2 (i := 128) rfl rfl
theorem b_602 : Cond.laysFinal "SignatureForest$Signature" "SignatureForest$Signature" "roles" "[I" ∈ BG := bg2 (i := 130) rfl rfl
theorem b_603 : Cond.laysFinal "SignatureForest$Signature" "SignatureForest$Signature" "nameStarts" "[I" ∈ BG := bg2 (i := 132) rfl rfl
theorem b_604 : Cond.laysFinal "SignatureForest$Signature" "SignatureForest$Signature" "nameEnds" "[I" ∈ BG := bg2 (i := 134) rfl rfl
theorem b_605 : Cond.laysFinal "SignatureForest$Signature" "SignatureForest$Signature" "bodyStart" "I" ∈ BG := bg2 (i := 136) rfl rfl
theorem b_606 : Cond.lays "SignatureForest$Signature" "SignatureForest$Signature" "scopeNumber" "I" ∈ BG := bg2 (i := 138) rfl rfl
theorem b_607 : Cond.laysFinal "SignatureForest" "SignatureForest" "line" "LSignatureForest$Row;" ∈ BG := bg1 (i := 143) rfl rfl
theorem b_608 : Cond.laysFinal "SignatureForest" "SignatureForest" "draft" "LSignatureForest$Row;" ∈ BG := bg1 (i := 145) rfl rfl
theorem b_609 : Cond.laysFinal "SignatureForest" "SignatureForest" "reader" "LSignatureForest$Reader;" ∈ BG := bg1 (i := 147) rfl rfl
theorem b_610 : Cond.laysFinal "SignatureForest" "SignatureForest" "seeker" "LSignatureForest$Seeker;" ∈ BG := bg1 (i := 149) rfl rfl
theorem b_611 : Cond.laysFinal "SignatureForest" "SignatureForest" "shower" "LSignatureForest$Shower;" ∈ BG := bg1 (i := 151) rfl rfl
theorem b_612 : Cond.laysFinal "SignatureForest" "SignatureForest" "eraser" "LSignatureForest$Eraser;" ∈ BG := bg1 (i := 153) rfl rfl
theorem b_613 : Cond.laysFinal "SignatureForest" "SignatureForest" "otherEraser" "LSignatureForest$Eraser;" ∈ BG := bg1 (i := 155) rfl rfl
theorem b_614 : Cond.laysFinal "SignatureForest" "SignatureForest" "made" "[LSignatureForest$Signature;" ∈ BG := bg1 (i := 157) rfl rfl
theorem b_615 : Cond.lays "SignatureForest" "SignatureForest" "madeCount" "I" ∈ BG := bg1 (i := 159) rfl rfl
theorem b_616 : Cond.laysFinal "SignatureForestModel" "SignatureForestModel" "line" "[I" ∈ BG := bg3 (i := 206) rfl rfl
theorem b_617 : Cond.lays "SignatureForestModel" "SignatureForestModel" "length" "I" ∈ BG := bg3 (i := 208) rfl rfl
theorem b_618 : Cond.laysFinal "SignatureForestModel" "SignatureForestModel" "text" "[I" ∈ BG := bg3 (i := 210) rfl rfl
theorem b_619 : Cond.laysFinal "SignatureForestModel" "SignatureForestModel" "role" "[I" ∈ BG := bg3 (i := 212) rfl rfl
theorem b_620 : Cond.laysFinal "SignatureForestModel" "SignatureForestModel" "size" "[I" ∈ BG := bg3 (i := 214) rfl rfl
theorem b_621 : Cond.laysFinal "SignatureForestModel" "SignatureForestModel" "kind" "[I" ∈ BG := bg3 (i := 216) rfl rfl
theorem b_622 : Cond.laysFinal "SignatureForestModel" "SignatureForestModel" "scope" "[I" ∈ BG := bg3 (i := 218) rfl rfl
theorem b_623 : Cond.laysFinal "SignatureForestModel" "SignatureForestModel" "pFrom" "[I" ∈ BG := bg3 (i := 220) rfl rfl
theorem b_624 : Cond.laysFinal "SignatureForestModel" "SignatureForestModel" "pTo" "[I" ∈ BG := bg3 (i := 222) rfl rfl
theorem b_625 : Cond.laysFinal "SignatureForestModel" "SignatureForestModel" "pBound" "[I" ∈ BG := bg3 (i := 224) rfl rfl
theorem b_626 : Cond.laysFinal "SignatureForestModel" "SignatureForestModel" "pBounds" "[I" ∈ BG := bg3 (i := 226) rfl rfl
theorem b_627 : Cond.laysFinal "SignatureForestModel" "SignatureForestModel" "params" "[I" ∈ BG := bg3 (i := 228) rfl rfl
theorem b_628 : Cond.lays "SignatureForestModel" "SignatureForestModel" "made" "I" ∈ BG := bg3 (i := 230) rfl rfl
theorem b_629 : Cond.laysFinal "SignatureForestModel" "SignatureForestModel" "state" "[I" ∈ BG := bg3 (i := 232) rfl rfl
theorem b_630 : Cond.lays "SignatureForestModel" "SignatureForestModel" "top" "I" ∈ BG := bg3 (i := 234) rfl rfl
theorem b_631 : Cond.laysFinal "SignatureForestModel" "SignatureForestModel" "out" "[I" ∈ BG := bg3 (i := 236) rfl rfl
theorem b_632 : Cond.lays "SignatureForestModel" "SignatureForestModel" "written" "I" ∈ BG := bg3 (i := 238) rfl rfl
theorem b_633 : Cond.laysFinal "SignatureForestModel" "SignatureForestModel" "other" "[I" ∈ BG := bg4 (i := 0) rfl rfl
theorem b_634 : Cond.laysFinal "SignatureForestModel" "SignatureForestModel" "met" "[Z" ∈ BG := bg4 (i := 2) rfl rfl
theorem b_635 : Cond.lays "SignatureForestModel" "SignatureForestModel" "sig" "I" ∈ BG := bg4 (i := 4) rfl rfl
theorem b_636 : Cond.lays "SignatureForestModel" "SignatureForestModel" "spot" "I" ∈ BG := bg4 (i := 6) rfl rfl
theorem b_637 : Cond.lays "SignatureForestModel" "SignatureForestModel" "inScope" "Z" ∈ BG := bg4 (i := 8) rfl rfl
theorem i_Er : ∀ w ∈ u_ws R_Er T_Er 1, w ∈ BG := by
  show ∀ w ∈ ([Cond.laysFinal "SignatureForest$Eraser" "SignatureForest$Eraser" "erased" "LSignatureForest$Row;"] : List Cond), w ∈ BG
  exact List.forall_mem_cons.mpr ⟨b_582, fun _ h => absurd h List.not_mem_nil⟩
theorem i_Rd : ∀ w ∈ u_ws R_Rd T_Rd 8, w ∈ BG := by
  show ∀ w ∈ ([Cond.laysFinal "SignatureForest$Reader" "SignatureForest$Reader" "roles" "[I", Cond.laysFinal "SignatureForest$Reader" "SignatureForest$Reader" "nameStarts" "[I", Cond.laysFinal "SignatureForest$Reader" "SignatureForest$Reader" "nameEnds" "[I", Cond.lays "SignatureForest$Reader" "SignatureForest$Reader" "nameCount" "I", Cond.lays "SignatureForest$Reader" "SignatureForest$Reader" "sort" "I", Cond.lays "SignatureForest$Reader" "SignatureForest$Reader" "section" "I", Cond.lays "SignatureForest$Reader" "SignatureForest$Reader" "depth" "I", Cond.lays "SignatureForest$Reader" "SignatureForest$Reader" "last" "I"] : List Cond), w ∈ BG
  exact List.forall_mem_cons.mpr ⟨b_583, List.forall_mem_cons.mpr ⟨b_584, List.forall_mem_cons.mpr ⟨b_585, List.forall_mem_cons.mpr ⟨b_586, List.forall_mem_cons.mpr ⟨b_587, List.forall_mem_cons.mpr ⟨b_588, List.forall_mem_cons.mpr ⟨b_589, List.forall_mem_cons.mpr ⟨b_590, fun _ h => absurd h List.not_mem_nil⟩⟩⟩⟩⟩⟩⟩⟩
theorem i_Rw : ∀ w ∈ u_ws R_Rw T_Rw 2, w ∈ BG := by
  show ∀ w ∈ ([Cond.laysFinal "SignatureForest$Row" "SignatureForest$Row" "letters" "[C", Cond.lays "SignatureForest$Row" "SignatureForest$Row" "size" "I"] : List Cond), w ∈ BG
  exact List.forall_mem_cons.mpr ⟨b_591, List.forall_mem_cons.mpr ⟨b_592, fun _ h => absurd h List.not_mem_nil⟩⟩
theorem i_Sk : ∀ w ∈ u_ws R_Sk T_Sk 3, w ∈ BG := by
  show ∀ w ∈ ([Cond.lays "SignatureForest$Seeker" "SignatureForest$Seeker" "wanted" "I", Cond.lays "SignatureForest$Seeker" "SignatureForest$Seeker" "passed" "I", Cond.lays "SignatureForest$Seeker" "SignatureForest$Seeker" "found" "I"] : List Cond), w ∈ BG
  exact List.forall_mem_cons.mpr ⟨b_593, List.forall_mem_cons.mpr ⟨b_594, List.forall_mem_cons.mpr ⟨b_595, fun _ h => absurd h List.not_mem_nil⟩⟩⟩
theorem i_Sh : ∀ w ∈ u_ws R_Sh T_Sh 4, w ∈ BG := by
  show ∀ w ∈ ([Cond.laysFinal "SignatureForest$Shower" "SignatureForest$Shower" "waiting" "[I", Cond.lays "SignatureForest$Shower" "SignatureForest$Shower" "depth" "I", Cond.lays "SignatureForest$Shower" "SignatureForest$Shower" "classPassed" "Z", Cond.lays "SignatureForest$Shower" "SignatureForest$Shower" "thrownPassed" "Z"] : List Cond), w ∈ BG
  exact List.forall_mem_cons.mpr ⟨b_596, List.forall_mem_cons.mpr ⟨b_597, List.forall_mem_cons.mpr ⟨b_598, List.forall_mem_cons.mpr ⟨b_599, fun _ h => absurd h List.not_mem_nil⟩⟩⟩⟩
theorem i_Sg : ∀ w ∈ u_ws R_Sg T_Sg 7, w ∈ BG := by
  show ∀ w ∈ ([Cond.laysFinal "SignatureForest$Signature" "SignatureForest$Signature" "sort" "I", Cond.laysFinal "SignatureForest$Signature" "SignatureForest$Signature" "letters" "[C", Cond.laysFinal "SignatureForest$Signature" "SignatureForest$Signature" "roles" "[I", Cond.laysFinal "SignatureForest$Signature" "SignatureForest$Signature" "nameStarts" "[I", Cond.laysFinal "SignatureForest$Signature" "SignatureForest$Signature" "nameEnds" "[I", Cond.laysFinal "SignatureForest$Signature" "SignatureForest$Signature" "bodyStart" "I", Cond.lays "SignatureForest$Signature" "SignatureForest$Signature" "scopeNumber" "I"] : List Cond), w ∈ BG
  exact List.forall_mem_cons.mpr ⟨b_600, List.forall_mem_cons.mpr ⟨b_601, List.forall_mem_cons.mpr ⟨b_602, List.forall_mem_cons.mpr ⟨b_603, List.forall_mem_cons.mpr ⟨b_604, List.forall_mem_cons.mpr ⟨b_605, List.forall_mem_cons.mpr ⟨b_606, fun _ h => absurd h List.not_mem_nil⟩⟩⟩⟩⟩⟩⟩
theorem i_Fo : ∀ w ∈ u_ws R_Fo T_Fo 9, w ∈ BG := by
  show ∀ w ∈ ([Cond.laysFinal "SignatureForest" "SignatureForest" "line" "LSignatureForest$Row;", Cond.laysFinal "SignatureForest" "SignatureForest" "draft" "LSignatureForest$Row;", Cond.laysFinal "SignatureForest" "SignatureForest" "reader" "LSignatureForest$Reader;", Cond.laysFinal "SignatureForest" "SignatureForest" "seeker" "LSignatureForest$Seeker;", Cond.laysFinal "SignatureForest" "SignatureForest" "shower" "LSignatureForest$Shower;", Cond.laysFinal "SignatureForest" "SignatureForest" "eraser" "LSignatureForest$Eraser;", Cond.laysFinal "SignatureForest" "SignatureForest" "otherEraser" "LSignatureForest$Eraser;", Cond.laysFinal "SignatureForest" "SignatureForest" "made" "[LSignatureForest$Signature;", Cond.lays "SignatureForest" "SignatureForest" "madeCount" "I"] : List Cond), w ∈ BG
  exact List.forall_mem_cons.mpr ⟨b_607, List.forall_mem_cons.mpr ⟨b_608, List.forall_mem_cons.mpr ⟨b_609, List.forall_mem_cons.mpr ⟨b_610, List.forall_mem_cons.mpr ⟨b_611, List.forall_mem_cons.mpr ⟨b_612, List.forall_mem_cons.mpr ⟨b_613, List.forall_mem_cons.mpr ⟨b_614, List.forall_mem_cons.mpr ⟨b_615, fun _ h => absurd h List.not_mem_nil⟩⟩⟩⟩⟩⟩⟩⟩⟩
theorem i_Mo : ∀ w ∈ u_ws R_Mo T_Mo 22, w ∈ BG := by
  show ∀ w ∈ ([Cond.laysFinal "SignatureForestModel" "SignatureForestModel" "line" "[I", Cond.lays "SignatureForestModel" "SignatureForestModel" "length" "I", Cond.laysFinal "SignatureForestModel" "SignatureForestModel" "text" "[I", Cond.laysFinal "SignatureForestModel" "SignatureForestModel" "role" "[I", Cond.laysFinal "SignatureForestModel" "SignatureForestModel" "size" "[I", Cond.laysFinal "SignatureForestModel" "SignatureForestModel" "kind" "[I", Cond.laysFinal "SignatureForestModel" "SignatureForestModel" "scope" "[I", Cond.laysFinal "SignatureForestModel" "SignatureForestModel" "pFrom" "[I", Cond.laysFinal "SignatureForestModel" "SignatureForestModel" "pTo" "[I", Cond.laysFinal "SignatureForestModel" "SignatureForestModel" "pBound" "[I", Cond.laysFinal "SignatureForestModel" "SignatureForestModel" "pBounds" "[I", Cond.laysFinal "SignatureForestModel" "SignatureForestModel" "params" "[I", Cond.lays "SignatureForestModel" "SignatureForestModel" "made" "I", Cond.laysFinal "SignatureForestModel" "SignatureForestModel" "state" "[I", Cond.lays "SignatureForestModel" "SignatureForestModel" "top" "I", Cond.laysFinal "SignatureForestModel" "SignatureForestModel" "out" "[I", Cond.lays "SignatureForestModel" "SignatureForestModel" "written" "I", Cond.laysFinal "SignatureForestModel" "SignatureForestModel" "other" "[I", Cond.laysFinal "SignatureForestModel" "SignatureForestModel" "met" "[Z", Cond.lays "SignatureForestModel" "SignatureForestModel" "sig" "I", Cond.lays "SignatureForestModel" "SignatureForestModel" "spot" "I", Cond.lays "SignatureForestModel" "SignatureForestModel" "inScope" "Z"] : List Cond), w ∈ BG
  exact List.forall_mem_cons.mpr ⟨b_616, List.forall_mem_cons.mpr ⟨b_617, List.forall_mem_cons.mpr ⟨b_618, List.forall_mem_cons.mpr ⟨b_619, List.forall_mem_cons.mpr ⟨b_620, List.forall_mem_cons.mpr ⟨b_621, List.forall_mem_cons.mpr ⟨b_622, List.forall_mem_cons.mpr ⟨b_623, List.forall_mem_cons.mpr ⟨b_624, List.forall_mem_cons.mpr ⟨b_625, List.forall_mem_cons.mpr ⟨b_626, List.forall_mem_cons.mpr ⟨b_627, List.forall_mem_cons.mpr ⟨b_628, List.forall_mem_cons.mpr ⟨b_629, List.forall_mem_cons.mpr ⟨b_630, List.forall_mem_cons.mpr ⟨b_631, List.forall_mem_cons.mpr ⟨b_632, List.forall_mem_cons.mpr ⟨b_633, List.forall_mem_cons.mpr ⟨b_634, List.forall_mem_cons.mpr ⟨b_635, List.forall_mem_cons.mpr ⟨b_636, List.forall_mem_cons.mpr ⟨b_637, fun _ h => absurd h List.not_mem_nil⟩⟩⟩⟩⟩⟩⟩⟩⟩⟩⟩⟩⟩⟩⟩⟩⟩⟩⟩⟩⟩⟩
