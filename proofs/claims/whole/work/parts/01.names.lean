/-! NAMES, by wip/gen/names.py: classes, fields, methods, words by their places in lw_tbl -/
def rn_P : String := "TwoLevelParser$Parser"
def tf_P : u_T := fun k => match k with
  | 0 => ("TwoLevelParser$Parser", "text", "LTwoLevelParser$Text;", true)
  | 1 => ("TwoLevelParser$Parser", "definitions", "LTwoLevelParser$Records;", true)
  | 2 => ("TwoLevelParser$Parser", "nodes", "LTwoLevelParser$Records;", true)
  | 3 => ("TwoLevelParser$Parser", "fault", "I", false)
  | 4 => ("TwoLevelParser$Parser", "faultPlace", "I", false)
  | 5 => ("TwoLevelParser$Parser", "stage", "I", false)
  | 6 => ("TwoLevelParser$Parser", "latest", "I", false)
  | 7 => ("TwoLevelParser$Parser", "open", "I", false)
  | _ => ("TwoLevelParser$Parser", "wanted", "C", false)
def ty_P : Nat → FieldType := fun k => match k with
  | 0 => .object "TwoLevelParser$Text"
  | 1 => .object "TwoLevelParser$Records"
  | 2 => .object "TwoLevelParser$Records"
  | 3 => .int
  | 4 => .int
  | 5 => .int
  | 6 => .int
  | 7 => .int
  | _ => .char
theorem nm_P : ∀ a, a < 9 → ∀ b, b < 9 → a ≠ b → (tf_P a).2.1 ≠ (tf_P b).2.1 := by decide +kernel
theorem ty_P_ok : ∀ k, k < 9 → parseFieldDescriptor (tf_P k).2.2.1 = some (ty_P k) := by decide +kernel
def rn_R : String := "TwoLevelParser$Records"
def tf_R : u_T := fun k => match k with
  | 0 => ("TwoLevelParser$Records", "width", "I", true)
  | 1 => ("TwoLevelParser$Records", "namesWidth", "I", true)
  | 2 => ("TwoLevelParser$Records", "numbers", "[I", false)
  | 3 => ("TwoLevelParser$Records", "names", "[J", false)
  | _ => ("TwoLevelParser$Records", "rows", "I", false)
def ty_R : Nat → FieldType := fun k => match k with
  | 0 => .int
  | 1 => .int
  | 2 => .array .int
  | 3 => .array .long
  | _ => .int
theorem nm_R : ∀ a, a < 5 → ∀ b, b < 5 → a ≠ b → (tf_R a).2.1 ≠ (tf_R b).2.1 := by decide +kernel
theorem ty_R_ok : ∀ k, k < 5 → parseFieldDescriptor (tf_R k).2.2.1 = some (ty_R k) := by decide +kernel
def rn_T : String := "TwoLevelParser$Text"
def tf_T : u_T := fun k => match k with
  | 0 => ("TwoLevelParser$Text", "bytes", "[B", false)
  | 1 => ("TwoLevelParser$Text", "length", "I", false)
  | 2 => ("TwoLevelParser$Text", "next", "I", false)
  | 3 => ("TwoLevelParser$Text", "token", "I", false)
  | 4 => ("TwoLevelParser$Text", "place", "I", false)
  | 5 => ("TwoLevelParser$Text", "name", "J", false)
  | 6 => ("TwoLevelParser$Text", "word", "I", false)
  | _ => ("TwoLevelParser$Text", "value", "I", false)
def ty_T : Nat → FieldType := fun k => match k with
  | 0 => .array .byte
  | 1 => .int
  | 2 => .int
  | 3 => .int
  | 4 => .int
  | 5 => .long
  | 6 => .int
  | _ => .int
theorem nm_T : ∀ a, a < 8 → ∀ b, b < 8 → a ≠ b → (tf_T a).2.1 ≠ (tf_T b).2.1 := by decide +kernel
theorem ty_T_ok : ∀ k, k < 8 → parseFieldDescriptor (tf_T k).2.2.1 = some (ty_T k) := by decide +kernel
def rn_X : String := "TwoLevelParser"
def tf_X : u_T := fun k => match k with
  | _ => ("TwoLevelParser", "parser", "LTwoLevelParser$Parser;", true)
def ty_X : Nat → FieldType := fun k => match k with
  | _ => .object "TwoLevelParser$Parser"
theorem nm_X : ∀ a, a < 1 → ∀ b, b < 1 → a ≠ b → (tf_X a).2.1 ≠ (tf_X b).2.1 := by decide +kernel
theorem ty_X_ok : ∀ k, k < 1 → parseFieldDescriptor (tf_X k).2.2.1 = some (ty_X k) := by decide +kernel
def rn_M : String := "TwoLevelParserModel"
def tf_M : u_T := fun k => match k with
  | 0 => ("TwoLevelParserModel", "thrown", "I", false)
  | 1 => ("TwoLevelParserModel", "text", "[B", true)
  | 2 => ("TwoLevelParserModel", "size", "I", false)
  | 3 => ("TwoLevelParserModel", "fault", "I", false)
  | 4 => ("TwoLevelParserModel", "place", "I", false)
  | 5 => ("TwoLevelParserModel", "p", "I", false)
  | 6 => ("TwoLevelParserModel", "token", "I", false)
  | 7 => ("TwoLevelParserModel", "at", "I", false)
  | 8 => ("TwoLevelParserModel", "spelled", "J", false)
  | 9 => ("TwoLevelParserModel", "value", "I", false)
  | 10 => ("TwoLevelParserModel", "definitions", "I", false)
  | 11 => ("TwoLevelParserModel", "isChg", "[I", true)
  | 12 => ("TwoLevelParserModel", "types", "[I", true)
  | 13 => ("TwoLevelParserModel", "parameters", "[I", true)
  | 14 => ("TwoLevelParserModel", "firsts", "[I", true)
  | 15 => ("TwoLevelParserModel", "titlePlaces", "[I", true)
  | 16 => ("TwoLevelParserModel", "titles", "[J", true)
  | 17 => ("TwoLevelParserModel", "parameterNames", "[J", true)
  | 18 => ("TwoLevelParserModel", "parameterTypes", "[I", true)
  | 19 => ("TwoLevelParserModel", "nodes", "I", false)
  | 20 => ("TwoLevelParserModel", "kinds", "[I", true)
  | 21 => ("TwoLevelParserModel", "parents", "[I", true)
  | 22 => ("TwoLevelParserModel", "places", "[I", true)
  | 23 => ("TwoLevelParserModel", "namePlaces", "[I", true)
  | 24 => ("TwoLevelParserModel", "secondPlaces", "[I", true)
  | 25 => ("TwoLevelParserModel", "variables", "[I", true)
  | 26 => ("TwoLevelParserModel", "values", "[I", true)
  | 27 => ("TwoLevelParserModel", "names", "[J", true)
  | 28 => ("TwoLevelParserModel", "seconds", "[J", true)
  | 29 => ("TwoLevelParserModel", "due", "[B", true)
  | 30 => ("TwoLevelParserModel", "dueOf", "[I", true)
  | 31 => ("TwoLevelParserModel", "dues", "I", false)
  | _ => ("TwoLevelParserModel", "there", "I", false)
def ty_M : Nat → FieldType := fun k => match k with
  | 0 => .int
  | 1 => .array .byte
  | 2 => .int
  | 3 => .int
  | 4 => .int
  | 5 => .int
  | 6 => .int
  | 7 => .int
  | 8 => .long
  | 9 => .int
  | 10 => .int
  | 11 => .array .int
  | 12 => .array .int
  | 13 => .array .int
  | 14 => .array .int
  | 15 => .array .int
  | 16 => .array .long
  | 17 => .array .long
  | 18 => .array .int
  | 19 => .int
  | 20 => .array .int
  | 21 => .array .int
  | 22 => .array .int
  | 23 => .array .int
  | 24 => .array .int
  | 25 => .array .int
  | 26 => .array .int
  | 27 => .array .long
  | 28 => .array .long
  | 29 => .array .byte
  | 30 => .array .int
  | 31 => .int
  | _ => .int
theorem nm_M : ∀ a, a < 33 → ∀ b, b < 33 → a ≠ b → (tf_M a).2.1 ≠ (tf_M b).2.1 := by decide +kernel
theorem ty_M_ok : ∀ k, k < 33 → parseFieldDescriptor (tf_M k).2.2.1 = some (ty_M k) := by decide +kernel
abbrev vwCl : List vw_C := [(rn_P, tf_P, 9), (rn_R, tf_R, 5), (rn_T, tf_T, 8), (rn_X, tf_X, 1), (rn_M, tf_M, 33)]
/-- the words that a call keeps: every method stands on all of them -/
def zz_T : List Cond := lw_tbl.filter goodWord
theorem zz_Tin {w : Cond} (i : Nat) (h : lw_tbl[i]? = some w) (hg : goodWord w = true) : w ∈ zz_T := List.mem_filter.mpr ⟨List.mem_of_getElem? h, hg⟩
theorem zz_Tlw {w : Cond} (h : w ∈ zz_T) : w ∈ lw_tbl := (List.mem_filter.mp h).1
theorem zz_Tgood : GoodIn zz_T zz_T := fun w h => ⟨h, good_of_word (List.mem_filter.mp h).2⟩
abbrev bc_X_init : ByteArray := prog_1_method_1_code
def yn_X_init : MethodName := ⟨"TwoLevelParser", "<init>", "()V"⟩
abbrev bc_P_init : ByteArray := prog_2_method_1_code
def yn_P_init : MethodName := ⟨"TwoLevelParser$Parser", "<init>", "()V"⟩
abbrev bc_T_init : ByteArray := prog_4_method_1_code
def yn_T_init : MethodName := ⟨"TwoLevelParser$Text", "<init>", "()V"⟩
abbrev bc_R_init : ByteArray := prog_3_method_1_code
def yn_R_init : MethodName := ⟨"TwoLevelParser$Records", "<init>", "(II)V"⟩
abbrev bc_Jm_max : ByteArray := prog_8_method_65_code
def yn_Jm_max : MethodName := ⟨"java/lang/Math", "max", "(II)I"⟩
abbrev bc_X_give : ByteArray := prog_1_method_2_code
def yn_X_give : MethodName := ⟨"TwoLevelParser", "give", "(JI)Z"⟩
abbrev bc_T_append : ByteArray := prog_4_method_4_code
def yn_T_append : MethodName := ⟨"TwoLevelParser$Text", "append", "(JI)Z"⟩
abbrev bc_Ja_copyOf_bIb : ByteArray := prog_13_method_121_code
def yn_Ja_copyOf_bIb : MethodName := ⟨"java/util/Arrays", "copyOf", "([BI)[B"⟩
abbrev bc_Jm_min : ByteArray := prog_8_method_69_code
def yn_Jm_min : MethodName := ⟨"java/lang/Math", "min", "(II)I"⟩
abbrev bc_X_wipe : ByteArray := prog_1_method_3_code
def yn_X_wipe : MethodName := ⟨"TwoLevelParser", "wipe", "()V"⟩
abbrev bc_T_clear : ByteArray := prog_4_method_3_code
def yn_T_clear : MethodName := ⟨"TwoLevelParser$Text", "clear", "()V"⟩
abbrev bc_X_read : ByteArray := prog_1_method_4_code
def yn_X_read : MethodName := ⟨"TwoLevelParser", "read", "()I"⟩
abbrev bc_P_parse : ByteArray := prog_2_method_2_code
def yn_P_parse : MethodName := ⟨"TwoLevelParser$Parser", "parse", "()I"⟩
abbrev bc_P_start : ByteArray := prog_2_method_3_code
def yn_P_start : MethodName := ⟨"TwoLevelParser$Parser", "start", "()V"⟩
abbrev bc_R_clear : ByteArray := prog_3_method_3_code
def yn_R_clear : MethodName := ⟨"TwoLevelParser$Records", "clear", "()V"⟩
abbrev bc_T_toFirstToken : ByteArray := prog_4_method_6_code
def yn_T_toFirstToken : MethodName := ⟨"TwoLevelParser$Text", "toFirstToken", "()V"⟩
abbrev bc_T_toNextToken : ByteArray := prog_4_method_7_code
def yn_T_toNextToken : MethodName := ⟨"TwoLevelParser$Text", "toNextToken", "()V"⟩
abbrev bc_T_byteAt : ByteArray := prog_4_method_5_code
def yn_T_byteAt : MethodName := ⟨"TwoLevelParser$Text", "byteAt", "(I)I"⟩
abbrev bc_T_isBlank : ByteArray := prog_4_method_12_code
def yn_T_isBlank : MethodName := ⟨"TwoLevelParser$Text", "isBlank", "(I)Z"⟩
abbrev bc_T_isJoined : ByteArray := prog_4_method_15_code
def yn_T_isJoined : MethodName := ⟨"TwoLevelParser$Text", "isJoined", "(I)Z"⟩
abbrev bc_T_isLetter : ByteArray := prog_4_method_13_code
def yn_T_isLetter : MethodName := ⟨"TwoLevelParser$Text", "isLetter", "(I)Z"⟩
abbrev bc_T_isDigit : ByteArray := prog_4_method_14_code
def yn_T_isDigit : MethodName := ⟨"TwoLevelParser$Text", "isDigit", "(I)Z"⟩
abbrev bc_T_scanJoined : ByteArray := prog_4_method_8_code
def yn_T_scanJoined : MethodName := ⟨"TwoLevelParser$Text", "scanJoined", "(I)V"⟩
abbrev bc_T_scansName : ByteArray := prog_4_method_9_code
def yn_T_scansName : MethodName := ⟨"TwoLevelParser$Text", "scansName", "()Z"⟩
abbrev bc_T_wordOf : ByteArray := prog_4_method_11_code
def yn_T_wordOf : MethodName := ⟨"TwoLevelParser$Text", "wordOf", "(J)I"⟩
abbrev bc_T_scansNumber : ByteArray := prog_4_method_10_code
def yn_T_scansNumber : MethodName := ⟨"TwoLevelParser$Text", "scansNumber", "(Z)Z"⟩
abbrev bc_T_size : ByteArray := prog_4_method_2_code
def yn_T_size : MethodName := ⟨"TwoLevelParser$Text", "size", "()I"⟩
abbrev bc_P_takesStep : ByteArray := prog_2_method_21_code
def yn_P_takesStep : MethodName := ⟨"TwoLevelParser$Parser", "takesStep", "()Z"⟩
abbrev bc_R_numberAt : ByteArray := prog_3_method_5_code
def yn_R_numberAt : MethodName := ⟨"TwoLevelParser$Records", "numberAt", "(II)I"⟩
abbrev bc_P_shapeOf : ByteArray := prog_2_method_20_code
def yn_P_shapeOf : MethodName := ⟨"TwoLevelParser$Parser", "shapeOf", "(I)Ljava/lang/String;"⟩
abbrev bc_Js_length : ByteArray := prog_9_method_54_code
def yn_Js_length : MethodName := ⟨"java/lang/String", "length", "()I"⟩
abbrev bc_Js_coder : ByteArray := prog_9_method_152_code
def yn_Js_coder : MethodName := ⟨"java/lang/String", "coder", "()B"⟩
abbrev bc_Js_charAt : ByteArray := prog_9_method_56_code
def yn_Js_charAt : MethodName := ⟨"java/lang/String", "charAt", "(I)C"⟩
abbrev bc_Js_isLatin1 : ByteArray := prog_9_method_154_code
def yn_Js_isLatin1 : MethodName := ⟨"java/lang/String", "isLatin1", "()Z"⟩
abbrev bc_Jl_charAt : ByteArray := prog_10_method_2_code
def yn_Jl_charAt : MethodName := ⟨"java/lang/StringLatin1", "charAt", "([BI)C"⟩
abbrev bc_Js_checkIndex : ByteArray := prog_9_method_155_code
def yn_Js_checkIndex : MethodName := ⟨"java/lang/String", "checkIndex", "(II)V"⟩
abbrev bc_Jp_checkIndex : ByteArray := prog_14_method_11_code
def yn_Jp_checkIndex : MethodName := ⟨"jdk/internal/util/Preconditions", "checkIndex", "(IILjava/util/function/BiFunction;)I"⟩
abbrev bc_Ju_charAt : ByteArray := prog_11_method_83_code
def yn_Ju_charAt : MethodName := ⟨"java/lang/StringUTF16", "charAt", "([BI)C"⟩
abbrev bc_Ju_checkIndex : ByteArray := prog_11_method_91_code
def yn_Ju_checkIndex : MethodName := ⟨"java/lang/StringUTF16", "checkIndex", "(I[B)V"⟩
abbrev bc_Ju_length : ByteArray := prog_11_method_6_code
def yn_Ju_length : MethodName := ⟨"java/lang/StringUTF16", "length", "([B)I"⟩
abbrev bc_Ju_getChar : ByteArray := prog_11_method_5_code
def yn_Ju_getChar : MethodName := ⟨"java/lang/StringUTF16", "getChar", "([BI)C"⟩
abbrev bc_P_beginsE : ByteArray := prog_2_method_27_code
def yn_P_beginsE : MethodName := ⟨"TwoLevelParser$Parser", "beginsE", "()Z"⟩
abbrev bc_P_addNode : ByteArray := prog_2_method_30_code
def yn_P_addNode : MethodName := ⟨"TwoLevelParser$Parser", "addNode", "(I)I"⟩
abbrev bc_P_variablesHere : ByteArray := prog_2_method_31_code
def yn_P_variablesHere : MethodName := ⟨"TwoLevelParser$Parser", "variablesHere", "()I"⟩
abbrev bc_R_setNumber : ByteArray := prog_3_method_6_code
def yn_R_setNumber : MethodName := ⟨"TwoLevelParser$Records", "setNumber", "(III)V"⟩
abbrev bc_P_goOn : ByteArray := prog_2_method_22_code
def yn_P_goOn : MethodName := ⟨"TwoLevelParser$Parser", "goOn", "()V"⟩
abbrev bc_R_addRow : ByteArray := prog_3_method_4_code
def yn_R_addRow : MethodName := ⟨"TwoLevelParser$Records", "addRow", "()I"⟩
abbrev bc_Ja_copyOf_iIi : ByteArray := prog_13_method_123_code
def yn_Ja_copyOf_iIi : MethodName := ⟨"java/util/Arrays", "copyOf", "([II)[I"⟩
abbrev bc_Ja_copyOf_jIj : ByteArray := prog_13_method_124_code
def yn_Ja_copyOf_jIj : MethodName := ⟨"java/util/Arrays", "copyOf", "([JI)[J"⟩
abbrev bc_R_setName : ByteArray := prog_3_method_8_code
def yn_R_setName : MethodName := ⟨"TwoLevelParser$Records", "setName", "(IIJ)V"⟩
abbrev bc_P_kindOfLeaf : ByteArray := prog_2_method_28_code
def yn_P_kindOfLeaf : MethodName := ⟨"TwoLevelParser$Parser", "kindOfLeaf", "()I"⟩
abbrev bc_P_isFreeName : ByteArray := prog_2_method_6_code
def yn_P_isFreeName : MethodName := ⟨"TwoLevelParser$Parser", "isFreeName", "()Z"⟩
abbrev bc_P_wordHere : ByteArray := prog_2_method_7_code
def yn_P_wordHere : MethodName := ⟨"TwoLevelParser$Parser", "wordHere", "()I"⟩
abbrev bc_P_setNodeName : ByteArray := prog_2_method_26_code
def yn_P_setNodeName : MethodName := ⟨"TwoLevelParser$Parser", "setNodeName", "(II)V"⟩
abbrev bc_P_goOutTo : ByteArray := prog_2_method_33_code
def yn_P_goOutTo : MethodName := ⟨"TwoLevelParser$Parser", "goOutTo", "(I)V"⟩
abbrev bc_P_beginsC : ByteArray := prog_2_method_29_code
def yn_P_beginsC : MethodName := ⟨"TwoLevelParser$Parser", "beginsC", "()Z"⟩
abbrev bc_P_endsNode : ByteArray := prog_2_method_32_code
def yn_P_endsNode : MethodName := ⟨"TwoLevelParser$Parser", "endsNode", "()Z"⟩
abbrev bc_R_size : ByteArray := prog_3_method_2_code
def yn_R_size : MethodName := ⟨"TwoLevelParser$Records", "size", "()I"⟩
abbrev bc_P_takesName : ByteArray := prog_2_method_25_code
def yn_P_takesName : MethodName := ⟨"TwoLevelParser$Parser", "takesName", "(I)Z"⟩
abbrev bc_P_takesVariable : ByteArray := prog_2_method_24_code
def yn_P_takesVariable : MethodName := ⟨"TwoLevelParser$Parser", "takesVariable", "(I)Z"⟩
abbrev bc_R_nameAt : ByteArray := prog_3_method_7_code
def yn_R_nameAt : MethodName := ⟨"TwoLevelParser$Records", "nameAt", "(II)J"⟩
abbrev bc_P_passesInside : ByteArray := prog_2_method_23_code
def yn_P_passesInside : MethodName := ⟨"TwoLevelParser$Parser", "passesInside", "(I)Z"⟩
abbrev bc_P_takesOutside : ByteArray := prog_2_method_4_code
def yn_P_takesOutside : MethodName := ⟨"TwoLevelParser$Parser", "takesOutside", "()Z"⟩
abbrev bc_P_beginsDefinition : ByteArray := prog_2_method_9_code
def yn_P_beginsDefinition : MethodName := ⟨"TwoLevelParser$Parser", "beginsDefinition", "()Z"⟩
abbrev bc_P_passes : ByteArray := prog_2_method_5_code
def yn_P_passes : MethodName := ⟨"TwoLevelParser$Parser", "passes", "(II)Z"⟩
abbrev bc_P_takesLevel : ByteArray := prog_2_method_10_code
def yn_P_takesLevel : MethodName := ⟨"TwoLevelParser$Parser", "takesLevel", "()Z"⟩
abbrev bc_P_takesTitle : ByteArray := prog_2_method_11_code
def yn_P_takesTitle : MethodName := ⟨"TwoLevelParser$Parser", "takesTitle", "()Z"⟩
abbrev bc_P_takesParameterOrEnd : ByteArray := prog_2_method_12_code
def yn_P_takesParameterOrEnd : MethodName := ⟨"TwoLevelParser$Parser", "takesParameterOrEnd", "()Z"⟩
abbrev bc_P_takesParameter : ByteArray := prog_2_method_13_code
def yn_P_takesParameter : MethodName := ⟨"TwoLevelParser$Parser", "takesParameter", "()Z"⟩
abbrev bc_P_takesParameterType : ByteArray := prog_2_method_14_code
def yn_P_takesParameterType : MethodName := ⟨"TwoLevelParser$Parser", "takesParameterType", "()Z"⟩
abbrev bc_P_typeHere : ByteArray := prog_2_method_8_code
def yn_P_typeHere : MethodName := ⟨"TwoLevelParser$Parser", "typeHere", "()I"⟩
abbrev bc_P_takesType : ByteArray := prog_2_method_15_code
def yn_P_takesType : MethodName := ⟨"TwoLevelParser$Parser", "takesType", "()Z"⟩
abbrev bc_P_isChange : ByteArray := prog_2_method_16_code
def yn_P_isChange : MethodName := ⟨"TwoLevelParser$Parser", "isChange", "()Z"⟩
abbrev bc_P_kindOfE : ByteArray := prog_2_method_17_code
def yn_P_kindOfE : MethodName := ⟨"TwoLevelParser$Parser", "kindOfE", "()I"⟩
abbrev bc_P_takesHead : ByteArray := prog_2_method_19_code
def yn_P_takesHead : MethodName := ⟨"TwoLevelParser$Parser", "takesHead", "(I)Z"⟩
abbrev bc_P_kindOfC : ByteArray := prog_2_method_18_code
def yn_P_kindOfC : MethodName := ⟨"TwoLevelParser$Parser", "kindOfC", "()I"⟩
abbrev bc_X_definition : ByteArray := prog_1_method_5_code
def yn_X_definition : MethodName := ⟨"TwoLevelParser", "definition", "(II)I"⟩
abbrev bc_X_title : ByteArray := prog_1_method_6_code
def yn_X_title : MethodName := ⟨"TwoLevelParser", "title", "(II)J"⟩
abbrev bc_X_parameter : ByteArray := prog_1_method_7_code
def yn_X_parameter : MethodName := ⟨"TwoLevelParser", "parameter", "(II)I"⟩
abbrev bc_X_node : ByteArray := prog_1_method_8_code
def yn_X_node : MethodName := ⟨"TwoLevelParser", "node", "(II)I"⟩
abbrev bc_X_name : ByteArray := prog_1_method_9_code
def yn_X_name : MethodName := ⟨"TwoLevelParser", "name", "(II)J"⟩
abbrev bc_X_number : ByteArray := prog_1_method_10_code
def yn_X_number : MethodName := ⟨"TwoLevelParser", "number", "(I)I"⟩
abbrev bc_X_look : ByteArray := prog_1_method_11_code
def yn_X_look : MethodName := ⟨"TwoLevelParser", "look", "(I)I"⟩
abbrev bc_M_init : ByteArray := prog_6_method_1_code
def yn_M_init : MethodName := ⟨"TwoLevelParserModel", "<init>", "()V"⟩
abbrev bc_M_give : ByteArray := prog_6_method_3_code
def yn_M_give : MethodName := ⟨"TwoLevelParserModel", "give", "(JI)Z"⟩
abbrev bc_M_wipe : ByteArray := prog_6_method_4_code
def yn_M_wipe : MethodName := ⟨"TwoLevelParserModel", "wipe", "()V"⟩
abbrev bc_M_read : ByteArray := prog_6_method_30_code
def yn_M_read : MethodName := ⟨"TwoLevelParserModel", "read", "()I"⟩
abbrev bc_M_next : ByteArray := prog_6_method_9_code
def yn_M_next : MethodName := ⟨"TwoLevelParserModel", "next", "()V"⟩
abbrev bc_M_isRun : ByteArray := prog_6_method_8_code
def yn_M_isRun : MethodName := ⟨"TwoLevelParserModel", "isRun", "(I)Z"⟩
abbrev bc_M_isLetter : ByteArray := prog_6_method_6_code
def yn_M_isLetter : MethodName := ⟨"TwoLevelParserModel", "isLetter", "(I)Z"⟩
abbrev bc_M_isDigit : ByteArray := prog_6_method_7_code
def yn_M_isDigit : MethodName := ⟨"TwoLevelParserModel", "isDigit", "(I)Z"⟩
abbrev bc_M_wrong : ByteArray := prog_6_method_5_code
def yn_M_wrong : MethodName := ⟨"TwoLevelParserModel", "wrong", "(II)V"⟩
abbrev bc_M_readName : ByteArray := prog_6_method_10_code
def yn_M_readName : MethodName := ⟨"TwoLevelParserModel", "readName", "()V"⟩
abbrev bc_M_readNumber : ByteArray := prog_6_method_11_code
def yn_M_readNumber : MethodName := ⟨"TwoLevelParserModel", "readNumber", "()V"⟩
abbrev bc_M_readDefinition : ByteArray := prog_6_method_29_code
def yn_M_readDefinition : MethodName := ⟨"TwoLevelParserModel", "readDefinition", "()V"⟩
abbrev bc_M_must : ByteArray := prog_6_method_18_code
def yn_M_must : MethodName := ⟨"TwoLevelParserModel", "must", "(Z)Z"⟩
abbrev bc_M_is : ByteArray := prog_6_method_12_code
def yn_M_is : MethodName := ⟨"TwoLevelParserModel", "is", "(Ljava/lang/String;)Z"⟩
abbrev bc_M_isOwn : ByteArray := prog_6_method_17_code
def yn_M_isOwn : MethodName := ⟨"TwoLevelParserModel", "isOwn", "()Z"⟩
abbrev bc_M_type : ByteArray := prog_6_method_13_code
def yn_M_type : MethodName := ⟨"TwoLevelParserModel", "type", "()I"⟩
abbrev bc_M_stableKind : ByteArray := prog_6_method_15_code
def yn_M_stableKind : MethodName := ⟨"TwoLevelParserModel", "stableKind", "()I"⟩
abbrev bc_M_operation : ByteArray := prog_6_method_14_code
def yn_M_operation : MethodName := ⟨"TwoLevelParserModel", "operation", "()I"⟩
abbrev bc_M_changeableKind : ByteArray := prog_6_method_16_code
def yn_M_changeableKind : MethodName := ⟨"TwoLevelParserModel", "changeableKind", "()I"⟩
abbrev bc_M_readParameter : ByteArray := prog_6_method_28_code
def yn_M_readParameter : MethodName := ⟨"TwoLevelParserModel", "readParameter", "(I)V"⟩
abbrev bc_M_expression : ByteArray := prog_6_method_27_code
def yn_M_expression : MethodName := ⟨"TwoLevelParserModel", "expression", "(Z)V"⟩
abbrev bc_M_push : ByteArray := prog_6_method_19_code
def yn_M_push : MethodName := ⟨"TwoLevelParserModel", "push", "(II)V"⟩
abbrev bc_M_step : ByteArray := prog_6_method_25_code
def yn_M_step : MethodName := ⟨"TwoLevelParserModel", "step", "()V"⟩
abbrev bc_M_begin : ByteArray := prog_6_method_24_code
def yn_M_begin : MethodName := ⟨"TwoLevelParserModel", "begin", "(ZI)V"⟩
abbrev bc_M_make : ByteArray := prog_6_method_20_code
def yn_M_make : MethodName := ⟨"TwoLevelParserModel", "make", "(II)I"⟩
abbrev bc_M_setName : ByteArray := prog_6_method_21_code
def yn_M_setName : MethodName := ⟨"TwoLevelParserModel", "setName", "(I)V"⟩
abbrev bc_M_expect : ByteArray := prog_6_method_23_code
def yn_M_expect : MethodName := ⟨"TwoLevelParserModel", "expect", "(I)V"⟩
abbrev bc_M_letBinds : ByteArray := prog_6_method_26_code
def yn_M_letBinds : MethodName := ⟨"TwoLevelParserModel", "letBinds", "(I)V"⟩
abbrev bc_M_bind : ByteArray := prog_6_method_22_code
def yn_M_bind : MethodName := ⟨"TwoLevelParserModel", "bind", "()V"⟩
abbrev bc_M_definition : ByteArray := prog_6_method_32_code
def yn_M_definition : MethodName := ⟨"TwoLevelParserModel", "definition", "(II)I"⟩
abbrev bc_M_isDefinition : ByteArray := prog_6_method_31_code
def yn_M_isDefinition : MethodName := ⟨"TwoLevelParserModel", "isDefinition", "(I)Z"⟩
abbrev bc_M_title : ByteArray := prog_6_method_33_code
def yn_M_title : MethodName := ⟨"TwoLevelParserModel", "title", "(II)J"⟩
abbrev bc_M_parameter : ByteArray := prog_6_method_34_code
def yn_M_parameter : MethodName := ⟨"TwoLevelParserModel", "parameter", "(II)I"⟩
abbrev bc_M_node : ByteArray := prog_6_method_36_code
def yn_M_node : MethodName := ⟨"TwoLevelParserModel", "node", "(II)I"⟩
abbrev bc_M_within : ByteArray := prog_6_method_35_code
def yn_M_within : MethodName := ⟨"TwoLevelParserModel", "within", "(IZ)I"⟩
abbrev bc_M_name : ByteArray := prog_6_method_37_code
def yn_M_name : MethodName := ⟨"TwoLevelParserModel", "name", "(II)J"⟩
abbrev bc_M_number : ByteArray := prog_6_method_38_code
def yn_M_number : MethodName := ⟨"TwoLevelParserModel", "number", "(I)I"⟩
abbrev bc_M_look : ByteArray := prog_6_method_39_code
def yn_M_look : MethodName := ⟨"TwoLevelParserModel", "look", "(I)I"⟩
theorem kw_0 : Cond.selects "TwoLevelParser$Parser" ⟨"TwoLevelParser$Parser", "start", "()V"⟩ ⟨"TwoLevelParser$Parser", "start", "()V"⟩ ∈ zz_T := zz_Tin 0 rfl rfl
theorem kw_1 : Cond.selects "TwoLevelParser$Text" ⟨"TwoLevelParser$Text", "byteAt", "(I)I"⟩ ⟨"TwoLevelParser$Text", "byteAt", "(I)I"⟩ ∈ zz_T := zz_Tin 1 rfl rfl
theorem kw_2 : Cond.selects "TwoLevelParser$Text" ⟨"TwoLevelParser$Text", "scanJoined", "(I)V"⟩ ⟨"TwoLevelParser$Text", "scanJoined", "(I)V"⟩ ∈ zz_T := zz_Tin 2 rfl rfl
theorem kw_3 : Cond.selects "TwoLevelParser$Text" ⟨"TwoLevelParser$Text", "scansName", "()Z"⟩ ⟨"TwoLevelParser$Text", "scansName", "()Z"⟩ ∈ zz_T := zz_Tin 3 rfl rfl
theorem kw_4 : Cond.selects "TwoLevelParser$Text" ⟨"TwoLevelParser$Text", "scansNumber", "(Z)Z"⟩ ⟨"TwoLevelParser$Text", "scansNumber", "(Z)Z"⟩ ∈ zz_T := zz_Tin 4 rfl rfl
theorem kw_5 : Cond.selects "TwoLevelParser$Parser" ⟨"TwoLevelParser$Parser", "takesStep", "()Z"⟩ ⟨"TwoLevelParser$Parser", "takesStep", "()Z"⟩ ∈ zz_T := zz_Tin 5 rfl rfl
theorem kw_6 : Cond.selects "TwoLevelParser$Parser" ⟨"TwoLevelParser$Parser", "beginsE", "()Z"⟩ ⟨"TwoLevelParser$Parser", "beginsE", "()Z"⟩ ∈ zz_T := zz_Tin 6 rfl rfl
theorem kw_7 : Cond.selects "TwoLevelParser$Parser" ⟨"TwoLevelParser$Parser", "addNode", "(I)I"⟩ ⟨"TwoLevelParser$Parser", "addNode", "(I)I"⟩ ∈ zz_T := zz_Tin 7 rfl rfl
theorem kw_8 : Cond.selects "TwoLevelParser$Parser" ⟨"TwoLevelParser$Parser", "variablesHere", "()I"⟩ ⟨"TwoLevelParser$Parser", "variablesHere", "()I"⟩ ∈ zz_T := zz_Tin 8 rfl rfl
theorem kw_9 : Cond.selects "TwoLevelParser$Parser" ⟨"TwoLevelParser$Parser", "goOn", "()V"⟩ ⟨"TwoLevelParser$Parser", "goOn", "()V"⟩ ∈ zz_T := zz_Tin 9 rfl rfl
theorem kw_10 : Cond.selects "TwoLevelParser$Parser" ⟨"TwoLevelParser$Parser", "kindOfLeaf", "()I"⟩ ⟨"TwoLevelParser$Parser", "kindOfLeaf", "()I"⟩ ∈ zz_T := zz_Tin 10 rfl rfl
theorem kw_11 : Cond.selects "TwoLevelParser$Parser" ⟨"TwoLevelParser$Parser", "isFreeName", "()Z"⟩ ⟨"TwoLevelParser$Parser", "isFreeName", "()Z"⟩ ∈ zz_T := zz_Tin 11 rfl rfl
theorem kw_12 : Cond.selects "TwoLevelParser$Parser" ⟨"TwoLevelParser$Parser", "wordHere", "()I"⟩ ⟨"TwoLevelParser$Parser", "wordHere", "()I"⟩ ∈ zz_T := zz_Tin 12 rfl rfl
theorem kw_13 : Cond.selects "TwoLevelParser$Parser" ⟨"TwoLevelParser$Parser", "setNodeName", "(II)V"⟩ ⟨"TwoLevelParser$Parser", "setNodeName", "(II)V"⟩ ∈ zz_T := zz_Tin 13 rfl rfl
theorem kw_14 : Cond.selects "TwoLevelParser$Parser" ⟨"TwoLevelParser$Parser", "goOutTo", "(I)V"⟩ ⟨"TwoLevelParser$Parser", "goOutTo", "(I)V"⟩ ∈ zz_T := zz_Tin 14 rfl rfl
theorem kw_15 : Cond.selects "TwoLevelParser$Parser" ⟨"TwoLevelParser$Parser", "beginsC", "()Z"⟩ ⟨"TwoLevelParser$Parser", "beginsC", "()Z"⟩ ∈ zz_T := zz_Tin 15 rfl rfl
theorem kw_16 : Cond.selects "TwoLevelParser$Parser" ⟨"TwoLevelParser$Parser", "endsNode", "()Z"⟩ ⟨"TwoLevelParser$Parser", "endsNode", "()Z"⟩ ∈ zz_T := zz_Tin 16 rfl rfl
theorem kw_17 : Cond.selects "TwoLevelParser$Parser" ⟨"TwoLevelParser$Parser", "takesName", "(I)Z"⟩ ⟨"TwoLevelParser$Parser", "takesName", "(I)Z"⟩ ∈ zz_T := zz_Tin 17 rfl rfl
theorem kw_18 : Cond.selects "TwoLevelParser$Parser" ⟨"TwoLevelParser$Parser", "takesVariable", "(I)Z"⟩ ⟨"TwoLevelParser$Parser", "takesVariable", "(I)Z"⟩ ∈ zz_T := zz_Tin 18 rfl rfl
theorem kw_19 : Cond.selects "TwoLevelParser$Parser" ⟨"TwoLevelParser$Parser", "passesInside", "(I)Z"⟩ ⟨"TwoLevelParser$Parser", "passesInside", "(I)Z"⟩ ∈ zz_T := zz_Tin 19 rfl rfl
theorem kw_20 : Cond.selects "TwoLevelParser$Parser" ⟨"TwoLevelParser$Parser", "takesOutside", "()Z"⟩ ⟨"TwoLevelParser$Parser", "takesOutside", "()Z"⟩ ∈ zz_T := zz_Tin 20 rfl rfl
theorem kw_21 : Cond.selects "TwoLevelParser$Parser" ⟨"TwoLevelParser$Parser", "beginsDefinition", "()Z"⟩ ⟨"TwoLevelParser$Parser", "beginsDefinition", "()Z"⟩ ∈ zz_T := zz_Tin 21 rfl rfl
theorem kw_22 : Cond.selects "TwoLevelParser$Parser" ⟨"TwoLevelParser$Parser", "passes", "(II)Z"⟩ ⟨"TwoLevelParser$Parser", "passes", "(II)Z"⟩ ∈ zz_T := zz_Tin 22 rfl rfl
theorem kw_23 : Cond.selects "TwoLevelParser$Parser" ⟨"TwoLevelParser$Parser", "takesLevel", "()Z"⟩ ⟨"TwoLevelParser$Parser", "takesLevel", "()Z"⟩ ∈ zz_T := zz_Tin 23 rfl rfl
theorem kw_24 : Cond.selects "TwoLevelParser$Parser" ⟨"TwoLevelParser$Parser", "takesTitle", "()Z"⟩ ⟨"TwoLevelParser$Parser", "takesTitle", "()Z"⟩ ∈ zz_T := zz_Tin 24 rfl rfl
theorem kw_25 : Cond.selects "TwoLevelParser$Parser" ⟨"TwoLevelParser$Parser", "takesParameterOrEnd", "()Z"⟩ ⟨"TwoLevelParser$Parser", "takesParameterOrEnd", "()Z"⟩ ∈ zz_T := zz_Tin 25 rfl rfl
theorem kw_26 : Cond.selects "TwoLevelParser$Parser" ⟨"TwoLevelParser$Parser", "takesParameter", "()Z"⟩ ⟨"TwoLevelParser$Parser", "takesParameter", "()Z"⟩ ∈ zz_T := zz_Tin 26 rfl rfl
theorem kw_27 : Cond.selects "TwoLevelParser$Parser" ⟨"TwoLevelParser$Parser", "takesParameterType", "()Z"⟩ ⟨"TwoLevelParser$Parser", "takesParameterType", "()Z"⟩ ∈ zz_T := zz_Tin 27 rfl rfl
theorem kw_28 : Cond.selects "TwoLevelParser$Parser" ⟨"TwoLevelParser$Parser", "typeHere", "()I"⟩ ⟨"TwoLevelParser$Parser", "typeHere", "()I"⟩ ∈ zz_T := zz_Tin 28 rfl rfl
theorem kw_29 : Cond.selects "TwoLevelParser$Parser" ⟨"TwoLevelParser$Parser", "takesType", "()Z"⟩ ⟨"TwoLevelParser$Parser", "takesType", "()Z"⟩ ∈ zz_T := zz_Tin 29 rfl rfl
theorem kw_30 : Cond.selects "TwoLevelParser$Parser" ⟨"TwoLevelParser$Parser", "isChange", "()Z"⟩ ⟨"TwoLevelParser$Parser", "isChange", "()Z"⟩ ∈ zz_T := zz_Tin 30 rfl rfl
theorem kw_31 : Cond.selects "TwoLevelParser$Parser" ⟨"TwoLevelParser$Parser", "kindOfE", "()I"⟩ ⟨"TwoLevelParser$Parser", "kindOfE", "()I"⟩ ∈ zz_T := zz_Tin 31 rfl rfl
theorem kw_32 : Cond.selects "TwoLevelParser$Parser" ⟨"TwoLevelParser$Parser", "takesHead", "(I)Z"⟩ ⟨"TwoLevelParser$Parser", "takesHead", "(I)Z"⟩ ∈ zz_T := zz_Tin 32 rfl rfl
theorem kw_33 : Cond.selects "TwoLevelParser$Parser" ⟨"TwoLevelParser$Parser", "kindOfC", "()I"⟩ ⟨"TwoLevelParser$Parser", "kindOfC", "()I"⟩ ∈ zz_T := zz_Tin 33 rfl rfl
theorem kw_34 : Cond.selects "TwoLevelParserModel" ⟨"TwoLevelParserModel", "next", "()V"⟩ ⟨"TwoLevelParserModel", "next", "()V"⟩ ∈ zz_T := zz_Tin 34 rfl rfl
theorem kw_35 : Cond.selects "TwoLevelParserModel" ⟨"TwoLevelParserModel", "isRun", "(I)Z"⟩ ⟨"TwoLevelParserModel", "isRun", "(I)Z"⟩ ∈ zz_T := zz_Tin 35 rfl rfl
theorem kw_36 : Cond.selects "TwoLevelParserModel" ⟨"TwoLevelParserModel", "wrong", "(II)V"⟩ ⟨"TwoLevelParserModel", "wrong", "(II)V"⟩ ∈ zz_T := zz_Tin 36 rfl rfl
theorem kw_37 : Cond.selects "TwoLevelParserModel" ⟨"TwoLevelParserModel", "readName", "()V"⟩ ⟨"TwoLevelParserModel", "readName", "()V"⟩ ∈ zz_T := zz_Tin 37 rfl rfl
theorem kw_38 : Cond.selects "TwoLevelParserModel" ⟨"TwoLevelParserModel", "readNumber", "()V"⟩ ⟨"TwoLevelParserModel", "readNumber", "()V"⟩ ∈ zz_T := zz_Tin 38 rfl rfl
theorem kw_39 : Cond.selects "TwoLevelParserModel" ⟨"TwoLevelParserModel", "readDefinition", "()V"⟩ ⟨"TwoLevelParserModel", "readDefinition", "()V"⟩ ∈ zz_T := zz_Tin 39 rfl rfl
theorem kw_40 : Cond.selects "TwoLevelParserModel" ⟨"TwoLevelParserModel", "must", "(Z)Z"⟩ ⟨"TwoLevelParserModel", "must", "(Z)Z"⟩ ∈ zz_T := zz_Tin 40 rfl rfl
theorem kw_41 : Cond.selects "TwoLevelParserModel" ⟨"TwoLevelParserModel", "is", "(Ljava/lang/String;)Z"⟩ ⟨"TwoLevelParserModel", "is", "(Ljava/lang/String;)Z"⟩ ∈ zz_T := zz_Tin 41 rfl rfl
theorem kw_42 : Cond.selects "TwoLevelParserModel" ⟨"TwoLevelParserModel", "isOwn", "()Z"⟩ ⟨"TwoLevelParserModel", "isOwn", "()Z"⟩ ∈ zz_T := zz_Tin 42 rfl rfl
theorem kw_43 : Cond.selects "TwoLevelParserModel" ⟨"TwoLevelParserModel", "type", "()I"⟩ ⟨"TwoLevelParserModel", "type", "()I"⟩ ∈ zz_T := zz_Tin 43 rfl rfl
theorem kw_44 : Cond.selects "TwoLevelParserModel" ⟨"TwoLevelParserModel", "stableKind", "()I"⟩ ⟨"TwoLevelParserModel", "stableKind", "()I"⟩ ∈ zz_T := zz_Tin 44 rfl rfl
theorem kw_45 : Cond.selects "TwoLevelParserModel" ⟨"TwoLevelParserModel", "operation", "()I"⟩ ⟨"TwoLevelParserModel", "operation", "()I"⟩ ∈ zz_T := zz_Tin 45 rfl rfl
theorem kw_46 : Cond.selects "TwoLevelParserModel" ⟨"TwoLevelParserModel", "changeableKind", "()I"⟩ ⟨"TwoLevelParserModel", "changeableKind", "()I"⟩ ∈ zz_T := zz_Tin 46 rfl rfl
theorem kw_47 : Cond.selects "TwoLevelParserModel" ⟨"TwoLevelParserModel", "readParameter", "(I)V"⟩ ⟨"TwoLevelParserModel", "readParameter", "(I)V"⟩ ∈ zz_T := zz_Tin 47 rfl rfl
theorem kw_48 : Cond.selects "TwoLevelParserModel" ⟨"TwoLevelParserModel", "expression", "(Z)V"⟩ ⟨"TwoLevelParserModel", "expression", "(Z)V"⟩ ∈ zz_T := zz_Tin 48 rfl rfl
theorem kw_49 : Cond.selects "TwoLevelParserModel" ⟨"TwoLevelParserModel", "push", "(II)V"⟩ ⟨"TwoLevelParserModel", "push", "(II)V"⟩ ∈ zz_T := zz_Tin 49 rfl rfl
theorem kw_50 : Cond.selects "TwoLevelParserModel" ⟨"TwoLevelParserModel", "step", "()V"⟩ ⟨"TwoLevelParserModel", "step", "()V"⟩ ∈ zz_T := zz_Tin 50 rfl rfl
theorem kw_51 : Cond.selects "TwoLevelParserModel" ⟨"TwoLevelParserModel", "begin", "(ZI)V"⟩ ⟨"TwoLevelParserModel", "begin", "(ZI)V"⟩ ∈ zz_T := zz_Tin 51 rfl rfl
theorem kw_52 : Cond.selects "TwoLevelParserModel" ⟨"TwoLevelParserModel", "make", "(II)I"⟩ ⟨"TwoLevelParserModel", "make", "(II)I"⟩ ∈ zz_T := zz_Tin 52 rfl rfl
theorem kw_53 : Cond.selects "TwoLevelParserModel" ⟨"TwoLevelParserModel", "setName", "(I)V"⟩ ⟨"TwoLevelParserModel", "setName", "(I)V"⟩ ∈ zz_T := zz_Tin 53 rfl rfl
theorem kw_54 : Cond.selects "TwoLevelParserModel" ⟨"TwoLevelParserModel", "expect", "(I)V"⟩ ⟨"TwoLevelParserModel", "expect", "(I)V"⟩ ∈ zz_T := zz_Tin 54 rfl rfl
theorem kw_55 : Cond.selects "TwoLevelParserModel" ⟨"TwoLevelParserModel", "letBinds", "(I)V"⟩ ⟨"TwoLevelParserModel", "letBinds", "(I)V"⟩ ∈ zz_T := zz_Tin 55 rfl rfl
theorem kw_56 : Cond.selects "TwoLevelParserModel" ⟨"TwoLevelParserModel", "bind", "()V"⟩ ⟨"TwoLevelParserModel", "bind", "()V"⟩ ∈ zz_T := zz_Tin 56 rfl rfl
theorem kw_57 : Cond.selects "TwoLevelParserModel" ⟨"TwoLevelParserModel", "isDefinition", "(I)Z"⟩ ⟨"TwoLevelParserModel", "isDefinition", "(I)Z"⟩ ∈ zz_T := zz_Tin 57 rfl rfl
theorem kw_58 : Cond.selects "TwoLevelParserModel" ⟨"TwoLevelParserModel", "within", "(IZ)I"⟩ ⟨"TwoLevelParserModel", "within", "(IZ)I"⟩ ∈ zz_T := zz_Tin 58 rfl rfl
theorem kw_59 : Cond.initialized "TwoLevelParserLaw" ∈ zz_T := zz_Tin 59 rfl rfl
theorem kw_60 : Cond.initialized "TwoLevelParser" ∈ zz_T := zz_Tin 60 rfl rfl
theorem kw_61 : Cond.initialized "TwoLevelParser$Parser" ∈ zz_T := zz_Tin 61 rfl rfl
theorem kw_62 : Cond.initialized "TwoLevelParser$Text" ∈ zz_T := zz_Tin 62 rfl rfl
theorem kw_63 : Cond.initialized "TwoLevelParser$Records" ∈ zz_T := zz_Tin 63 rfl rfl
theorem kw_64 : Cond.initialized "java/lang/Math" ∈ zz_T := zz_Tin 64 rfl rfl
theorem kw_65 : Cond.initialized "TwoLevelParserModel" ∈ zz_T := zz_Tin 65 rfl rfl
theorem kw_66 : Cond.initialized "java/util/Arrays" ∈ zz_T := zz_Tin 66 rfl rfl
theorem kw_67 : Cond.initialized "java/lang/System" ∈ zz_T := zz_Tin 67 rfl rfl
theorem kw_68 : Cond.initialized "java/lang/String" ∈ zz_T := zz_Tin 68 rfl rfl
theorem kw_69 : Cond.initialized "java/lang/StringLatin1" ∈ zz_T := zz_Tin 69 rfl rfl
theorem kw_70 : Cond.initialized "jdk/internal/util/Preconditions" ∈ zz_T := zz_Tin 70 rfl rfl
theorem kw_71 : Cond.initialized "java/lang/StringUTF16" ∈ zz_T := zz_Tin 71 rfl rfl
theorem kw_72 : Cond.classLink "TwoLevelParserLaw" (7 : Nat) "TwoLevelParser" ∈ zz_T := zz_Tin 72 rfl rfl
theorem kw_73 : Cond.instantiable "TwoLevelParser" (1 : Nat) ∈ zz_T := zz_Tin 73 rfl rfl
theorem kw_74 : Cond.methodLink "TwoLevelParserLaw" (9 : Nat) ({ cls := "TwoLevelParser", name := "<init>", desc := "()V" } : MethodName) ∈ zz_T := zz_Tin 74 rfl rfl
theorem kw_75 : Cond.instanceMethod ({ cls := "TwoLevelParser", name := "<init>", desc := "()V" } : MethodName) ∈ zz_T := zz_Tin 75 rfl rfl
theorem kw_76 : Cond.code ({ cls := "TwoLevelParser", name := "<init>", desc := "()V" } : MethodName) prog_1_method_1_code (1 : Nat) (Option.none : Option FieldType) ∈ zz_T := zz_Tin 76 rfl rfl
theorem kw_77 : Cond.methodLink "TwoLevelParser" (3 : Nat) ({ cls := "java/lang/Object", name := "<init>", desc := "()V" } : MethodName) ∈ zz_T := zz_Tin 77 rfl rfl
theorem kw_78 : Cond.instanceMethod ({ cls := "java/lang/Object", name := "<init>", desc := "()V" } : MethodName) ∈ zz_T := zz_Tin 78 rfl rfl
theorem kw_79 : Cond.code ({ cls := "java/lang/Object", name := "<init>", desc := "()V" } : MethodName) object_method_1_code (1 : Nat) (Option.none : Option FieldType) ∈ zz_T := zz_Tin 79 rfl rfl
theorem kw_80 : Cond.classLink "TwoLevelParser" (9 : Nat) "TwoLevelParser$Parser" ∈ zz_T := zz_Tin 80 rfl rfl
theorem kw_81 : Cond.instantiable "TwoLevelParser$Parser" (9 : Nat) ∈ zz_T := zz_Tin 81 rfl rfl
theorem kw_83 : Cond.instanceMethod ({ cls := "TwoLevelParser$Parser", name := "<init>", desc := "()V" } : MethodName) ∈ zz_T := zz_Tin 83 rfl rfl
theorem kw_84 : Cond.code ({ cls := "TwoLevelParser$Parser", name := "<init>", desc := "()V" } : MethodName) prog_2_method_1_code (1 : Nat) (Option.none : Option FieldType) ∈ zz_T := zz_Tin 84 rfl rfl
theorem kw_85 : Cond.methodLink "TwoLevelParser$Parser" (3 : Nat) ({ cls := "java/lang/Object", name := "<init>", desc := "()V" } : MethodName) ∈ zz_T := zz_Tin 85 rfl rfl
theorem kw_86 : Cond.classLink "TwoLevelParser$Parser" (9 : Nat) "TwoLevelParser$Text" ∈ zz_T := zz_Tin 86 rfl rfl
theorem kw_87 : Cond.instantiable "TwoLevelParser$Text" (8 : Nat) ∈ zz_T := zz_Tin 87 rfl rfl
theorem kw_89 : Cond.instanceMethod ({ cls := "TwoLevelParser$Text", name := "<init>", desc := "()V" } : MethodName) ∈ zz_T := zz_Tin 89 rfl rfl
theorem kw_90 : Cond.code ({ cls := "TwoLevelParser$Text", name := "<init>", desc := "()V" } : MethodName) prog_4_method_1_code (1 : Nat) (Option.none : Option FieldType) ∈ zz_T := zz_Tin 90 rfl rfl
theorem kw_91 : Cond.methodLink "TwoLevelParser$Text" (3 : Nat) ({ cls := "java/lang/Object", name := "<init>", desc := "()V" } : MethodName) ∈ zz_T := zz_Tin 91 rfl rfl
theorem kw_92 : Cond.fieldLink "TwoLevelParser$Text" (11 : Nat) "TwoLevelParser$Text" "bytes" "[B" ∈ zz_T := zz_Tin 92 rfl rfl
theorem kw_93 : Cond.fieldLink "TwoLevelParser$Text" (15 : Nat) "TwoLevelParser$Text" "length" "I" ∈ zz_T := zz_Tin 93 rfl rfl
theorem kw_94 : Cond.fieldLink "TwoLevelParser$Text" (19 : Nat) "TwoLevelParser$Text" "next" "I" ∈ zz_T := zz_Tin 94 rfl rfl
theorem kw_95 : Cond.fieldLink "TwoLevelParser$Text" (22 : Nat) "TwoLevelParser$Text" "token" "I" ∈ zz_T := zz_Tin 95 rfl rfl
theorem kw_96 : Cond.fieldLink "TwoLevelParser$Parser" (57 : Nat) "TwoLevelParser$Text" "token" "I" ∈ zz_T := zz_Tin 96 rfl rfl
theorem kw_97 : Cond.fieldLink "TwoLevelParser$Text" (25 : Nat) "TwoLevelParser$Text" "place" "I" ∈ zz_T := zz_Tin 97 rfl rfl
theorem kw_98 : Cond.fieldLink "TwoLevelParser$Parser" (70 : Nat) "TwoLevelParser$Text" "place" "I" ∈ zz_T := zz_Tin 98 rfl rfl
theorem kw_99 : Cond.fieldLink "TwoLevelParser$Text" (28 : Nat) "TwoLevelParser$Text" "name" "J" ∈ zz_T := zz_Tin 99 rfl rfl
theorem kw_100 : Cond.fieldLink "TwoLevelParser$Parser" (144 : Nat) "TwoLevelParser$Text" "name" "J" ∈ zz_T := zz_Tin 100 rfl rfl
theorem kw_101 : Cond.fieldLink "TwoLevelParser$Text" (32 : Nat) "TwoLevelParser$Text" "word" "I" ∈ zz_T := zz_Tin 101 rfl rfl
theorem kw_102 : Cond.fieldLink "TwoLevelParser$Parser" (123 : Nat) "TwoLevelParser$Text" "word" "I" ∈ zz_T := zz_Tin 102 rfl rfl
theorem kw_103 : Cond.fieldLink "TwoLevelParser$Text" (35 : Nat) "TwoLevelParser$Text" "value" "I" ∈ zz_T := zz_Tin 103 rfl rfl
theorem kw_104 : Cond.fieldLink "TwoLevelParser$Parser" (218 : Nat) "TwoLevelParser$Text" "value" "I" ∈ zz_T := zz_Tin 104 rfl rfl
theorem kw_122 : Cond.arrayClass FieldType.byte ∈ zz_T := zz_Tin 122 rfl rfl
theorem kw_123 : Cond.classLink "TwoLevelParser$Parser" (18 : Nat) "TwoLevelParser$Records" ∈ zz_T := zz_Tin 123 rfl rfl
theorem kw_124 : Cond.instantiable "TwoLevelParser$Records" (5 : Nat) ∈ zz_T := zz_Tin 124 rfl rfl
theorem kw_125 : Cond.methodLink "TwoLevelParser$Parser" (20 : Nat) ({ cls := "TwoLevelParser$Records", name := "<init>", desc := "(II)V" } : MethodName) ∈ zz_T := zz_Tin 125 rfl rfl
theorem kw_126 : Cond.instanceMethod ({ cls := "TwoLevelParser$Records", name := "<init>", desc := "(II)V" } : MethodName) ∈ zz_T := zz_Tin 126 rfl rfl
theorem kw_127 : Cond.code ({ cls := "TwoLevelParser$Records", name := "<init>", desc := "(II)V" } : MethodName) prog_3_method_1_code (3 : Nat) (Option.none : Option FieldType) ∈ zz_T := zz_Tin 127 rfl rfl
theorem kw_128 : Cond.methodLink "TwoLevelParser$Records" (3 : Nat) ({ cls := "java/lang/Object", name := "<init>", desc := "()V" } : MethodName) ∈ zz_T := zz_Tin 128 rfl rfl
theorem kw_129 : Cond.methodLink "TwoLevelParser$Records" (15 : Nat) ({ cls := "java/lang/Math", name := "max", desc := "(II)I" } : MethodName) ∈ zz_T := zz_Tin 129 rfl rfl
theorem kw_130 : Cond.static ({ cls := "java/lang/Math", name := "max", desc := "(II)I" } : MethodName) ∈ zz_T := zz_Tin 130 rfl rfl
theorem kw_131 : Cond.code ({ cls := "java/lang/Math", name := "max", desc := "(II)I" } : MethodName) prog_8_method_65_code (2 : Nat) (Option.some FieldType.int) ∈ zz_T := zz_Tin 131 rfl rfl
theorem kw_132 : Cond.fieldLink "TwoLevelParser$Records" (21 : Nat) "TwoLevelParser$Records" "width" "I" ∈ zz_T := zz_Tin 132 rfl rfl
theorem kw_133 : Cond.fieldLink "TwoLevelParser$Records" (24 : Nat) "TwoLevelParser$Records" "namesWidth" "I" ∈ zz_T := zz_Tin 133 rfl rfl
theorem kw_134 : Cond.fieldLink "TwoLevelParser$Records" (27 : Nat) "TwoLevelParser$Records" "numbers" "[I" ∈ zz_T := zz_Tin 134 rfl rfl
theorem kw_135 : Cond.fieldLink "TwoLevelParser$Records" (31 : Nat) "TwoLevelParser$Records" "names" "[J" ∈ zz_T := zz_Tin 135 rfl rfl
theorem kw_136 : Cond.fieldLink "TwoLevelParser$Records" (9 : Nat) "TwoLevelParser$Records" "rows" "I" ∈ zz_T := zz_Tin 136 rfl rfl
theorem kw_148 : Cond.arrayClass FieldType.int ∈ zz_T := zz_Tin 148 rfl rfl
theorem kw_149 : Cond.arrayClass FieldType.long ∈ zz_T := zz_Tin 149 rfl rfl
theorem kw_150 : Cond.fieldLink "TwoLevelParser$Parser" (12 : Nat) "TwoLevelParser$Parser" "text" "LTwoLevelParser$Text;" ∈ zz_T := zz_Tin 150 rfl rfl
theorem kw_151 : Cond.fieldLink "TwoLevelParser" (16 : Nat) "TwoLevelParser$Parser" "text" "LTwoLevelParser$Text;" ∈ zz_T := zz_Tin 151 rfl rfl
theorem kw_152 : Cond.fieldLink "TwoLevelParser$Parser" (23 : Nat) "TwoLevelParser$Parser" "definitions" "LTwoLevelParser$Records;" ∈ zz_T := zz_Tin 152 rfl rfl
theorem kw_153 : Cond.fieldLink "TwoLevelParser" (33 : Nat) "TwoLevelParser$Parser" "definitions" "LTwoLevelParser$Records;" ∈ zz_T := zz_Tin 153 rfl rfl
theorem kw_154 : Cond.fieldLink "TwoLevelParser$Parser" (27 : Nat) "TwoLevelParser$Parser" "nodes" "LTwoLevelParser$Records;" ∈ zz_T := zz_Tin 154 rfl rfl
theorem kw_155 : Cond.fieldLink "TwoLevelParser" (47 : Nat) "TwoLevelParser$Parser" "nodes" "LTwoLevelParser$Records;" ∈ zz_T := zz_Tin 155 rfl rfl
theorem kw_156 : Cond.fieldLink "TwoLevelParser$Parser" (30 : Nat) "TwoLevelParser$Parser" "fault" "I" ∈ zz_T := zz_Tin 156 rfl rfl
theorem kw_157 : Cond.fieldLink "TwoLevelParser" (53 : Nat) "TwoLevelParser$Parser" "fault" "I" ∈ zz_T := zz_Tin 157 rfl rfl
theorem kw_158 : Cond.fieldLink "TwoLevelParser$Parser" (34 : Nat) "TwoLevelParser$Parser" "faultPlace" "I" ∈ zz_T := zz_Tin 158 rfl rfl
theorem kw_159 : Cond.fieldLink "TwoLevelParser" (57 : Nat) "TwoLevelParser$Parser" "faultPlace" "I" ∈ zz_T := zz_Tin 159 rfl rfl
theorem kw_160 : Cond.fieldLink "TwoLevelParser$Parser" (37 : Nat) "TwoLevelParser$Parser" "stage" "I" ∈ zz_T := zz_Tin 160 rfl rfl
theorem kw_161 : Cond.fieldLink "TwoLevelParser$Parser" (40 : Nat) "TwoLevelParser$Parser" "latest" "I" ∈ zz_T := zz_Tin 161 rfl rfl
theorem kw_162 : Cond.fieldLink "TwoLevelParser$Parser" (43 : Nat) "TwoLevelParser$Parser" "open" "I" ∈ zz_T := zz_Tin 162 rfl rfl
theorem kw_163 : Cond.fieldLink "TwoLevelParser$Parser" (46 : Nat) "TwoLevelParser$Parser" "wanted" "C" ∈ zz_T := zz_Tin 163 rfl rfl
theorem kw_183 : Cond.fieldLink "TwoLevelParser" (12 : Nat) "TwoLevelParser" "parser" "LTwoLevelParser$Parser;" ∈ zz_T := zz_Tin 183 rfl rfl
theorem kw_187 : Cond.methodLink "TwoLevelParserLaw" (15 : Nat) ({ cls := "TwoLevelParser", name := "give", desc := "(JI)Z" } : MethodName) ∈ zz_T := zz_Tin 187 rfl rfl
theorem kw_188 : Cond.instanceMethod ({ cls := "TwoLevelParser", name := "give", desc := "(JI)Z" } : MethodName) ∈ zz_T := zz_Tin 188 rfl rfl
theorem kw_189 : Cond.selects "TwoLevelParser" ({ cls := "TwoLevelParser", name := "give", desc := "(JI)Z" } : MethodName) ({ cls := "TwoLevelParser", name := "give", desc := "(JI)Z" } : MethodName) ∈ zz_T := zz_Tin 189 rfl rfl
theorem kw_190 : Cond.code ({ cls := "TwoLevelParser", name := "give", desc := "(JI)Z" } : MethodName) prog_1_method_2_code (4 : Nat) (Option.some FieldType.boolean) ∈ zz_T := zz_Tin 190 rfl rfl
theorem kw_191 : Cond.methodLink "TwoLevelParser" (20 : Nat) ({ cls := "TwoLevelParser$Text", name := "append", desc := "(JI)Z" } : MethodName) ∈ zz_T := zz_Tin 191 rfl rfl
theorem kw_192 : Cond.instanceMethod ({ cls := "TwoLevelParser$Text", name := "append", desc := "(JI)Z" } : MethodName) ∈ zz_T := zz_Tin 192 rfl rfl
theorem kw_193 : Cond.selects "TwoLevelParser$Text" ({ cls := "TwoLevelParser$Text", name := "append", desc := "(JI)Z" } : MethodName) ({ cls := "TwoLevelParser$Text", name := "append", desc := "(JI)Z" } : MethodName) ∈ zz_T := zz_Tin 193 rfl rfl
theorem kw_194 : Cond.code ({ cls := "TwoLevelParser$Text", name := "append", desc := "(JI)Z" } : MethodName) prog_4_method_4_code (5 : Nat) (Option.some FieldType.boolean) ∈ zz_T := zz_Tin 194 rfl rfl
theorem kw_195 : Cond.methodLink "TwoLevelParser$Text" (38 : Nat) ({ cls := "java/util/Arrays", name := "copyOf", desc := "([BI)[B" } : MethodName) ∈ zz_T := zz_Tin 195 rfl rfl
theorem kw_196 : Cond.static ({ cls := "java/util/Arrays", name := "copyOf", desc := "([BI)[B" } : MethodName) ∈ zz_T := zz_Tin 196 rfl rfl
theorem kw_197 : Cond.code ({ cls := "java/util/Arrays", name := "copyOf", desc := "([BI)[B" } : MethodName) prog_13_method_121_code (3 : Nat) (Option.some (FieldType.array FieldType.byte)) ∈ zz_T := zz_Tin 197 rfl rfl
theorem kw_204 : Cond.classLink "java/util/Arrays" (311 : Nat) "[B" ∈ zz_T := zz_Tin 204 rfl rfl
theorem kw_205 : Cond.methodLink "java/util/Arrays" (304 : Nat) ({ cls := "java/lang/Math", name := "min", desc := "(II)I" } : MethodName) ∈ zz_T := zz_Tin 205 rfl rfl
theorem kw_206 : Cond.static ({ cls := "java/lang/Math", name := "min", desc := "(II)I" } : MethodName) ∈ zz_T := zz_Tin 206 rfl rfl
theorem kw_207 : Cond.code ({ cls := "java/lang/Math", name := "min", desc := "(II)I" } : MethodName) prog_8_method_69_code (2 : Nat) (Option.some FieldType.int) ∈ zz_T := zz_Tin 207 rfl rfl
theorem kw_208 : Cond.methodLink "java/util/Arrays" (150 : Nat) ({ cls := "java/lang/System", name := "arraycopy", desc := "(Ljava/lang/Object;ILjava/lang/Object;II)V" } : MethodName) ∈ zz_T := zz_Tin 208 rfl rfl
theorem kw_209 : Cond.static ({ cls := "java/lang/System", name := "arraycopy", desc := "(Ljava/lang/Object;ILjava/lang/Object;II)V" } : MethodName) ∈ zz_T := zz_Tin 209 rfl rfl
theorem kw_210 : Cond.native ({ cls := "java/lang/System", name := "arraycopy", desc := "(Ljava/lang/Object;ILjava/lang/Object;II)V" } : MethodName) ∈ zz_T := zz_Tin 210 rfl rfl
theorem kw_211 : Cond.methodLink "TwoLevelParserLaw" (20 : Nat) ({ cls := "TwoLevelParser", name := "wipe", desc := "()V" } : MethodName) ∈ zz_T := zz_Tin 211 rfl rfl
theorem kw_212 : Cond.instanceMethod ({ cls := "TwoLevelParser", name := "wipe", desc := "()V" } : MethodName) ∈ zz_T := zz_Tin 212 rfl rfl
theorem kw_213 : Cond.selects "TwoLevelParser" ({ cls := "TwoLevelParser", name := "wipe", desc := "()V" } : MethodName) ({ cls := "TwoLevelParser", name := "wipe", desc := "()V" } : MethodName) ∈ zz_T := zz_Tin 213 rfl rfl
theorem kw_214 : Cond.code ({ cls := "TwoLevelParser", name := "wipe", desc := "()V" } : MethodName) prog_1_method_3_code (1 : Nat) (Option.none : Option FieldType) ∈ zz_T := zz_Tin 214 rfl rfl
theorem kw_215 : Cond.methodLink "TwoLevelParser" (26 : Nat) ({ cls := "TwoLevelParser$Text", name := "clear", desc := "()V" } : MethodName) ∈ zz_T := zz_Tin 215 rfl rfl
theorem kw_216 : Cond.instanceMethod ({ cls := "TwoLevelParser$Text", name := "clear", desc := "()V" } : MethodName) ∈ zz_T := zz_Tin 216 rfl rfl
theorem kw_217 : Cond.selects "TwoLevelParser$Text" ({ cls := "TwoLevelParser$Text", name := "clear", desc := "()V" } : MethodName) ({ cls := "TwoLevelParser$Text", name := "clear", desc := "()V" } : MethodName) ∈ zz_T := zz_Tin 217 rfl rfl
theorem kw_218 : Cond.code ({ cls := "TwoLevelParser$Text", name := "clear", desc := "()V" } : MethodName) prog_4_method_3_code (1 : Nat) (Option.none : Option FieldType) ∈ zz_T := zz_Tin 218 rfl rfl
theorem kw_219 : Cond.methodLink "TwoLevelParserLaw" (24 : Nat) ({ cls := "TwoLevelParser", name := "read", desc := "()I" } : MethodName) ∈ zz_T := zz_Tin 219 rfl rfl
theorem kw_220 : Cond.instanceMethod ({ cls := "TwoLevelParser", name := "read", desc := "()I" } : MethodName) ∈ zz_T := zz_Tin 220 rfl rfl
theorem kw_221 : Cond.selects "TwoLevelParser" ({ cls := "TwoLevelParser", name := "read", desc := "()I" } : MethodName) ({ cls := "TwoLevelParser", name := "read", desc := "()I" } : MethodName) ∈ zz_T := zz_Tin 221 rfl rfl
theorem kw_222 : Cond.code ({ cls := "TwoLevelParser", name := "read", desc := "()I" } : MethodName) prog_1_method_4_code (1 : Nat) (Option.some FieldType.int) ∈ zz_T := zz_Tin 222 rfl rfl
theorem kw_223 : Cond.methodLink "TwoLevelParser" (29 : Nat) ({ cls := "TwoLevelParser$Parser", name := "parse", desc := "()I" } : MethodName) ∈ zz_T := zz_Tin 223 rfl rfl
theorem kw_224 : Cond.instanceMethod ({ cls := "TwoLevelParser$Parser", name := "parse", desc := "()I" } : MethodName) ∈ zz_T := zz_Tin 224 rfl rfl
theorem kw_225 : Cond.selects "TwoLevelParser$Parser" ({ cls := "TwoLevelParser$Parser", name := "parse", desc := "()I" } : MethodName) ({ cls := "TwoLevelParser$Parser", name := "parse", desc := "()I" } : MethodName) ∈ zz_T := zz_Tin 225 rfl rfl
theorem kw_226 : Cond.code ({ cls := "TwoLevelParser$Parser", name := "parse", desc := "()I" } : MethodName) prog_2_method_2_code (2 : Nat) (Option.some FieldType.int) ∈ zz_T := zz_Tin 226 rfl rfl
theorem kw_227 : Cond.methodLink "TwoLevelParser$Parser" (50 : Nat) ({ cls := "TwoLevelParser$Parser", name := "start", desc := "()V" } : MethodName) ∈ zz_T := zz_Tin 227 rfl rfl
theorem kw_229 : Cond.instanceMethod ({ cls := "TwoLevelParser$Parser", name := "start", desc := "()V" } : MethodName) ∈ zz_T := zz_Tin 229 rfl rfl
theorem kw_230 : Cond.code ({ cls := "TwoLevelParser$Parser", name := "start", desc := "()V" } : MethodName) prog_2_method_3_code (1 : Nat) (Option.none : Option FieldType) ∈ zz_T := zz_Tin 230 rfl rfl
theorem kw_231 : Cond.methodLink "TwoLevelParser$Parser" (73 : Nat) ({ cls := "TwoLevelParser$Records", name := "clear", desc := "()V" } : MethodName) ∈ zz_T := zz_Tin 231 rfl rfl
theorem kw_232 : Cond.instanceMethod ({ cls := "TwoLevelParser$Records", name := "clear", desc := "()V" } : MethodName) ∈ zz_T := zz_Tin 232 rfl rfl
theorem kw_233 : Cond.selects "TwoLevelParser$Records" ({ cls := "TwoLevelParser$Records", name := "clear", desc := "()V" } : MethodName) ({ cls := "TwoLevelParser$Records", name := "clear", desc := "()V" } : MethodName) ∈ zz_T := zz_Tin 233 rfl rfl
theorem kw_234 : Cond.code ({ cls := "TwoLevelParser$Records", name := "clear", desc := "()V" } : MethodName) prog_3_method_3_code (1 : Nat) (Option.none : Option FieldType) ∈ zz_T := zz_Tin 234 rfl rfl
theorem kw_235 : Cond.methodLink "TwoLevelParser$Parser" (76 : Nat) ({ cls := "TwoLevelParser$Text", name := "toFirstToken", desc := "()V" } : MethodName) ∈ zz_T := zz_Tin 235 rfl rfl
theorem kw_236 : Cond.instanceMethod ({ cls := "TwoLevelParser$Text", name := "toFirstToken", desc := "()V" } : MethodName) ∈ zz_T := zz_Tin 236 rfl rfl
theorem kw_237 : Cond.selects "TwoLevelParser$Text" ({ cls := "TwoLevelParser$Text", name := "toFirstToken", desc := "()V" } : MethodName) ({ cls := "TwoLevelParser$Text", name := "toFirstToken", desc := "()V" } : MethodName) ∈ zz_T := zz_Tin 237 rfl rfl
theorem kw_238 : Cond.code ({ cls := "TwoLevelParser$Text", name := "toFirstToken", desc := "()V" } : MethodName) prog_4_method_6_code (1 : Nat) (Option.none : Option FieldType) ∈ zz_T := zz_Tin 238 rfl rfl
theorem kw_239 : Cond.methodLink "TwoLevelParser$Text" (44 : Nat) ({ cls := "TwoLevelParser$Text", name := "toNextToken", desc := "()V" } : MethodName) ∈ zz_T := zz_Tin 239 rfl rfl
theorem kw_240 : Cond.instanceMethod ({ cls := "TwoLevelParser$Text", name := "toNextToken", desc := "()V" } : MethodName) ∈ zz_T := zz_Tin 240 rfl rfl
theorem kw_241 : Cond.selects "TwoLevelParser$Text" ({ cls := "TwoLevelParser$Text", name := "toNextToken", desc := "()V" } : MethodName) ({ cls := "TwoLevelParser$Text", name := "toNextToken", desc := "()V" } : MethodName) ∈ zz_T := zz_Tin 241 rfl rfl
theorem kw_242 : Cond.code ({ cls := "TwoLevelParser$Text", name := "toNextToken", desc := "()V" } : MethodName) prog_4_method_7_code (2 : Nat) (Option.none : Option FieldType) ∈ zz_T := zz_Tin 242 rfl rfl
theorem kw_243 : Cond.methodLink "TwoLevelParser$Text" (47 : Nat) ({ cls := "TwoLevelParser$Text", name := "byteAt", desc := "(I)I" } : MethodName) ∈ zz_T := zz_Tin 243 rfl rfl
theorem kw_245 : Cond.instanceMethod ({ cls := "TwoLevelParser$Text", name := "byteAt", desc := "(I)I" } : MethodName) ∈ zz_T := zz_Tin 245 rfl rfl
theorem kw_246 : Cond.code ({ cls := "TwoLevelParser$Text", name := "byteAt", desc := "(I)I" } : MethodName) prog_4_method_5_code (2 : Nat) (Option.some FieldType.int) ∈ zz_T := zz_Tin 246 rfl rfl
theorem kw_247 : Cond.methodLink "TwoLevelParser$Text" (51 : Nat) ({ cls := "TwoLevelParser$Text", name := "isBlank", desc := "(I)Z" } : MethodName) ∈ zz_T := zz_Tin 247 rfl rfl
theorem kw_248 : Cond.static ({ cls := "TwoLevelParser$Text", name := "isBlank", desc := "(I)Z" } : MethodName) ∈ zz_T := zz_Tin 248 rfl rfl
theorem kw_249 : Cond.code ({ cls := "TwoLevelParser$Text", name := "isBlank", desc := "(I)Z" } : MethodName) prog_4_method_12_code (1 : Nat) (Option.some FieldType.boolean) ∈ zz_T := zz_Tin 249 rfl rfl
theorem kw_250 : Cond.methodLink "TwoLevelParser$Text" (55 : Nat) ({ cls := "TwoLevelParser$Text", name := "isJoined", desc := "(I)Z" } : MethodName) ∈ zz_T := zz_Tin 250 rfl rfl
theorem kw_251 : Cond.static ({ cls := "TwoLevelParser$Text", name := "isJoined", desc := "(I)Z" } : MethodName) ∈ zz_T := zz_Tin 251 rfl rfl
theorem kw_252 : Cond.code ({ cls := "TwoLevelParser$Text", name := "isJoined", desc := "(I)Z" } : MethodName) prog_4_method_15_code (1 : Nat) (Option.some FieldType.boolean) ∈ zz_T := zz_Tin 252 rfl rfl
theorem kw_253 : Cond.methodLink "TwoLevelParser$Text" (62 : Nat) ({ cls := "TwoLevelParser$Text", name := "isLetter", desc := "(I)Z" } : MethodName) ∈ zz_T := zz_Tin 253 rfl rfl
theorem kw_254 : Cond.static ({ cls := "TwoLevelParser$Text", name := "isLetter", desc := "(I)Z" } : MethodName) ∈ zz_T := zz_Tin 254 rfl rfl
theorem kw_255 : Cond.code ({ cls := "TwoLevelParser$Text", name := "isLetter", desc := "(I)Z" } : MethodName) prog_4_method_13_code (1 : Nat) (Option.some FieldType.boolean) ∈ zz_T := zz_Tin 255 rfl rfl
theorem kw_256 : Cond.methodLink "TwoLevelParser$Text" (83 : Nat) ({ cls := "TwoLevelParser$Text", name := "isDigit", desc := "(I)Z" } : MethodName) ∈ zz_T := zz_Tin 256 rfl rfl
theorem kw_257 : Cond.static ({ cls := "TwoLevelParser$Text", name := "isDigit", desc := "(I)Z" } : MethodName) ∈ zz_T := zz_Tin 257 rfl rfl
theorem kw_258 : Cond.code ({ cls := "TwoLevelParser$Text", name := "isDigit", desc := "(I)Z" } : MethodName) prog_4_method_14_code (1 : Nat) (Option.some FieldType.boolean) ∈ zz_T := zz_Tin 258 rfl rfl
theorem kw_259 : Cond.methodLink "TwoLevelParser$Text" (58 : Nat) ({ cls := "TwoLevelParser$Text", name := "scanJoined", desc := "(I)V" } : MethodName) ∈ zz_T := zz_Tin 259 rfl rfl
theorem kw_261 : Cond.instanceMethod ({ cls := "TwoLevelParser$Text", name := "scanJoined", desc := "(I)V" } : MethodName) ∈ zz_T := zz_Tin 261 rfl rfl
theorem kw_262 : Cond.code ({ cls := "TwoLevelParser$Text", name := "scanJoined", desc := "(I)V" } : MethodName) prog_4_method_8_code (2 : Nat) (Option.none : Option FieldType) ∈ zz_T := zz_Tin 262 rfl rfl
theorem kw_263 : Cond.methodLink "TwoLevelParser$Text" (65 : Nat) ({ cls := "TwoLevelParser$Text", name := "scansName", desc := "()Z" } : MethodName) ∈ zz_T := zz_Tin 263 rfl rfl
theorem kw_265 : Cond.instanceMethod ({ cls := "TwoLevelParser$Text", name := "scansName", desc := "()Z" } : MethodName) ∈ zz_T := zz_Tin 265 rfl rfl
theorem kw_266 : Cond.code ({ cls := "TwoLevelParser$Text", name := "scansName", desc := "()Z" } : MethodName) prog_4_method_9_code (3 : Nat) (Option.some FieldType.boolean) ∈ zz_T := zz_Tin 266 rfl rfl
theorem kw_267 : Cond.constantLong "TwoLevelParser$Text" (73 : Nat) (32 : Int64) ∈ zz_T := zz_Tin 267 rfl rfl
theorem kw_268 : Cond.methodLink "TwoLevelParser$Text" (75 : Nat) ({ cls := "TwoLevelParser$Text", name := "wordOf", desc := "(J)I" } : MethodName) ∈ zz_T := zz_Tin 268 rfl rfl
theorem kw_269 : Cond.static ({ cls := "TwoLevelParser$Text", name := "wordOf", desc := "(J)I" } : MethodName) ∈ zz_T := zz_Tin 269 rfl rfl
theorem kw_270 : Cond.code ({ cls := "TwoLevelParser$Text", name := "wordOf", desc := "(J)I" } : MethodName) prog_4_method_11_code (3 : Nat) (Option.some FieldType.int) ∈ zz_T := zz_Tin 270 rfl rfl
theorem kw_273 : Cond.methodLink "TwoLevelParser$Text" (69 : Nat) ({ cls := "TwoLevelParser$Text", name := "scansNumber", desc := "(Z)Z" } : MethodName) ∈ zz_T := zz_Tin 273 rfl rfl
theorem kw_275 : Cond.instanceMethod ({ cls := "TwoLevelParser$Text", name := "scansNumber", desc := "(Z)Z" } : MethodName) ∈ zz_T := zz_Tin 275 rfl rfl
theorem kw_276 : Cond.code ({ cls := "TwoLevelParser$Text", name := "scansNumber", desc := "(Z)Z" } : MethodName) prog_4_method_10_code (9 : Nat) (Option.some FieldType.boolean) ∈ zz_T := zz_Tin 276 rfl rfl
theorem kw_277 : Cond.constantLong "TwoLevelParser$Text" (79 : Nat) (2147483648 : Int64) ∈ zz_T := zz_Tin 277 rfl rfl
theorem kw_278 : Cond.constantLong "TwoLevelParser$Text" (81 : Nat) (2147483647 : Int64) ∈ zz_T := zz_Tin 278 rfl rfl
theorem kw_279 : Cond.constantLong "TwoLevelParser$Text" (86 : Nat) (10 : Int64) ∈ zz_T := zz_Tin 279 rfl rfl
theorem kw_280 : Cond.methodLink "TwoLevelParser$Parser" (53 : Nat) ({ cls := "TwoLevelParser$Text", name := "size", desc := "()I" } : MethodName) ∈ zz_T := zz_Tin 280 rfl rfl
theorem kw_281 : Cond.instanceMethod ({ cls := "TwoLevelParser$Text", name := "size", desc := "()I" } : MethodName) ∈ zz_T := zz_Tin 281 rfl rfl
theorem kw_282 : Cond.selects "TwoLevelParser$Text" ({ cls := "TwoLevelParser$Text", name := "size", desc := "()I" } : MethodName) ({ cls := "TwoLevelParser$Text", name := "size", desc := "()I" } : MethodName) ∈ zz_T := zz_Tin 282 rfl rfl
theorem kw_283 : Cond.code ({ cls := "TwoLevelParser$Text", name := "size", desc := "()I" } : MethodName) prog_4_method_2_code (1 : Nat) (Option.some FieldType.int) ∈ zz_T := zz_Tin 283 rfl rfl
theorem kw_284 : Cond.methodLink "TwoLevelParser$Parser" (60 : Nat) ({ cls := "TwoLevelParser$Parser", name := "takesStep", desc := "()Z" } : MethodName) ∈ zz_T := zz_Tin 284 rfl rfl
theorem kw_286 : Cond.instanceMethod ({ cls := "TwoLevelParser$Parser", name := "takesStep", desc := "()Z" } : MethodName) ∈ zz_T := zz_Tin 286 rfl rfl
theorem kw_287 : Cond.code ({ cls := "TwoLevelParser$Parser", name := "takesStep", desc := "()Z" } : MethodName) prog_2_method_21_code (3 : Nat) (Option.some FieldType.boolean) ∈ zz_T := zz_Tin 287 rfl rfl
theorem kw_288 : Cond.methodLink "TwoLevelParser$Parser" (152 : Nat) ({ cls := "TwoLevelParser$Records", name := "numberAt", desc := "(II)I" } : MethodName) ∈ zz_T := zz_Tin 288 rfl rfl
theorem kw_289 : Cond.instanceMethod ({ cls := "TwoLevelParser$Records", name := "numberAt", desc := "(II)I" } : MethodName) ∈ zz_T := zz_Tin 289 rfl rfl
theorem kw_290 : Cond.selects "TwoLevelParser$Records" ({ cls := "TwoLevelParser$Records", name := "numberAt", desc := "(II)I" } : MethodName) ({ cls := "TwoLevelParser$Records", name := "numberAt", desc := "(II)I" } : MethodName) ∈ zz_T := zz_Tin 290 rfl rfl
theorem kw_291 : Cond.code ({ cls := "TwoLevelParser$Records", name := "numberAt", desc := "(II)I" } : MethodName) prog_3_method_5_code (4 : Nat) (Option.some FieldType.int) ∈ zz_T := zz_Tin 291 rfl rfl
theorem kw_292 : Cond.methodLink "TwoLevelParser$Parser" (180 : Nat) ({ cls := "TwoLevelParser$Parser", name := "shapeOf", desc := "(I)Ljava/lang/String;" } : MethodName) ∈ zz_T := zz_Tin 292 rfl rfl
theorem kw_293 : Cond.static ({ cls := "TwoLevelParser$Parser", name := "shapeOf", desc := "(I)Ljava/lang/String;" } : MethodName) ∈ zz_T := zz_Tin 293 rfl rfl
theorem kw_294 : Cond.code ({ cls := "TwoLevelParser$Parser", name := "shapeOf", desc := "(I)Ljava/lang/String;" } : MethodName) prog_2_method_20_code (1 : Nat) (Option.some (FieldType.object "java/lang/String")) ∈ zz_T := zz_Tin 294 rfl rfl
set_option maxRecDepth 100000 in
theorem kw_306 : Cond.methodLink "TwoLevelParser$Parser" (184 : Nat) ({ cls := "java/lang/String", name := "length", desc := "()I" } : MethodName) ∈ zz_T := zz_Tin 306 rfl rfl
set_option maxRecDepth 100000 in
theorem kw_307 : Cond.instanceMethod ({ cls := "java/lang/String", name := "length", desc := "()I" } : MethodName) ∈ zz_T := zz_Tin 307 rfl rfl
set_option maxRecDepth 100000 in
theorem kw_308 : Cond.selects "java/lang/String" ({ cls := "java/lang/String", name := "length", desc := "()I" } : MethodName) ({ cls := "java/lang/String", name := "length", desc := "()I" } : MethodName) ∈ zz_T := zz_Tin 308 rfl rfl
set_option maxRecDepth 100000 in
theorem kw_309 : Cond.code ({ cls := "java/lang/String", name := "length", desc := "()I" } : MethodName) prog_9_method_54_code (1 : Nat) (Option.some FieldType.int) ∈ zz_T := zz_Tin 309 rfl rfl
set_option maxRecDepth 100000 in
theorem kw_310 : Cond.methodLink "java/lang/String" (335 : Nat) ({ cls := "java/lang/String", name := "coder", desc := "()B" } : MethodName) ∈ zz_T := zz_Tin 310 rfl rfl
set_option maxRecDepth 100000 in
theorem kw_311 : Cond.instanceMethod ({ cls := "java/lang/String", name := "coder", desc := "()B" } : MethodName) ∈ zz_T := zz_Tin 311 rfl rfl
set_option maxRecDepth 100000 in
theorem kw_312 : Cond.selects "java/lang/String" ({ cls := "java/lang/String", name := "coder", desc := "()B" } : MethodName) ({ cls := "java/lang/String", name := "coder", desc := "()B" } : MethodName) ∈ zz_T := zz_Tin 312 rfl rfl
set_option maxRecDepth 100000 in
theorem kw_313 : Cond.code ({ cls := "java/lang/String", name := "coder", desc := "()B" } : MethodName) prog_9_method_152_code (1 : Nat) (Option.some FieldType.byte) ∈ zz_T := zz_Tin 313 rfl rfl
set_option maxRecDepth 100000 in
theorem kw_314 : Cond.fieldLink "java/lang/String" (38 : Nat) "java/lang/String" "COMPACT_STRINGS" "Z" ∈ zz_T := zz_Tin 314 rfl rfl
set_option maxRecDepth 100000 in
theorem kw_316 : Cond.methodLink "TwoLevelParser$Parser" (189 : Nat) ({ cls := "java/lang/String", name := "charAt", desc := "(I)C" } : MethodName) ∈ zz_T := zz_Tin 316 rfl rfl
set_option maxRecDepth 100000 in
theorem kw_317 : Cond.instanceMethod ({ cls := "java/lang/String", name := "charAt", desc := "(I)C" } : MethodName) ∈ zz_T := zz_Tin 317 rfl rfl
set_option maxRecDepth 100000 in
theorem kw_318 : Cond.selects "java/lang/String" ({ cls := "java/lang/String", name := "charAt", desc := "(I)C" } : MethodName) ({ cls := "java/lang/String", name := "charAt", desc := "(I)C" } : MethodName) ∈ zz_T := zz_Tin 318 rfl rfl
set_option maxRecDepth 100000 in
theorem kw_319 : Cond.code ({ cls := "java/lang/String", name := "charAt", desc := "(I)C" } : MethodName) prog_9_method_56_code (2 : Nat) (Option.some FieldType.char) ∈ zz_T := zz_Tin 319 rfl rfl
set_option maxRecDepth 100000 in
theorem kw_320 : Cond.methodLink "java/lang/String" (492 : Nat) ({ cls := "java/lang/String", name := "isLatin1", desc := "()Z" } : MethodName) ∈ zz_T := zz_Tin 320 rfl rfl
set_option maxRecDepth 100000 in
theorem kw_321 : Cond.instanceMethod ({ cls := "java/lang/String", name := "isLatin1", desc := "()Z" } : MethodName) ∈ zz_T := zz_Tin 321 rfl rfl
set_option maxRecDepth 100000 in
theorem kw_322 : Cond.selects "java/lang/String" ({ cls := "java/lang/String", name := "isLatin1", desc := "()Z" } : MethodName) ({ cls := "java/lang/String", name := "isLatin1", desc := "()Z" } : MethodName) ∈ zz_T := zz_Tin 322 rfl rfl
set_option maxRecDepth 100000 in
theorem kw_323 : Cond.code ({ cls := "java/lang/String", name := "isLatin1", desc := "()Z" } : MethodName) prog_9_method_154_code (1 : Nat) (Option.some FieldType.boolean) ∈ zz_T := zz_Tin 323 rfl rfl
set_option maxRecDepth 100000 in
theorem kw_324 : Cond.methodLink "java/lang/String" (495 : Nat) ({ cls := "java/lang/StringLatin1", name := "charAt", desc := "([BI)C" } : MethodName) ∈ zz_T := zz_Tin 324 rfl rfl
set_option maxRecDepth 100000 in
theorem kw_325 : Cond.static ({ cls := "java/lang/StringLatin1", name := "charAt", desc := "([BI)C" } : MethodName) ∈ zz_T := zz_Tin 325 rfl rfl
set_option maxRecDepth 100000 in
theorem kw_326 : Cond.code ({ cls := "java/lang/StringLatin1", name := "charAt", desc := "([BI)C" } : MethodName) prog_10_method_2_code (2 : Nat) (Option.some FieldType.char) ∈ zz_T := zz_Tin 326 rfl rfl
set_option maxRecDepth 100000 in
theorem kw_327 : Cond.methodLink "java/lang/StringLatin1" (9 : Nat) ({ cls := "java/lang/String", name := "checkIndex", desc := "(II)V" } : MethodName) ∈ zz_T := zz_Tin 327 rfl rfl
set_option maxRecDepth 100000 in
theorem kw_328 : Cond.static ({ cls := "java/lang/String", name := "checkIndex", desc := "(II)V" } : MethodName) ∈ zz_T := zz_Tin 328 rfl rfl
set_option maxRecDepth 100000 in
theorem kw_329 : Cond.code ({ cls := "java/lang/String", name := "checkIndex", desc := "(II)V" } : MethodName) prog_9_method_155_code (2 : Nat) (Option.none : Option FieldType) ∈ zz_T := zz_Tin 329 rfl rfl
set_option maxRecDepth 100000 in
theorem kw_330 : Cond.fieldLink "java/lang/String" (1053 : Nat) "jdk/internal/util/Preconditions" "SIOOBE_FORMATTER" "Ljava/util/function/BiFunction;" ∈ zz_T := zz_Tin 330 rfl rfl
set_option maxRecDepth 100000 in
theorem kw_332 : Cond.methodLink "java/lang/String" (1059 : Nat) ({ cls := "jdk/internal/util/Preconditions", name := "checkIndex", desc := "(IILjava/util/function/BiFunction;)I" } : MethodName) ∈ zz_T := zz_Tin 332 rfl rfl
set_option maxRecDepth 100000 in
theorem kw_333 : Cond.static ({ cls := "jdk/internal/util/Preconditions", name := "checkIndex", desc := "(IILjava/util/function/BiFunction;)I" } : MethodName) ∈ zz_T := zz_Tin 333 rfl rfl
set_option maxRecDepth 100000 in
theorem kw_334 : Cond.code ({ cls := "jdk/internal/util/Preconditions", name := "checkIndex", desc := "(IILjava/util/function/BiFunction;)I" } : MethodName) prog_14_method_11_code (3 : Nat) (Option.some FieldType.int) ∈ zz_T := zz_Tin 334 rfl rfl
set_option maxRecDepth 100000 in
theorem kw_335 : Cond.methodLink "java/lang/String" (498 : Nat) ({ cls := "java/lang/StringUTF16", name := "charAt", desc := "([BI)C" } : MethodName) ∈ zz_T := zz_Tin 335 rfl rfl
set_option maxRecDepth 100000 in
theorem kw_336 : Cond.static ({ cls := "java/lang/StringUTF16", name := "charAt", desc := "([BI)C" } : MethodName) ∈ zz_T := zz_Tin 336 rfl rfl
set_option maxRecDepth 100000 in
theorem kw_337 : Cond.code ({ cls := "java/lang/StringUTF16", name := "charAt", desc := "([BI)C" } : MethodName) prog_11_method_83_code (2 : Nat) (Option.some FieldType.char) ∈ zz_T := zz_Tin 337 rfl rfl
set_option maxRecDepth 100000 in
theorem kw_338 : Cond.methodLink "java/lang/StringUTF16" (67 : Nat) ({ cls := "java/lang/StringUTF16", name := "checkIndex", desc := "(I[B)V" } : MethodName) ∈ zz_T := zz_Tin 338 rfl rfl
set_option maxRecDepth 100000 in
theorem kw_339 : Cond.static ({ cls := "java/lang/StringUTF16", name := "checkIndex", desc := "(I[B)V" } : MethodName) ∈ zz_T := zz_Tin 339 rfl rfl
set_option maxRecDepth 100000 in
theorem kw_340 : Cond.code ({ cls := "java/lang/StringUTF16", name := "checkIndex", desc := "(I[B)V" } : MethodName) prog_11_method_91_code (2 : Nat) (Option.none : Option FieldType) ∈ zz_T := zz_Tin 340 rfl rfl
set_option maxRecDepth 100000 in
theorem kw_341 : Cond.methodLink "java/lang/StringUTF16" (48 : Nat) ({ cls := "java/lang/StringUTF16", name := "length", desc := "([B)I" } : MethodName) ∈ zz_T := zz_Tin 341 rfl rfl
set_option maxRecDepth 100000 in
theorem kw_342 : Cond.static ({ cls := "java/lang/StringUTF16", name := "length", desc := "([B)I" } : MethodName) ∈ zz_T := zz_Tin 342 rfl rfl
set_option maxRecDepth 100000 in
theorem kw_343 : Cond.code ({ cls := "java/lang/StringUTF16", name := "length", desc := "([B)I" } : MethodName) prog_11_method_6_code (1 : Nat) (Option.some FieldType.int) ∈ zz_T := zz_Tin 343 rfl rfl
set_option maxRecDepth 100000 in
theorem kw_344 : Cond.methodLink "java/lang/StringUTF16" (414 : Nat) ({ cls := "java/lang/String", name := "checkIndex", desc := "(II)V" } : MethodName) ∈ zz_T := zz_Tin 344 rfl rfl
set_option maxRecDepth 100000 in
theorem kw_345 : Cond.methodLink "java/lang/StringUTF16" (71 : Nat) ({ cls := "java/lang/StringUTF16", name := "getChar", desc := "([BI)C" } : MethodName) ∈ zz_T := zz_Tin 345 rfl rfl
set_option maxRecDepth 100000 in
theorem kw_346 : Cond.static ({ cls := "java/lang/StringUTF16", name := "getChar", desc := "([BI)C" } : MethodName) ∈ zz_T := zz_Tin 346 rfl rfl
set_option maxRecDepth 100000 in
theorem kw_347 : Cond.code ({ cls := "java/lang/StringUTF16", name := "getChar", desc := "([BI)C" } : MethodName) prog_11_method_5_code (2 : Nat) (Option.some FieldType.char) ∈ zz_T := zz_Tin 347 rfl rfl
set_option maxRecDepth 100000 in
theorem kw_348 : Cond.fieldLink "java/lang/StringUTF16" (44 : Nat) "java/lang/StringUTF16" "$assertionsDisabled" "Z" ∈ zz_T := zz_Tin 348 rfl rfl
set_option maxRecDepth 100000 in
theorem kw_350 : Cond.fieldLink "java/lang/StringUTF16" (59 : Nat) "java/lang/StringUTF16" "HI_BYTE_SHIFT" "I" ∈ zz_T := zz_Tin 350 rfl rfl
set_option maxRecDepth 100000 in
theorem kw_352 : Cond.fieldLink "java/lang/StringUTF16" (63 : Nat) "java/lang/StringUTF16" "LO_BYTE_SHIFT" "I" ∈ zz_T := zz_Tin 352 rfl rfl
set_option maxRecDepth 100000 in
theorem kw_354 : Cond.methodLink "TwoLevelParser$Parser" (110 : Nat) ({ cls := "TwoLevelParser$Parser", name := "beginsE", desc := "()Z" } : MethodName) ∈ zz_T := zz_Tin 354 rfl rfl
set_option maxRecDepth 100000 in
theorem kw_356 : Cond.instanceMethod ({ cls := "TwoLevelParser$Parser", name := "beginsE", desc := "()Z" } : MethodName) ∈ zz_T := zz_Tin 356 rfl rfl
set_option maxRecDepth 100000 in
theorem kw_357 : Cond.code ({ cls := "TwoLevelParser$Parser", name := "beginsE", desc := "()Z" } : MethodName) prog_2_method_27_code (3 : Nat) (Option.some FieldType.boolean) ∈ zz_T := zz_Tin 357 rfl rfl
set_option maxRecDepth 100000 in
theorem kw_358 : Cond.methodLink "TwoLevelParser$Parser" (211 : Nat) ({ cls := "TwoLevelParser$Parser", name := "addNode", desc := "(I)I" } : MethodName) ∈ zz_T := zz_Tin 358 rfl rfl
set_option maxRecDepth 100000 in
theorem kw_360 : Cond.instanceMethod ({ cls := "TwoLevelParser$Parser", name := "addNode", desc := "(I)I" } : MethodName) ∈ zz_T := zz_Tin 360 rfl rfl
set_option maxRecDepth 100000 in
theorem kw_361 : Cond.code ({ cls := "TwoLevelParser$Parser", name := "addNode", desc := "(I)I" } : MethodName) prog_2_method_30_code (4 : Nat) (Option.some FieldType.int) ∈ zz_T := zz_Tin 361 rfl rfl
set_option maxRecDepth 100000 in
theorem kw_362 : Cond.methodLink "TwoLevelParser$Parser" (225 : Nat) ({ cls := "TwoLevelParser$Parser", name := "variablesHere", desc := "()I" } : MethodName) ∈ zz_T := zz_Tin 362 rfl rfl
set_option maxRecDepth 100000 in
theorem kw_364 : Cond.instanceMethod ({ cls := "TwoLevelParser$Parser", name := "variablesHere", desc := "()I" } : MethodName) ∈ zz_T := zz_Tin 364 rfl rfl
set_option maxRecDepth 100000 in
theorem kw_365 : Cond.code ({ cls := "TwoLevelParser$Parser", name := "variablesHere", desc := "()I" } : MethodName) prog_2_method_31_code (2 : Nat) (Option.some FieldType.int) ∈ zz_T := zz_Tin 365 rfl rfl
set_option maxRecDepth 100000 in
theorem kw_366 : Cond.methodLink "TwoLevelParser$Parser" (133 : Nat) ({ cls := "TwoLevelParser$Records", name := "setNumber", desc := "(III)V" } : MethodName) ∈ zz_T := zz_Tin 366 rfl rfl
set_option maxRecDepth 100000 in
theorem kw_367 : Cond.instanceMethod ({ cls := "TwoLevelParser$Records", name := "setNumber", desc := "(III)V" } : MethodName) ∈ zz_T := zz_Tin 367 rfl rfl
set_option maxRecDepth 100000 in
theorem kw_368 : Cond.selects "TwoLevelParser$Records" ({ cls := "TwoLevelParser$Records", name := "setNumber", desc := "(III)V" } : MethodName) ({ cls := "TwoLevelParser$Records", name := "setNumber", desc := "(III)V" } : MethodName) ∈ zz_T := zz_Tin 368 rfl rfl
set_option maxRecDepth 100000 in
theorem kw_369 : Cond.code ({ cls := "TwoLevelParser$Records", name := "setNumber", desc := "(III)V" } : MethodName) prog_3_method_6_code (4 : Nat) (Option.none : Option FieldType) ∈ zz_T := zz_Tin 369 rfl rfl
set_option maxRecDepth 100000 in
theorem kw_370 : Cond.methodLink "TwoLevelParser$Parser" (205 : Nat) ({ cls := "TwoLevelParser$Parser", name := "goOn", desc := "()V" } : MethodName) ∈ zz_T := zz_Tin 370 rfl rfl
set_option maxRecDepth 100000 in
theorem kw_372 : Cond.instanceMethod ({ cls := "TwoLevelParser$Parser", name := "goOn", desc := "()V" } : MethodName) ∈ zz_T := zz_Tin 372 rfl rfl
set_option maxRecDepth 100000 in
theorem kw_373 : Cond.code ({ cls := "TwoLevelParser$Parser", name := "goOn", desc := "()V" } : MethodName) prog_2_method_22_code (1 : Nat) (Option.none : Option FieldType) ∈ zz_T := zz_Tin 373 rfl rfl
set_option maxRecDepth 100000 in
theorem kw_374 : Cond.methodLink "TwoLevelParser$Parser" (130 : Nat) ({ cls := "TwoLevelParser$Records", name := "addRow", desc := "()I" } : MethodName) ∈ zz_T := zz_Tin 374 rfl rfl
set_option maxRecDepth 100000 in
theorem kw_375 : Cond.instanceMethod ({ cls := "TwoLevelParser$Records", name := "addRow", desc := "()I" } : MethodName) ∈ zz_T := zz_Tin 375 rfl rfl
set_option maxRecDepth 100000 in
theorem kw_376 : Cond.selects "TwoLevelParser$Records" ({ cls := "TwoLevelParser$Records", name := "addRow", desc := "()I" } : MethodName) ({ cls := "TwoLevelParser$Records", name := "addRow", desc := "()I" } : MethodName) ∈ zz_T := zz_Tin 376 rfl rfl
set_option maxRecDepth 100000 in
theorem kw_377 : Cond.code ({ cls := "TwoLevelParser$Records", name := "addRow", desc := "()I" } : MethodName) prog_3_method_4_code (3 : Nat) (Option.some FieldType.int) ∈ zz_T := zz_Tin 377 rfl rfl
set_option maxRecDepth 100000 in
theorem kw_378 : Cond.methodLink "TwoLevelParser$Records" (35 : Nat) ({ cls := "java/util/Arrays", name := "copyOf", desc := "([II)[I" } : MethodName) ∈ zz_T := zz_Tin 378 rfl rfl
set_option maxRecDepth 100000 in
theorem kw_379 : Cond.static ({ cls := "java/util/Arrays", name := "copyOf", desc := "([II)[I" } : MethodName) ∈ zz_T := zz_Tin 379 rfl rfl
set_option maxRecDepth 100000 in
theorem kw_380 : Cond.code ({ cls := "java/util/Arrays", name := "copyOf", desc := "([II)[I" } : MethodName) prog_13_method_123_code (3 : Nat) (Option.some (FieldType.array FieldType.int)) ∈ zz_T := zz_Tin 380 rfl rfl
set_option maxRecDepth 100000 in
theorem kw_385 : Cond.classLink "java/util/Arrays" (317 : Nat) "[I" ∈ zz_T := zz_Tin 385 rfl rfl
set_option maxRecDepth 100000 in
theorem kw_386 : Cond.methodLink "TwoLevelParser$Records" (41 : Nat) ({ cls := "java/util/Arrays", name := "copyOf", desc := "([JI)[J" } : MethodName) ∈ zz_T := zz_Tin 386 rfl rfl
set_option maxRecDepth 100000 in
theorem kw_387 : Cond.static ({ cls := "java/util/Arrays", name := "copyOf", desc := "([JI)[J" } : MethodName) ∈ zz_T := zz_Tin 387 rfl rfl
set_option maxRecDepth 100000 in
theorem kw_388 : Cond.code ({ cls := "java/util/Arrays", name := "copyOf", desc := "([JI)[J" } : MethodName) prog_13_method_124_code (3 : Nat) (Option.some (FieldType.array FieldType.long)) ∈ zz_T := zz_Tin 388 rfl rfl
set_option maxRecDepth 100000 in
theorem kw_393 : Cond.classLink "java/util/Arrays" (320 : Nat) "[J" ∈ zz_T := zz_Tin 393 rfl rfl
set_option maxRecDepth 100000 in
theorem kw_394 : Cond.methodLink "TwoLevelParser$Records" (44 : Nat) ({ cls := "TwoLevelParser$Records", name := "setNumber", desc := "(III)V" } : MethodName) ∈ zz_T := zz_Tin 394 rfl rfl
set_option maxRecDepth 100000 in
theorem kw_395 : Cond.methodLink "TwoLevelParser$Records" (48 : Nat) ({ cls := "TwoLevelParser$Records", name := "setName", desc := "(IIJ)V" } : MethodName) ∈ zz_T := zz_Tin 395 rfl rfl
set_option maxRecDepth 100000 in
theorem kw_396 : Cond.instanceMethod ({ cls := "TwoLevelParser$Records", name := "setName", desc := "(IIJ)V" } : MethodName) ∈ zz_T := zz_Tin 396 rfl rfl
set_option maxRecDepth 100000 in
theorem kw_397 : Cond.selects "TwoLevelParser$Records" ({ cls := "TwoLevelParser$Records", name := "setName", desc := "(IIJ)V" } : MethodName) ({ cls := "TwoLevelParser$Records", name := "setName", desc := "(IIJ)V" } : MethodName) ∈ zz_T := zz_Tin 397 rfl rfl
set_option maxRecDepth 100000 in
theorem kw_398 : Cond.code ({ cls := "TwoLevelParser$Records", name := "setName", desc := "(IIJ)V" } : MethodName) prog_3_method_8_code (5 : Nat) (Option.none : Option FieldType) ∈ zz_T := zz_Tin 398 rfl rfl
set_option maxRecDepth 100000 in
theorem kw_399 : Cond.methodLink "TwoLevelParser$Parser" (215 : Nat) ({ cls := "TwoLevelParser$Parser", name := "kindOfLeaf", desc := "()I" } : MethodName) ∈ zz_T := zz_Tin 399 rfl rfl
set_option maxRecDepth 100000 in
theorem kw_401 : Cond.instanceMethod ({ cls := "TwoLevelParser$Parser", name := "kindOfLeaf", desc := "()I" } : MethodName) ∈ zz_T := zz_Tin 401 rfl rfl
set_option maxRecDepth 100000 in
theorem kw_402 : Cond.code ({ cls := "TwoLevelParser$Parser", name := "kindOfLeaf", desc := "()I" } : MethodName) prog_2_method_28_code (1 : Nat) (Option.some FieldType.int) ∈ zz_T := zz_Tin 402 rfl rfl
set_option maxRecDepth 100000 in
theorem kw_403 : Cond.methodLink "TwoLevelParser$Parser" (137 : Nat) ({ cls := "TwoLevelParser$Parser", name := "isFreeName", desc := "()Z" } : MethodName) ∈ zz_T := zz_Tin 403 rfl rfl
set_option maxRecDepth 100000 in
theorem kw_405 : Cond.instanceMethod ({ cls := "TwoLevelParser$Parser", name := "isFreeName", desc := "()Z" } : MethodName) ∈ zz_T := zz_Tin 405 rfl rfl
set_option maxRecDepth 100000 in
theorem kw_406 : Cond.code ({ cls := "TwoLevelParser$Parser", name := "isFreeName", desc := "()Z" } : MethodName) prog_2_method_6_code (1 : Nat) (Option.some FieldType.boolean) ∈ zz_T := zz_Tin 406 rfl rfl
set_option maxRecDepth 100000 in
theorem kw_407 : Cond.methodLink "TwoLevelParser$Parser" (126 : Nat) ({ cls := "TwoLevelParser$Parser", name := "wordHere", desc := "()I" } : MethodName) ∈ zz_T := zz_Tin 407 rfl rfl
set_option maxRecDepth 100000 in
theorem kw_409 : Cond.instanceMethod ({ cls := "TwoLevelParser$Parser", name := "wordHere", desc := "()I" } : MethodName) ∈ zz_T := zz_Tin 409 rfl rfl
set_option maxRecDepth 100000 in
theorem kw_410 : Cond.code ({ cls := "TwoLevelParser$Parser", name := "wordHere", desc := "()I" } : MethodName) prog_2_method_7_code (1 : Nat) (Option.some FieldType.int) ∈ zz_T := zz_Tin 410 rfl rfl
set_option maxRecDepth 100000 in
theorem kw_411 : Cond.methodLink "TwoLevelParser$Parser" (208 : Nat) ({ cls := "TwoLevelParser$Parser", name := "setNodeName", desc := "(II)V" } : MethodName) ∈ zz_T := zz_Tin 411 rfl rfl
set_option maxRecDepth 100000 in
theorem kw_413 : Cond.instanceMethod ({ cls := "TwoLevelParser$Parser", name := "setNodeName", desc := "(II)V" } : MethodName) ∈ zz_T := zz_Tin 413 rfl rfl
set_option maxRecDepth 100000 in
theorem kw_414 : Cond.code ({ cls := "TwoLevelParser$Parser", name := "setNodeName", desc := "(II)V" } : MethodName) prog_2_method_26_code (3 : Nat) (Option.none : Option FieldType) ∈ zz_T := zz_Tin 414 rfl rfl
set_option maxRecDepth 100000 in
theorem kw_415 : Cond.methodLink "TwoLevelParser$Parser" (148 : Nat) ({ cls := "TwoLevelParser$Records", name := "setName", desc := "(IIJ)V" } : MethodName) ∈ zz_T := zz_Tin 415 rfl rfl
set_option maxRecDepth 100000 in
theorem kw_416 : Cond.methodLink "TwoLevelParser$Parser" (221 : Nat) ({ cls := "TwoLevelParser$Parser", name := "goOutTo", desc := "(I)V" } : MethodName) ∈ zz_T := zz_Tin 416 rfl rfl
set_option maxRecDepth 100000 in
theorem kw_418 : Cond.instanceMethod ({ cls := "TwoLevelParser$Parser", name := "goOutTo", desc := "(I)V" } : MethodName) ∈ zz_T := zz_Tin 418 rfl rfl
set_option maxRecDepth 100000 in
theorem kw_419 : Cond.code ({ cls := "TwoLevelParser$Parser", name := "goOutTo", desc := "(I)V" } : MethodName) prog_2_method_33_code (2 : Nat) (Option.none : Option FieldType) ∈ zz_T := zz_Tin 419 rfl rfl
set_option maxRecDepth 100000 in
theorem kw_420 : Cond.methodLink "TwoLevelParser$Parser" (107 : Nat) ({ cls := "TwoLevelParser$Parser", name := "beginsC", desc := "()Z" } : MethodName) ∈ zz_T := zz_Tin 420 rfl rfl
set_option maxRecDepth 100000 in
theorem kw_422 : Cond.instanceMethod ({ cls := "TwoLevelParser$Parser", name := "beginsC", desc := "()Z" } : MethodName) ∈ zz_T := zz_Tin 422 rfl rfl
set_option maxRecDepth 100000 in
theorem kw_423 : Cond.code ({ cls := "TwoLevelParser$Parser", name := "beginsC", desc := "()Z" } : MethodName) prog_2_method_29_code (1 : Nat) (Option.some FieldType.boolean) ∈ zz_T := zz_Tin 423 rfl rfl
set_option maxRecDepth 100000 in
theorem kw_424 : Cond.methodLink "TwoLevelParser$Parser" (193 : Nat) ({ cls := "TwoLevelParser$Parser", name := "endsNode", desc := "()Z" } : MethodName) ∈ zz_T := zz_Tin 424 rfl rfl
set_option maxRecDepth 100000 in
theorem kw_426 : Cond.instanceMethod ({ cls := "TwoLevelParser$Parser", name := "endsNode", desc := "()Z" } : MethodName) ∈ zz_T := zz_Tin 426 rfl rfl
set_option maxRecDepth 100000 in
theorem kw_427 : Cond.code ({ cls := "TwoLevelParser$Parser", name := "endsNode", desc := "()Z" } : MethodName) prog_2_method_32_code (1 : Nat) (Option.some FieldType.boolean) ∈ zz_T := zz_Tin 427 rfl rfl
set_option maxRecDepth 100000 in
theorem kw_428 : Cond.methodLink "TwoLevelParser$Parser" (129 : Nat) ({ cls := "TwoLevelParser$Records", name := "size", desc := "()I" } : MethodName) ∈ zz_T := zz_Tin 428 rfl rfl
set_option maxRecDepth 100000 in
theorem kw_429 : Cond.instanceMethod ({ cls := "TwoLevelParser$Records", name := "size", desc := "()I" } : MethodName) ∈ zz_T := zz_Tin 429 rfl rfl
set_option maxRecDepth 100000 in
theorem kw_430 : Cond.selects "TwoLevelParser$Records" ({ cls := "TwoLevelParser$Records", name := "size", desc := "()I" } : MethodName) ({ cls := "TwoLevelParser$Records", name := "size", desc := "()I" } : MethodName) ∈ zz_T := zz_Tin 430 rfl rfl
set_option maxRecDepth 100000 in
theorem kw_431 : Cond.code ({ cls := "TwoLevelParser$Records", name := "size", desc := "()I" } : MethodName) prog_3_method_2_code (1 : Nat) (Option.some FieldType.int) ∈ zz_T := zz_Tin 431 rfl rfl
set_option maxRecDepth 100000 in
theorem kw_432 : Cond.methodLink "TwoLevelParser$Parser" (196 : Nat) ({ cls := "TwoLevelParser$Parser", name := "takesName", desc := "(I)Z" } : MethodName) ∈ zz_T := zz_Tin 432 rfl rfl
set_option maxRecDepth 100000 in
theorem kw_434 : Cond.instanceMethod ({ cls := "TwoLevelParser$Parser", name := "takesName", desc := "(I)Z" } : MethodName) ∈ zz_T := zz_Tin 434 rfl rfl
set_option maxRecDepth 100000 in
theorem kw_435 : Cond.code ({ cls := "TwoLevelParser$Parser", name := "takesName", desc := "(I)Z" } : MethodName) prog_2_method_25_code (2 : Nat) (Option.some FieldType.boolean) ∈ zz_T := zz_Tin 435 rfl rfl
set_option maxRecDepth 100000 in
theorem kw_436 : Cond.methodLink "TwoLevelParser$Parser" (199 : Nat) ({ cls := "TwoLevelParser$Parser", name := "takesVariable", desc := "(I)Z" } : MethodName) ∈ zz_T := zz_Tin 436 rfl rfl
set_option maxRecDepth 100000 in
theorem kw_438 : Cond.instanceMethod ({ cls := "TwoLevelParser$Parser", name := "takesVariable", desc := "(I)Z" } : MethodName) ∈ zz_T := zz_Tin 438 rfl rfl
set_option maxRecDepth 100000 in
theorem kw_439 : Cond.code ({ cls := "TwoLevelParser$Parser", name := "takesVariable", desc := "(I)Z" } : MethodName) prog_2_method_24_code (4 : Nat) (Option.some FieldType.boolean) ∈ zz_T := zz_Tin 439 rfl rfl
set_option maxRecDepth 100000 in
theorem kw_440 : Cond.methodLink "TwoLevelParser$Parser" (140 : Nat) ({ cls := "TwoLevelParser$Records", name := "nameAt", desc := "(II)J" } : MethodName) ∈ zz_T := zz_Tin 440 rfl rfl
set_option maxRecDepth 100000 in
theorem kw_441 : Cond.instanceMethod ({ cls := "TwoLevelParser$Records", name := "nameAt", desc := "(II)J" } : MethodName) ∈ zz_T := zz_Tin 441 rfl rfl
set_option maxRecDepth 100000 in
theorem kw_442 : Cond.selects "TwoLevelParser$Records" ({ cls := "TwoLevelParser$Records", name := "nameAt", desc := "(II)J" } : MethodName) ({ cls := "TwoLevelParser$Records", name := "nameAt", desc := "(II)J" } : MethodName) ∈ zz_T := zz_Tin 442 rfl rfl
set_option maxRecDepth 100000 in
theorem kw_443 : Cond.code ({ cls := "TwoLevelParser$Records", name := "nameAt", desc := "(II)J" } : MethodName) prog_3_method_7_code (4 : Nat) (Option.some FieldType.long) ∈ zz_T := zz_Tin 443 rfl rfl
set_option maxRecDepth 100000 in
theorem kw_444 : Cond.methodLink "TwoLevelParser$Parser" (202 : Nat) ({ cls := "TwoLevelParser$Parser", name := "passesInside", desc := "(I)Z" } : MethodName) ∈ zz_T := zz_Tin 444 rfl rfl
set_option maxRecDepth 100000 in
theorem kw_446 : Cond.instanceMethod ({ cls := "TwoLevelParser$Parser", name := "passesInside", desc := "(I)Z" } : MethodName) ∈ zz_T := zz_Tin 446 rfl rfl
set_option maxRecDepth 100000 in
theorem kw_447 : Cond.code ({ cls := "TwoLevelParser$Parser", name := "passesInside", desc := "(I)Z" } : MethodName) prog_2_method_23_code (2 : Nat) (Option.some FieldType.boolean) ∈ zz_T := zz_Tin 447 rfl rfl
set_option maxRecDepth 100000 in
theorem kw_448 : Cond.methodLink "TwoLevelParser$Parser" (64 : Nat) ({ cls := "TwoLevelParser$Parser", name := "takesOutside", desc := "()Z" } : MethodName) ∈ zz_T := zz_Tin 448 rfl rfl
set_option maxRecDepth 100000 in
theorem kw_450 : Cond.instanceMethod ({ cls := "TwoLevelParser$Parser", name := "takesOutside", desc := "()Z" } : MethodName) ∈ zz_T := zz_Tin 450 rfl rfl
set_option maxRecDepth 100000 in
theorem kw_451 : Cond.code ({ cls := "TwoLevelParser$Parser", name := "takesOutside", desc := "()Z" } : MethodName) prog_2_method_4_code (1 : Nat) (Option.some FieldType.boolean) ∈ zz_T := zz_Tin 451 rfl rfl
set_option maxRecDepth 100000 in
theorem kw_452 : Cond.methodLink "TwoLevelParser$Parser" (79 : Nat) ({ cls := "TwoLevelParser$Parser", name := "beginsDefinition", desc := "()Z" } : MethodName) ∈ zz_T := zz_Tin 452 rfl rfl
set_option maxRecDepth 100000 in
theorem kw_454 : Cond.instanceMethod ({ cls := "TwoLevelParser$Parser", name := "beginsDefinition", desc := "()Z" } : MethodName) ∈ zz_T := zz_Tin 454 rfl rfl
set_option maxRecDepth 100000 in
theorem kw_455 : Cond.code ({ cls := "TwoLevelParser$Parser", name := "beginsDefinition", desc := "()Z" } : MethodName) prog_2_method_9_code (1 : Nat) (Option.some FieldType.boolean) ∈ zz_T := zz_Tin 455 rfl rfl
set_option maxRecDepth 100000 in
theorem kw_456 : Cond.methodLink "TwoLevelParser$Parser" (88 : Nat) ({ cls := "TwoLevelParser$Parser", name := "passes", desc := "(II)Z" } : MethodName) ∈ zz_T := zz_Tin 456 rfl rfl
set_option maxRecDepth 100000 in
theorem kw_458 : Cond.instanceMethod ({ cls := "TwoLevelParser$Parser", name := "passes", desc := "(II)Z" } : MethodName) ∈ zz_T := zz_Tin 458 rfl rfl
set_option maxRecDepth 100000 in
theorem kw_459 : Cond.code ({ cls := "TwoLevelParser$Parser", name := "passes", desc := "(II)Z" } : MethodName) prog_2_method_5_code (3 : Nat) (Option.some FieldType.boolean) ∈ zz_T := zz_Tin 459 rfl rfl
set_option maxRecDepth 100000 in
theorem kw_460 : Cond.methodLink "TwoLevelParser$Parser" (82 : Nat) ({ cls := "TwoLevelParser$Parser", name := "takesLevel", desc := "()Z" } : MethodName) ∈ zz_T := zz_Tin 460 rfl rfl
set_option maxRecDepth 100000 in
theorem kw_462 : Cond.instanceMethod ({ cls := "TwoLevelParser$Parser", name := "takesLevel", desc := "()Z" } : MethodName) ∈ zz_T := zz_Tin 462 rfl rfl
set_option maxRecDepth 100000 in
theorem kw_463 : Cond.code ({ cls := "TwoLevelParser$Parser", name := "takesLevel", desc := "()Z" } : MethodName) prog_2_method_10_code (2 : Nat) (Option.some FieldType.boolean) ∈ zz_T := zz_Tin 463 rfl rfl
set_option maxRecDepth 100000 in
theorem kw_464 : Cond.methodLink "TwoLevelParser$Parser" (85 : Nat) ({ cls := "TwoLevelParser$Parser", name := "takesTitle", desc := "()Z" } : MethodName) ∈ zz_T := zz_Tin 464 rfl rfl
set_option maxRecDepth 100000 in
theorem kw_466 : Cond.instanceMethod ({ cls := "TwoLevelParser$Parser", name := "takesTitle", desc := "()Z" } : MethodName) ∈ zz_T := zz_Tin 466 rfl rfl
set_option maxRecDepth 100000 in
theorem kw_467 : Cond.code ({ cls := "TwoLevelParser$Parser", name := "takesTitle", desc := "()Z" } : MethodName) prog_2_method_11_code (2 : Nat) (Option.some FieldType.boolean) ∈ zz_T := zz_Tin 467 rfl rfl
set_option maxRecDepth 100000 in
theorem kw_468 : Cond.methodLink "TwoLevelParser$Parser" (92 : Nat) ({ cls := "TwoLevelParser$Parser", name := "takesParameterOrEnd", desc := "()Z" } : MethodName) ∈ zz_T := zz_Tin 468 rfl rfl
set_option maxRecDepth 100000 in
theorem kw_470 : Cond.instanceMethod ({ cls := "TwoLevelParser$Parser", name := "takesParameterOrEnd", desc := "()Z" } : MethodName) ∈ zz_T := zz_Tin 470 rfl rfl
set_option maxRecDepth 100000 in
theorem kw_471 : Cond.code ({ cls := "TwoLevelParser$Parser", name := "takesParameterOrEnd", desc := "()Z" } : MethodName) prog_2_method_12_code (1 : Nat) (Option.some FieldType.boolean) ∈ zz_T := zz_Tin 471 rfl rfl
set_option maxRecDepth 100000 in
theorem kw_472 : Cond.methodLink "TwoLevelParser$Parser" (95 : Nat) ({ cls := "TwoLevelParser$Parser", name := "takesParameter", desc := "()Z" } : MethodName) ∈ zz_T := zz_Tin 472 rfl rfl
set_option maxRecDepth 100000 in
theorem kw_474 : Cond.instanceMethod ({ cls := "TwoLevelParser$Parser", name := "takesParameter", desc := "()Z" } : MethodName) ∈ zz_T := zz_Tin 474 rfl rfl
set_option maxRecDepth 100000 in
theorem kw_475 : Cond.code ({ cls := "TwoLevelParser$Parser", name := "takesParameter", desc := "()Z" } : MethodName) prog_2_method_13_code (3 : Nat) (Option.some FieldType.boolean) ∈ zz_T := zz_Tin 475 rfl rfl
set_option maxRecDepth 100000 in
theorem kw_476 : Cond.methodLink "TwoLevelParser$Parser" (98 : Nat) ({ cls := "TwoLevelParser$Parser", name := "takesParameterType", desc := "()Z" } : MethodName) ∈ zz_T := zz_Tin 476 rfl rfl
set_option maxRecDepth 100000 in
theorem kw_478 : Cond.instanceMethod ({ cls := "TwoLevelParser$Parser", name := "takesParameterType", desc := "()Z" } : MethodName) ∈ zz_T := zz_Tin 478 rfl rfl
set_option maxRecDepth 100000 in
theorem kw_479 : Cond.code ({ cls := "TwoLevelParser$Parser", name := "takesParameterType", desc := "()Z" } : MethodName) prog_2_method_14_code (3 : Nat) (Option.some FieldType.boolean) ∈ zz_T := zz_Tin 479 rfl rfl
set_option maxRecDepth 100000 in
theorem kw_480 : Cond.methodLink "TwoLevelParser$Parser" (156 : Nat) ({ cls := "TwoLevelParser$Parser", name := "typeHere", desc := "()I" } : MethodName) ∈ zz_T := zz_Tin 480 rfl rfl
set_option maxRecDepth 100000 in
theorem kw_482 : Cond.instanceMethod ({ cls := "TwoLevelParser$Parser", name := "typeHere", desc := "()I" } : MethodName) ∈ zz_T := zz_Tin 482 rfl rfl
set_option maxRecDepth 100000 in
theorem kw_483 : Cond.code ({ cls := "TwoLevelParser$Parser", name := "typeHere", desc := "()I" } : MethodName) prog_2_method_8_code (1 : Nat) (Option.some FieldType.int) ∈ zz_T := zz_Tin 483 rfl rfl
set_option maxRecDepth 100000 in
theorem kw_484 : Cond.methodLink "TwoLevelParser$Parser" (101 : Nat) ({ cls := "TwoLevelParser$Parser", name := "takesType", desc := "()Z" } : MethodName) ∈ zz_T := zz_Tin 484 rfl rfl
set_option maxRecDepth 100000 in
theorem kw_486 : Cond.instanceMethod ({ cls := "TwoLevelParser$Parser", name := "takesType", desc := "()Z" } : MethodName) ∈ zz_T := zz_Tin 486 rfl rfl
set_option maxRecDepth 100000 in
theorem kw_487 : Cond.code ({ cls := "TwoLevelParser$Parser", name := "takesType", desc := "()Z" } : MethodName) prog_2_method_15_code (2 : Nat) (Option.some FieldType.boolean) ∈ zz_T := zz_Tin 487 rfl rfl
set_option maxRecDepth 100000 in
theorem kw_488 : Cond.methodLink "TwoLevelParser$Parser" (104 : Nat) ({ cls := "TwoLevelParser$Parser", name := "isChange", desc := "()Z" } : MethodName) ∈ zz_T := zz_Tin 488 rfl rfl
set_option maxRecDepth 100000 in
theorem kw_490 : Cond.instanceMethod ({ cls := "TwoLevelParser$Parser", name := "isChange", desc := "()Z" } : MethodName) ∈ zz_T := zz_Tin 490 rfl rfl
set_option maxRecDepth 100000 in
theorem kw_491 : Cond.code ({ cls := "TwoLevelParser$Parser", name := "isChange", desc := "()Z" } : MethodName) prog_2_method_16_code (1 : Nat) (Option.some FieldType.boolean) ∈ zz_T := zz_Tin 491 rfl rfl
set_option maxRecDepth 100000 in
theorem kw_492 : Cond.methodLink "TwoLevelParser$Parser" (113 : Nat) ({ cls := "TwoLevelParser$Parser", name := "kindOfE", desc := "()I" } : MethodName) ∈ zz_T := zz_Tin 492 rfl rfl
set_option maxRecDepth 100000 in
theorem kw_494 : Cond.instanceMethod ({ cls := "TwoLevelParser$Parser", name := "kindOfE", desc := "()I" } : MethodName) ∈ zz_T := zz_Tin 494 rfl rfl
set_option maxRecDepth 100000 in
theorem kw_495 : Cond.code ({ cls := "TwoLevelParser$Parser", name := "kindOfE", desc := "()I" } : MethodName) prog_2_method_17_code (2 : Nat) (Option.some FieldType.int) ∈ zz_T := zz_Tin 495 rfl rfl
set_option maxRecDepth 100000 in
theorem kw_496 : Cond.methodLink "TwoLevelParser$Parser" (116 : Nat) ({ cls := "TwoLevelParser$Parser", name := "takesHead", desc := "(I)Z" } : MethodName) ∈ zz_T := zz_Tin 496 rfl rfl
set_option maxRecDepth 100000 in
theorem kw_498 : Cond.instanceMethod ({ cls := "TwoLevelParser$Parser", name := "takesHead", desc := "(I)Z" } : MethodName) ∈ zz_T := zz_Tin 498 rfl rfl
set_option maxRecDepth 100000 in
theorem kw_499 : Cond.code ({ cls := "TwoLevelParser$Parser", name := "takesHead", desc := "(I)Z" } : MethodName) prog_2_method_19_code (2 : Nat) (Option.some FieldType.boolean) ∈ zz_T := zz_Tin 499 rfl rfl
set_option maxRecDepth 100000 in
theorem kw_500 : Cond.methodLink "TwoLevelParser$Parser" (120 : Nat) ({ cls := "TwoLevelParser$Parser", name := "kindOfC", desc := "()I" } : MethodName) ∈ zz_T := zz_Tin 500 rfl rfl
set_option maxRecDepth 100000 in
theorem kw_502 : Cond.instanceMethod ({ cls := "TwoLevelParser$Parser", name := "kindOfC", desc := "()I" } : MethodName) ∈ zz_T := zz_Tin 502 rfl rfl
set_option maxRecDepth 100000 in
theorem kw_503 : Cond.code ({ cls := "TwoLevelParser$Parser", name := "kindOfC", desc := "()I" } : MethodName) prog_2_method_18_code (1 : Nat) (Option.some FieldType.int) ∈ zz_T := zz_Tin 503 rfl rfl
set_option maxRecDepth 100000 in
theorem kw_504 : Cond.methodLink "TwoLevelParser$Parser" (67 : Nat) ({ cls := "TwoLevelParser$Text", name := "toNextToken", desc := "()V" } : MethodName) ∈ zz_T := zz_Tin 504 rfl rfl
set_option maxRecDepth 100000 in
theorem kw_505 : Cond.methodLink "TwoLevelParserLaw" (29 : Nat) ({ cls := "TwoLevelParser", name := "definition", desc := "(II)I" } : MethodName) ∈ zz_T := zz_Tin 505 rfl rfl
set_option maxRecDepth 100000 in
theorem kw_506 : Cond.instanceMethod ({ cls := "TwoLevelParser", name := "definition", desc := "(II)I" } : MethodName) ∈ zz_T := zz_Tin 506 rfl rfl
set_option maxRecDepth 100000 in
theorem kw_507 : Cond.selects "TwoLevelParser" ({ cls := "TwoLevelParser", name := "definition", desc := "(II)I" } : MethodName) ({ cls := "TwoLevelParser", name := "definition", desc := "(II)I" } : MethodName) ∈ zz_T := zz_Tin 507 rfl rfl
set_option maxRecDepth 100000 in
theorem kw_508 : Cond.code ({ cls := "TwoLevelParser", name := "definition", desc := "(II)I" } : MethodName) prog_1_method_5_code (3 : Nat) (Option.some FieldType.int) ∈ zz_T := zz_Tin 508 rfl rfl
set_option maxRecDepth 100000 in
theorem kw_509 : Cond.methodLink "TwoLevelParser" (37 : Nat) ({ cls := "TwoLevelParser$Records", name := "numberAt", desc := "(II)I" } : MethodName) ∈ zz_T := zz_Tin 509 rfl rfl
set_option maxRecDepth 100000 in
theorem kw_510 : Cond.methodLink "TwoLevelParserLaw" (34 : Nat) ({ cls := "TwoLevelParser", name := "title", desc := "(II)J" } : MethodName) ∈ zz_T := zz_Tin 510 rfl rfl
set_option maxRecDepth 100000 in
theorem kw_511 : Cond.instanceMethod ({ cls := "TwoLevelParser", name := "title", desc := "(II)J" } : MethodName) ∈ zz_T := zz_Tin 511 rfl rfl
set_option maxRecDepth 100000 in
theorem kw_512 : Cond.selects "TwoLevelParser" ({ cls := "TwoLevelParser", name := "title", desc := "(II)J" } : MethodName) ({ cls := "TwoLevelParser", name := "title", desc := "(II)J" } : MethodName) ∈ zz_T := zz_Tin 512 rfl rfl
set_option maxRecDepth 100000 in
theorem kw_513 : Cond.code ({ cls := "TwoLevelParser", name := "title", desc := "(II)J" } : MethodName) prog_1_method_6_code (3 : Nat) (Option.some FieldType.long) ∈ zz_T := zz_Tin 513 rfl rfl
set_option maxRecDepth 100000 in
theorem kw_514 : Cond.methodLink "TwoLevelParser" (43 : Nat) ({ cls := "TwoLevelParser$Records", name := "nameAt", desc := "(II)J" } : MethodName) ∈ zz_T := zz_Tin 514 rfl rfl
set_option maxRecDepth 100000 in
theorem kw_515 : Cond.methodLink "TwoLevelParserLaw" (39 : Nat) ({ cls := "TwoLevelParser", name := "parameter", desc := "(II)I" } : MethodName) ∈ zz_T := zz_Tin 515 rfl rfl
set_option maxRecDepth 100000 in
theorem kw_516 : Cond.instanceMethod ({ cls := "TwoLevelParser", name := "parameter", desc := "(II)I" } : MethodName) ∈ zz_T := zz_Tin 516 rfl rfl
set_option maxRecDepth 100000 in
theorem kw_517 : Cond.selects "TwoLevelParser" ({ cls := "TwoLevelParser", name := "parameter", desc := "(II)I" } : MethodName) ({ cls := "TwoLevelParser", name := "parameter", desc := "(II)I" } : MethodName) ∈ zz_T := zz_Tin 517 rfl rfl
set_option maxRecDepth 100000 in
theorem kw_518 : Cond.code ({ cls := "TwoLevelParser", name := "parameter", desc := "(II)I" } : MethodName) prog_1_method_7_code (3 : Nat) (Option.some FieldType.int) ∈ zz_T := zz_Tin 518 rfl rfl
set_option maxRecDepth 100000 in
theorem kw_519 : Cond.methodLink "TwoLevelParserLaw" (43 : Nat) ({ cls := "TwoLevelParser", name := "node", desc := "(II)I" } : MethodName) ∈ zz_T := zz_Tin 519 rfl rfl
set_option maxRecDepth 100000 in
theorem kw_520 : Cond.instanceMethod ({ cls := "TwoLevelParser", name := "node", desc := "(II)I" } : MethodName) ∈ zz_T := zz_Tin 520 rfl rfl
set_option maxRecDepth 100000 in
theorem kw_521 : Cond.selects "TwoLevelParser" ({ cls := "TwoLevelParser", name := "node", desc := "(II)I" } : MethodName) ({ cls := "TwoLevelParser", name := "node", desc := "(II)I" } : MethodName) ∈ zz_T := zz_Tin 521 rfl rfl
set_option maxRecDepth 100000 in
theorem kw_522 : Cond.code ({ cls := "TwoLevelParser", name := "node", desc := "(II)I" } : MethodName) prog_1_method_8_code (3 : Nat) (Option.some FieldType.int) ∈ zz_T := zz_Tin 522 rfl rfl
set_option maxRecDepth 100000 in
theorem kw_523 : Cond.methodLink "TwoLevelParserLaw" (47 : Nat) ({ cls := "TwoLevelParser", name := "name", desc := "(II)J" } : MethodName) ∈ zz_T := zz_Tin 523 rfl rfl
set_option maxRecDepth 100000 in
theorem kw_524 : Cond.instanceMethod ({ cls := "TwoLevelParser", name := "name", desc := "(II)J" } : MethodName) ∈ zz_T := zz_Tin 524 rfl rfl
set_option maxRecDepth 100000 in
theorem kw_525 : Cond.selects "TwoLevelParser" ({ cls := "TwoLevelParser", name := "name", desc := "(II)J" } : MethodName) ({ cls := "TwoLevelParser", name := "name", desc := "(II)J" } : MethodName) ∈ zz_T := zz_Tin 525 rfl rfl
set_option maxRecDepth 100000 in
theorem kw_526 : Cond.code ({ cls := "TwoLevelParser", name := "name", desc := "(II)J" } : MethodName) prog_1_method_9_code (3 : Nat) (Option.some FieldType.long) ∈ zz_T := zz_Tin 526 rfl rfl
set_option maxRecDepth 100000 in
theorem kw_527 : Cond.methodLink "TwoLevelParserLaw" (51 : Nat) ({ cls := "TwoLevelParser", name := "number", desc := "(I)I" } : MethodName) ∈ zz_T := zz_Tin 527 rfl rfl
set_option maxRecDepth 100000 in
theorem kw_528 : Cond.instanceMethod ({ cls := "TwoLevelParser", name := "number", desc := "(I)I" } : MethodName) ∈ zz_T := zz_Tin 528 rfl rfl
set_option maxRecDepth 100000 in
theorem kw_529 : Cond.selects "TwoLevelParser" ({ cls := "TwoLevelParser", name := "number", desc := "(I)I" } : MethodName) ({ cls := "TwoLevelParser", name := "number", desc := "(I)I" } : MethodName) ∈ zz_T := zz_Tin 529 rfl rfl
set_option maxRecDepth 100000 in
theorem kw_530 : Cond.code ({ cls := "TwoLevelParser", name := "number", desc := "(I)I" } : MethodName) prog_1_method_10_code (2 : Nat) (Option.some FieldType.int) ∈ zz_T := zz_Tin 530 rfl rfl
set_option maxRecDepth 100000 in
theorem kw_531 : Cond.methodLink "TwoLevelParserLaw" (56 : Nat) ({ cls := "TwoLevelParser", name := "look", desc := "(I)I" } : MethodName) ∈ zz_T := zz_Tin 531 rfl rfl
set_option maxRecDepth 100000 in
theorem kw_532 : Cond.instanceMethod ({ cls := "TwoLevelParser", name := "look", desc := "(I)I" } : MethodName) ∈ zz_T := zz_Tin 532 rfl rfl
set_option maxRecDepth 100000 in
theorem kw_533 : Cond.selects "TwoLevelParser" ({ cls := "TwoLevelParser", name := "look", desc := "(I)I" } : MethodName) ({ cls := "TwoLevelParser", name := "look", desc := "(I)I" } : MethodName) ∈ zz_T := zz_Tin 533 rfl rfl
set_option maxRecDepth 100000 in
theorem kw_534 : Cond.code ({ cls := "TwoLevelParser", name := "look", desc := "(I)I" } : MethodName) prog_1_method_11_code (2 : Nat) (Option.some FieldType.int) ∈ zz_T := zz_Tin 534 rfl rfl
set_option maxRecDepth 100000 in
theorem kw_535 : Cond.methodLink "TwoLevelParser" (50 : Nat) ({ cls := "TwoLevelParser$Text", name := "size", desc := "()I" } : MethodName) ∈ zz_T := zz_Tin 535 rfl rfl
set_option maxRecDepth 100000 in
theorem kw_536 : Cond.methodLink "TwoLevelParser" (60 : Nat) ({ cls := "TwoLevelParser$Records", name := "size", desc := "()I" } : MethodName) ∈ zz_T := zz_Tin 536 rfl rfl
set_option maxRecDepth 100000 in
theorem kw_537 : Cond.classLink "TwoLevelParserLaw" (10 : Nat) "TwoLevelParserModel" ∈ zz_T := zz_Tin 537 rfl rfl
set_option maxRecDepth 100000 in
theorem kw_538 : Cond.instantiable "TwoLevelParserModel" (33 : Nat) ∈ zz_T := zz_Tin 538 rfl rfl
set_option maxRecDepth 100000 in
theorem kw_539 : Cond.methodLink "TwoLevelParserLaw" (12 : Nat) ({ cls := "TwoLevelParserModel", name := "<init>", desc := "()V" } : MethodName) ∈ zz_T := zz_Tin 539 rfl rfl
set_option maxRecDepth 100000 in
theorem kw_540 : Cond.instanceMethod ({ cls := "TwoLevelParserModel", name := "<init>", desc := "()V" } : MethodName) ∈ zz_T := zz_Tin 540 rfl rfl
set_option maxRecDepth 100000 in
theorem kw_541 : Cond.code ({ cls := "TwoLevelParserModel", name := "<init>", desc := "()V" } : MethodName) prog_6_method_1_code (1 : Nat) (Option.none : Option FieldType) ∈ zz_T := zz_Tin 541 rfl rfl
set_option maxRecDepth 100000 in
theorem kw_542 : Cond.methodLink "TwoLevelParserModel" (1 : Nat) ({ cls := "java/lang/Object", name := "<init>", desc := "()V" } : MethodName) ∈ zz_T := zz_Tin 542 rfl rfl
set_option maxRecDepth 100000 in
theorem kw_543 : Cond.constant "TwoLevelParserModel" (70 : Nat) (33000 : Int32) ∈ zz_T := zz_Tin 543 rfl rfl
set_option maxRecDepth 100000 in
theorem kw_544 : Cond.fieldLink "TwoLevelParserModel" (77 : Nat) "TwoLevelParserModel" "thrown" "I" ∈ zz_T := zz_Tin 544 rfl rfl
set_option maxRecDepth 100000 in
theorem kw_545 : Cond.fieldLink "TwoLevelParserModel" (7 : Nat) "TwoLevelParserModel" "text" "[B" ∈ zz_T := zz_Tin 545 rfl rfl
set_option maxRecDepth 100000 in
theorem kw_546 : Cond.fieldLink "TwoLevelParserModel" (80 : Nat) "TwoLevelParserModel" "size" "I" ∈ zz_T := zz_Tin 546 rfl rfl
set_option maxRecDepth 100000 in
theorem kw_547 : Cond.fieldLink "TwoLevelParserModel" (83 : Nat) "TwoLevelParserModel" "fault" "I" ∈ zz_T := zz_Tin 547 rfl rfl
set_option maxRecDepth 100000 in
theorem kw_548 : Cond.fieldLink "TwoLevelParserModel" (13 : Nat) "TwoLevelParserModel" "place" "I" ∈ zz_T := zz_Tin 548 rfl rfl
set_option maxRecDepth 100000 in
theorem kw_549 : Cond.fieldLink "TwoLevelParserModel" (93 : Nat) "TwoLevelParserModel" "p" "I" ∈ zz_T := zz_Tin 549 rfl rfl
set_option maxRecDepth 100000 in
theorem kw_550 : Cond.fieldLink "TwoLevelParserModel" (99 : Nat) "TwoLevelParserModel" "token" "I" ∈ zz_T := zz_Tin 550 rfl rfl
set_option maxRecDepth 100000 in
theorem kw_551 : Cond.fieldLink "TwoLevelParserModel" (96 : Nat) "TwoLevelParserModel" "at" "I" ∈ zz_T := zz_Tin 551 rfl rfl
set_option maxRecDepth 100000 in
theorem kw_552 : Cond.fieldLink "TwoLevelParserModel" (115 : Nat) "TwoLevelParserModel" "spelled" "J" ∈ zz_T := zz_Tin 552 rfl rfl
set_option maxRecDepth 100000 in
theorem kw_553 : Cond.fieldLink "TwoLevelParserModel" (129 : Nat) "TwoLevelParserModel" "value" "I" ∈ zz_T := zz_Tin 553 rfl rfl
set_option maxRecDepth 100000 in
theorem kw_554 : Cond.fieldLink "TwoLevelParserModel" (251 : Nat) "TwoLevelParserModel" "definitions" "I" ∈ zz_T := zz_Tin 554 rfl rfl
set_option maxRecDepth 100000 in
theorem kw_555 : Cond.fieldLink "TwoLevelParserModel" (17 : Nat) "TwoLevelParserModel" "isChg" "[I" ∈ zz_T := zz_Tin 555 rfl rfl
set_option maxRecDepth 100000 in
theorem kw_556 : Cond.fieldLink "TwoLevelParserModel" (21 : Nat) "TwoLevelParserModel" "types" "[I" ∈ zz_T := zz_Tin 556 rfl rfl
set_option maxRecDepth 100000 in
theorem kw_557 : Cond.fieldLink "TwoLevelParserModel" (24 : Nat) "TwoLevelParserModel" "parameters" "[I" ∈ zz_T := zz_Tin 557 rfl rfl
set_option maxRecDepth 100000 in
theorem kw_558 : Cond.fieldLink "TwoLevelParserModel" (27 : Nat) "TwoLevelParserModel" "firsts" "[I" ∈ zz_T := zz_Tin 558 rfl rfl
set_option maxRecDepth 100000 in
theorem kw_559 : Cond.fieldLink "TwoLevelParserModel" (30 : Nat) "TwoLevelParserModel" "titlePlaces" "[I" ∈ zz_T := zz_Tin 559 rfl rfl
set_option maxRecDepth 100000 in
theorem kw_560 : Cond.fieldLink "TwoLevelParserModel" (33 : Nat) "TwoLevelParserModel" "titles" "[J" ∈ zz_T := zz_Tin 560 rfl rfl
set_option maxRecDepth 100000 in
theorem kw_561 : Cond.fieldLink "TwoLevelParserModel" (37 : Nat) "TwoLevelParserModel" "parameterNames" "[J" ∈ zz_T := zz_Tin 561 rfl rfl
set_option maxRecDepth 100000 in
theorem kw_562 : Cond.fieldLink "TwoLevelParserModel" (40 : Nat) "TwoLevelParserModel" "parameterTypes" "[I" ∈ zz_T := zz_Tin 562 rfl rfl
set_option maxRecDepth 100000 in
theorem kw_563 : Cond.fieldLink "TwoLevelParserModel" (207 : Nat) "TwoLevelParserModel" "nodes" "I" ∈ zz_T := zz_Tin 563 rfl rfl
set_option maxRecDepth 100000 in
theorem kw_564 : Cond.fieldLink "TwoLevelParserModel" (43 : Nat) "TwoLevelParserModel" "kinds" "[I" ∈ zz_T := zz_Tin 564 rfl rfl
set_option maxRecDepth 100000 in
theorem kw_565 : Cond.fieldLink "TwoLevelParserModel" (46 : Nat) "TwoLevelParserModel" "parents" "[I" ∈ zz_T := zz_Tin 565 rfl rfl
set_option maxRecDepth 100000 in
theorem kw_566 : Cond.fieldLink "TwoLevelParserModel" (49 : Nat) "TwoLevelParserModel" "places" "[I" ∈ zz_T := zz_Tin 566 rfl rfl
set_option maxRecDepth 100000 in
theorem kw_567 : Cond.fieldLink "TwoLevelParserModel" (52 : Nat) "TwoLevelParserModel" "namePlaces" "[I" ∈ zz_T := zz_Tin 567 rfl rfl
set_option maxRecDepth 100000 in
theorem kw_568 : Cond.fieldLink "TwoLevelParserModel" (55 : Nat) "TwoLevelParserModel" "secondPlaces" "[I" ∈ zz_T := zz_Tin 568 rfl rfl
set_option maxRecDepth 100000 in
theorem kw_569 : Cond.fieldLink "TwoLevelParserModel" (58 : Nat) "TwoLevelParserModel" "variables" "[I" ∈ zz_T := zz_Tin 569 rfl rfl
set_option maxRecDepth 100000 in
theorem kw_570 : Cond.fieldLink "TwoLevelParserModel" (61 : Nat) "TwoLevelParserModel" "values" "[I" ∈ zz_T := zz_Tin 570 rfl rfl
set_option maxRecDepth 100000 in
theorem kw_571 : Cond.fieldLink "TwoLevelParserModel" (64 : Nat) "TwoLevelParserModel" "names" "[J" ∈ zz_T := zz_Tin 571 rfl rfl
set_option maxRecDepth 100000 in
theorem kw_572 : Cond.fieldLink "TwoLevelParserModel" (67 : Nat) "TwoLevelParserModel" "seconds" "[J" ∈ zz_T := zz_Tin 572 rfl rfl
set_option maxRecDepth 100000 in
theorem kw_573 : Cond.fieldLink "TwoLevelParserModel" (71 : Nat) "TwoLevelParserModel" "due" "[B" ∈ zz_T := zz_Tin 573 rfl rfl
set_option maxRecDepth 100000 in
theorem kw_574 : Cond.fieldLink "TwoLevelParserModel" (74 : Nat) "TwoLevelParserModel" "dueOf" "[I" ∈ zz_T := zz_Tin 574 rfl rfl
set_option maxRecDepth 100000 in
theorem kw_575 : Cond.fieldLink "TwoLevelParserModel" (204 : Nat) "TwoLevelParserModel" "dues" "I" ∈ zz_T := zz_Tin 575 rfl rfl
set_option maxRecDepth 100000 in
theorem kw_576 : Cond.fieldLink "TwoLevelParserModel" (210 : Nat) "TwoLevelParserModel" "there" "I" ∈ zz_T := zz_Tin 576 rfl rfl
set_option maxRecDepth 100000 in
theorem kw_644 : Cond.methodLink "TwoLevelParserLaw" (19 : Nat) ({ cls := "TwoLevelParserModel", name := "give", desc := "(JI)Z" } : MethodName) ∈ zz_T := zz_Tin 644 rfl rfl
set_option maxRecDepth 100000 in
theorem kw_645 : Cond.instanceMethod ({ cls := "TwoLevelParserModel", name := "give", desc := "(JI)Z" } : MethodName) ∈ zz_T := zz_Tin 645 rfl rfl
set_option maxRecDepth 100000 in
theorem kw_646 : Cond.selects "TwoLevelParserModel" ({ cls := "TwoLevelParserModel", name := "give", desc := "(JI)Z" } : MethodName) ({ cls := "TwoLevelParserModel", name := "give", desc := "(JI)Z" } : MethodName) ∈ zz_T := zz_Tin 646 rfl rfl
set_option maxRecDepth 100000 in
theorem kw_647 : Cond.code ({ cls := "TwoLevelParserModel", name := "give", desc := "(JI)Z" } : MethodName) prog_6_method_3_code (5 : Nat) (Option.some FieldType.boolean) ∈ zz_T := zz_Tin 647 rfl rfl
set_option maxRecDepth 100000 in
theorem kw_648 : Cond.methodLink "TwoLevelParserLaw" (23 : Nat) ({ cls := "TwoLevelParserModel", name := "wipe", desc := "()V" } : MethodName) ∈ zz_T := zz_Tin 648 rfl rfl
set_option maxRecDepth 100000 in
theorem kw_649 : Cond.instanceMethod ({ cls := "TwoLevelParserModel", name := "wipe", desc := "()V" } : MethodName) ∈ zz_T := zz_Tin 649 rfl rfl
set_option maxRecDepth 100000 in
theorem kw_650 : Cond.selects "TwoLevelParserModel" ({ cls := "TwoLevelParserModel", name := "wipe", desc := "()V" } : MethodName) ({ cls := "TwoLevelParserModel", name := "wipe", desc := "()V" } : MethodName) ∈ zz_T := zz_Tin 650 rfl rfl
set_option maxRecDepth 100000 in
theorem kw_651 : Cond.code ({ cls := "TwoLevelParserModel", name := "wipe", desc := "()V" } : MethodName) prog_6_method_4_code (1 : Nat) (Option.none : Option FieldType) ∈ zz_T := zz_Tin 651 rfl rfl
set_option maxRecDepth 100000 in
theorem kw_652 : Cond.methodLink "TwoLevelParserLaw" (28 : Nat) ({ cls := "TwoLevelParserModel", name := "read", desc := "()I" } : MethodName) ∈ zz_T := zz_Tin 652 rfl rfl
set_option maxRecDepth 100000 in
theorem kw_653 : Cond.instanceMethod ({ cls := "TwoLevelParserModel", name := "read", desc := "()I" } : MethodName) ∈ zz_T := zz_Tin 653 rfl rfl
set_option maxRecDepth 100000 in
theorem kw_654 : Cond.selects "TwoLevelParserModel" ({ cls := "TwoLevelParserModel", name := "read", desc := "()I" } : MethodName) ({ cls := "TwoLevelParserModel", name := "read", desc := "()I" } : MethodName) ∈ zz_T := zz_Tin 654 rfl rfl
set_option maxRecDepth 100000 in
theorem kw_655 : Cond.code ({ cls := "TwoLevelParserModel", name := "read", desc := "()I" } : MethodName) prog_6_method_30_code (1 : Nat) (Option.some FieldType.int) ∈ zz_T := zz_Tin 655 rfl rfl
set_option maxRecDepth 100000 in
theorem kw_656 : Cond.methodLink "TwoLevelParserModel" (232 : Nat) ({ cls := "TwoLevelParserModel", name := "next", desc := "()V" } : MethodName) ∈ zz_T := zz_Tin 656 rfl rfl
set_option maxRecDepth 100000 in
theorem kw_658 : Cond.instanceMethod ({ cls := "TwoLevelParserModel", name := "next", desc := "()V" } : MethodName) ∈ zz_T := zz_Tin 658 rfl rfl
set_option maxRecDepth 100000 in
theorem kw_659 : Cond.code ({ cls := "TwoLevelParserModel", name := "next", desc := "()V" } : MethodName) prog_6_method_9_code (1 : Nat) (Option.none : Option FieldType) ∈ zz_T := zz_Tin 659 rfl rfl
set_option maxRecDepth 100000 in
theorem kw_660 : Cond.methodLink "TwoLevelParserModel" (102 : Nat) ({ cls := "TwoLevelParserModel", name := "isRun", desc := "(I)Z" } : MethodName) ∈ zz_T := zz_Tin 660 rfl rfl
set_option maxRecDepth 100000 in
theorem kw_662 : Cond.instanceMethod ({ cls := "TwoLevelParserModel", name := "isRun", desc := "(I)Z" } : MethodName) ∈ zz_T := zz_Tin 662 rfl rfl
set_option maxRecDepth 100000 in
theorem kw_663 : Cond.code ({ cls := "TwoLevelParserModel", name := "isRun", desc := "(I)Z" } : MethodName) prog_6_method_8_code (2 : Nat) (Option.some FieldType.boolean) ∈ zz_T := zz_Tin 663 rfl rfl
set_option maxRecDepth 100000 in
theorem kw_664 : Cond.methodLink "TwoLevelParserModel" (86 : Nat) ({ cls := "TwoLevelParserModel", name := "isLetter", desc := "(I)Z" } : MethodName) ∈ zz_T := zz_Tin 664 rfl rfl
set_option maxRecDepth 100000 in
theorem kw_665 : Cond.static ({ cls := "TwoLevelParserModel", name := "isLetter", desc := "(I)Z" } : MethodName) ∈ zz_T := zz_Tin 665 rfl rfl
set_option maxRecDepth 100000 in
theorem kw_666 : Cond.code ({ cls := "TwoLevelParserModel", name := "isLetter", desc := "(I)Z" } : MethodName) prog_6_method_6_code (1 : Nat) (Option.some FieldType.boolean) ∈ zz_T := zz_Tin 666 rfl rfl
set_option maxRecDepth 100000 in
theorem kw_667 : Cond.methodLink "TwoLevelParserModel" (90 : Nat) ({ cls := "TwoLevelParserModel", name := "isDigit", desc := "(I)Z" } : MethodName) ∈ zz_T := zz_Tin 667 rfl rfl
set_option maxRecDepth 100000 in
theorem kw_668 : Cond.static ({ cls := "TwoLevelParserModel", name := "isDigit", desc := "(I)Z" } : MethodName) ∈ zz_T := zz_Tin 668 rfl rfl
set_option maxRecDepth 100000 in
theorem kw_669 : Cond.code ({ cls := "TwoLevelParserModel", name := "isDigit", desc := "(I)Z" } : MethodName) prog_6_method_7_code (1 : Nat) (Option.some FieldType.boolean) ∈ zz_T := zz_Tin 669 rfl rfl
set_option maxRecDepth 100000 in
theorem kw_670 : Cond.methodLink "TwoLevelParserModel" (105 : Nat) ({ cls := "TwoLevelParserModel", name := "wrong", desc := "(II)V" } : MethodName) ∈ zz_T := zz_Tin 670 rfl rfl
set_option maxRecDepth 100000 in
theorem kw_672 : Cond.instanceMethod ({ cls := "TwoLevelParserModel", name := "wrong", desc := "(II)V" } : MethodName) ∈ zz_T := zz_Tin 672 rfl rfl
set_option maxRecDepth 100000 in
theorem kw_673 : Cond.code ({ cls := "TwoLevelParserModel", name := "wrong", desc := "(II)V" } : MethodName) prog_6_method_5_code (3 : Nat) (Option.none : Option FieldType) ∈ zz_T := zz_Tin 673 rfl rfl
set_option maxRecDepth 100000 in
theorem kw_674 : Cond.methodLink "TwoLevelParserModel" (109 : Nat) ({ cls := "TwoLevelParserModel", name := "readName", desc := "()V" } : MethodName) ∈ zz_T := zz_Tin 674 rfl rfl
set_option maxRecDepth 100000 in
theorem kw_676 : Cond.instanceMethod ({ cls := "TwoLevelParserModel", name := "readName", desc := "()V" } : MethodName) ∈ zz_T := zz_Tin 676 rfl rfl
set_option maxRecDepth 100000 in
theorem kw_677 : Cond.code ({ cls := "TwoLevelParserModel", name := "readName", desc := "()V" } : MethodName) prog_6_method_10_code (3 : Nat) (Option.none : Option FieldType) ∈ zz_T := zz_Tin 677 rfl rfl
set_option maxRecDepth 100000 in
theorem kw_678 : Cond.constantLong "TwoLevelParserModel" (119 : Nat) (32 : Int64) ∈ zz_T := zz_Tin 678 rfl rfl
set_option maxRecDepth 100000 in
theorem kw_679 : Cond.methodLink "TwoLevelParserModel" (112 : Nat) ({ cls := "TwoLevelParserModel", name := "readNumber", desc := "()V" } : MethodName) ∈ zz_T := zz_Tin 679 rfl rfl
set_option maxRecDepth 100000 in
theorem kw_681 : Cond.instanceMethod ({ cls := "TwoLevelParserModel", name := "readNumber", desc := "()V" } : MethodName) ∈ zz_T := zz_Tin 681 rfl rfl
set_option maxRecDepth 100000 in
theorem kw_682 : Cond.code ({ cls := "TwoLevelParserModel", name := "readNumber", desc := "()V" } : MethodName) prog_6_method_11_code (6 : Nat) (Option.none : Option FieldType) ∈ zz_T := zz_Tin 682 rfl rfl
set_option maxRecDepth 100000 in
theorem kw_683 : Cond.constantLong "TwoLevelParserModel" (121 : Nat) (99999999999 : Int64) ∈ zz_T := zz_Tin 683 rfl rfl
set_option maxRecDepth 100000 in
theorem kw_684 : Cond.constantLong "TwoLevelParserModel" (123 : Nat) (10 : Int64) ∈ zz_T := zz_Tin 684 rfl rfl
set_option maxRecDepth 100000 in
theorem kw_685 : Cond.constantLong "TwoLevelParserModel" (125 : Nat) (-2147483648 : Int64) ∈ zz_T := zz_Tin 685 rfl rfl
set_option maxRecDepth 100000 in
theorem kw_686 : Cond.constantLong "TwoLevelParserModel" (127 : Nat) (2147483647 : Int64) ∈ zz_T := zz_Tin 686 rfl rfl
set_option maxRecDepth 100000 in
theorem kw_687 : Cond.methodLink "TwoLevelParserModel" (261 : Nat) ({ cls := "TwoLevelParserModel", name := "readDefinition", desc := "()V" } : MethodName) ∈ zz_T := zz_Tin 687 rfl rfl
set_option maxRecDepth 100000 in
theorem kw_689 : Cond.instanceMethod ({ cls := "TwoLevelParserModel", name := "readDefinition", desc := "()V" } : MethodName) ∈ zz_T := zz_Tin 689 rfl rfl
set_option maxRecDepth 100000 in
theorem kw_690 : Cond.code ({ cls := "TwoLevelParserModel", name := "readDefinition", desc := "()V" } : MethodName) prog_6_method_29_code (4 : Nat) (Option.none : Option FieldType) ∈ zz_T := zz_Tin 690 rfl rfl
set_option maxRecDepth 100000 in
theorem kw_691 : Cond.methodLink "TwoLevelParserModel" (213 : Nat) ({ cls := "TwoLevelParserModel", name := "must", desc := "(Z)Z" } : MethodName) ∈ zz_T := zz_Tin 691 rfl rfl
set_option maxRecDepth 100000 in
theorem kw_693 : Cond.instanceMethod ({ cls := "TwoLevelParserModel", name := "must", desc := "(Z)Z" } : MethodName) ∈ zz_T := zz_Tin 693 rfl rfl
set_option maxRecDepth 100000 in
theorem kw_694 : Cond.code ({ cls := "TwoLevelParserModel", name := "must", desc := "(Z)Z" } : MethodName) prog_6_method_18_code (2 : Nat) (Option.some FieldType.boolean) ∈ zz_T := zz_Tin 694 rfl rfl
set_option maxRecDepth 100000 in
theorem kw_696 : Cond.methodLink "TwoLevelParserModel" (144 : Nat) ({ cls := "TwoLevelParserModel", name := "is", desc := "(Ljava/lang/String;)Z" } : MethodName) ∈ zz_T := zz_Tin 696 rfl rfl
set_option maxRecDepth 100000 in
theorem kw_698 : Cond.instanceMethod ({ cls := "TwoLevelParserModel", name := "is", desc := "(Ljava/lang/String;)Z" } : MethodName) ∈ zz_T := zz_Tin 698 rfl rfl
set_option maxRecDepth 100000 in
theorem kw_699 : Cond.code ({ cls := "TwoLevelParserModel", name := "is", desc := "(Ljava/lang/String;)Z" } : MethodName) prog_6_method_12_code (4 : Nat) (Option.some FieldType.boolean) ∈ zz_T := zz_Tin 699 rfl rfl
set_option maxRecDepth 100000 in
theorem kw_700 : Cond.methodLink "TwoLevelParserModel" (132 : Nat) ({ cls := "java/lang/String", name := "length", desc := "()I" } : MethodName) ∈ zz_T := zz_Tin 700 rfl rfl
set_option maxRecDepth 100000 in
theorem kw_701 : Cond.methodLink "TwoLevelParserModel" (138 : Nat) ({ cls := "java/lang/String", name := "charAt", desc := "(I)C" } : MethodName) ∈ zz_T := zz_Tin 701 rfl rfl
set_option maxRecDepth 100000 in
theorem kw_703 : Cond.methodLink "TwoLevelParserModel" (224 : Nat) ({ cls := "TwoLevelParserModel", name := "isOwn", desc := "()Z" } : MethodName) ∈ zz_T := zz_Tin 703 rfl rfl
set_option maxRecDepth 100000 in
theorem kw_705 : Cond.instanceMethod ({ cls := "TwoLevelParserModel", name := "isOwn", desc := "()Z" } : MethodName) ∈ zz_T := zz_Tin 705 rfl rfl
set_option maxRecDepth 100000 in
theorem kw_706 : Cond.code ({ cls := "TwoLevelParserModel", name := "isOwn", desc := "()Z" } : MethodName) prog_6_method_17_code (1 : Nat) (Option.some FieldType.boolean) ∈ zz_T := zz_Tin 706 rfl rfl
set_option maxRecDepth 100000 in
theorem kw_707 : Cond.methodLink "TwoLevelParserModel" (189 : Nat) ({ cls := "TwoLevelParserModel", name := "type", desc := "()I" } : MethodName) ∈ zz_T := zz_Tin 707 rfl rfl
set_option maxRecDepth 100000 in
theorem kw_709 : Cond.instanceMethod ({ cls := "TwoLevelParserModel", name := "type", desc := "()I" } : MethodName) ∈ zz_T := zz_Tin 709 rfl rfl
set_option maxRecDepth 100000 in
theorem kw_710 : Cond.code ({ cls := "TwoLevelParserModel", name := "type", desc := "()I" } : MethodName) prog_6_method_13_code (1 : Nat) (Option.some FieldType.int) ∈ zz_T := zz_Tin 710 rfl rfl
set_option maxRecDepth 100000 in
theorem kw_715 : Cond.methodLink "TwoLevelParserModel" (192 : Nat) ({ cls := "TwoLevelParserModel", name := "stableKind", desc := "()I" } : MethodName) ∈ zz_T := zz_Tin 715 rfl rfl
set_option maxRecDepth 100000 in
theorem kw_717 : Cond.instanceMethod ({ cls := "TwoLevelParserModel", name := "stableKind", desc := "()I" } : MethodName) ∈ zz_T := zz_Tin 717 rfl rfl
set_option maxRecDepth 100000 in
theorem kw_718 : Cond.code ({ cls := "TwoLevelParserModel", name := "stableKind", desc := "()I" } : MethodName) prog_6_method_15_code (1 : Nat) (Option.some FieldType.int) ∈ zz_T := zz_Tin 718 rfl rfl
set_option maxRecDepth 100000 in
theorem kw_719 : Cond.methodLink "TwoLevelParserModel" (168 : Nat) ({ cls := "TwoLevelParserModel", name := "operation", desc := "()I" } : MethodName) ∈ zz_T := zz_Tin 719 rfl rfl
set_option maxRecDepth 100000 in
theorem kw_721 : Cond.instanceMethod ({ cls := "TwoLevelParserModel", name := "operation", desc := "()I" } : MethodName) ∈ zz_T := zz_Tin 721 rfl rfl
set_option maxRecDepth 100000 in
theorem kw_722 : Cond.code ({ cls := "TwoLevelParserModel", name := "operation", desc := "()I" } : MethodName) prog_6_method_14_code (1 : Nat) (Option.some FieldType.int) ∈ zz_T := zz_Tin 722 rfl rfl
set_option maxRecDepth 100000 in
theorem kw_736 : Cond.methodLink "TwoLevelParserModel" (195 : Nat) ({ cls := "TwoLevelParserModel", name := "changeableKind", desc := "()I" } : MethodName) ∈ zz_T := zz_Tin 736 rfl rfl
set_option maxRecDepth 100000 in
theorem kw_738 : Cond.instanceMethod ({ cls := "TwoLevelParserModel", name := "changeableKind", desc := "()I" } : MethodName) ∈ zz_T := zz_Tin 738 rfl rfl
set_option maxRecDepth 100000 in
theorem kw_739 : Cond.code ({ cls := "TwoLevelParserModel", name := "changeableKind", desc := "()I" } : MethodName) prog_6_method_16_code (1 : Nat) (Option.some FieldType.int) ∈ zz_T := zz_Tin 739 rfl rfl
set_option maxRecDepth 100000 in
theorem kw_744 : Cond.methodLink "TwoLevelParserModel" (254 : Nat) ({ cls := "TwoLevelParserModel", name := "readParameter", desc := "(I)V" } : MethodName) ∈ zz_T := zz_Tin 744 rfl rfl
set_option maxRecDepth 100000 in
theorem kw_746 : Cond.instanceMethod ({ cls := "TwoLevelParserModel", name := "readParameter", desc := "(I)V" } : MethodName) ∈ zz_T := zz_Tin 746 rfl rfl
set_option maxRecDepth 100000 in
theorem kw_747 : Cond.code ({ cls := "TwoLevelParserModel", name := "readParameter", desc := "(I)V" } : MethodName) prog_6_method_28_code (4 : Nat) (Option.none : Option FieldType) ∈ zz_T := zz_Tin 747 rfl rfl
set_option maxRecDepth 100000 in
theorem kw_748 : Cond.methodLink "TwoLevelParserModel" (257 : Nat) ({ cls := "TwoLevelParserModel", name := "expression", desc := "(Z)V" } : MethodName) ∈ zz_T := zz_Tin 748 rfl rfl
set_option maxRecDepth 100000 in
theorem kw_750 : Cond.instanceMethod ({ cls := "TwoLevelParserModel", name := "expression", desc := "(Z)V" } : MethodName) ∈ zz_T := zz_Tin 750 rfl rfl
set_option maxRecDepth 100000 in
theorem kw_751 : Cond.code ({ cls := "TwoLevelParserModel", name := "expression", desc := "(Z)V" } : MethodName) prog_6_method_27_code (2 : Nat) (Option.none : Option FieldType) ∈ zz_T := zz_Tin 751 rfl rfl
set_option maxRecDepth 100000 in
theorem kw_752 : Cond.methodLink "TwoLevelParserModel" (217 : Nat) ({ cls := "TwoLevelParserModel", name := "push", desc := "(II)V" } : MethodName) ∈ zz_T := zz_Tin 752 rfl rfl
set_option maxRecDepth 100000 in
theorem kw_754 : Cond.instanceMethod ({ cls := "TwoLevelParserModel", name := "push", desc := "(II)V" } : MethodName) ∈ zz_T := zz_Tin 754 rfl rfl
set_option maxRecDepth 100000 in
theorem kw_755 : Cond.code ({ cls := "TwoLevelParserModel", name := "push", desc := "(II)V" } : MethodName) prog_6_method_19_code (3 : Nat) (Option.none : Option FieldType) ∈ zz_T := zz_Tin 755 rfl rfl
set_option maxRecDepth 100000 in
theorem kw_756 : Cond.methodLink "TwoLevelParserModel" (248 : Nat) ({ cls := "TwoLevelParserModel", name := "step", desc := "()V" } : MethodName) ∈ zz_T := zz_Tin 756 rfl rfl
set_option maxRecDepth 100000 in
theorem kw_758 : Cond.instanceMethod ({ cls := "TwoLevelParserModel", name := "step", desc := "()V" } : MethodName) ∈ zz_T := zz_Tin 758 rfl rfl
set_option maxRecDepth 100000 in
theorem kw_759 : Cond.code ({ cls := "TwoLevelParserModel", name := "step", desc := "()V" } : MethodName) prog_6_method_25_code (3 : Nat) (Option.none : Option FieldType) ∈ zz_T := zz_Tin 759 rfl rfl
set_option maxRecDepth 100000 in
theorem kw_760 : Cond.methodLink "TwoLevelParserModel" (238 : Nat) ({ cls := "TwoLevelParserModel", name := "begin", desc := "(ZI)V" } : MethodName) ∈ zz_T := zz_Tin 760 rfl rfl
set_option maxRecDepth 100000 in
theorem kw_762 : Cond.instanceMethod ({ cls := "TwoLevelParserModel", name := "begin", desc := "(ZI)V" } : MethodName) ∈ zz_T := zz_Tin 762 rfl rfl
set_option maxRecDepth 100000 in
theorem kw_763 : Cond.code ({ cls := "TwoLevelParserModel", name := "begin", desc := "(ZI)V" } : MethodName) prog_6_method_24_code (5 : Nat) (Option.none : Option FieldType) ∈ zz_T := zz_Tin 763 rfl rfl
set_option maxRecDepth 100000 in
theorem kw_764 : Cond.methodLink "TwoLevelParserModel" (220 : Nat) ({ cls := "TwoLevelParserModel", name := "make", desc := "(II)I" } : MethodName) ∈ zz_T := zz_Tin 764 rfl rfl
set_option maxRecDepth 100000 in
theorem kw_766 : Cond.instanceMethod ({ cls := "TwoLevelParserModel", name := "make", desc := "(II)I" } : MethodName) ∈ zz_T := zz_Tin 766 rfl rfl
set_option maxRecDepth 100000 in
theorem kw_767 : Cond.code ({ cls := "TwoLevelParserModel", name := "make", desc := "(II)I" } : MethodName) prog_6_method_20_code (4 : Nat) (Option.some FieldType.int) ∈ zz_T := zz_Tin 767 rfl rfl
set_option maxRecDepth 100000 in
theorem kw_768 : Cond.methodLink "TwoLevelParserModel" (228 : Nat) ({ cls := "TwoLevelParserModel", name := "setName", desc := "(I)V" } : MethodName) ∈ zz_T := zz_Tin 768 rfl rfl
set_option maxRecDepth 100000 in
theorem kw_770 : Cond.instanceMethod ({ cls := "TwoLevelParserModel", name := "setName", desc := "(I)V" } : MethodName) ∈ zz_T := zz_Tin 770 rfl rfl
set_option maxRecDepth 100000 in
theorem kw_771 : Cond.code ({ cls := "TwoLevelParserModel", name := "setName", desc := "(I)V" } : MethodName) prog_6_method_21_code (2 : Nat) (Option.none : Option FieldType) ∈ zz_T := zz_Tin 771 rfl rfl
set_option maxRecDepth 100000 in
theorem kw_772 : Cond.methodLink "TwoLevelParserModel" (235 : Nat) ({ cls := "TwoLevelParserModel", name := "expect", desc := "(I)V" } : MethodName) ∈ zz_T := zz_Tin 772 rfl rfl
set_option maxRecDepth 100000 in
theorem kw_774 : Cond.instanceMethod ({ cls := "TwoLevelParserModel", name := "expect", desc := "(I)V" } : MethodName) ∈ zz_T := zz_Tin 774 rfl rfl
set_option maxRecDepth 100000 in
theorem kw_775 : Cond.code ({ cls := "TwoLevelParserModel", name := "expect", desc := "(I)V" } : MethodName) prog_6_method_23_code (4 : Nat) (Option.none : Option FieldType) ∈ zz_T := zz_Tin 775 rfl rfl
set_option maxRecDepth 100000 in
theorem kw_776 : Cond.methodLink "TwoLevelParserModel" (242 : Nat) ({ cls := "TwoLevelParserModel", name := "letBinds", desc := "(I)V" } : MethodName) ∈ zz_T := zz_Tin 776 rfl rfl
set_option maxRecDepth 100000 in
theorem kw_778 : Cond.instanceMethod ({ cls := "TwoLevelParserModel", name := "letBinds", desc := "(I)V" } : MethodName) ∈ zz_T := zz_Tin 778 rfl rfl
set_option maxRecDepth 100000 in
theorem kw_779 : Cond.code ({ cls := "TwoLevelParserModel", name := "letBinds", desc := "(I)V" } : MethodName) prog_6_method_26_code (2 : Nat) (Option.none : Option FieldType) ∈ zz_T := zz_Tin 779 rfl rfl
set_option maxRecDepth 100000 in
theorem kw_780 : Cond.methodLink "TwoLevelParserModel" (245 : Nat) ({ cls := "TwoLevelParserModel", name := "bind", desc := "()V" } : MethodName) ∈ zz_T := zz_Tin 780 rfl rfl
set_option maxRecDepth 100000 in
theorem kw_782 : Cond.instanceMethod ({ cls := "TwoLevelParserModel", name := "bind", desc := "()V" } : MethodName) ∈ zz_T := zz_Tin 782 rfl rfl
set_option maxRecDepth 100000 in
theorem kw_783 : Cond.code ({ cls := "TwoLevelParserModel", name := "bind", desc := "()V" } : MethodName) prog_6_method_22_code (1 : Nat) (Option.none : Option FieldType) ∈ zz_T := zz_Tin 783 rfl rfl
set_option maxRecDepth 100000 in
theorem kw_784 : Cond.methodLink "TwoLevelParserLaw" (33 : Nat) ({ cls := "TwoLevelParserModel", name := "definition", desc := "(II)I" } : MethodName) ∈ zz_T := zz_Tin 784 rfl rfl
set_option maxRecDepth 100000 in
theorem kw_785 : Cond.instanceMethod ({ cls := "TwoLevelParserModel", name := "definition", desc := "(II)I" } : MethodName) ∈ zz_T := zz_Tin 785 rfl rfl
set_option maxRecDepth 100000 in
theorem kw_786 : Cond.selects "TwoLevelParserModel" ({ cls := "TwoLevelParserModel", name := "definition", desc := "(II)I" } : MethodName) ({ cls := "TwoLevelParserModel", name := "definition", desc := "(II)I" } : MethodName) ∈ zz_T := zz_Tin 786 rfl rfl
set_option maxRecDepth 100000 in
theorem kw_787 : Cond.code ({ cls := "TwoLevelParserModel", name := "definition", desc := "(II)I" } : MethodName) prog_6_method_32_code (3 : Nat) (Option.some FieldType.int) ∈ zz_T := zz_Tin 787 rfl rfl
set_option maxRecDepth 100000 in
theorem kw_788 : Cond.methodLink "TwoLevelParserModel" (264 : Nat) ({ cls := "TwoLevelParserModel", name := "isDefinition", desc := "(I)Z" } : MethodName) ∈ zz_T := zz_Tin 788 rfl rfl
set_option maxRecDepth 100000 in
theorem kw_790 : Cond.instanceMethod ({ cls := "TwoLevelParserModel", name := "isDefinition", desc := "(I)Z" } : MethodName) ∈ zz_T := zz_Tin 790 rfl rfl
set_option maxRecDepth 100000 in
theorem kw_791 : Cond.code ({ cls := "TwoLevelParserModel", name := "isDefinition", desc := "(I)Z" } : MethodName) prog_6_method_31_code (2 : Nat) (Option.some FieldType.boolean) ∈ zz_T := zz_Tin 791 rfl rfl
set_option maxRecDepth 100000 in
theorem kw_792 : Cond.methodLink "TwoLevelParserLaw" (38 : Nat) ({ cls := "TwoLevelParserModel", name := "title", desc := "(II)J" } : MethodName) ∈ zz_T := zz_Tin 792 rfl rfl
set_option maxRecDepth 100000 in
theorem kw_793 : Cond.instanceMethod ({ cls := "TwoLevelParserModel", name := "title", desc := "(II)J" } : MethodName) ∈ zz_T := zz_Tin 793 rfl rfl
set_option maxRecDepth 100000 in
theorem kw_794 : Cond.selects "TwoLevelParserModel" ({ cls := "TwoLevelParserModel", name := "title", desc := "(II)J" } : MethodName) ({ cls := "TwoLevelParserModel", name := "title", desc := "(II)J" } : MethodName) ∈ zz_T := zz_Tin 794 rfl rfl
set_option maxRecDepth 100000 in
theorem kw_795 : Cond.code ({ cls := "TwoLevelParserModel", name := "title", desc := "(II)J" } : MethodName) prog_6_method_33_code (3 : Nat) (Option.some FieldType.long) ∈ zz_T := zz_Tin 795 rfl rfl
set_option maxRecDepth 100000 in
theorem kw_796 : Cond.methodLink "TwoLevelParserLaw" (42 : Nat) ({ cls := "TwoLevelParserModel", name := "parameter", desc := "(II)I" } : MethodName) ∈ zz_T := zz_Tin 796 rfl rfl
set_option maxRecDepth 100000 in
theorem kw_797 : Cond.instanceMethod ({ cls := "TwoLevelParserModel", name := "parameter", desc := "(II)I" } : MethodName) ∈ zz_T := zz_Tin 797 rfl rfl
set_option maxRecDepth 100000 in
theorem kw_798 : Cond.selects "TwoLevelParserModel" ({ cls := "TwoLevelParserModel", name := "parameter", desc := "(II)I" } : MethodName) ({ cls := "TwoLevelParserModel", name := "parameter", desc := "(II)I" } : MethodName) ∈ zz_T := zz_Tin 798 rfl rfl
set_option maxRecDepth 100000 in
theorem kw_799 : Cond.code ({ cls := "TwoLevelParserModel", name := "parameter", desc := "(II)I" } : MethodName) prog_6_method_34_code (3 : Nat) (Option.some FieldType.int) ∈ zz_T := zz_Tin 799 rfl rfl
set_option maxRecDepth 100000 in
theorem kw_800 : Cond.methodLink "TwoLevelParserLaw" (46 : Nat) ({ cls := "TwoLevelParserModel", name := "node", desc := "(II)I" } : MethodName) ∈ zz_T := zz_Tin 800 rfl rfl
set_option maxRecDepth 100000 in
theorem kw_801 : Cond.instanceMethod ({ cls := "TwoLevelParserModel", name := "node", desc := "(II)I" } : MethodName) ∈ zz_T := zz_Tin 801 rfl rfl
set_option maxRecDepth 100000 in
theorem kw_802 : Cond.selects "TwoLevelParserModel" ({ cls := "TwoLevelParserModel", name := "node", desc := "(II)I" } : MethodName) ({ cls := "TwoLevelParserModel", name := "node", desc := "(II)I" } : MethodName) ∈ zz_T := zz_Tin 802 rfl rfl
set_option maxRecDepth 100000 in
theorem kw_803 : Cond.code ({ cls := "TwoLevelParserModel", name := "node", desc := "(II)I" } : MethodName) prog_6_method_36_code (3 : Nat) (Option.some FieldType.int) ∈ zz_T := zz_Tin 803 rfl rfl
set_option maxRecDepth 100000 in
theorem kw_804 : Cond.methodLink "TwoLevelParserModel" (267 : Nat) ({ cls := "TwoLevelParserModel", name := "within", desc := "(IZ)I" } : MethodName) ∈ zz_T := zz_Tin 804 rfl rfl
set_option maxRecDepth 100000 in
theorem kw_806 : Cond.instanceMethod ({ cls := "TwoLevelParserModel", name := "within", desc := "(IZ)I" } : MethodName) ∈ zz_T := zz_Tin 806 rfl rfl
set_option maxRecDepth 100000 in
theorem kw_807 : Cond.code ({ cls := "TwoLevelParserModel", name := "within", desc := "(IZ)I" } : MethodName) prog_6_method_35_code (5 : Nat) (Option.some FieldType.int) ∈ zz_T := zz_Tin 807 rfl rfl
set_option maxRecDepth 100000 in
theorem kw_808 : Cond.methodLink "TwoLevelParserLaw" (50 : Nat) ({ cls := "TwoLevelParserModel", name := "name", desc := "(II)J" } : MethodName) ∈ zz_T := zz_Tin 808 rfl rfl
set_option maxRecDepth 100000 in
theorem kw_809 : Cond.instanceMethod ({ cls := "TwoLevelParserModel", name := "name", desc := "(II)J" } : MethodName) ∈ zz_T := zz_Tin 809 rfl rfl
set_option maxRecDepth 100000 in
theorem kw_810 : Cond.selects "TwoLevelParserModel" ({ cls := "TwoLevelParserModel", name := "name", desc := "(II)J" } : MethodName) ({ cls := "TwoLevelParserModel", name := "name", desc := "(II)J" } : MethodName) ∈ zz_T := zz_Tin 810 rfl rfl
set_option maxRecDepth 100000 in
theorem kw_811 : Cond.code ({ cls := "TwoLevelParserModel", name := "name", desc := "(II)J" } : MethodName) prog_6_method_37_code (3 : Nat) (Option.some FieldType.long) ∈ zz_T := zz_Tin 811 rfl rfl
set_option maxRecDepth 100000 in
theorem kw_812 : Cond.methodLink "TwoLevelParserLaw" (55 : Nat) ({ cls := "TwoLevelParserModel", name := "number", desc := "(I)I" } : MethodName) ∈ zz_T := zz_Tin 812 rfl rfl
set_option maxRecDepth 100000 in
theorem kw_813 : Cond.instanceMethod ({ cls := "TwoLevelParserModel", name := "number", desc := "(I)I" } : MethodName) ∈ zz_T := zz_Tin 813 rfl rfl
set_option maxRecDepth 100000 in
theorem kw_814 : Cond.selects "TwoLevelParserModel" ({ cls := "TwoLevelParserModel", name := "number", desc := "(I)I" } : MethodName) ({ cls := "TwoLevelParserModel", name := "number", desc := "(I)I" } : MethodName) ∈ zz_T := zz_Tin 814 rfl rfl
set_option maxRecDepth 100000 in
theorem kw_815 : Cond.code ({ cls := "TwoLevelParserModel", name := "number", desc := "(I)I" } : MethodName) prog_6_method_38_code (2 : Nat) (Option.some FieldType.int) ∈ zz_T := zz_Tin 815 rfl rfl
set_option maxRecDepth 100000 in
theorem kw_816 : Cond.methodLink "TwoLevelParserLaw" (59 : Nat) ({ cls := "TwoLevelParserModel", name := "look", desc := "(I)I" } : MethodName) ∈ zz_T := zz_Tin 816 rfl rfl
set_option maxRecDepth 100000 in
theorem kw_817 : Cond.instanceMethod ({ cls := "TwoLevelParserModel", name := "look", desc := "(I)I" } : MethodName) ∈ zz_T := zz_Tin 817 rfl rfl
set_option maxRecDepth 100000 in
theorem kw_818 : Cond.selects "TwoLevelParserModel" ({ cls := "TwoLevelParserModel", name := "look", desc := "(I)I" } : MethodName) ({ cls := "TwoLevelParserModel", name := "look", desc := "(I)I" } : MethodName) ∈ zz_T := zz_Tin 818 rfl rfl
set_option maxRecDepth 100000 in
theorem kw_819 : Cond.code ({ cls := "TwoLevelParserModel", name := "look", desc := "(I)I" } : MethodName) prog_6_method_39_code (2 : Nat) (Option.some FieldType.int) ∈ zz_T := zz_Tin 819 rfl rfl
set_option maxRecDepth 100000 in
theorem kw_820 : Cond.constantLong "TwoLevelParserLaw" (13 : Nat) (4294967295 : Int64) ∈ zz_T := zz_Tin 820 rfl rfl
set_option maxRecDepth 100000 in
theorem kw_821 : Cond.fieldLink "java/lang/String" (9 : Nat) "java/lang/String" "value" "[B" ∈ zz_T := zz_Tin 821 rfl rfl
set_option maxRecDepth 100000 in
theorem kw_822 : Cond.fieldLink "java/lang/String" (15 : Nat) "java/lang/String" "coder" "B" ∈ zz_T := zz_Tin 822 rfl rfl
theorem wi_P : ∀ w ∈ u_ws rn_P tf_P 9, w ∈ zz_T := by decide +kernel
theorem wi_R : ∀ w ∈ u_ws rn_R tf_R 5, w ∈ zz_T := by decide +kernel
theorem wi_T : ∀ w ∈ u_ws rn_T tf_T 8, w ∈ zz_T := by decide +kernel
theorem wi_X : ∀ w ∈ u_ws rn_X tf_X 1, w ∈ zz_T := by decide +kernel
theorem wi_M : ∀ w ∈ u_ws rn_M tf_M 33, w ∈ zz_T := by decide +kernel
