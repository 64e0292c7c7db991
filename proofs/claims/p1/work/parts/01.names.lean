def RM : String := "ContinuationCoreModel"
abbrev bM_init : ByteArray := prog_11_method_1_code
def yM_init : MethodName := ⟨RM, "<init>", "()V"⟩
abbrev bM_thrown : ByteArray := prog_11_method_2_code
def yM_thrown : MethodName := ⟨RM, "thrown", "()I"⟩
abbrev bM_fail : ByteArray := prog_11_method_3_code
def yM_fail : MethodName := ⟨RM, "fail", "(I)I"⟩
abbrev bM_newNode : ByteArray := prog_11_method_4_code
def yM_newNode : MethodName := ⟨RM, "newNode", "(I)I"⟩
abbrev bM_attach : ByteArray := prog_11_method_5_code
def yM_attach : MethodName := ⟨RM, "attach", "(I)V"⟩
abbrev bM_begin : ByteArray := prog_11_method_6_code
def yM_begin : MethodName := ⟨RM, "begin", "(I)Z"⟩
abbrev bM_arity : ByteArray := prog_11_method_7_code
def yM_arity : MethodName := ⟨RM, "arity", "(I)I"⟩
abbrev bM_operator : ByteArray := prog_11_method_8_code
def yM_operator : MethodName := ⟨RM, "operator", "(I)Z"⟩
abbrev bM_closureSign : ByteArray := prog_11_method_9_code
def yM_closureSign : MethodName := ⟨RM, "closureSign", "(I)Z"⟩
abbrev bM_signOne : ByteArray := prog_11_method_10_code
def yM_signOne : MethodName := ⟨RM, "signOne", "(I)Z"⟩
abbrev bM_scan : ByteArray := prog_11_method_11_code
def yM_scan : MethodName := ⟨RM, "scan", "(I)Z"⟩
abbrev bM_text : ByteArray := prog_11_method_12_code
def yM_text : MethodName := ⟨RM, "text", "(J)I"⟩
abbrev bM_clear : ByteArray := prog_11_method_13_code
def yM_clear : MethodName := ⟨RM, "clear", "()I"⟩
abbrev bM_isWhole : ByteArray := prog_11_method_14_code
def yM_isWhole : MethodName := ⟨RM, "isWhole", "()Z"⟩
abbrev bM_whole : ByteArray := prog_11_method_15_code
def yM_whole : MethodName := ⟨RM, "whole", "()I"⟩
abbrev bM_given : ByteArray := prog_11_method_16_code
def yM_given : MethodName := ⟨RM, "given", "(II)I"⟩
abbrev bM_start : ByteArray := prog_11_method_17_code
def yM_start : MethodName := ⟨RM, "start", "()I"⟩
abbrev bM_rootNode : ByteArray := prog_11_method_18_code
def yM_rootNode : MethodName := ⟨RM, "rootNode", "()I"⟩
abbrev bM_stopBy : ByteArray := prog_11_method_19_code
def yM_stopBy : MethodName := ⟨RM, "stopBy", "(I)V"⟩
abbrev bM_depthOf : ByteArray := prog_11_method_20_code
def yM_depthOf : MethodName := ⟨RM, "depthOf", "(I)I"⟩
abbrev bM_find : ByteArray := prog_11_method_21_code
def yM_find : MethodName := ⟨RM, "find", "(II)I"⟩
abbrev bM_bind : ByteArray := prog_11_method_22_code
def yM_bind : MethodName := ⟨RM, "bind", "(IIII)I"⟩
abbrev bM_value : ByteArray := prog_11_method_23_code
def yM_value : MethodName := ⟨RM, "value", "(II)V"⟩
abbrev bM_last : ByteArray := prog_11_method_24_code
def yM_last : MethodName := ⟨RM, "last", "(II)V"⟩
abbrev bM_await : ByteArray := prog_11_method_25_code
def yM_await : MethodName := ⟨RM, "await", "(IIIIIII)V"⟩
abbrev bM_beginOne : ByteArray := prog_11_method_26_code
def yM_beginOne : MethodName := ⟨RM, "beginOne", "()V"⟩
abbrev bM_binary : ByteArray := prog_11_method_27_code
def yM_binary : MethodName := ⟨RM, "binary", "(III)V"⟩
abbrev bM_unary : ByteArray := prog_11_method_28_code
def yM_unary : MethodName := ⟨RM, "unary", "(I)V"⟩
abbrev bM_call : ByteArray := prog_11_method_29_code
def yM_call : MethodName := ⟨RM, "call", "(IIII)V"⟩
abbrev bM_partsOf : ByteArray := prog_11_method_30_code
def yM_partsOf : MethodName := ⟨RM, "partsOf", "(I)I"⟩
abbrev bM_apply : ByteArray := prog_11_method_31_code
def yM_apply : MethodName := ⟨RM, "apply", "(IIIII)V"⟩
abbrev bM_goOn : ByteArray := prog_11_method_32_code
def yM_goOn : MethodName := ⟨RM, "goOn", "()V"⟩
abbrev bM_one : ByteArray := prog_11_method_33_code
def yM_one : MethodName := ⟨RM, "one", "()V"⟩
abbrev bM_run : ByteArray := prog_11_method_34_code
def yM_run : MethodName := ⟨RM, "run", "(I)I"⟩
abbrev bM_countParts : ByteArray := prog_11_method_35_code
def yM_countParts : MethodName := ⟨RM, "countParts", "()V"⟩
abbrev bM_stop : ByteArray := prog_11_method_36_code
def yM_stop : MethodName := ⟨RM, "stop", "()I"⟩
abbrev bM_state : ByteArray := prog_11_method_37_code
def yM_state : MethodName := ⟨RM, "state", "(I)I"⟩
abbrev bM_digit : ByteArray := prog_11_method_38_code
def yM_digit : MethodName := ⟨RM, "digit", "(II)I"⟩
abbrev bM_show : ByteArray := prog_11_method_39_code
def yM_show : MethodName := ⟨RM, "show", "(III)V"⟩
abbrev bM_sign : ByteArray := prog_11_method_40_code
def yM_sign : MethodName := ⟨RM, "sign", "(I)I"⟩
abbrev bM_global : ByteArray := prog_11_method_41_code
def yM_global : MethodName := ⟨RM, "global", "(I)I"⟩
def TM : u_T := fun k => match k with
  | 0 => ("ContinuationCoreModel", "failed", "I", false)
  | 1 => ("ContinuationCoreModel", "text", "[I", true)
  | 2 => ("ContinuationCoreModel", "length", "I", false)
  | 3 => ("ContinuationCoreModel", "open", "[I", true)
  | 4 => ("ContinuationCoreModel", "parts", "[I", true)
  | 5 => ("ContinuationCoreModel", "fewest", "[I", true)
  | 6 => ("ContinuationCoreModel", "most", "[I", true)
  | 7 => ("ContinuationCoreModel", "depth", "I", false)
  | 8 => ("ContinuationCoreModel", "mode", "I", false)
  | 9 => ("ContinuationCoreModel", "kind", "[I", true)
  | 10 => ("ContinuationCoreModel", "number", "[I", true)
  | 11 => ("ContinuationCoreModel", "names", "[I", true)
  | 12 => ("ContinuationCoreModel", "part", "[I", true)
  | 13 => ("ContinuationCoreModel", "nodes", "I", false)
  | 14 => ("ContinuationCoreModel", "givenValue", "[I", true)
  | 15 => ("ContinuationCoreModel", "isGiven", "[Z", true)
  | 16 => ("ContinuationCoreModel", "bKind", "[I", true)
  | 17 => ("ContinuationCoreModel", "bValue", "[I", true)
  | 18 => ("ContinuationCoreModel", "bName", "[I", true)
  | 19 => ("ContinuationCoreModel", "bNext", "[I", true)
  | 20 => ("ContinuationCoreModel", "bindings", "I", false)
  | 21 => ("ContinuationCoreModel", "pairKind", "[I", true)
  | 22 => ("ContinuationCoreModel", "pairValue", "[I", true)
  | 23 => ("ContinuationCoreModel", "pairs", "I", false)
  | 24 => ("ContinuationCoreModel", "rec", "[I", true)
  | 25 => ("ContinuationCoreModel", "recValue", "[I", true)
  | 26 => ("ContinuationCoreModel", "recMore", "[I", true)
  | 27 => ("ContinuationCoreModel", "records", "I", false)
  | 28 => ("ContinuationCoreModel", "status", "I", false)
  | 29 => ("ContinuationCoreModel", "steps", "I", false)
  | 30 => ("ContinuationCoreModel", "fault", "I", false)
  | 31 => ("ContinuationCoreModel", "closures", "I", false)
  | 32 => ("ContinuationCoreModel", "begins", "Z", false)
  | 33 => ("ContinuationCoreModel", "node", "I", false)
  | 34 => ("ContinuationCoreModel", "scope", "I", false)
  | 35 => ("ContinuationCoreModel", "chain", "I", false)
  | 36 => ("ContinuationCoreModel", "vKind", "I", false)
  | 37 => ("ContinuationCoreModel", "v", "I", false)
  | 38 => ("ContinuationCoreModel", "showKind", "[I", true)
  | _ => ("ContinuationCoreModel", "showValue", "[I", true)
def tyM : Nat → FieldType := fun k => match k with
  | 0 => .int
  | 1 => .array .int
  | 2 => .int
  | 3 => .array .int
  | 4 => .array .int
  | 5 => .array .int
  | 6 => .array .int
  | 7 => .int
  | 8 => .int
  | 9 => .array .int
  | 10 => .array .int
  | 11 => .array .int
  | 12 => .array .int
  | 13 => .int
  | 14 => .array .int
  | 15 => .array .boolean
  | 16 => .array .int
  | 17 => .array .int
  | 18 => .array .int
  | 19 => .array .int
  | 20 => .int
  | 21 => .array .int
  | 22 => .array .int
  | 23 => .int
  | 24 => .array .int
  | 25 => .array .int
  | 26 => .array .int
  | 27 => .int
  | 28 => .int
  | 29 => .int
  | 30 => .int
  | 31 => .int
  | 32 => .boolean
  | 33 => .int
  | 34 => .int
  | 35 => .int
  | 36 => .int
  | 37 => .int
  | 38 => .array .int
  | _ => .array .int
theorem nmM : ∀ a, a < 40 → ∀ b, b < 40 → a ≠ b → (TM a).2.1 ≠ (TM b).2.1 := by decide +kernel
theorem tyM_ok : ∀ k, k < 40 → parseFieldDescriptor (TM k).2.2.1 = some (tyM k) := by decide +kernel
theorem inM_l : u_ws RM TM 40 = ([1108, 1110, 1112, 1114, 1116, 1118, 1120, 1122, 1124, 1126, 1128, 1130, 1132, 1134, 1136, 1138, 1140, 1142, 1144, 1146, 1148, 1150, 1152, 1154, 1156, 1158, 1160, 1162, 1164, 1166, 1168, 1170, 1172, 1174, 1176, 1178, 1180, 1182, 1184, 1186] : List Nat).filterMap (fun i => tables_1[i]?) := by decide +kernel
theorem inM : ∀ w ∈ u_ws RM TM 40, w ∈ lw_g := fun w h => by
  have hg : (u_ws RM TM 40).all goodWord = true := by decide +kernel
  refine lw_in ?_ (List.all_eq_true.mp hg w h)
  rw [inM_l] at h
  obtain ⟨i, -, hi⟩ := List.mem_filterMap.mp h
  exact List.mem_append_right _ (List.mem_of_getElem? hi)
theorem kM_inst : Cond.instantiable RM 40 ∈ lw_g := lw_in (List.mem_append_right _ (List.mem_of_getElem? (i := 1063) (by decide +kernel))) rfl
theorem kM_ini : Cond.initialized RM ∈ lw_g := lw_in (List.mem_append_right _ (List.mem_of_getElem? (i := 12) (by decide +kernel))) rfl
-- init: maxLocals 1, ret none
theorem kM_c_init : Cond.code yM_init bM_init 1 none ∈ lw_g := lw_in (List.mem_append_right _ (List.mem_of_getElem? (i := 1066) (by decide +kernel))) rfl
theorem dM_init_0 : decode bM_init 0 = .ok (.aload_n 0, 1) := by decide +kernel
theorem dM_init_1 : decode bM_init 1 = .ok (.invokespecial 1, 3) := by decide +kernel
theorem dM_init_4 : decode bM_init 4 = .ok (.aload_n 0, 1) := by decide +kernel
theorem dM_init_5 : decode bM_init 5 = .ok (.bipush 120, 2) := by decide +kernel
theorem dM_init_7 : decode bM_init 7 = .ok (.newarray .int, 2) := by decide +kernel
theorem dM_init_9 : decode bM_init 9 = .ok (.putfield 7, 3) := by decide +kernel
theorem kM_f7 : Cond.fieldLink RM 7 "ContinuationCoreModel" "text" "[I" ∈ lw_g := lw_in (List.mem_append_right _ (List.mem_of_getElem? (i := 1069) (by decide +kernel))) rfl
theorem dM_init_12 : decode bM_init 12 = .ok (.aload_n 0, 1) := by decide +kernel
theorem dM_init_13 : decode bM_init 13 = .ok (.bipush 13, 2) := by decide +kernel
theorem dM_init_15 : decode bM_init 15 = .ok (.newarray .int, 2) := by decide +kernel
theorem dM_init_17 : decode bM_init 17 = .ok (.putfield 13, 3) := by decide +kernel
theorem kM_f13 : Cond.fieldLink RM 13 "ContinuationCoreModel" "open" "[I" ∈ lw_g := lw_in (List.mem_append_right _ (List.mem_of_getElem? (i := 1071) (by decide +kernel))) rfl
theorem dM_init_20 : decode bM_init 20 = .ok (.aload_n 0, 1) := by decide +kernel
theorem dM_init_21 : decode bM_init 21 = .ok (.bipush 13, 2) := by decide +kernel
theorem dM_init_23 : decode bM_init 23 = .ok (.newarray .int, 2) := by decide +kernel
theorem dM_init_25 : decode bM_init 25 = .ok (.putfield 16, 3) := by decide +kernel
theorem kM_f16 : Cond.fieldLink RM 16 "ContinuationCoreModel" "parts" "[I" ∈ lw_g := lw_in (List.mem_append_right _ (List.mem_of_getElem? (i := 1072) (by decide +kernel))) rfl
theorem dM_init_28 : decode bM_init 28 = .ok (.aload_n 0, 1) := by decide +kernel
theorem dM_init_29 : decode bM_init 29 = .ok (.bipush 13, 2) := by decide +kernel
theorem dM_init_31 : decode bM_init 31 = .ok (.newarray .int, 2) := by decide +kernel
theorem dM_init_33 : decode bM_init 33 = .ok (.putfield 19, 3) := by decide +kernel
theorem kM_f19 : Cond.fieldLink RM 19 "ContinuationCoreModel" "fewest" "[I" ∈ lw_g := lw_in (List.mem_append_right _ (List.mem_of_getElem? (i := 1073) (by decide +kernel))) rfl
theorem dM_init_36 : decode bM_init 36 = .ok (.aload_n 0, 1) := by decide +kernel
theorem dM_init_37 : decode bM_init 37 = .ok (.bipush 13, 2) := by decide +kernel
theorem dM_init_39 : decode bM_init 39 = .ok (.newarray .int, 2) := by decide +kernel
theorem dM_init_41 : decode bM_init 41 = .ok (.putfield 22, 3) := by decide +kernel
theorem kM_f22 : Cond.fieldLink RM 22 "ContinuationCoreModel" "most" "[I" ∈ lw_g := lw_in (List.mem_append_right _ (List.mem_of_getElem? (i := 1074) (by decide +kernel))) rfl
theorem dM_init_44 : decode bM_init 44 = .ok (.aload_n 0, 1) := by decide +kernel
theorem dM_init_45 : decode bM_init 45 = .ok (.bipush 120, 2) := by decide +kernel
theorem dM_init_47 : decode bM_init 47 = .ok (.newarray .int, 2) := by decide +kernel
theorem dM_init_49 : decode bM_init 49 = .ok (.putfield 25, 3) := by decide +kernel
theorem kM_f25 : Cond.fieldLink RM 25 "ContinuationCoreModel" "kind" "[I" ∈ lw_g := lw_in (List.mem_append_right _ (List.mem_of_getElem? (i := 1077) (by decide +kernel))) rfl
theorem dM_init_52 : decode bM_init 52 = .ok (.aload_n 0, 1) := by decide +kernel
theorem dM_init_53 : decode bM_init 53 = .ok (.bipush 120, 2) := by decide +kernel
theorem dM_init_55 : decode bM_init 55 = .ok (.newarray .int, 2) := by decide +kernel
theorem dM_init_57 : decode bM_init 57 = .ok (.putfield 28, 3) := by decide +kernel
theorem kM_f28 : Cond.fieldLink RM 28 "ContinuationCoreModel" "number" "[I" ∈ lw_g := lw_in (List.mem_append_right _ (List.mem_of_getElem? (i := 1078) (by decide +kernel))) rfl
theorem dM_init_60 : decode bM_init 60 = .ok (.aload_n 0, 1) := by decide +kernel
theorem dM_init_61 : decode bM_init 61 = .ok (.bipush 120, 2) := by decide +kernel
theorem dM_init_63 : decode bM_init 63 = .ok (.newarray .int, 2) := by decide +kernel
theorem dM_init_65 : decode bM_init 65 = .ok (.putfield 31, 3) := by decide +kernel
theorem kM_f31 : Cond.fieldLink RM 31 "ContinuationCoreModel" "names" "[I" ∈ lw_g := lw_in (List.mem_append_right _ (List.mem_of_getElem? (i := 1079) (by decide +kernel))) rfl
theorem dM_init_68 : decode bM_init 68 = .ok (.aload_n 0, 1) := by decide +kernel
theorem dM_init_69 : decode bM_init 69 = .ok (.sipush 480, 3) := by decide +kernel
theorem dM_init_72 : decode bM_init 72 = .ok (.newarray .int, 2) := by decide +kernel
theorem dM_init_74 : decode bM_init 74 = .ok (.putfield 34, 3) := by decide +kernel
theorem kM_f34 : Cond.fieldLink RM 34 "ContinuationCoreModel" "part" "[I" ∈ lw_g := lw_in (List.mem_append_right _ (List.mem_of_getElem? (i := 1080) (by decide +kernel))) rfl
theorem dM_init_77 : decode bM_init 77 = .ok (.aload_n 0, 1) := by decide +kernel
theorem dM_init_78 : decode bM_init 78 = .ok (.bipush 26, 2) := by decide +kernel
theorem dM_init_80 : decode bM_init 80 = .ok (.newarray .int, 2) := by decide +kernel
theorem dM_init_82 : decode bM_init 82 = .ok (.putfield 37, 3) := by decide +kernel
theorem kM_f37 : Cond.fieldLink RM 37 "ContinuationCoreModel" "givenValue" "[I" ∈ lw_g := lw_in (List.mem_append_right _ (List.mem_of_getElem? (i := 1082) (by decide +kernel))) rfl
theorem dM_init_85 : decode bM_init 85 = .ok (.aload_n 0, 1) := by decide +kernel
theorem dM_init_86 : decode bM_init 86 = .ok (.bipush 26, 2) := by decide +kernel
theorem dM_init_88 : decode bM_init 88 = .ok (.newarray .boolean, 2) := by decide +kernel
theorem dM_init_90 : decode bM_init 90 = .ok (.putfield 40, 3) := by decide +kernel
theorem kM_f40 : Cond.fieldLink RM 40 "ContinuationCoreModel" "isGiven" "[Z" ∈ lw_g := lw_in (List.mem_append_right _ (List.mem_of_getElem? (i := 1083) (by decide +kernel))) rfl
theorem dM_init_93 : decode bM_init 93 = .ok (.aload_n 0, 1) := by decide +kernel
theorem dM_init_94 : decode bM_init 94 = .ok (.sipush 147, 3) := by decide +kernel
theorem dM_init_97 : decode bM_init 97 = .ok (.newarray .int, 2) := by decide +kernel
theorem dM_init_99 : decode bM_init 99 = .ok (.putfield 44, 3) := by decide +kernel
theorem kM_f44 : Cond.fieldLink RM 44 "ContinuationCoreModel" "bKind" "[I" ∈ lw_g := lw_in (List.mem_append_right _ (List.mem_of_getElem? (i := 1084) (by decide +kernel))) rfl
theorem dM_init_102 : decode bM_init 102 = .ok (.aload_n 0, 1) := by decide +kernel
theorem dM_init_103 : decode bM_init 103 = .ok (.sipush 147, 3) := by decide +kernel
theorem dM_init_106 : decode bM_init 106 = .ok (.newarray .int, 2) := by decide +kernel
theorem dM_init_108 : decode bM_init 108 = .ok (.putfield 47, 3) := by decide +kernel
theorem kM_f47 : Cond.fieldLink RM 47 "ContinuationCoreModel" "bValue" "[I" ∈ lw_g := lw_in (List.mem_append_right _ (List.mem_of_getElem? (i := 1085) (by decide +kernel))) rfl
theorem dM_init_111 : decode bM_init 111 = .ok (.aload_n 0, 1) := by decide +kernel
theorem dM_init_112 : decode bM_init 112 = .ok (.sipush 147, 3) := by decide +kernel
theorem dM_init_115 : decode bM_init 115 = .ok (.newarray .int, 2) := by decide +kernel
theorem dM_init_117 : decode bM_init 117 = .ok (.putfield 50, 3) := by decide +kernel
theorem kM_f50 : Cond.fieldLink RM 50 "ContinuationCoreModel" "bName" "[I" ∈ lw_g := lw_in (List.mem_append_right _ (List.mem_of_getElem? (i := 1086) (by decide +kernel))) rfl
theorem dM_init_120 : decode bM_init 120 = .ok (.aload_n 0, 1) := by decide +kernel
theorem dM_init_121 : decode bM_init 121 = .ok (.sipush 147, 3) := by decide +kernel
theorem dM_init_124 : decode bM_init 124 = .ok (.newarray .int, 2) := by decide +kernel
theorem dM_init_126 : decode bM_init 126 = .ok (.putfield 53, 3) := by decide +kernel
theorem kM_f53 : Cond.fieldLink RM 53 "ContinuationCoreModel" "bNext" "[I" ∈ lw_g := lw_in (List.mem_append_right _ (List.mem_of_getElem? (i := 1087) (by decide +kernel))) rfl
theorem dM_init_129 : decode bM_init 129 = .ok (.aload_n 0, 1) := by decide +kernel
theorem dM_init_130 : decode bM_init 130 = .ok (.bipush 122, 2) := by decide +kernel
theorem dM_init_132 : decode bM_init 132 = .ok (.newarray .int, 2) := by decide +kernel
theorem dM_init_134 : decode bM_init 134 = .ok (.putfield 56, 3) := by decide +kernel
theorem kM_f56 : Cond.fieldLink RM 56 "ContinuationCoreModel" "pairKind" "[I" ∈ lw_g := lw_in (List.mem_append_right _ (List.mem_of_getElem? (i := 1089) (by decide +kernel))) rfl
theorem dM_init_137 : decode bM_init 137 = .ok (.aload_n 0, 1) := by decide +kernel
theorem dM_init_138 : decode bM_init 138 = .ok (.bipush 122, 2) := by decide +kernel
theorem dM_init_140 : decode bM_init 140 = .ok (.newarray .int, 2) := by decide +kernel
theorem dM_init_142 : decode bM_init 142 = .ok (.putfield 59, 3) := by decide +kernel
theorem kM_f59 : Cond.fieldLink RM 59 "ContinuationCoreModel" "pairValue" "[I" ∈ lw_g := lw_in (List.mem_append_right _ (List.mem_of_getElem? (i := 1090) (by decide +kernel))) rfl
theorem dM_init_145 : decode bM_init 145 = .ok (.aload_n 0, 1) := by decide +kernel
theorem dM_init_146 : decode bM_init 146 = .ok (.sipush 5200, 3) := by decide +kernel
theorem dM_init_149 : decode bM_init 149 = .ok (.newarray .int, 2) := by decide +kernel
theorem dM_init_151 : decode bM_init 151 = .ok (.putfield 62, 3) := by decide +kernel
theorem kM_f62 : Cond.fieldLink RM 62 "ContinuationCoreModel" "rec" "[I" ∈ lw_g := lw_in (List.mem_append_right _ (List.mem_of_getElem? (i := 1092) (by decide +kernel))) rfl
theorem dM_init_154 : decode bM_init 154 = .ok (.aload_n 0, 1) := by decide +kernel
theorem dM_init_155 : decode bM_init 155 = .ok (.sipush 5200, 3) := by decide +kernel
theorem dM_init_158 : decode bM_init 158 = .ok (.newarray .int, 2) := by decide +kernel
theorem dM_init_160 : decode bM_init 160 = .ok (.putfield 65, 3) := by decide +kernel
theorem kM_f65 : Cond.fieldLink RM 65 "ContinuationCoreModel" "recValue" "[I" ∈ lw_g := lw_in (List.mem_append_right _ (List.mem_of_getElem? (i := 1093) (by decide +kernel))) rfl
theorem dM_init_163 : decode bM_init 163 = .ok (.aload_n 0, 1) := by decide +kernel
theorem dM_init_164 : decode bM_init 164 = .ok (.sipush 5200, 3) := by decide +kernel
theorem dM_init_167 : decode bM_init 167 = .ok (.newarray .int, 2) := by decide +kernel
theorem dM_init_169 : decode bM_init 169 = .ok (.putfield 68, 3) := by decide +kernel
theorem kM_f68 : Cond.fieldLink RM 68 "ContinuationCoreModel" "recMore" "[I" ∈ lw_g := lw_in (List.mem_append_right _ (List.mem_of_getElem? (i := 1094) (by decide +kernel))) rfl
theorem dM_init_172 : decode bM_init 172 = .ok (.aload_n 0, 1) := by decide +kernel
theorem dM_init_173 : decode bM_init 173 = .ok (.sipush 260, 3) := by decide +kernel
theorem dM_init_176 : decode bM_init 176 = .ok (.newarray .int, 2) := by decide +kernel
theorem dM_init_178 : decode bM_init 178 = .ok (.putfield 71, 3) := by decide +kernel
theorem kM_f71 : Cond.fieldLink RM 71 "ContinuationCoreModel" "showKind" "[I" ∈ lw_g := lw_in (List.mem_append_right _ (List.mem_of_getElem? (i := 1106) (by decide +kernel))) rfl
theorem dM_init_181 : decode bM_init 181 = .ok (.aload_n 0, 1) := by decide +kernel
theorem dM_init_182 : decode bM_init 182 = .ok (.sipush 260, 3) := by decide +kernel
theorem dM_init_185 : decode bM_init 185 = .ok (.newarray .int, 2) := by decide +kernel
theorem dM_init_187 : decode bM_init 187 = .ok (.putfield 74, 3) := by decide +kernel
theorem kM_f74 : Cond.fieldLink RM 74 "ContinuationCoreModel" "showValue" "[I" ∈ lw_g := lw_in (List.mem_append_right _ (List.mem_of_getElem? (i := 1107) (by decide +kernel))) rfl
theorem dM_init_190 : decode bM_init 190 = .ok (.return_, 1) := by decide +kernel
-- thrown: maxLocals 1, ret (some .int)
theorem kM_c_thrown : Cond.code yM_thrown bM_thrown 1 (some .int) ∈ lw_g := lw_in (List.mem_append_right _ (List.mem_of_getElem? (i := 1193) (by decide +kernel))) rfl
theorem dM_thrown_0 : decode bM_thrown 0 = .ok (.aload_n 0, 1) := by decide +kernel
theorem dM_thrown_1 : decode bM_thrown 1 = .ok (.getfield 77, 3) := by decide +kernel
theorem kM_f77 : Cond.fieldLink RM 77 "ContinuationCoreModel" "failed" "I" ∈ lw_g := lw_in (List.mem_append_right _ (List.mem_of_getElem? (i := 1068) (by decide +kernel))) rfl
theorem dM_thrown_4 : decode bM_thrown 4 = .ok (.ireturn, 1) := by decide +kernel
theorem kM_i_thrown : Cond.instanceMethod yM_thrown ∈ lw_g := lw_in (List.mem_append_right _ (List.mem_of_getElem? (i := 1191) (by decide +kernel))) rfl
theorem kM_s_thrown : Cond.selects RM yM_thrown yM_thrown ∈ lw_g := lw_in (List.mem_append_right _ (List.mem_of_getElem? (i := 1192) (by decide +kernel))) rfl
-- fail: maxLocals 2, ret (some .int)
theorem kM_c_fail : Cond.code yM_fail bM_fail 2 (some .int) ∈ lw_g := lw_in (List.mem_append_right _ (List.mem_of_getElem? (i := 1201) (by decide +kernel))) rfl
theorem dM_fail_0 : decode bM_fail 0 = .ok (.aload_n 0, 1) := by decide +kernel
theorem dM_fail_1 : decode bM_fail 1 = .ok (.iload_n 1, 1) := by decide +kernel
theorem dM_fail_2 : decode bM_fail 2 = .ok (.putfield 77, 3) := by decide +kernel
theorem dM_fail_5 : decode bM_fail 5 = .ok (.iconst 0, 1) := by decide +kernel
theorem dM_fail_6 : decode bM_fail 6 = .ok (.ireturn, 1) := by decide +kernel
theorem kM_i_fail : Cond.instanceMethod yM_fail ∈ lw_g := lw_in (List.mem_append_right _ (List.mem_of_getElem? (i := 1200) (by decide +kernel))) rfl
theorem kM_s_fail : Cond.selects RM yM_fail yM_fail ∈ lw_g := lw_in (List.mem_append_left _ (List.mem_map.mpr ⟨(yM_fail, 40), by decide +kernel, rfl⟩)) rfl
-- newNode: maxLocals 2, ret (some .int)
theorem kM_c_newNode : Cond.code yM_newNode bM_newNode 2 (some .int) ∈ lw_g := lw_in (List.mem_append_right _ (List.mem_of_getElem? (i := 1222) (by decide +kernel))) rfl
theorem dM_newNode_0 : decode bM_newNode 0 = .ok (.aload_n 0, 1) := by decide +kernel
theorem dM_newNode_1 : decode bM_newNode 1 = .ok (.getfield 25, 3) := by decide +kernel
theorem dM_newNode_4 : decode bM_newNode 4 = .ok (.aload_n 0, 1) := by decide +kernel
theorem dM_newNode_5 : decode bM_newNode 5 = .ok (.getfield 81, 3) := by decide +kernel
theorem kM_f81 : Cond.fieldLink RM 81 "ContinuationCoreModel" "nodes" "I" ∈ lw_g := lw_in (List.mem_append_right _ (List.mem_of_getElem? (i := 1081) (by decide +kernel))) rfl
theorem dM_newNode_8 : decode bM_newNode 8 = .ok (.iload_n 1, 1) := by decide +kernel
theorem dM_newNode_9 : decode bM_newNode 9 = .ok (.iastore, 1) := by decide +kernel
theorem dM_newNode_10 : decode bM_newNode 10 = .ok (.aload_n 0, 1) := by decide +kernel
theorem dM_newNode_11 : decode bM_newNode 11 = .ok (.getfield 28, 3) := by decide +kernel
theorem dM_newNode_14 : decode bM_newNode 14 = .ok (.aload_n 0, 1) := by decide +kernel
theorem dM_newNode_15 : decode bM_newNode 15 = .ok (.getfield 81, 3) := by decide +kernel
theorem dM_newNode_18 : decode bM_newNode 18 = .ok (.iconst 0, 1) := by decide +kernel
theorem dM_newNode_19 : decode bM_newNode 19 = .ok (.iastore, 1) := by decide +kernel
theorem dM_newNode_20 : decode bM_newNode 20 = .ok (.aload_n 0, 1) := by decide +kernel
theorem dM_newNode_21 : decode bM_newNode 21 = .ok (.getfield 31, 3) := by decide +kernel
theorem dM_newNode_24 : decode bM_newNode 24 = .ok (.aload_n 0, 1) := by decide +kernel
theorem dM_newNode_25 : decode bM_newNode 25 = .ok (.getfield 81, 3) := by decide +kernel
theorem dM_newNode_28 : decode bM_newNode 28 = .ok (.iconst 0, 1) := by decide +kernel
theorem dM_newNode_29 : decode bM_newNode 29 = .ok (.iastore, 1) := by decide +kernel
theorem dM_newNode_30 : decode bM_newNode 30 = .ok (.aload_n 0, 1) := by decide +kernel
theorem dM_newNode_31 : decode bM_newNode 31 = .ok (.dup, 1) := by decide +kernel
theorem dM_newNode_32 : decode bM_newNode 32 = .ok (.getfield 81, 3) := by decide +kernel
theorem dM_newNode_35 : decode bM_newNode 35 = .ok (.iconst 1, 1) := by decide +kernel
theorem dM_newNode_36 : decode bM_newNode 36 = .ok (.iadd, 1) := by decide +kernel
theorem dM_newNode_37 : decode bM_newNode 37 = .ok (.putfield 81, 3) := by decide +kernel
theorem dM_newNode_40 : decode bM_newNode 40 = .ok (.aload_n 0, 1) := by decide +kernel
theorem dM_newNode_41 : decode bM_newNode 41 = .ok (.getfield 81, 3) := by decide +kernel
theorem dM_newNode_44 : decode bM_newNode 44 = .ok (.iconst 1, 1) := by decide +kernel
theorem dM_newNode_45 : decode bM_newNode 45 = .ok (.isub, 1) := by decide +kernel
theorem dM_newNode_46 : decode bM_newNode 46 = .ok (.ireturn, 1) := by decide +kernel
theorem kM_i_newNode : Cond.instanceMethod yM_newNode ∈ lw_g := lw_in (List.mem_append_right _ (List.mem_of_getElem? (i := 1221) (by decide +kernel))) rfl
theorem kM_s_newNode : Cond.selects RM yM_newNode yM_newNode ∈ lw_g := lw_in (List.mem_append_left _ (List.mem_map.mpr ⟨(yM_newNode, 40), by decide +kernel, rfl⟩)) rfl
-- attach: maxLocals 3, ret none
theorem kM_c_attach : Cond.code yM_attach bM_attach 3 none ∈ lw_g := lw_in (List.mem_append_right _ (List.mem_of_getElem? (i := 1226) (by decide +kernel))) rfl
theorem dM_attach_0 : decode bM_attach 0 = .ok (.aload_n 0, 1) := by decide +kernel
theorem dM_attach_1 : decode bM_attach 1 = .ok (.getfield 84, 3) := by decide +kernel
theorem kM_f84 : Cond.fieldLink RM 84 "ContinuationCoreModel" "depth" "I" ∈ lw_g := lw_in (List.mem_append_right _ (List.mem_of_getElem? (i := 1075) (by decide +kernel))) rfl
theorem dM_attach_4 : decode bM_attach 4 = .ok (.ifCond .ne 10, 3) := by decide +kernel
theorem dM_attach_7 : decode bM_attach 7 = .ok (.aload_n 0, 1) := by decide +kernel
theorem dM_attach_8 : decode bM_attach 8 = .ok (.bipush 6, 2) := by decide +kernel
theorem dM_attach_10 : decode bM_attach 10 = .ok (.putfield 87, 3) := by decide +kernel
theorem kM_f87 : Cond.fieldLink RM 87 "ContinuationCoreModel" "mode" "I" ∈ lw_g := lw_in (List.mem_append_right _ (List.mem_of_getElem? (i := 1076) (by decide +kernel))) rfl
theorem dM_attach_13 : decode bM_attach 13 = .ok (.return_, 1) := by decide +kernel
theorem dM_attach_14 : decode bM_attach 14 = .ok (.aload_n 0, 1) := by decide +kernel
theorem dM_attach_15 : decode bM_attach 15 = .ok (.getfield 84, 3) := by decide +kernel
theorem dM_attach_18 : decode bM_attach 18 = .ok (.iconst 1, 1) := by decide +kernel
theorem dM_attach_19 : decode bM_attach 19 = .ok (.isub, 1) := by decide +kernel
theorem dM_attach_20 : decode bM_attach 20 = .ok (.istore_n 2, 1) := by decide +kernel
theorem dM_attach_21 : decode bM_attach 21 = .ok (.aload_n 0, 1) := by decide +kernel
theorem dM_attach_22 : decode bM_attach 22 = .ok (.getfield 16, 3) := by decide +kernel
theorem dM_attach_25 : decode bM_attach 25 = .ok (.iload_n 2, 1) := by decide +kernel
theorem dM_attach_26 : decode bM_attach 26 = .ok (.iaload, 1) := by decide +kernel
theorem dM_attach_27 : decode bM_attach 27 = .ok (.iconst 4, 1) := by decide +kernel
theorem dM_attach_28 : decode bM_attach 28 = .ok (.if_icmp .ge 24, 3) := by decide +kernel
theorem dM_attach_31 : decode bM_attach 31 = .ok (.aload_n 0, 1) := by decide +kernel
theorem dM_attach_32 : decode bM_attach 32 = .ok (.getfield 34, 3) := by decide +kernel
theorem dM_attach_35 : decode bM_attach 35 = .ok (.iconst 4, 1) := by decide +kernel
theorem dM_attach_36 : decode bM_attach 36 = .ok (.aload_n 0, 1) := by decide +kernel
theorem dM_attach_37 : decode bM_attach 37 = .ok (.getfield 13, 3) := by decide +kernel
theorem dM_attach_40 : decode bM_attach 40 = .ok (.iload_n 2, 1) := by decide +kernel
theorem dM_attach_41 : decode bM_attach 41 = .ok (.iaload, 1) := by decide +kernel
theorem dM_attach_42 : decode bM_attach 42 = .ok (.imul, 1) := by decide +kernel
theorem dM_attach_43 : decode bM_attach 43 = .ok (.aload_n 0, 1) := by decide +kernel
theorem dM_attach_44 : decode bM_attach 44 = .ok (.getfield 16, 3) := by decide +kernel
theorem dM_attach_47 : decode bM_attach 47 = .ok (.iload_n 2, 1) := by decide +kernel
theorem dM_attach_48 : decode bM_attach 48 = .ok (.iaload, 1) := by decide +kernel
theorem dM_attach_49 : decode bM_attach 49 = .ok (.iadd, 1) := by decide +kernel
theorem dM_attach_50 : decode bM_attach 50 = .ok (.iload_n 1, 1) := by decide +kernel
theorem dM_attach_51 : decode bM_attach 51 = .ok (.iastore, 1) := by decide +kernel
theorem dM_attach_52 : decode bM_attach 52 = .ok (.aload_n 0, 1) := by decide +kernel
theorem dM_attach_53 : decode bM_attach 53 = .ok (.getfield 16, 3) := by decide +kernel
theorem dM_attach_56 : decode bM_attach 56 = .ok (.iload_n 2, 1) := by decide +kernel
theorem dM_attach_57 : decode bM_attach 57 = .ok (.dup2, 1) := by decide +kernel
theorem dM_attach_58 : decode bM_attach 58 = .ok (.iaload, 1) := by decide +kernel
theorem dM_attach_59 : decode bM_attach 59 = .ok (.iconst 1, 1) := by decide +kernel
theorem dM_attach_60 : decode bM_attach 60 = .ok (.iadd, 1) := by decide +kernel
theorem dM_attach_61 : decode bM_attach 61 = .ok (.iastore, 1) := by decide +kernel
theorem dM_attach_62 : decode bM_attach 62 = .ok (.aload_n 0, 1) := by decide +kernel
theorem dM_attach_63 : decode bM_attach 63 = .ok (.iconst 0, 1) := by decide +kernel
theorem dM_attach_64 : decode bM_attach 64 = .ok (.putfield 87, 3) := by decide +kernel
theorem dM_attach_67 : decode bM_attach 67 = .ok (.return_, 1) := by decide +kernel
theorem kM_i_attach : Cond.instanceMethod yM_attach ∈ lw_g := lw_in (List.mem_append_right _ (List.mem_of_getElem? (i := 1225) (by decide +kernel))) rfl
theorem kM_s_attach : Cond.selects RM yM_attach yM_attach ∈ lw_g := lw_in (List.mem_append_left _ (List.mem_map.mpr ⟨(yM_attach, 40), by decide +kernel, rfl⟩)) rfl
-- begin: maxLocals 3, ret (some .boolean)
theorem kM_c_begin : Cond.code yM_begin bM_begin 3 (some .boolean) ∈ lw_g := lw_in (List.mem_append_right _ (List.mem_of_getElem? (i := 1218) (by decide +kernel))) rfl
theorem dM_begin_0 : decode bM_begin 0 = .ok (.aload_n 0, 1) := by decide +kernel
theorem dM_begin_1 : decode bM_begin 1 = .ok (.getfield 84, 3) := by decide +kernel
theorem dM_begin_4 : decode bM_begin 4 = .ok (.ifCond .le 30, 3) := by decide +kernel
theorem dM_begin_7 : decode bM_begin 7 = .ok (.aload_n 0, 1) := by decide +kernel
theorem dM_begin_8 : decode bM_begin 8 = .ok (.getfield 16, 3) := by decide +kernel
theorem dM_begin_11 : decode bM_begin 11 = .ok (.aload_n 0, 1) := by decide +kernel
theorem dM_begin_12 : decode bM_begin 12 = .ok (.getfield 84, 3) := by decide +kernel
theorem dM_begin_15 : decode bM_begin 15 = .ok (.iconst 1, 1) := by decide +kernel
theorem dM_begin_16 : decode bM_begin 16 = .ok (.isub, 1) := by decide +kernel
theorem dM_begin_17 : decode bM_begin 17 = .ok (.iaload, 1) := by decide +kernel
theorem dM_begin_18 : decode bM_begin 18 = .ok (.aload_n 0, 1) := by decide +kernel
theorem dM_begin_19 : decode bM_begin 19 = .ok (.getfield 22, 3) := by decide +kernel
theorem dM_begin_22 : decode bM_begin 22 = .ok (.aload_n 0, 1) := by decide +kernel
theorem dM_begin_23 : decode bM_begin 23 = .ok (.getfield 84, 3) := by decide +kernel
theorem dM_begin_26 : decode bM_begin 26 = .ok (.iconst 1, 1) := by decide +kernel
theorem dM_begin_27 : decode bM_begin 27 = .ok (.isub, 1) := by decide +kernel
theorem dM_begin_28 : decode bM_begin 28 = .ok (.iaload, 1) := by decide +kernel
theorem dM_begin_29 : decode bM_begin 29 = .ok (.if_icmp .ne 5, 3) := by decide +kernel
theorem dM_begin_32 : decode bM_begin 32 = .ok (.iconst 0, 1) := by decide +kernel
theorem dM_begin_33 : decode bM_begin 33 = .ok (.ireturn, 1) := by decide +kernel
theorem dM_begin_34 : decode bM_begin 34 = .ok (.iload_n 1, 1) := by decide +kernel
theorem dM_begin_35 : decode bM_begin 35 = .ok (.bipush 48, 2) := by decide +kernel
theorem dM_begin_37 : decode bM_begin 37 = .ok (.if_icmp .lt 45, 3) := by decide +kernel
theorem dM_begin_40 : decode bM_begin 40 = .ok (.iload_n 1, 1) := by decide +kernel
theorem dM_begin_41 : decode bM_begin 41 = .ok (.bipush 57, 2) := by decide +kernel
theorem dM_begin_43 : decode bM_begin 43 = .ok (.if_icmp .gt 39, 3) := by decide +kernel
theorem dM_begin_46 : decode bM_begin 46 = .ok (.aload_n 0, 1) := by decide +kernel
theorem dM_begin_47 : decode bM_begin 47 = .ok (.bipush 48, 2) := by decide +kernel
theorem dM_begin_49 : decode bM_begin 49 = .ok (.invokevirtual 90, 3) := by decide +kernel
theorem kM_m90 : Cond.methodLink RM 90 yM_newNode ∈ lw_g := lw_in (List.mem_append_right _ (List.mem_of_getElem? (i := 1219) (by decide +kernel))) rfl
theorem dM_begin_52 : decode bM_begin 52 = .ok (.istore_n 2, 1) := by decide +kernel
theorem dM_begin_53 : decode bM_begin 53 = .ok (.aload_n 0, 1) := by decide +kernel
theorem dM_begin_54 : decode bM_begin 54 = .ok (.getfield 28, 3) := by decide +kernel
theorem dM_begin_57 : decode bM_begin 57 = .ok (.iload_n 2, 1) := by decide +kernel
theorem dM_begin_58 : decode bM_begin 58 = .ok (.iload_n 1, 1) := by decide +kernel
theorem dM_begin_59 : decode bM_begin 59 = .ok (.bipush 48, 2) := by decide +kernel
theorem dM_begin_61 : decode bM_begin 61 = .ok (.isub, 1) := by decide +kernel
theorem dM_begin_62 : decode bM_begin 62 = .ok (.iastore, 1) := by decide +kernel
theorem dM_begin_63 : decode bM_begin 63 = .ok (.aload_n 0, 1) := by decide +kernel
theorem dM_begin_64 : decode bM_begin 64 = .ok (.getfield 31, 3) := by decide +kernel
theorem dM_begin_67 : decode bM_begin 67 = .ok (.iload_n 2, 1) := by decide +kernel
theorem dM_begin_68 : decode bM_begin 68 = .ok (.iconst 1, 1) := by decide +kernel
theorem dM_begin_69 : decode bM_begin 69 = .ok (.iastore, 1) := by decide +kernel
theorem dM_begin_70 : decode bM_begin 70 = .ok (.aload_n 0, 1) := by decide +kernel
theorem dM_begin_71 : decode bM_begin 71 = .ok (.iload_n 2, 1) := by decide +kernel
theorem dM_begin_72 : decode bM_begin 72 = .ok (.invokevirtual 94, 3) := by decide +kernel
theorem kM_m94 : Cond.methodLink RM 94 yM_attach ∈ lw_g := lw_in (List.mem_append_right _ (List.mem_of_getElem? (i := 1223) (by decide +kernel))) rfl
theorem dM_begin_75 : decode bM_begin 75 = .ok (.aload_n 0, 1) := by decide +kernel
theorem dM_begin_76 : decode bM_begin 76 = .ok (.iconst 4, 1) := by decide +kernel
theorem dM_begin_77 : decode bM_begin 77 = .ok (.putfield 87, 3) := by decide +kernel
theorem dM_begin_80 : decode bM_begin 80 = .ok (.iconst 1, 1) := by decide +kernel
theorem dM_begin_81 : decode bM_begin 81 = .ok (.ireturn, 1) := by decide +kernel
theorem dM_begin_82 : decode bM_begin 82 = .ok (.iload_n 1, 1) := by decide +kernel
theorem dM_begin_83 : decode bM_begin 83 = .ok (.bipush 97, 2) := by decide +kernel
theorem dM_begin_85 : decode bM_begin 85 = .ok (.if_icmp .lt 9, 3) := by decide +kernel
theorem dM_begin_88 : decode bM_begin 88 = .ok (.iload_n 1, 1) := by decide +kernel
theorem dM_begin_89 : decode bM_begin 89 = .ok (.bipush 122, 2) := by decide +kernel
theorem dM_begin_91 : decode bM_begin 91 = .ok (.if_icmp .le 9, 3) := by decide +kernel
theorem dM_begin_94 : decode bM_begin 94 = .ok (.iload_n 1, 1) := by decide +kernel
theorem dM_begin_95 : decode bM_begin 95 = .ok (.bipush 95, 2) := by decide +kernel
theorem dM_begin_97 : decode bM_begin 97 = .ok (.if_icmp .ne 38, 3) := by decide +kernel
theorem dM_begin_100 : decode bM_begin 100 = .ok (.aload_n 0, 1) := by decide +kernel
theorem dM_begin_101 : decode bM_begin 101 = .ok (.iload_n 1, 1) := by decide +kernel
theorem dM_begin_102 : decode bM_begin 102 = .ok (.bipush 95, 2) := by decide +kernel
theorem dM_begin_104 : decode bM_begin 104 = .ok (.if_icmp .ne 8, 3) := by decide +kernel
theorem dM_begin_107 : decode bM_begin 107 = .ok (.bipush 95, 2) := by decide +kernel
theorem dM_begin_109 : decode bM_begin 109 = .ok (.goto 5, 3) := by decide +kernel
theorem dM_begin_112 : decode bM_begin 112 = .ok (.bipush 110, 2) := by decide +kernel
theorem dM_begin_114 : decode bM_begin 114 = .ok (.invokevirtual 90, 3) := by decide +kernel
theorem dM_begin_117 : decode bM_begin 117 = .ok (.istore_n 2, 1) := by decide +kernel
theorem dM_begin_118 : decode bM_begin 118 = .ok (.aload_n 0, 1) := by decide +kernel
theorem dM_begin_119 : decode bM_begin 119 = .ok (.getfield 28, 3) := by decide +kernel
theorem dM_begin_122 : decode bM_begin 122 = .ok (.iload_n 2, 1) := by decide +kernel
theorem dM_begin_123 : decode bM_begin 123 = .ok (.iload_n 1, 1) := by decide +kernel
theorem dM_begin_124 : decode bM_begin 124 = .ok (.bipush 97, 2) := by decide +kernel
theorem dM_begin_126 : decode bM_begin 126 = .ok (.isub, 1) := by decide +kernel
theorem dM_begin_127 : decode bM_begin 127 = .ok (.iastore, 1) := by decide +kernel
theorem dM_begin_128 : decode bM_begin 128 = .ok (.aload_n 0, 1) := by decide +kernel
theorem dM_begin_129 : decode bM_begin 129 = .ok (.iload_n 2, 1) := by decide +kernel
theorem dM_begin_130 : decode bM_begin 130 = .ok (.invokevirtual 94, 3) := by decide +kernel
theorem dM_begin_133 : decode bM_begin 133 = .ok (.iconst 1, 1) := by decide +kernel
theorem dM_begin_134 : decode bM_begin 134 = .ok (.ireturn, 1) := by decide +kernel
theorem dM_begin_135 : decode bM_begin 135 = .ok (.iload_n 1, 1) := by decide +kernel
theorem dM_begin_136 : decode bM_begin 136 = .ok (.bipush 40, 2) := by decide +kernel
theorem dM_begin_138 : decode bM_begin 138 = .ok (.if_icmp .ne 12, 3) := by decide +kernel
theorem dM_begin_141 : decode bM_begin 141 = .ok (.aload_n 0, 1) := by decide +kernel
theorem dM_begin_142 : decode bM_begin 142 = .ok (.getfield 84, 3) := by decide +kernel
theorem dM_begin_145 : decode bM_begin 145 = .ok (.bipush 12, 2) := by decide +kernel
theorem dM_begin_147 : decode bM_begin 147 = .ok (.if_icmp .ne 5, 3) := by decide +kernel
theorem dM_begin_150 : decode bM_begin 150 = .ok (.iconst 0, 1) := by decide +kernel
theorem dM_begin_151 : decode bM_begin 151 = .ok (.ireturn, 1) := by decide +kernel
theorem dM_begin_152 : decode bM_begin 152 = .ok (.aload_n 0, 1) := by decide +kernel
theorem dM_begin_153 : decode bM_begin 153 = .ok (.getfield 13, 3) := by decide +kernel
theorem dM_begin_156 : decode bM_begin 156 = .ok (.aload_n 0, 1) := by decide +kernel
theorem dM_begin_157 : decode bM_begin 157 = .ok (.getfield 84, 3) := by decide +kernel
theorem dM_begin_160 : decode bM_begin 160 = .ok (.aload_n 0, 1) := by decide +kernel
theorem dM_begin_161 : decode bM_begin 161 = .ok (.bipush 40, 2) := by decide +kernel
theorem dM_begin_163 : decode bM_begin 163 = .ok (.invokevirtual 90, 3) := by decide +kernel
theorem dM_begin_166 : decode bM_begin 166 = .ok (.iastore, 1) := by decide +kernel
theorem dM_begin_167 : decode bM_begin 167 = .ok (.aload_n 0, 1) := by decide +kernel
theorem dM_begin_168 : decode bM_begin 168 = .ok (.getfield 16, 3) := by decide +kernel
theorem dM_begin_171 : decode bM_begin 171 = .ok (.aload_n 0, 1) := by decide +kernel
theorem dM_begin_172 : decode bM_begin 172 = .ok (.getfield 84, 3) := by decide +kernel
theorem dM_begin_175 : decode bM_begin 175 = .ok (.iconst 0, 1) := by decide +kernel
theorem dM_begin_176 : decode bM_begin 176 = .ok (.iastore, 1) := by decide +kernel
theorem dM_begin_177 : decode bM_begin 177 = .ok (.aload_n 0, 1) := by decide +kernel
theorem dM_begin_178 : decode bM_begin 178 = .ok (.getfield 19, 3) := by decide +kernel
theorem dM_begin_181 : decode bM_begin 181 = .ok (.aload_n 0, 1) := by decide +kernel
theorem dM_begin_182 : decode bM_begin 182 = .ok (.getfield 84, 3) := by decide +kernel
theorem dM_begin_185 : decode bM_begin 185 = .ok (.iconst 1, 1) := by decide +kernel
theorem dM_begin_186 : decode bM_begin 186 = .ok (.iastore, 1) := by decide +kernel
theorem dM_begin_187 : decode bM_begin 187 = .ok (.aload_n 0, 1) := by decide +kernel
theorem dM_begin_188 : decode bM_begin 188 = .ok (.getfield 22, 3) := by decide +kernel
theorem dM_begin_191 : decode bM_begin 191 = .ok (.aload_n 0, 1) := by decide +kernel
theorem dM_begin_192 : decode bM_begin 192 = .ok (.getfield 84, 3) := by decide +kernel
theorem dM_begin_195 : decode bM_begin 195 = .ok (.iconst 4, 1) := by decide +kernel
theorem dM_begin_196 : decode bM_begin 196 = .ok (.iastore, 1) := by decide +kernel
theorem dM_begin_197 : decode bM_begin 197 = .ok (.aload_n 0, 1) := by decide +kernel
theorem dM_begin_198 : decode bM_begin 198 = .ok (.dup, 1) := by decide +kernel
theorem dM_begin_199 : decode bM_begin 199 = .ok (.getfield 84, 3) := by decide +kernel
theorem dM_begin_202 : decode bM_begin 202 = .ok (.iconst 1, 1) := by decide +kernel
theorem dM_begin_203 : decode bM_begin 203 = .ok (.iadd, 1) := by decide +kernel
theorem dM_begin_204 : decode bM_begin 204 = .ok (.putfield 84, 3) := by decide +kernel
theorem dM_begin_207 : decode bM_begin 207 = .ok (.aload_n 0, 1) := by decide +kernel
theorem dM_begin_208 : decode bM_begin 208 = .ok (.iconst 1, 1) := by decide +kernel
theorem dM_begin_209 : decode bM_begin 209 = .ok (.putfield 87, 3) := by decide +kernel
theorem dM_begin_212 : decode bM_begin 212 = .ok (.iconst 1, 1) := by decide +kernel
theorem dM_begin_213 : decode bM_begin 213 = .ok (.ireturn, 1) := by decide +kernel
theorem kM_i_begin : Cond.instanceMethod yM_begin ∈ lw_g := lw_in (List.mem_append_right _ (List.mem_of_getElem? (i := 1217) (by decide +kernel))) rfl
theorem kM_s_begin : Cond.selects RM yM_begin yM_begin ∈ lw_g := lw_in (List.mem_append_left _ (List.mem_map.mpr ⟨(yM_begin, 40), by decide +kernel, rfl⟩)) rfl
-- arity: maxLocals 2, ret (some .int)
theorem kM_c_arity : Cond.code yM_arity bM_arity 2 (some .int) ∈ lw_g := lw_in (List.mem_append_right _ (List.mem_of_getElem? (i := 1234) (by decide +kernel))) rfl
theorem dM_arity_0 : decode bM_arity 0 = .ok (.iload_n 1, 1) := by decide +kernel
theorem dM_arity_1 : decode bM_arity 1 = .ok (.bipush 43, 2) := by decide +kernel
theorem dM_arity_3 : decode bM_arity 3 = .ok (.if_icmp .eq 57, 3) := by decide +kernel
theorem dM_arity_6 : decode bM_arity 6 = .ok (.iload_n 1, 1) := by decide +kernel
theorem dM_arity_7 : decode bM_arity 7 = .ok (.bipush 45, 2) := by decide +kernel
theorem dM_arity_9 : decode bM_arity 9 = .ok (.if_icmp .eq 51, 3) := by decide +kernel
theorem dM_arity_12 : decode bM_arity 12 = .ok (.iload_n 1, 1) := by decide +kernel
theorem dM_arity_13 : decode bM_arity 13 = .ok (.bipush 42, 2) := by decide +kernel
theorem dM_arity_15 : decode bM_arity 15 = .ok (.if_icmp .eq 45, 3) := by decide +kernel
theorem dM_arity_18 : decode bM_arity 18 = .ok (.iload_n 1, 1) := by decide +kernel
theorem dM_arity_19 : decode bM_arity 19 = .ok (.bipush 47, 2) := by decide +kernel
theorem dM_arity_21 : decode bM_arity 21 = .ok (.if_icmp .eq 39, 3) := by decide +kernel
theorem dM_arity_24 : decode bM_arity 24 = .ok (.iload_n 1, 1) := by decide +kernel
theorem dM_arity_25 : decode bM_arity 25 = .ok (.bipush 60, 2) := by decide +kernel
theorem dM_arity_27 : decode bM_arity 27 = .ok (.if_icmp .eq 33, 3) := by decide +kernel
theorem dM_arity_30 : decode bM_arity 30 = .ok (.iload_n 1, 1) := by decide +kernel
theorem dM_arity_31 : decode bM_arity 31 = .ok (.bipush 61, 2) := by decide +kernel
theorem dM_arity_33 : decode bM_arity 33 = .ok (.if_icmp .eq 27, 3) := by decide +kernel
theorem dM_arity_36 : decode bM_arity 36 = .ok (.iload_n 1, 1) := by decide +kernel
theorem dM_arity_37 : decode bM_arity 37 = .ok (.bipush 58, 2) := by decide +kernel
theorem dM_arity_39 : decode bM_arity 39 = .ok (.if_icmp .eq 21, 3) := by decide +kernel
theorem dM_arity_42 : decode bM_arity 42 = .ok (.iload_n 1, 1) := by decide +kernel
theorem dM_arity_43 : decode bM_arity 43 = .ok (.bipush 38, 2) := by decide +kernel
theorem dM_arity_45 : decode bM_arity 45 = .ok (.if_icmp .eq 15, 3) := by decide +kernel
theorem dM_arity_48 : decode bM_arity 48 = .ok (.iload_n 1, 1) := by decide +kernel
theorem dM_arity_49 : decode bM_arity 49 = .ok (.bipush 64, 2) := by decide +kernel
theorem dM_arity_51 : decode bM_arity 51 = .ok (.if_icmp .eq 9, 3) := by decide +kernel
theorem dM_arity_54 : decode bM_arity 54 = .ok (.iload_n 1, 1) := by decide +kernel
theorem dM_arity_55 : decode bM_arity 55 = .ok (.bipush 37, 2) := by decide +kernel
theorem dM_arity_57 : decode bM_arity 57 = .ok (.if_icmp .ne 5, 3) := by decide +kernel
theorem dM_arity_60 : decode bM_arity 60 = .ok (.iconst 2, 1) := by decide +kernel
theorem dM_arity_61 : decode bM_arity 61 = .ok (.ireturn, 1) := by decide +kernel
theorem dM_arity_62 : decode bM_arity 62 = .ok (.iload_n 1, 1) := by decide +kernel
theorem dM_arity_63 : decode bM_arity 63 = .ok (.bipush 65, 2) := by decide +kernel
theorem dM_arity_65 : decode bM_arity 65 = .ok (.if_icmp .eq 33, 3) := by decide +kernel
theorem dM_arity_68 : decode bM_arity 68 = .ok (.iload_n 1, 1) := by decide +kernel
theorem dM_arity_69 : decode bM_arity 69 = .ok (.bipush 68, 2) := by decide +kernel
theorem dM_arity_71 : decode bM_arity 71 = .ok (.if_icmp .eq 27, 3) := by decide +kernel
theorem dM_arity_74 : decode bM_arity 74 = .ok (.iload_n 1, 1) := by decide +kernel
theorem dM_arity_75 : decode bM_arity 75 = .ok (.bipush 80, 2) := by decide +kernel
theorem dM_arity_77 : decode bM_arity 77 = .ok (.if_icmp .eq 21, 3) := by decide +kernel
theorem dM_arity_80 : decode bM_arity 80 = .ok (.iload_n 1, 1) := by decide +kernel
theorem dM_arity_81 : decode bM_arity 81 = .ok (.bipush 94, 2) := by decide +kernel
theorem dM_arity_83 : decode bM_arity 83 = .ok (.if_icmp .eq 15, 3) := by decide +kernel
theorem dM_arity_86 : decode bM_arity 86 = .ok (.iload_n 1, 1) := by decide +kernel
theorem dM_arity_87 : decode bM_arity 87 = .ok (.bipush 33, 2) := by decide +kernel
theorem dM_arity_89 : decode bM_arity 89 = .ok (.if_icmp .eq 9, 3) := by decide +kernel
theorem dM_arity_92 : decode bM_arity 92 = .ok (.iload_n 1, 1) := by decide +kernel
theorem dM_arity_93 : decode bM_arity 93 = .ok (.bipush 92, 2) := by decide +kernel
theorem dM_arity_95 : decode bM_arity 95 = .ok (.if_icmp .ne 5, 3) := by decide +kernel
theorem dM_arity_98 : decode bM_arity 98 = .ok (.iconst 1, 1) := by decide +kernel
theorem dM_arity_99 : decode bM_arity 99 = .ok (.ireturn, 1) := by decide +kernel
theorem dM_arity_100 : decode bM_arity 100 = .ok (.iload_n 1, 1) := by decide +kernel
theorem dM_arity_101 : decode bM_arity 101 = .ok (.bipush 63, 2) := by decide +kernel
theorem dM_arity_103 : decode bM_arity 103 = .ok (.if_icmp .ne 7, 3) := by decide +kernel
theorem dM_arity_106 : decode bM_arity 106 = .ok (.iconst 3, 1) := by decide +kernel
theorem dM_arity_107 : decode bM_arity 107 = .ok (.goto 4, 3) := by decide +kernel
theorem dM_arity_110 : decode bM_arity 110 = .ok (.iconst 0, 1) := by decide +kernel
theorem dM_arity_111 : decode bM_arity 111 = .ok (.ireturn, 1) := by decide +kernel
theorem kM_i_arity : Cond.instanceMethod yM_arity ∈ lw_g := lw_in (List.mem_append_right _ (List.mem_of_getElem? (i := 1233) (by decide +kernel))) rfl
theorem kM_s_arity : Cond.selects RM yM_arity yM_arity ∈ lw_g := lw_in (List.mem_append_left _ (List.mem_map.mpr ⟨(yM_arity, 40), by decide +kernel, rfl⟩)) rfl
-- operator: maxLocals 4, ret (some .boolean)
theorem kM_c_operator : Cond.code yM_operator bM_operator 4 (some .boolean) ∈ lw_g := lw_in (List.mem_append_right _ (List.mem_of_getElem? (i := 1230) (by decide +kernel))) rfl
theorem dM_operator_0 : decode bM_operator 0 = .ok (.aload_n 0, 1) := by decide +kernel
theorem dM_operator_1 : decode bM_operator 1 = .ok (.iload_n 1, 1) := by decide +kernel
theorem dM_operator_2 : decode bM_operator 2 = .ok (.invokevirtual 98, 3) := by decide +kernel
theorem kM_m98 : Cond.methodLink RM 98 yM_arity ∈ lw_g := lw_in (List.mem_append_right _ (List.mem_of_getElem? (i := 1231) (by decide +kernel))) rfl
theorem dM_operator_5 : decode bM_operator 5 = .ok (.istore_n 2, 1) := by decide +kernel
theorem dM_operator_6 : decode bM_operator 6 = .ok (.iload_n 2, 1) := by decide +kernel
theorem dM_operator_7 : decode bM_operator 7 = .ok (.ifCond .ne 5, 3) := by decide +kernel
theorem dM_operator_10 : decode bM_operator 10 = .ok (.iconst 0, 1) := by decide +kernel
theorem dM_operator_11 : decode bM_operator 11 = .ok (.ireturn, 1) := by decide +kernel
theorem dM_operator_12 : decode bM_operator 12 = .ok (.aload_n 0, 1) := by decide +kernel
theorem dM_operator_13 : decode bM_operator 13 = .ok (.getfield 84, 3) := by decide +kernel
theorem dM_operator_16 : decode bM_operator 16 = .ok (.iconst 1, 1) := by decide +kernel
theorem dM_operator_17 : decode bM_operator 17 = .ok (.isub, 1) := by decide +kernel
theorem dM_operator_18 : decode bM_operator 18 = .ok (.istore_n 3, 1) := by decide +kernel
theorem dM_operator_19 : decode bM_operator 19 = .ok (.aload_n 0, 1) := by decide +kernel
theorem dM_operator_20 : decode bM_operator 20 = .ok (.getfield 25, 3) := by decide +kernel
theorem dM_operator_23 : decode bM_operator 23 = .ok (.aload_n 0, 1) := by decide +kernel
theorem dM_operator_24 : decode bM_operator 24 = .ok (.getfield 13, 3) := by decide +kernel
theorem dM_operator_27 : decode bM_operator 27 = .ok (.iload_n 3, 1) := by decide +kernel
theorem dM_operator_28 : decode bM_operator 28 = .ok (.iaload, 1) := by decide +kernel
theorem dM_operator_29 : decode bM_operator 29 = .ok (.iload_n 1, 1) := by decide +kernel
theorem dM_operator_30 : decode bM_operator 30 = .ok (.iastore, 1) := by decide +kernel
theorem dM_operator_31 : decode bM_operator 31 = .ok (.aload_n 0, 1) := by decide +kernel
theorem dM_operator_32 : decode bM_operator 32 = .ok (.getfield 19, 3) := by decide +kernel
theorem dM_operator_35 : decode bM_operator 35 = .ok (.iload_n 3, 1) := by decide +kernel
theorem dM_operator_36 : decode bM_operator 36 = .ok (.iload_n 2, 1) := by decide +kernel
theorem dM_operator_37 : decode bM_operator 37 = .ok (.iastore, 1) := by decide +kernel
theorem dM_operator_38 : decode bM_operator 38 = .ok (.aload_n 0, 1) := by decide +kernel
theorem dM_operator_39 : decode bM_operator 39 = .ok (.getfield 22, 3) := by decide +kernel
theorem dM_operator_42 : decode bM_operator 42 = .ok (.iload_n 3, 1) := by decide +kernel
theorem dM_operator_43 : decode bM_operator 43 = .ok (.iload_n 2, 1) := by decide +kernel
theorem dM_operator_44 : decode bM_operator 44 = .ok (.iastore, 1) := by decide +kernel
theorem dM_operator_45 : decode bM_operator 45 = .ok (.aload_n 0, 1) := by decide +kernel
theorem dM_operator_46 : decode bM_operator 46 = .ok (.iload_n 1, 1) := by decide +kernel
theorem dM_operator_47 : decode bM_operator 47 = .ok (.bipush 92, 2) := by decide +kernel
theorem dM_operator_49 : decode bM_operator 49 = .ok (.if_icmp .ne 7, 3) := by decide +kernel
theorem dM_operator_52 : decode bM_operator 52 = .ok (.iconst 3, 1) := by decide +kernel
theorem dM_operator_53 : decode bM_operator 53 = .ok (.goto 26, 3) := by decide +kernel
theorem dM_operator_56 : decode bM_operator 56 = .ok (.iload_n 1, 1) := by decide +kernel
theorem dM_operator_57 : decode bM_operator 57 = .ok (.bipush 33, 2) := by decide +kernel
theorem dM_operator_59 : decode bM_operator 59 = .ok (.if_icmp .eq 15, 3) := by decide +kernel
theorem dM_operator_62 : decode bM_operator 62 = .ok (.iload_n 1, 1) := by decide +kernel
theorem dM_operator_63 : decode bM_operator 63 = .ok (.bipush 64, 2) := by decide +kernel
theorem dM_operator_65 : decode bM_operator 65 = .ok (.if_icmp .eq 9, 3) := by decide +kernel
theorem dM_operator_68 : decode bM_operator 68 = .ok (.iload_n 1, 1) := by decide +kernel
theorem dM_operator_69 : decode bM_operator 69 = .ok (.bipush 37, 2) := by decide +kernel
theorem dM_operator_71 : decode bM_operator 71 = .ok (.if_icmp .ne 7, 3) := by decide +kernel
theorem dM_operator_74 : decode bM_operator 74 = .ok (.iconst 2, 1) := by decide +kernel
theorem dM_operator_75 : decode bM_operator 75 = .ok (.goto 4, 3) := by decide +kernel
theorem dM_operator_78 : decode bM_operator 78 = .ok (.iconst 0, 1) := by decide +kernel
theorem dM_operator_79 : decode bM_operator 79 = .ok (.putfield 87, 3) := by decide +kernel
theorem dM_operator_82 : decode bM_operator 82 = .ok (.iconst 1, 1) := by decide +kernel
theorem dM_operator_83 : decode bM_operator 83 = .ok (.ireturn, 1) := by decide +kernel
theorem kM_i_operator : Cond.instanceMethod yM_operator ∈ lw_g := lw_in (List.mem_append_right _ (List.mem_of_getElem? (i := 1229) (by decide +kernel))) rfl
theorem kM_s_operator : Cond.selects RM yM_operator yM_operator ∈ lw_g := lw_in (List.mem_append_left _ (List.mem_map.mpr ⟨(yM_operator, 40), by decide +kernel, rfl⟩)) rfl
-- closureSign: maxLocals 5, ret (some .boolean)
theorem kM_c_closureSign : Cond.code yM_closureSign bM_closureSign 5 (some .boolean) ∈ lw_g := lw_in (List.mem_append_right _ (List.mem_of_getElem? (i := 1213) (by decide +kernel))) rfl
theorem dM_closureSign_0 : decode bM_closureSign 0 = .ok (.aload_n 0, 1) := by decide +kernel
theorem dM_closureSign_1 : decode bM_closureSign 1 = .ok (.getfield 13, 3) := by decide +kernel
theorem dM_closureSign_4 : decode bM_closureSign 4 = .ok (.aload_n 0, 1) := by decide +kernel
theorem dM_closureSign_5 : decode bM_closureSign 5 = .ok (.getfield 84, 3) := by decide +kernel
theorem dM_closureSign_8 : decode bM_closureSign 8 = .ok (.iconst 1, 1) := by decide +kernel
theorem dM_closureSign_9 : decode bM_closureSign 9 = .ok (.isub, 1) := by decide +kernel
theorem dM_closureSign_10 : decode bM_closureSign 10 = .ok (.iaload, 1) := by decide +kernel
theorem dM_closureSign_11 : decode bM_closureSign 11 = .ok (.istore_n 2, 1) := by decide +kernel
theorem dM_closureSign_12 : decode bM_closureSign 12 = .ok (.aload_n 0, 1) := by decide +kernel
theorem dM_closureSign_13 : decode bM_closureSign 13 = .ok (.getfield 31, 3) := by decide +kernel
theorem dM_closureSign_16 : decode bM_closureSign 16 = .ok (.iload_n 2, 1) := by decide +kernel
theorem dM_closureSign_17 : decode bM_closureSign 17 = .ok (.iaload, 1) := by decide +kernel
theorem dM_closureSign_18 : decode bM_closureSign 18 = .ok (.bipush 20, 2) := by decide +kernel
theorem dM_closureSign_20 : decode bM_closureSign 20 = .ok (.ishr, 1) := by decide +kernel
theorem dM_closureSign_21 : decode bM_closureSign 21 = .ok (.istore_n 3, 1) := by decide +kernel
theorem dM_closureSign_22 : decode bM_closureSign 22 = .ok (.iload_n 1, 1) := by decide +kernel
theorem dM_closureSign_23 : decode bM_closureSign 23 = .ok (.bipush 46, 2) := by decide +kernel
theorem dM_closureSign_25 : decode bM_closureSign 25 = .ok (.if_icmp .ne 10, 3) := by decide +kernel
theorem dM_closureSign_28 : decode bM_closureSign 28 = .ok (.aload_n 0, 1) := by decide +kernel
theorem dM_closureSign_29 : decode bM_closureSign 29 = .ok (.iconst 0, 1) := by decide +kernel
theorem dM_closureSign_30 : decode bM_closureSign 30 = .ok (.putfield 87, 3) := by decide +kernel
theorem dM_closureSign_33 : decode bM_closureSign 33 = .ok (.iconst 1, 1) := by decide +kernel
theorem dM_closureSign_34 : decode bM_closureSign 34 = .ok (.ireturn, 1) := by decide +kernel
theorem dM_closureSign_35 : decode bM_closureSign 35 = .ok (.iload_n 1, 1) := by decide +kernel
theorem dM_closureSign_36 : decode bM_closureSign 36 = .ok (.bipush 97, 2) := by decide +kernel
theorem dM_closureSign_38 : decode bM_closureSign 38 = .ok (.if_icmp .lt 14, 3) := by decide +kernel
theorem dM_closureSign_41 : decode bM_closureSign 41 = .ok (.iload_n 1, 1) := by decide +kernel
theorem dM_closureSign_42 : decode bM_closureSign 42 = .ok (.bipush 122, 2) := by decide +kernel
theorem dM_closureSign_44 : decode bM_closureSign 44 = .ok (.if_icmp .gt 8, 3) := by decide +kernel
theorem dM_closureSign_47 : decode bM_closureSign 47 = .ok (.iload_n 3, 1) := by decide +kernel
theorem dM_closureSign_48 : decode bM_closureSign 48 = .ok (.iconst 3, 1) := by decide +kernel
theorem dM_closureSign_49 : decode bM_closureSign 49 = .ok (.if_icmp .ne 5, 3) := by decide +kernel
theorem dM_closureSign_52 : decode bM_closureSign 52 = .ok (.iconst 0, 1) := by decide +kernel
theorem dM_closureSign_53 : decode bM_closureSign 53 = .ok (.ireturn, 1) := by decide +kernel
theorem dM_closureSign_54 : decode bM_closureSign 54 = .ok (.iconst 0, 1) := by decide +kernel
theorem dM_closureSign_55 : decode bM_closureSign 55 = .ok (.istore 4, 2) := by decide +kernel
theorem dM_closureSign_57 : decode bM_closureSign 57 = .ok (.iload 4, 2) := by decide +kernel
theorem dM_closureSign_59 : decode bM_closureSign 59 = .ok (.iload_n 3, 1) := by decide +kernel
theorem dM_closureSign_60 : decode bM_closureSign 60 = .ok (.if_icmp .ge 32, 3) := by decide +kernel
theorem dM_closureSign_63 : decode bM_closureSign 63 = .ok (.aload_n 0, 1) := by decide +kernel
theorem dM_closureSign_64 : decode bM_closureSign 64 = .ok (.getfield 31, 3) := by decide +kernel
theorem dM_closureSign_67 : decode bM_closureSign 67 = .ok (.iload_n 2, 1) := by decide +kernel
theorem dM_closureSign_68 : decode bM_closureSign 68 = .ok (.iaload, 1) := by decide +kernel
theorem dM_closureSign_69 : decode bM_closureSign 69 = .ok (.iconst 5, 1) := by decide +kernel
theorem dM_closureSign_70 : decode bM_closureSign 70 = .ok (.iload 4, 2) := by decide +kernel
theorem dM_closureSign_72 : decode bM_closureSign 72 = .ok (.imul, 1) := by decide +kernel
theorem dM_closureSign_73 : decode bM_closureSign 73 = .ok (.ishr, 1) := by decide +kernel
theorem dM_closureSign_74 : decode bM_closureSign 74 = .ok (.bipush 31, 2) := by decide +kernel
theorem dM_closureSign_76 : decode bM_closureSign 76 = .ok (.iand, 1) := by decide +kernel
theorem dM_closureSign_77 : decode bM_closureSign 77 = .ok (.iload_n 1, 1) := by decide +kernel
theorem dM_closureSign_78 : decode bM_closureSign 78 = .ok (.bipush 97, 2) := by decide +kernel
theorem dM_closureSign_80 : decode bM_closureSign 80 = .ok (.isub, 1) := by decide +kernel
theorem dM_closureSign_81 : decode bM_closureSign 81 = .ok (.if_icmp .ne 5, 3) := by decide +kernel
theorem dM_closureSign_84 : decode bM_closureSign 84 = .ok (.iconst 0, 1) := by decide +kernel
theorem dM_closureSign_85 : decode bM_closureSign 85 = .ok (.ireturn, 1) := by decide +kernel
theorem dM_closureSign_86 : decode bM_closureSign 86 = .ok (.iinc 4 1, 3) := by decide +kernel
theorem dM_closureSign_89 : decode bM_closureSign 89 = .ok (.goto (-32), 3) := by decide +kernel
theorem dM_closureSign_92 : decode bM_closureSign 92 = .ok (.aload_n 0, 1) := by decide +kernel
theorem dM_closureSign_93 : decode bM_closureSign 93 = .ok (.getfield 31, 3) := by decide +kernel
theorem dM_closureSign_96 : decode bM_closureSign 96 = .ok (.iload_n 2, 1) := by decide +kernel
theorem dM_closureSign_97 : decode bM_closureSign 97 = .ok (.dup2, 1) := by decide +kernel
theorem dM_closureSign_98 : decode bM_closureSign 98 = .ok (.iaload, 1) := by decide +kernel
theorem dM_closureSign_99 : decode bM_closureSign 99 = .ok (.ldc 101, 2) := by decide +kernel
theorem kM_k101 : Cond.constant RM 101 (1048576) ∈ lw_g := lw_in (List.mem_append_right _ (List.mem_of_getElem? (i := 1214) (by decide +kernel))) rfl
theorem dM_closureSign_101 : decode bM_closureSign 101 = .ok (.iload_n 1, 1) := by decide +kernel
theorem dM_closureSign_102 : decode bM_closureSign 102 = .ok (.bipush 97, 2) := by decide +kernel
theorem dM_closureSign_104 : decode bM_closureSign 104 = .ok (.isub, 1) := by decide +kernel
theorem dM_closureSign_105 : decode bM_closureSign 105 = .ok (.iconst 5, 1) := by decide +kernel
theorem dM_closureSign_106 : decode bM_closureSign 106 = .ok (.iload_n 3, 1) := by decide +kernel
theorem dM_closureSign_107 : decode bM_closureSign 107 = .ok (.imul, 1) := by decide +kernel
theorem dM_closureSign_108 : decode bM_closureSign 108 = .ok (.ishl, 1) := by decide +kernel
theorem dM_closureSign_109 : decode bM_closureSign 109 = .ok (.iadd, 1) := by decide +kernel
theorem dM_closureSign_110 : decode bM_closureSign 110 = .ok (.iadd, 1) := by decide +kernel
theorem dM_closureSign_111 : decode bM_closureSign 111 = .ok (.iastore, 1) := by decide +kernel
theorem dM_closureSign_112 : decode bM_closureSign 112 = .ok (.iconst 1, 1) := by decide +kernel
theorem dM_closureSign_113 : decode bM_closureSign 113 = .ok (.ireturn, 1) := by decide +kernel
theorem kM_i_closureSign : Cond.instanceMethod yM_closureSign ∈ lw_g := lw_in (List.mem_append_right _ (List.mem_of_getElem? (i := 1212) (by decide +kernel))) rfl
theorem kM_s_closureSign : Cond.selects RM yM_closureSign yM_closureSign ∈ lw_g := lw_in (List.mem_append_left _ (List.mem_map.mpr ⟨(yM_closureSign, 40), by decide +kernel, rfl⟩)) rfl
-- signOne: maxLocals 3, ret (some .boolean)
theorem kM_c_signOne : Cond.code yM_signOne bM_signOne 3 (some .boolean) ∈ lw_g := lw_in (List.mem_append_right _ (List.mem_of_getElem? (i := 1209) (by decide +kernel))) rfl
theorem dM_signOne_0 : decode bM_signOne 0 = .ok (.aload_n 0, 1) := by decide +kernel
theorem dM_signOne_1 : decode bM_signOne 1 = .ok (.getfield 87, 3) := by decide +kernel
theorem dM_signOne_4 : decode bM_signOne 4 = .ok (.bipush 6, 2) := by decide +kernel
theorem dM_signOne_6 : decode bM_signOne 6 = .ok (.if_icmp .ne 5, 3) := by decide +kernel
theorem dM_signOne_9 : decode bM_signOne 9 = .ok (.iconst 0, 1) := by decide +kernel
theorem dM_signOne_10 : decode bM_signOne 10 = .ok (.ireturn, 1) := by decide +kernel
theorem dM_signOne_11 : decode bM_signOne 11 = .ok (.aload_n 0, 1) := by decide +kernel
theorem dM_signOne_12 : decode bM_signOne 12 = .ok (.getfield 87, 3) := by decide +kernel
theorem dM_signOne_15 : decode bM_signOne 15 = .ok (.iconst 2, 1) := by decide +kernel
theorem dM_signOne_16 : decode bM_signOne 16 = .ok (.if_icmp .ne 46, 3) := by decide +kernel
theorem dM_signOne_19 : decode bM_signOne 19 = .ok (.aload_n 0, 1) := by decide +kernel
theorem dM_signOne_20 : decode bM_signOne 20 = .ok (.getfield 28, 3) := by decide +kernel
theorem dM_signOne_23 : decode bM_signOne 23 = .ok (.aload_n 0, 1) := by decide +kernel
theorem dM_signOne_24 : decode bM_signOne 24 = .ok (.getfield 13, 3) := by decide +kernel
theorem dM_signOne_27 : decode bM_signOne 27 = .ok (.aload_n 0, 1) := by decide +kernel
theorem dM_signOne_28 : decode bM_signOne 28 = .ok (.getfield 84, 3) := by decide +kernel
theorem dM_signOne_31 : decode bM_signOne 31 = .ok (.iconst 1, 1) := by decide +kernel
theorem dM_signOne_32 : decode bM_signOne 32 = .ok (.isub, 1) := by decide +kernel
theorem dM_signOne_33 : decode bM_signOne 33 = .ok (.iaload, 1) := by decide +kernel
theorem dM_signOne_34 : decode bM_signOne 34 = .ok (.iload_n 1, 1) := by decide +kernel
theorem dM_signOne_35 : decode bM_signOne 35 = .ok (.bipush 97, 2) := by decide +kernel
theorem dM_signOne_37 : decode bM_signOne 37 = .ok (.isub, 1) := by decide +kernel
theorem dM_signOne_38 : decode bM_signOne 38 = .ok (.iastore, 1) := by decide +kernel
theorem dM_signOne_39 : decode bM_signOne 39 = .ok (.aload_n 0, 1) := by decide +kernel
theorem dM_signOne_40 : decode bM_signOne 40 = .ok (.iconst 0, 1) := by decide +kernel
theorem dM_signOne_41 : decode bM_signOne 41 = .ok (.putfield 87, 3) := by decide +kernel
theorem dM_signOne_44 : decode bM_signOne 44 = .ok (.iload_n 1, 1) := by decide +kernel
theorem dM_signOne_45 : decode bM_signOne 45 = .ok (.bipush 97, 2) := by decide +kernel
theorem dM_signOne_47 : decode bM_signOne 47 = .ok (.if_icmp .lt 13, 3) := by decide +kernel
theorem dM_signOne_50 : decode bM_signOne 50 = .ok (.iload_n 1, 1) := by decide +kernel
theorem dM_signOne_51 : decode bM_signOne 51 = .ok (.bipush 122, 2) := by decide +kernel
theorem dM_signOne_53 : decode bM_signOne 53 = .ok (.if_icmp .gt 7, 3) := by decide +kernel
theorem dM_signOne_56 : decode bM_signOne 56 = .ok (.iconst 1, 1) := by decide +kernel
theorem dM_signOne_57 : decode bM_signOne 57 = .ok (.goto 4, 3) := by decide +kernel
theorem dM_signOne_60 : decode bM_signOne 60 = .ok (.iconst 0, 1) := by decide +kernel
theorem dM_signOne_61 : decode bM_signOne 61 = .ok (.ireturn, 1) := by decide +kernel
theorem dM_signOne_62 : decode bM_signOne 62 = .ok (.aload_n 0, 1) := by decide +kernel
theorem dM_signOne_63 : decode bM_signOne 63 = .ok (.getfield 87, 3) := by decide +kernel
theorem dM_signOne_66 : decode bM_signOne 66 = .ok (.iconst 3, 1) := by decide +kernel
theorem dM_signOne_67 : decode bM_signOne 67 = .ok (.if_icmp .ne 9, 3) := by decide +kernel
theorem dM_signOne_70 : decode bM_signOne 70 = .ok (.aload_n 0, 1) := by decide +kernel
theorem dM_signOne_71 : decode bM_signOne 71 = .ok (.iload_n 1, 1) := by decide +kernel
theorem dM_signOne_72 : decode bM_signOne 72 = .ok (.invokevirtual 102, 3) := by decide +kernel
theorem kM_m102 : Cond.methodLink RM 102 yM_closureSign ∈ lw_g := lw_in (List.mem_append_right _ (List.mem_of_getElem? (i := 1210) (by decide +kernel))) rfl
theorem dM_signOne_75 : decode bM_signOne 75 = .ok (.ireturn, 1) := by decide +kernel
theorem dM_signOne_76 : decode bM_signOne 76 = .ok (.aload_n 0, 1) := by decide +kernel
theorem dM_signOne_77 : decode bM_signOne 77 = .ok (.getfield 87, 3) := by decide +kernel
theorem dM_signOne_80 : decode bM_signOne 80 = .ok (.iconst 4, 1) := by decide +kernel
theorem dM_signOne_81 : decode bM_signOne 81 = .ok (.if_icmp .ne 68, 3) := by decide +kernel
theorem dM_signOne_84 : decode bM_signOne 84 = .ok (.iload_n 1, 1) := by decide +kernel
theorem dM_signOne_85 : decode bM_signOne 85 = .ok (.bipush 48, 2) := by decide +kernel
theorem dM_signOne_87 : decode bM_signOne 87 = .ok (.if_icmp .lt 62, 3) := by decide +kernel
theorem dM_signOne_90 : decode bM_signOne 90 = .ok (.iload_n 1, 1) := by decide +kernel
theorem dM_signOne_91 : decode bM_signOne 91 = .ok (.bipush 57, 2) := by decide +kernel
theorem dM_signOne_93 : decode bM_signOne 93 = .ok (.if_icmp .gt 56, 3) := by decide +kernel
theorem dM_signOne_96 : decode bM_signOne 96 = .ok (.aload_n 0, 1) := by decide +kernel
theorem dM_signOne_97 : decode bM_signOne 97 = .ok (.getfield 81, 3) := by decide +kernel
theorem dM_signOne_100 : decode bM_signOne 100 = .ok (.iconst 1, 1) := by decide +kernel
theorem dM_signOne_101 : decode bM_signOne 101 = .ok (.isub, 1) := by decide +kernel
theorem dM_signOne_102 : decode bM_signOne 102 = .ok (.istore_n 2, 1) := by decide +kernel
theorem dM_signOne_103 : decode bM_signOne 103 = .ok (.aload_n 0, 1) := by decide +kernel
theorem dM_signOne_104 : decode bM_signOne 104 = .ok (.getfield 28, 3) := by decide +kernel
theorem dM_signOne_107 : decode bM_signOne 107 = .ok (.iload_n 2, 1) := by decide +kernel
theorem dM_signOne_108 : decode bM_signOne 108 = .ok (.aload_n 0, 1) := by decide +kernel
theorem dM_signOne_109 : decode bM_signOne 109 = .ok (.getfield 28, 3) := by decide +kernel
theorem dM_signOne_112 : decode bM_signOne 112 = .ok (.iload_n 2, 1) := by decide +kernel
theorem dM_signOne_113 : decode bM_signOne 113 = .ok (.iaload, 1) := by decide +kernel
theorem dM_signOne_114 : decode bM_signOne 114 = .ok (.bipush 10, 2) := by decide +kernel
theorem dM_signOne_116 : decode bM_signOne 116 = .ok (.imul, 1) := by decide +kernel
theorem dM_signOne_117 : decode bM_signOne 117 = .ok (.iload_n 1, 1) := by decide +kernel
theorem dM_signOne_118 : decode bM_signOne 118 = .ok (.iadd, 1) := by decide +kernel
theorem dM_signOne_119 : decode bM_signOne 119 = .ok (.bipush 48, 2) := by decide +kernel
theorem dM_signOne_121 : decode bM_signOne 121 = .ok (.isub, 1) := by decide +kernel
theorem dM_signOne_122 : decode bM_signOne 122 = .ok (.iastore, 1) := by decide +kernel
theorem dM_signOne_123 : decode bM_signOne 123 = .ok (.aload_n 0, 1) := by decide +kernel
theorem dM_signOne_124 : decode bM_signOne 124 = .ok (.getfield 31, 3) := by decide +kernel
theorem dM_signOne_127 : decode bM_signOne 127 = .ok (.iload_n 2, 1) := by decide +kernel
theorem dM_signOne_128 : decode bM_signOne 128 = .ok (.dup2, 1) := by decide +kernel
theorem dM_signOne_129 : decode bM_signOne 129 = .ok (.iaload, 1) := by decide +kernel
theorem dM_signOne_130 : decode bM_signOne 130 = .ok (.iconst 1, 1) := by decide +kernel
theorem dM_signOne_131 : decode bM_signOne 131 = .ok (.iadd, 1) := by decide +kernel
theorem dM_signOne_132 : decode bM_signOne 132 = .ok (.iastore, 1) := by decide +kernel
theorem dM_signOne_133 : decode bM_signOne 133 = .ok (.aload_n 0, 1) := by decide +kernel
theorem dM_signOne_134 : decode bM_signOne 134 = .ok (.getfield 31, 3) := by decide +kernel
theorem dM_signOne_137 : decode bM_signOne 137 = .ok (.iload_n 2, 1) := by decide +kernel
theorem dM_signOne_138 : decode bM_signOne 138 = .ok (.iaload, 1) := by decide +kernel
theorem dM_signOne_139 : decode bM_signOne 139 = .ok (.iconst 4, 1) := by decide +kernel
theorem dM_signOne_140 : decode bM_signOne 140 = .ok (.if_icmp .gt 7, 3) := by decide +kernel
theorem dM_signOne_143 : decode bM_signOne 143 = .ok (.iconst 1, 1) := by decide +kernel
theorem dM_signOne_144 : decode bM_signOne 144 = .ok (.goto 4, 3) := by decide +kernel
theorem dM_signOne_147 : decode bM_signOne 147 = .ok (.iconst 0, 1) := by decide +kernel
theorem dM_signOne_148 : decode bM_signOne 148 = .ok (.ireturn, 1) := by decide +kernel
theorem dM_signOne_149 : decode bM_signOne 149 = .ok (.aload_n 0, 1) := by decide +kernel
theorem dM_signOne_150 : decode bM_signOne 150 = .ok (.getfield 84, 3) := by decide +kernel
theorem dM_signOne_153 : decode bM_signOne 153 = .ok (.ifCond .ne 24, 3) := by decide +kernel
theorem dM_signOne_156 : decode bM_signOne 156 = .ok (.aload_n 0, 1) := by decide +kernel
theorem dM_signOne_157 : decode bM_signOne 157 = .ok (.getfield 87, 3) := by decide +kernel
theorem dM_signOne_160 : decode bM_signOne 160 = .ok (.ifCond .ne 15, 3) := by decide +kernel
theorem dM_signOne_163 : decode bM_signOne 163 = .ok (.aload_n 0, 1) := by decide +kernel
theorem dM_signOne_164 : decode bM_signOne 164 = .ok (.iload_n 1, 1) := by decide +kernel
theorem dM_signOne_165 : decode bM_signOne 165 = .ok (.invokevirtual 106, 3) := by decide +kernel
theorem kM_m106 : Cond.methodLink RM 106 yM_begin ∈ lw_g := lw_in (List.mem_append_right _ (List.mem_of_getElem? (i := 1215) (by decide +kernel))) rfl
theorem dM_signOne_168 : decode bM_signOne 168 = .ok (.ifCond .eq 7, 3) := by decide +kernel
theorem dM_signOne_171 : decode bM_signOne 171 = .ok (.iconst 1, 1) := by decide +kernel
theorem dM_signOne_172 : decode bM_signOne 172 = .ok (.goto 4, 3) := by decide +kernel
theorem dM_signOne_175 : decode bM_signOne 175 = .ok (.iconst 0, 1) := by decide +kernel
theorem dM_signOne_176 : decode bM_signOne 176 = .ok (.ireturn, 1) := by decide +kernel
theorem dM_signOne_177 : decode bM_signOne 177 = .ok (.aload_n 0, 1) := by decide +kernel
theorem dM_signOne_178 : decode bM_signOne 178 = .ok (.getfield 87, 3) := by decide +kernel
theorem dM_signOne_181 : decode bM_signOne 181 = .ok (.iconst 1, 1) := by decide +kernel
theorem dM_signOne_182 : decode bM_signOne 182 = .ok (.if_icmp .ne 19, 3) := by decide +kernel
theorem dM_signOne_185 : decode bM_signOne 185 = .ok (.iload_n 1, 1) := by decide +kernel
theorem dM_signOne_186 : decode bM_signOne 186 = .ok (.bipush 32, 2) := by decide +kernel
theorem dM_signOne_188 : decode bM_signOne 188 = .ok (.if_icmp .eq 13, 3) := by decide +kernel
theorem dM_signOne_191 : decode bM_signOne 191 = .ok (.aload_n 0, 1) := by decide +kernel
theorem dM_signOne_192 : decode bM_signOne 192 = .ok (.iload_n 1, 1) := by decide +kernel
theorem dM_signOne_193 : decode bM_signOne 193 = .ok (.invokevirtual 109, 3) := by decide +kernel
theorem kM_m109 : Cond.methodLink RM 109 yM_operator ∈ lw_g := lw_in (List.mem_append_right _ (List.mem_of_getElem? (i := 1227) (by decide +kernel))) rfl
theorem dM_signOne_196 : decode bM_signOne 196 = .ok (.ifCond .eq 5, 3) := by decide +kernel
theorem dM_signOne_199 : decode bM_signOne 199 = .ok (.iconst 1, 1) := by decide +kernel
theorem dM_signOne_200 : decode bM_signOne 200 = .ok (.ireturn, 1) := by decide +kernel
theorem dM_signOne_201 : decode bM_signOne 201 = .ok (.aload_n 0, 1) := by decide +kernel
theorem dM_signOne_202 : decode bM_signOne 202 = .ok (.getfield 87, 3) := by decide +kernel
theorem dM_signOne_205 : decode bM_signOne 205 = .ok (.iconst 1, 1) := by decide +kernel
theorem dM_signOne_206 : decode bM_signOne 206 = .ok (.if_icmp .eq 61, 3) := by decide +kernel
theorem dM_signOne_209 : decode bM_signOne 209 = .ok (.iload_n 1, 1) := by decide +kernel
theorem dM_signOne_210 : decode bM_signOne 210 = .ok (.bipush 41, 2) := by decide +kernel
theorem dM_signOne_212 : decode bM_signOne 212 = .ok (.if_icmp .ne 55, 3) := by decide +kernel
theorem dM_signOne_215 : decode bM_signOne 215 = .ok (.aload_n 0, 1) := by decide +kernel
theorem dM_signOne_216 : decode bM_signOne 216 = .ok (.getfield 16, 3) := by decide +kernel
theorem dM_signOne_219 : decode bM_signOne 219 = .ok (.aload_n 0, 1) := by decide +kernel
theorem dM_signOne_220 : decode bM_signOne 220 = .ok (.getfield 84, 3) := by decide +kernel
theorem dM_signOne_223 : decode bM_signOne 223 = .ok (.iconst 1, 1) := by decide +kernel
theorem dM_signOne_224 : decode bM_signOne 224 = .ok (.isub, 1) := by decide +kernel
theorem dM_signOne_225 : decode bM_signOne 225 = .ok (.iaload, 1) := by decide +kernel
theorem dM_signOne_226 : decode bM_signOne 226 = .ok (.aload_n 0, 1) := by decide +kernel
theorem dM_signOne_227 : decode bM_signOne 227 = .ok (.getfield 19, 3) := by decide +kernel
theorem dM_signOne_230 : decode bM_signOne 230 = .ok (.aload_n 0, 1) := by decide +kernel
theorem dM_signOne_231 : decode bM_signOne 231 = .ok (.getfield 84, 3) := by decide +kernel
theorem dM_signOne_234 : decode bM_signOne 234 = .ok (.iconst 1, 1) := by decide +kernel
theorem dM_signOne_235 : decode bM_signOne 235 = .ok (.isub, 1) := by decide +kernel
theorem dM_signOne_236 : decode bM_signOne 236 = .ok (.iaload, 1) := by decide +kernel
theorem dM_signOne_237 : decode bM_signOne 237 = .ok (.if_icmp .ge 5, 3) := by decide +kernel
theorem dM_signOne_240 : decode bM_signOne 240 = .ok (.iconst 0, 1) := by decide +kernel
theorem dM_signOne_241 : decode bM_signOne 241 = .ok (.ireturn, 1) := by decide +kernel
theorem dM_signOne_242 : decode bM_signOne 242 = .ok (.aload_n 0, 1) := by decide +kernel
theorem dM_signOne_243 : decode bM_signOne 243 = .ok (.dup, 1) := by decide +kernel
theorem dM_signOne_244 : decode bM_signOne 244 = .ok (.getfield 84, 3) := by decide +kernel
theorem dM_signOne_247 : decode bM_signOne 247 = .ok (.iconst 1, 1) := by decide +kernel
theorem dM_signOne_248 : decode bM_signOne 248 = .ok (.isub, 1) := by decide +kernel
theorem dM_signOne_249 : decode bM_signOne 249 = .ok (.putfield 84, 3) := by decide +kernel
theorem dM_signOne_252 : decode bM_signOne 252 = .ok (.aload_n 0, 1) := by decide +kernel
theorem dM_signOne_253 : decode bM_signOne 253 = .ok (.aload_n 0, 1) := by decide +kernel
theorem dM_signOne_254 : decode bM_signOne 254 = .ok (.getfield 13, 3) := by decide +kernel
theorem dM_signOne_257 : decode bM_signOne 257 = .ok (.aload_n 0, 1) := by decide +kernel
theorem dM_signOne_258 : decode bM_signOne 258 = .ok (.getfield 84, 3) := by decide +kernel
theorem dM_signOne_261 : decode bM_signOne 261 = .ok (.iaload, 1) := by decide +kernel
theorem dM_signOne_262 : decode bM_signOne 262 = .ok (.invokevirtual 94, 3) := by decide +kernel
theorem dM_signOne_265 : decode bM_signOne 265 = .ok (.iconst 1, 1) := by decide +kernel
theorem dM_signOne_266 : decode bM_signOne 266 = .ok (.ireturn, 1) := by decide +kernel
theorem dM_signOne_267 : decode bM_signOne 267 = .ok (.aload_n 0, 1) := by decide +kernel
theorem dM_signOne_268 : decode bM_signOne 268 = .ok (.iconst 0, 1) := by decide +kernel
theorem dM_signOne_269 : decode bM_signOne 269 = .ok (.putfield 87, 3) := by decide +kernel
theorem dM_signOne_272 : decode bM_signOne 272 = .ok (.iload_n 1, 1) := by decide +kernel
theorem dM_signOne_273 : decode bM_signOne 273 = .ok (.bipush 32, 2) := by decide +kernel
theorem dM_signOne_275 : decode bM_signOne 275 = .ok (.if_icmp .eq 11, 3) := by decide +kernel
theorem dM_signOne_278 : decode bM_signOne 278 = .ok (.aload_n 0, 1) := by decide +kernel
theorem dM_signOne_279 : decode bM_signOne 279 = .ok (.iload_n 1, 1) := by decide +kernel
theorem dM_signOne_280 : decode bM_signOne 280 = .ok (.invokevirtual 106, 3) := by decide +kernel
theorem dM_signOne_283 : decode bM_signOne 283 = .ok (.ifCond .eq 7, 3) := by decide +kernel
theorem dM_signOne_286 : decode bM_signOne 286 = .ok (.iconst 1, 1) := by decide +kernel
theorem dM_signOne_287 : decode bM_signOne 287 = .ok (.goto 4, 3) := by decide +kernel
theorem dM_signOne_290 : decode bM_signOne 290 = .ok (.iconst 0, 1) := by decide +kernel
theorem dM_signOne_291 : decode bM_signOne 291 = .ok (.ireturn, 1) := by decide +kernel
theorem kM_i_signOne : Cond.instanceMethod yM_signOne ∈ lw_g := lw_in (List.mem_append_right _ (List.mem_of_getElem? (i := 1208) (by decide +kernel))) rfl
theorem kM_s_signOne : Cond.selects RM yM_signOne yM_signOne ∈ lw_g := lw_in (List.mem_append_left _ (List.mem_map.mpr ⟨(yM_signOne, 40), by decide +kernel, rfl⟩)) rfl
-- scan: maxLocals 3, ret (some .boolean)
theorem kM_c_scan : Cond.code yM_scan bM_scan 3 (some .boolean) ∈ lw_g := lw_in (List.mem_append_right _ (List.mem_of_getElem? (i := 1205) (by decide +kernel))) rfl
theorem dM_scan_0 : decode bM_scan 0 = .ok (.aload_n 0, 1) := by decide +kernel
theorem dM_scan_1 : decode bM_scan 1 = .ok (.iconst 0, 1) := by decide +kernel
theorem dM_scan_2 : decode bM_scan 2 = .ok (.putfield 84, 3) := by decide +kernel
theorem dM_scan_5 : decode bM_scan 5 = .ok (.aload_n 0, 1) := by decide +kernel
theorem dM_scan_6 : decode bM_scan 6 = .ok (.iconst 0, 1) := by decide +kernel
theorem dM_scan_7 : decode bM_scan 7 = .ok (.putfield 87, 3) := by decide +kernel
theorem dM_scan_10 : decode bM_scan 10 = .ok (.aload_n 0, 1) := by decide +kernel
theorem dM_scan_11 : decode bM_scan 11 = .ok (.iconst 0, 1) := by decide +kernel
theorem dM_scan_12 : decode bM_scan 12 = .ok (.putfield 81, 3) := by decide +kernel
theorem dM_scan_15 : decode bM_scan 15 = .ok (.iconst 0, 1) := by decide +kernel
theorem dM_scan_16 : decode bM_scan 16 = .ok (.istore_n 2, 1) := by decide +kernel
theorem dM_scan_17 : decode bM_scan 17 = .ok (.iload_n 2, 1) := by decide +kernel
theorem dM_scan_18 : decode bM_scan 18 = .ok (.iload_n 1, 1) := by decide +kernel
theorem dM_scan_19 : decode bM_scan 19 = .ok (.if_icmp .ge 24, 3) := by decide +kernel
theorem dM_scan_22 : decode bM_scan 22 = .ok (.aload_n 0, 1) := by decide +kernel
theorem dM_scan_23 : decode bM_scan 23 = .ok (.aload_n 0, 1) := by decide +kernel
theorem dM_scan_24 : decode bM_scan 24 = .ok (.getfield 7, 3) := by decide +kernel
theorem dM_scan_27 : decode bM_scan 27 = .ok (.iload_n 2, 1) := by decide +kernel
theorem dM_scan_28 : decode bM_scan 28 = .ok (.iaload, 1) := by decide +kernel
theorem dM_scan_29 : decode bM_scan 29 = .ok (.invokevirtual 112, 3) := by decide +kernel
theorem kM_m112 : Cond.methodLink RM 112 yM_signOne ∈ lw_g := lw_in (List.mem_append_right _ (List.mem_of_getElem? (i := 1206) (by decide +kernel))) rfl
theorem dM_scan_32 : decode bM_scan 32 = .ok (.ifCond .ne 5, 3) := by decide +kernel
theorem dM_scan_35 : decode bM_scan 35 = .ok (.iconst 0, 1) := by decide +kernel
theorem dM_scan_36 : decode bM_scan 36 = .ok (.ireturn, 1) := by decide +kernel
theorem dM_scan_37 : decode bM_scan 37 = .ok (.iinc 2 1, 3) := by decide +kernel
theorem dM_scan_40 : decode bM_scan 40 = .ok (.goto (-23), 3) := by decide +kernel
theorem dM_scan_43 : decode bM_scan 43 = .ok (.iconst 1, 1) := by decide +kernel
theorem dM_scan_44 : decode bM_scan 44 = .ok (.ireturn, 1) := by decide +kernel
theorem kM_i_scan : Cond.instanceMethod yM_scan ∈ lw_g := lw_in (List.mem_append_right _ (List.mem_of_getElem? (i := 1204) (by decide +kernel))) rfl
theorem kM_s_scan : Cond.selects RM yM_scan yM_scan ∈ lw_g := lw_in (List.mem_append_left _ (List.mem_map.mpr ⟨(yM_scan, 40), by decide +kernel, rfl⟩)) rfl
-- text: maxLocals 6, ret (some .int)
theorem kM_c_text : Cond.code yM_text bM_text 6 (some .int) ∈ lw_g := lw_in (List.mem_append_right _ (List.mem_of_getElem? (i := 1197) (by decide +kernel))) rfl
theorem dM_text_0 : decode bM_text 0 = .ok (.aload_n 0, 1) := by decide +kernel
theorem dM_text_1 : decode bM_text 1 = .ok (.iconst 0, 1) := by decide +kernel
theorem dM_text_2 : decode bM_text 2 = .ok (.putfield 77, 3) := by decide +kernel
theorem dM_text_5 : decode bM_text 5 = .ok (.aload_n 0, 1) := by decide +kernel
theorem dM_text_6 : decode bM_text 6 = .ok (.getfield 115, 3) := by decide +kernel
theorem kM_f115 : Cond.fieldLink RM 115 "ContinuationCoreModel" "status" "I" ∈ lw_g := lw_in (List.mem_append_right _ (List.mem_of_getElem? (i := 1096) (by decide +kernel))) rfl
theorem dM_text_9 : decode bM_text 9 = .ok (.iconst 1, 1) := by decide +kernel
theorem dM_text_10 : decode bM_text 10 = .ok (.if_icmp .ne 9, 3) := by decide +kernel
theorem dM_text_13 : decode bM_text 13 = .ok (.aload_n 0, 1) := by decide +kernel
theorem dM_text_14 : decode bM_text 14 = .ok (.iconst 1, 1) := by decide +kernel
theorem dM_text_15 : decode bM_text 15 = .ok (.invokevirtual 118, 3) := by decide +kernel
theorem kM_m118 : Cond.methodLink RM 118 yM_fail ∈ lw_g := lw_in (List.mem_append_right _ (List.mem_of_getElem? (i := 1198) (by decide +kernel))) rfl
theorem dM_text_18 : decode bM_text 18 = .ok (.ireturn, 1) := by decide +kernel
theorem dM_text_19 : decode bM_text 19 = .ok (.aload_n 0, 1) := by decide +kernel
theorem dM_text_20 : decode bM_text 20 = .ok (.getfield 121, 3) := by decide +kernel
theorem kM_f121 : Cond.fieldLink RM 121 "ContinuationCoreModel" "length" "I" ∈ lw_g := lw_in (List.mem_append_right _ (List.mem_of_getElem? (i := 1070) (by decide +kernel))) rfl
theorem dM_text_23 : decode bM_text 23 = .ok (.istore_n 3, 1) := by decide +kernel
theorem dM_text_24 : decode bM_text 24 = .ok (.bipush 7, 2) := by decide +kernel
theorem dM_text_26 : decode bM_text 26 = .ok (.istore 4, 2) := by decide +kernel
theorem dM_text_28 : decode bM_text 28 = .ok (.iload 4, 2) := by decide +kernel
theorem dM_text_30 : decode bM_text 30 = .ok (.ifCond .lt 65, 3) := by decide +kernel
theorem dM_text_33 : decode bM_text 33 = .ok (.lload_n 1, 1) := by decide +kernel
theorem dM_text_34 : decode bM_text 34 = .ok (.bipush 8, 2) := by decide +kernel
theorem dM_text_36 : decode bM_text 36 = .ok (.iload 4, 2) := by decide +kernel
theorem dM_text_38 : decode bM_text 38 = .ok (.imul, 1) := by decide +kernel
theorem dM_text_39 : decode bM_text 39 = .ok (.lshr, 1) := by decide +kernel
theorem dM_text_40 : decode bM_text 40 = .ok (.l2i, 1) := by decide +kernel
theorem dM_text_41 : decode bM_text 41 = .ok (.sipush 255, 3) := by decide +kernel
theorem dM_text_44 : decode bM_text 44 = .ok (.iand, 1) := by decide +kernel
theorem dM_text_45 : decode bM_text 45 = .ok (.istore 5, 2) := by decide +kernel
theorem dM_text_47 : decode bM_text 47 = .ok (.iload 5, 2) := by decide +kernel
theorem dM_text_49 : decode bM_text 49 = .ok (.ifCond .eq 40, 3) := by decide +kernel
theorem dM_text_52 : decode bM_text 52 = .ok (.iload 5, 2) := by decide +kernel
theorem dM_text_54 : decode bM_text 54 = .ok (.bipush 32, 2) := by decide +kernel
theorem dM_text_56 : decode bM_text 56 = .ok (.if_icmp .lt 16, 3) := by decide +kernel
theorem dM_text_59 : decode bM_text 59 = .ok (.iload 5, 2) := by decide +kernel
theorem dM_text_61 : decode bM_text 61 = .ok (.bipush 126, 2) := by decide +kernel
theorem dM_text_63 : decode bM_text 63 = .ok (.if_icmp .gt 9, 3) := by decide +kernel
theorem dM_text_66 : decode bM_text 66 = .ok (.iload_n 3, 1) := by decide +kernel
theorem dM_text_67 : decode bM_text 67 = .ok (.bipush 120, 2) := by decide +kernel
theorem dM_text_69 : decode bM_text 69 = .ok (.if_icmp .ne 9, 3) := by decide +kernel
theorem dM_text_72 : decode bM_text 72 = .ok (.aload_n 0, 1) := by decide +kernel
theorem dM_text_73 : decode bM_text 73 = .ok (.iconst 2, 1) := by decide +kernel
theorem dM_text_74 : decode bM_text 74 = .ok (.invokevirtual 118, 3) := by decide +kernel
theorem dM_text_77 : decode bM_text 77 = .ok (.ireturn, 1) := by decide +kernel
theorem dM_text_78 : decode bM_text 78 = .ok (.aload_n 0, 1) := by decide +kernel
theorem dM_text_79 : decode bM_text 79 = .ok (.getfield 7, 3) := by decide +kernel
theorem dM_text_82 : decode bM_text 82 = .ok (.iload_n 3, 1) := by decide +kernel
theorem dM_text_83 : decode bM_text 83 = .ok (.iload 5, 2) := by decide +kernel
theorem dM_text_85 : decode bM_text 85 = .ok (.iastore, 1) := by decide +kernel
theorem dM_text_86 : decode bM_text 86 = .ok (.iinc 3 1, 3) := by decide +kernel
theorem dM_text_89 : decode bM_text 89 = .ok (.iinc 4 (-1), 3) := by decide +kernel
theorem dM_text_92 : decode bM_text 92 = .ok (.goto (-64), 3) := by decide +kernel
theorem dM_text_95 : decode bM_text 95 = .ok (.aload_n 0, 1) := by decide +kernel
theorem dM_text_96 : decode bM_text 96 = .ok (.iload_n 3, 1) := by decide +kernel
theorem dM_text_97 : decode bM_text 97 = .ok (.invokevirtual 124, 3) := by decide +kernel
theorem kM_m124 : Cond.methodLink RM 124 yM_scan ∈ lw_g := lw_in (List.mem_append_right _ (List.mem_of_getElem? (i := 1202) (by decide +kernel))) rfl
theorem dM_text_100 : decode bM_text 100 = .ok (.ifCond .ne 9, 3) := by decide +kernel
theorem dM_text_103 : decode bM_text 103 = .ok (.aload_n 0, 1) := by decide +kernel
theorem dM_text_104 : decode bM_text 104 = .ok (.iconst 2, 1) := by decide +kernel
theorem dM_text_105 : decode bM_text 105 = .ok (.invokevirtual 118, 3) := by decide +kernel
theorem dM_text_108 : decode bM_text 108 = .ok (.ireturn, 1) := by decide +kernel
theorem dM_text_109 : decode bM_text 109 = .ok (.aload_n 0, 1) := by decide +kernel
theorem dM_text_110 : decode bM_text 110 = .ok (.iload_n 3, 1) := by decide +kernel
theorem dM_text_111 : decode bM_text 111 = .ok (.putfield 121, 3) := by decide +kernel
theorem dM_text_114 : decode bM_text 114 = .ok (.aload_n 0, 1) := by decide +kernel
theorem dM_text_115 : decode bM_text 115 = .ok (.getfield 121, 3) := by decide +kernel
theorem dM_text_118 : decode bM_text 118 = .ok (.ireturn, 1) := by decide +kernel
theorem kM_i_text : Cond.instanceMethod yM_text ∈ lw_g := lw_in (List.mem_append_right _ (List.mem_of_getElem? (i := 1195) (by decide +kernel))) rfl
theorem kM_s_text : Cond.selects RM yM_text yM_text ∈ lw_g := lw_in (List.mem_append_right _ (List.mem_of_getElem? (i := 1196) (by decide +kernel))) rfl
-- clear: maxLocals 2, ret (some .int)
theorem kM_c_clear : Cond.code yM_clear bM_clear 2 (some .int) ∈ lw_g := lw_in (List.mem_append_right _ (List.mem_of_getElem? (i := 1238) (by decide +kernel))) rfl
theorem dM_clear_0 : decode bM_clear 0 = .ok (.aload_n 0, 1) := by decide +kernel
theorem dM_clear_1 : decode bM_clear 1 = .ok (.iconst 0, 1) := by decide +kernel
theorem dM_clear_2 : decode bM_clear 2 = .ok (.putfield 77, 3) := by decide +kernel
theorem dM_clear_5 : decode bM_clear 5 = .ok (.aload_n 0, 1) := by decide +kernel
theorem dM_clear_6 : decode bM_clear 6 = .ok (.getfield 115, 3) := by decide +kernel
theorem dM_clear_9 : decode bM_clear 9 = .ok (.iconst 1, 1) := by decide +kernel
theorem dM_clear_10 : decode bM_clear 10 = .ok (.if_icmp .ne 9, 3) := by decide +kernel
theorem dM_clear_13 : decode bM_clear 13 = .ok (.aload_n 0, 1) := by decide +kernel
theorem dM_clear_14 : decode bM_clear 14 = .ok (.iconst 1, 1) := by decide +kernel
theorem dM_clear_15 : decode bM_clear 15 = .ok (.invokevirtual 118, 3) := by decide +kernel
theorem dM_clear_18 : decode bM_clear 18 = .ok (.ireturn, 1) := by decide +kernel
theorem dM_clear_19 : decode bM_clear 19 = .ok (.aload_n 0, 1) := by decide +kernel
theorem dM_clear_20 : decode bM_clear 20 = .ok (.getfield 121, 3) := by decide +kernel
theorem dM_clear_23 : decode bM_clear 23 = .ok (.istore_n 1, 1) := by decide +kernel
theorem dM_clear_24 : decode bM_clear 24 = .ok (.aload_n 0, 1) := by decide +kernel
theorem dM_clear_25 : decode bM_clear 25 = .ok (.iconst 0, 1) := by decide +kernel
theorem dM_clear_26 : decode bM_clear 26 = .ok (.putfield 121, 3) := by decide +kernel
theorem dM_clear_29 : decode bM_clear 29 = .ok (.iload_n 1, 1) := by decide +kernel
theorem dM_clear_30 : decode bM_clear 30 = .ok (.ireturn, 1) := by decide +kernel
theorem kM_i_clear : Cond.instanceMethod yM_clear ∈ lw_g := lw_in (List.mem_append_right _ (List.mem_of_getElem? (i := 1236) (by decide +kernel))) rfl
theorem kM_s_clear : Cond.selects RM yM_clear yM_clear ∈ lw_g := lw_in (List.mem_append_right _ (List.mem_of_getElem? (i := 1237) (by decide +kernel))) rfl
-- isWhole: maxLocals 1, ret (some .boolean)
theorem kM_c_isWhole : Cond.code yM_isWhole bM_isWhole 1 (some .boolean) ∈ lw_g := lw_in (List.mem_append_right _ (List.mem_of_getElem? (i := 1246) (by decide +kernel))) rfl
theorem dM_isWhole_0 : decode bM_isWhole 0 = .ok (.aload_n 0, 1) := by decide +kernel
theorem dM_isWhole_1 : decode bM_isWhole 1 = .ok (.aload_n 0, 1) := by decide +kernel
theorem dM_isWhole_2 : decode bM_isWhole 2 = .ok (.getfield 121, 3) := by decide +kernel
theorem dM_isWhole_5 : decode bM_isWhole 5 = .ok (.invokevirtual 124, 3) := by decide +kernel
theorem dM_isWhole_8 : decode bM_isWhole 8 = .ok (.ifCond .eq 31, 3) := by decide +kernel
theorem dM_isWhole_11 : decode bM_isWhole 11 = .ok (.aload_n 0, 1) := by decide +kernel
theorem dM_isWhole_12 : decode bM_isWhole 12 = .ok (.getfield 84, 3) := by decide +kernel
theorem dM_isWhole_15 : decode bM_isWhole 15 = .ok (.ifCond .ne 24, 3) := by decide +kernel
theorem dM_isWhole_18 : decode bM_isWhole 18 = .ok (.aload_n 0, 1) := by decide +kernel
theorem dM_isWhole_19 : decode bM_isWhole 19 = .ok (.getfield 87, 3) := by decide +kernel
theorem dM_isWhole_22 : decode bM_isWhole 22 = .ok (.bipush 6, 2) := by decide +kernel
theorem dM_isWhole_24 : decode bM_isWhole 24 = .ok (.if_icmp .eq 11, 3) := by decide +kernel
theorem dM_isWhole_27 : decode bM_isWhole 27 = .ok (.aload_n 0, 1) := by decide +kernel
theorem dM_isWhole_28 : decode bM_isWhole 28 = .ok (.getfield 87, 3) := by decide +kernel
theorem dM_isWhole_31 : decode bM_isWhole 31 = .ok (.iconst 4, 1) := by decide +kernel
theorem dM_isWhole_32 : decode bM_isWhole 32 = .ok (.if_icmp .ne 7, 3) := by decide +kernel
theorem dM_isWhole_35 : decode bM_isWhole 35 = .ok (.iconst 1, 1) := by decide +kernel
theorem dM_isWhole_36 : decode bM_isWhole 36 = .ok (.goto 4, 3) := by decide +kernel
theorem dM_isWhole_39 : decode bM_isWhole 39 = .ok (.iconst 0, 1) := by decide +kernel
theorem dM_isWhole_40 : decode bM_isWhole 40 = .ok (.ireturn, 1) := by decide +kernel
theorem kM_i_isWhole : Cond.instanceMethod yM_isWhole ∈ lw_g := lw_in (List.mem_append_right _ (List.mem_of_getElem? (i := 1245) (by decide +kernel))) rfl
theorem kM_s_isWhole : Cond.selects RM yM_isWhole yM_isWhole ∈ lw_g := lw_in (List.mem_append_left _ (List.mem_map.mpr ⟨(yM_isWhole, 40), by decide +kernel, rfl⟩)) rfl
-- whole: maxLocals 1, ret (some .int)
theorem kM_c_whole : Cond.code yM_whole bM_whole 1 (some .int) ∈ lw_g := lw_in (List.mem_append_right _ (List.mem_of_getElem? (i := 1242) (by decide +kernel))) rfl
theorem dM_whole_0 : decode bM_whole 0 = .ok (.aload_n 0, 1) := by decide +kernel
theorem dM_whole_1 : decode bM_whole 1 = .ok (.iconst 0, 1) := by decide +kernel
theorem dM_whole_2 : decode bM_whole 2 = .ok (.putfield 77, 3) := by decide +kernel
theorem dM_whole_5 : decode bM_whole 5 = .ok (.aload_n 0, 1) := by decide +kernel
theorem dM_whole_6 : decode bM_whole 6 = .ok (.invokevirtual 127, 3) := by decide +kernel
theorem kM_m127 : Cond.methodLink RM 127 yM_isWhole ∈ lw_g := lw_in (List.mem_append_right _ (List.mem_of_getElem? (i := 1243) (by decide +kernel))) rfl
theorem dM_whole_9 : decode bM_whole 9 = .ok (.ifCond .eq 7, 3) := by decide +kernel
theorem dM_whole_12 : decode bM_whole 12 = .ok (.iconst 1, 1) := by decide +kernel
theorem dM_whole_13 : decode bM_whole 13 = .ok (.goto 4, 3) := by decide +kernel
theorem dM_whole_16 : decode bM_whole 16 = .ok (.iconst 0, 1) := by decide +kernel
theorem dM_whole_17 : decode bM_whole 17 = .ok (.ireturn, 1) := by decide +kernel
theorem kM_i_whole : Cond.instanceMethod yM_whole ∈ lw_g := lw_in (List.mem_append_right _ (List.mem_of_getElem? (i := 1240) (by decide +kernel))) rfl
theorem kM_s_whole : Cond.selects RM yM_whole yM_whole ∈ lw_g := lw_in (List.mem_append_right _ (List.mem_of_getElem? (i := 1241) (by decide +kernel))) rfl
-- given: maxLocals 5, ret (some .int)
theorem kM_c_given : Cond.code yM_given bM_given 5 (some .int) ∈ lw_g := lw_in (List.mem_append_right _ (List.mem_of_getElem? (i := 1250) (by decide +kernel))) rfl
theorem dM_given_0 : decode bM_given 0 = .ok (.aload_n 0, 1) := by decide +kernel
theorem dM_given_1 : decode bM_given 1 = .ok (.iconst 0, 1) := by decide +kernel
theorem dM_given_2 : decode bM_given 2 = .ok (.putfield 77, 3) := by decide +kernel
theorem dM_given_5 : decode bM_given 5 = .ok (.iload_n 1, 1) := by decide +kernel
theorem dM_given_6 : decode bM_given 6 = .ok (.ifCond .lt 9, 3) := by decide +kernel
theorem dM_given_9 : decode bM_given 9 = .ok (.iload_n 1, 1) := by decide +kernel
theorem dM_given_10 : decode bM_given 10 = .ok (.bipush 25, 2) := by decide +kernel
theorem dM_given_12 : decode bM_given 12 = .ok (.if_icmp .le 9, 3) := by decide +kernel
theorem dM_given_15 : decode bM_given 15 = .ok (.aload_n 0, 1) := by decide +kernel
theorem dM_given_16 : decode bM_given 16 = .ok (.iconst 2, 1) := by decide +kernel
theorem dM_given_17 : decode bM_given 17 = .ok (.invokevirtual 118, 3) := by decide +kernel
theorem dM_given_20 : decode bM_given 20 = .ok (.ireturn, 1) := by decide +kernel
theorem dM_given_21 : decode bM_given 21 = .ok (.aload_n 0, 1) := by decide +kernel
theorem dM_given_22 : decode bM_given 22 = .ok (.getfield 115, 3) := by decide +kernel
theorem dM_given_25 : decode bM_given 25 = .ok (.iconst 1, 1) := by decide +kernel
theorem dM_given_26 : decode bM_given 26 = .ok (.if_icmp .ne 9, 3) := by decide +kernel
theorem dM_given_29 : decode bM_given 29 = .ok (.aload_n 0, 1) := by decide +kernel
theorem dM_given_30 : decode bM_given 30 = .ok (.iconst 1, 1) := by decide +kernel
theorem dM_given_31 : decode bM_given 31 = .ok (.invokevirtual 118, 3) := by decide +kernel
theorem dM_given_34 : decode bM_given 34 = .ok (.ireturn, 1) := by decide +kernel
theorem dM_given_35 : decode bM_given 35 = .ok (.aload_n 0, 1) := by decide +kernel
theorem dM_given_36 : decode bM_given 36 = .ok (.getfield 37, 3) := by decide +kernel
theorem dM_given_39 : decode bM_given 39 = .ok (.iload_n 1, 1) := by decide +kernel
theorem dM_given_40 : decode bM_given 40 = .ok (.iload_n 2, 1) := by decide +kernel
theorem dM_given_41 : decode bM_given 41 = .ok (.iastore, 1) := by decide +kernel
theorem dM_given_42 : decode bM_given 42 = .ok (.aload_n 0, 1) := by decide +kernel
theorem dM_given_43 : decode bM_given 43 = .ok (.getfield 40, 3) := by decide +kernel
theorem dM_given_46 : decode bM_given 46 = .ok (.iload_n 1, 1) := by decide +kernel
theorem dM_given_47 : decode bM_given 47 = .ok (.iconst 1, 1) := by decide +kernel
theorem dM_given_48 : decode bM_given 48 = .ok (.bastore, 1) := by decide +kernel
theorem dM_given_49 : decode bM_given 49 = .ok (.iconst 0, 1) := by decide +kernel
theorem dM_given_50 : decode bM_given 50 = .ok (.istore_n 3, 1) := by decide +kernel
theorem dM_given_51 : decode bM_given 51 = .ok (.iconst 0, 1) := by decide +kernel
theorem dM_given_52 : decode bM_given 52 = .ok (.istore 4, 2) := by decide +kernel
theorem dM_given_54 : decode bM_given 54 = .ok (.iload 4, 2) := by decide +kernel
theorem dM_given_56 : decode bM_given 56 = .ok (.bipush 26, 2) := by decide +kernel
theorem dM_given_58 : decode bM_given 58 = .ok (.if_icmp .ge 27, 3) := by decide +kernel
theorem dM_given_61 : decode bM_given 61 = .ok (.iload_n 3, 1) := by decide +kernel
theorem dM_given_62 : decode bM_given 62 = .ok (.aload_n 0, 1) := by decide +kernel
theorem dM_given_63 : decode bM_given 63 = .ok (.getfield 40, 3) := by decide +kernel
theorem dM_given_66 : decode bM_given 66 = .ok (.iload 4, 2) := by decide +kernel
theorem dM_given_68 : decode bM_given 68 = .ok (.baload, 1) := by decide +kernel
theorem dM_given_69 : decode bM_given 69 = .ok (.ifCond .eq 7, 3) := by decide +kernel
theorem dM_given_72 : decode bM_given 72 = .ok (.iconst 1, 1) := by decide +kernel
theorem dM_given_73 : decode bM_given 73 = .ok (.goto 4, 3) := by decide +kernel
theorem dM_given_76 : decode bM_given 76 = .ok (.iconst 0, 1) := by decide +kernel
theorem dM_given_77 : decode bM_given 77 = .ok (.iadd, 1) := by decide +kernel
theorem dM_given_78 : decode bM_given 78 = .ok (.istore_n 3, 1) := by decide +kernel
theorem dM_given_79 : decode bM_given 79 = .ok (.iinc 4 1, 3) := by decide +kernel
theorem dM_given_82 : decode bM_given 82 = .ok (.goto (-28), 3) := by decide +kernel
theorem dM_given_85 : decode bM_given 85 = .ok (.iload_n 3, 1) := by decide +kernel
theorem dM_given_86 : decode bM_given 86 = .ok (.ireturn, 1) := by decide +kernel
theorem kM_i_given : Cond.instanceMethod yM_given ∈ lw_g := lw_in (List.mem_append_right _ (List.mem_of_getElem? (i := 1248) (by decide +kernel))) rfl
theorem kM_s_given : Cond.selects RM yM_given yM_given ∈ lw_g := lw_in (List.mem_append_right _ (List.mem_of_getElem? (i := 1249) (by decide +kernel))) rfl
-- start: maxLocals 2, ret (some .int)
theorem kM_c_start : Cond.code yM_start bM_start 2 (some .int) ∈ lw_g := lw_in (List.mem_append_right _ (List.mem_of_getElem? (i := 1254) (by decide +kernel))) rfl
theorem dM_start_0 : decode bM_start 0 = .ok (.aload_n 0, 1) := by decide +kernel
theorem dM_start_1 : decode bM_start 1 = .ok (.iconst 0, 1) := by decide +kernel
theorem dM_start_2 : decode bM_start 2 = .ok (.putfield 77, 3) := by decide +kernel
theorem dM_start_5 : decode bM_start 5 = .ok (.aload_n 0, 1) := by decide +kernel
theorem dM_start_6 : decode bM_start 6 = .ok (.getfield 115, 3) := by decide +kernel
theorem dM_start_9 : decode bM_start 9 = .ok (.iconst 1, 1) := by decide +kernel
theorem dM_start_10 : decode bM_start 10 = .ok (.if_icmp .eq 10, 3) := by decide +kernel
theorem dM_start_13 : decode bM_start 13 = .ok (.aload_n 0, 1) := by decide +kernel
theorem dM_start_14 : decode bM_start 14 = .ok (.invokevirtual 127, 3) := by decide +kernel
theorem dM_start_17 : decode bM_start 17 = .ok (.ifCond .ne 9, 3) := by decide +kernel
theorem dM_start_20 : decode bM_start 20 = .ok (.aload_n 0, 1) := by decide +kernel
theorem dM_start_21 : decode bM_start 21 = .ok (.iconst 1, 1) := by decide +kernel
theorem dM_start_22 : decode bM_start 22 = .ok (.invokevirtual 118, 3) := by decide +kernel
theorem dM_start_25 : decode bM_start 25 = .ok (.ireturn, 1) := by decide +kernel
theorem dM_start_26 : decode bM_start 26 = .ok (.iconst 0, 1) := by decide +kernel
theorem dM_start_27 : decode bM_start 27 = .ok (.istore_n 1, 1) := by decide +kernel
theorem dM_start_28 : decode bM_start 28 = .ok (.iload_n 1, 1) := by decide +kernel
theorem dM_start_29 : decode bM_start 29 = .ok (.bipush 26, 2) := by decide +kernel
theorem dM_start_31 : decode bM_start 31 = .ok (.if_icmp .ge 47, 3) := by decide +kernel
theorem dM_start_34 : decode bM_start 34 = .ok (.aload_n 0, 1) := by decide +kernel
theorem dM_start_35 : decode bM_start 35 = .ok (.getfield 44, 3) := by decide +kernel
theorem dM_start_38 : decode bM_start 38 = .ok (.bipush 121, 2) := by decide +kernel
theorem dM_start_40 : decode bM_start 40 = .ok (.iload_n 1, 1) := by decide +kernel
theorem dM_start_41 : decode bM_start 41 = .ok (.iadd, 1) := by decide +kernel
theorem dM_start_42 : decode bM_start 42 = .ok (.aload_n 0, 1) := by decide +kernel
theorem dM_start_43 : decode bM_start 43 = .ok (.getfield 40, 3) := by decide +kernel
theorem dM_start_46 : decode bM_start 46 = .ok (.iload_n 1, 1) := by decide +kernel
theorem dM_start_47 : decode bM_start 47 = .ok (.baload, 1) := by decide +kernel
theorem dM_start_48 : decode bM_start 48 = .ok (.ifCond .eq 7, 3) := by decide +kernel
theorem dM_start_51 : decode bM_start 51 = .ok (.iconst 1, 1) := by decide +kernel
theorem dM_start_52 : decode bM_start 52 = .ok (.goto 4, 3) := by decide +kernel
theorem dM_start_55 : decode bM_start 55 = .ok (.iconst 0, 1) := by decide +kernel
theorem dM_start_56 : decode bM_start 56 = .ok (.iastore, 1) := by decide +kernel
theorem dM_start_57 : decode bM_start 57 = .ok (.aload_n 0, 1) := by decide +kernel
theorem dM_start_58 : decode bM_start 58 = .ok (.getfield 47, 3) := by decide +kernel
theorem dM_start_61 : decode bM_start 61 = .ok (.bipush 121, 2) := by decide +kernel
theorem dM_start_63 : decode bM_start 63 = .ok (.iload_n 1, 1) := by decide +kernel
theorem dM_start_64 : decode bM_start 64 = .ok (.iadd, 1) := by decide +kernel
theorem dM_start_65 : decode bM_start 65 = .ok (.aload_n 0, 1) := by decide +kernel
theorem dM_start_66 : decode bM_start 66 = .ok (.getfield 37, 3) := by decide +kernel
theorem dM_start_69 : decode bM_start 69 = .ok (.iload_n 1, 1) := by decide +kernel
theorem dM_start_70 : decode bM_start 70 = .ok (.iaload, 1) := by decide +kernel
theorem dM_start_71 : decode bM_start 71 = .ok (.iastore, 1) := by decide +kernel
theorem dM_start_72 : decode bM_start 72 = .ok (.iinc 1 1, 3) := by decide +kernel
theorem dM_start_75 : decode bM_start 75 = .ok (.goto (-47), 3) := by decide +kernel
theorem dM_start_78 : decode bM_start 78 = .ok (.aload_n 0, 1) := by decide +kernel
theorem dM_start_79 : decode bM_start 79 = .ok (.iconst 0, 1) := by decide +kernel
theorem dM_start_80 : decode bM_start 80 = .ok (.putfield 131, 3) := by decide +kernel
theorem kM_f131 : Cond.fieldLink RM 131 "ContinuationCoreModel" "bindings" "I" ∈ lw_g := lw_in (List.mem_append_right _ (List.mem_of_getElem? (i := 1088) (by decide +kernel))) rfl
theorem dM_start_83 : decode bM_start 83 = .ok (.aload_n 0, 1) := by decide +kernel
theorem dM_start_84 : decode bM_start 84 = .ok (.iconst 0, 1) := by decide +kernel
theorem dM_start_85 : decode bM_start 85 = .ok (.putfield 134, 3) := by decide +kernel
theorem kM_f134 : Cond.fieldLink RM 134 "ContinuationCoreModel" "pairs" "I" ∈ lw_g := lw_in (List.mem_append_right _ (List.mem_of_getElem? (i := 1091) (by decide +kernel))) rfl
theorem dM_start_88 : decode bM_start 88 = .ok (.aload_n 0, 1) := by decide +kernel
theorem dM_start_89 : decode bM_start 89 = .ok (.iconst 1, 1) := by decide +kernel
theorem dM_start_90 : decode bM_start 90 = .ok (.putfield 137, 3) := by decide +kernel
theorem kM_f137 : Cond.fieldLink RM 137 "ContinuationCoreModel" "records" "I" ∈ lw_g := lw_in (List.mem_append_right _ (List.mem_of_getElem? (i := 1095) (by decide +kernel))) rfl
theorem dM_start_93 : decode bM_start 93 = .ok (.aload_n 0, 1) := by decide +kernel
theorem dM_start_94 : decode bM_start 94 = .ok (.iconst 0, 1) := by decide +kernel
theorem dM_start_95 : decode bM_start 95 = .ok (.putfield 140, 3) := by decide +kernel
theorem kM_f140 : Cond.fieldLink RM 140 "ContinuationCoreModel" "closures" "I" ∈ lw_g := lw_in (List.mem_append_right _ (List.mem_of_getElem? (i := 1099) (by decide +kernel))) rfl
theorem dM_start_98 : decode bM_start 98 = .ok (.aload_n 0, 1) := by decide +kernel
theorem dM_start_99 : decode bM_start 99 = .ok (.iconst 0, 1) := by decide +kernel
theorem dM_start_100 : decode bM_start 100 = .ok (.putfield 143, 3) := by decide +kernel
theorem kM_f143 : Cond.fieldLink RM 143 "ContinuationCoreModel" "steps" "I" ∈ lw_g := lw_in (List.mem_append_right _ (List.mem_of_getElem? (i := 1097) (by decide +kernel))) rfl
theorem dM_start_103 : decode bM_start 103 = .ok (.aload_n 0, 1) := by decide +kernel
theorem dM_start_104 : decode bM_start 104 = .ok (.iconst 0, 1) := by decide +kernel
theorem dM_start_105 : decode bM_start 105 = .ok (.putfield 146, 3) := by decide +kernel
theorem kM_f146 : Cond.fieldLink RM 146 "ContinuationCoreModel" "fault" "I" ∈ lw_g := lw_in (List.mem_append_right _ (List.mem_of_getElem? (i := 1098) (by decide +kernel))) rfl
theorem dM_start_108 : decode bM_start 108 = .ok (.aload_n 0, 1) := by decide +kernel
theorem dM_start_109 : decode bM_start 109 = .ok (.iconst 1, 1) := by decide +kernel
theorem dM_start_110 : decode bM_start 110 = .ok (.putfield 115, 3) := by decide +kernel
theorem dM_start_113 : decode bM_start 113 = .ok (.aload_n 0, 1) := by decide +kernel
theorem dM_start_114 : decode bM_start 114 = .ok (.iconst 1, 1) := by decide +kernel
theorem dM_start_115 : decode bM_start 115 = .ok (.putfield 149, 3) := by decide +kernel
theorem kM_f149 : Cond.fieldLink RM 149 "ContinuationCoreModel" "begins" "Z" ∈ lw_g := lw_in (List.mem_append_right _ (List.mem_of_getElem? (i := 1100) (by decide +kernel))) rfl
theorem dM_start_118 : decode bM_start 118 = .ok (.aload_n 0, 1) := by decide +kernel
theorem dM_start_119 : decode bM_start 119 = .ok (.aload_n 0, 1) := by decide +kernel
theorem dM_start_120 : decode bM_start 120 = .ok (.invokevirtual 153, 3) := by decide +kernel
theorem kM_m153 : Cond.methodLink RM 153 yM_rootNode ∈ lw_g := lw_in (List.mem_append_right _ (List.mem_of_getElem? (i := 1255) (by decide +kernel))) rfl
theorem dM_start_123 : decode bM_start 123 = .ok (.putfield 157, 3) := by decide +kernel
theorem kM_f157 : Cond.fieldLink RM 157 "ContinuationCoreModel" "node" "I" ∈ lw_g := lw_in (List.mem_append_right _ (List.mem_of_getElem? (i := 1101) (by decide +kernel))) rfl
theorem dM_start_126 : decode bM_start 126 = .ok (.aload_n 0, 1) := by decide +kernel
theorem dM_start_127 : decode bM_start 127 = .ok (.iconst 0, 1) := by decide +kernel
theorem dM_start_128 : decode bM_start 128 = .ok (.putfield 160, 3) := by decide +kernel
theorem kM_f160 : Cond.fieldLink RM 160 "ContinuationCoreModel" "scope" "I" ∈ lw_g := lw_in (List.mem_append_right _ (List.mem_of_getElem? (i := 1102) (by decide +kernel))) rfl
theorem dM_start_131 : decode bM_start 131 = .ok (.aload_n 0, 1) := by decide +kernel
theorem dM_start_132 : decode bM_start 132 = .ok (.iconst 0, 1) := by decide +kernel
theorem dM_start_133 : decode bM_start 133 = .ok (.putfield 163, 3) := by decide +kernel
theorem kM_f163 : Cond.fieldLink RM 163 "ContinuationCoreModel" "chain" "I" ∈ lw_g := lw_in (List.mem_append_right _ (List.mem_of_getElem? (i := 1103) (by decide +kernel))) rfl
theorem dM_start_136 : decode bM_start 136 = .ok (.aload_n 0, 1) := by decide +kernel
theorem dM_start_137 : decode bM_start 137 = .ok (.getfield 81, 3) := by decide +kernel
theorem dM_start_140 : decode bM_start 140 = .ok (.ireturn, 1) := by decide +kernel
theorem kM_i_start : Cond.instanceMethod yM_start ∈ lw_g := lw_in (List.mem_append_right _ (List.mem_of_getElem? (i := 1252) (by decide +kernel))) rfl
theorem kM_s_start : Cond.selects RM yM_start yM_start ∈ lw_g := lw_in (List.mem_append_right _ (List.mem_of_getElem? (i := 1253) (by decide +kernel))) rfl
-- rootNode: maxLocals 1, ret (some .int)
theorem kM_c_rootNode : Cond.code yM_rootNode bM_rootNode 1 (some .int) ∈ lw_g := lw_in (List.mem_append_right _ (List.mem_of_getElem? (i := 1258) (by decide +kernel))) rfl
theorem dM_rootNode_0 : decode bM_rootNode 0 = .ok (.iconst 0, 1) := by decide +kernel
theorem dM_rootNode_1 : decode bM_rootNode 1 = .ok (.ireturn, 1) := by decide +kernel
theorem kM_i_rootNode : Cond.instanceMethod yM_rootNode ∈ lw_g := lw_in (List.mem_append_right _ (List.mem_of_getElem? (i := 1257) (by decide +kernel))) rfl
theorem kM_s_rootNode : Cond.selects RM yM_rootNode yM_rootNode ∈ lw_g := lw_in (List.mem_append_left _ (List.mem_map.mpr ⟨(yM_rootNode, 40), by decide +kernel, rfl⟩)) rfl
-- stopBy: maxLocals 2, ret none
theorem kM_c_stopBy : Cond.code yM_stopBy bM_stopBy 2 none ∈ lw_g := lw_in (List.mem_append_right _ (List.mem_of_getElem? (i := 1286) (by decide +kernel))) rfl
theorem dM_stopBy_0 : decode bM_stopBy 0 = .ok (.aload_n 0, 1) := by decide +kernel
theorem dM_stopBy_1 : decode bM_stopBy 1 = .ok (.iload_n 1, 1) := by decide +kernel
theorem dM_stopBy_2 : decode bM_stopBy 2 = .ok (.putfield 146, 3) := by decide +kernel
theorem dM_stopBy_5 : decode bM_stopBy 5 = .ok (.aload_n 0, 1) := by decide +kernel
theorem dM_stopBy_6 : decode bM_stopBy 6 = .ok (.iconst 3, 1) := by decide +kernel
theorem dM_stopBy_7 : decode bM_stopBy 7 = .ok (.putfield 115, 3) := by decide +kernel
theorem dM_stopBy_10 : decode bM_stopBy 10 = .ok (.return_, 1) := by decide +kernel
theorem kM_i_stopBy : Cond.instanceMethod yM_stopBy ∈ lw_g := lw_in (List.mem_append_right _ (List.mem_of_getElem? (i := 1285) (by decide +kernel))) rfl
theorem kM_s_stopBy : Cond.selects RM yM_stopBy yM_stopBy ∈ lw_g := lw_in (List.mem_append_left _ (List.mem_map.mpr ⟨(yM_stopBy, 40), by decide +kernel, rfl⟩)) rfl
-- depthOf: maxLocals 4, ret (some .int)
theorem kM_c_depthOf : Cond.code yM_depthOf bM_depthOf 4 (some .int) ∈ lw_g := lw_in (List.mem_append_right _ (List.mem_of_getElem? (i := 1298) (by decide +kernel))) rfl
theorem dM_depthOf_0 : decode bM_depthOf 0 = .ok (.iconst 0, 1) := by decide +kernel
theorem dM_depthOf_1 : decode bM_depthOf 1 = .ok (.istore_n 2, 1) := by decide +kernel
theorem dM_depthOf_2 : decode bM_depthOf 2 = .ok (.iload_n 1, 1) := by decide +kernel
theorem dM_depthOf_3 : decode bM_depthOf 3 = .ok (.istore_n 3, 1) := by decide +kernel
theorem dM_depthOf_4 : decode bM_depthOf 4 = .ok (.iload_n 3, 1) := by decide +kernel
theorem dM_depthOf_5 : decode bM_depthOf 5 = .ok (.ifCond .le 19, 3) := by decide +kernel
theorem dM_depthOf_8 : decode bM_depthOf 8 = .ok (.iinc 2 1, 3) := by decide +kernel
theorem dM_depthOf_11 : decode bM_depthOf 11 = .ok (.aload_n 0, 1) := by decide +kernel
theorem dM_depthOf_12 : decode bM_depthOf 12 = .ok (.getfield 62, 3) := by decide +kernel
theorem dM_depthOf_15 : decode bM_depthOf 15 = .ok (.iload_n 3, 1) := by decide +kernel
theorem dM_depthOf_16 : decode bM_depthOf 16 = .ok (.iaload, 1) := by decide +kernel
theorem dM_depthOf_17 : decode bM_depthOf 17 = .ok (.bipush 18, 2) := by decide +kernel
theorem dM_depthOf_19 : decode bM_depthOf 19 = .ok (.ishr, 1) := by decide +kernel
theorem dM_depthOf_20 : decode bM_depthOf 20 = .ok (.istore_n 3, 1) := by decide +kernel
theorem dM_depthOf_21 : decode bM_depthOf 21 = .ok (.goto (-17), 3) := by decide +kernel
theorem dM_depthOf_24 : decode bM_depthOf 24 = .ok (.iload_n 2, 1) := by decide +kernel
theorem dM_depthOf_25 : decode bM_depthOf 25 = .ok (.ireturn, 1) := by decide +kernel
theorem kM_i_depthOf : Cond.instanceMethod yM_depthOf ∈ lw_g := lw_in (List.mem_append_right _ (List.mem_of_getElem? (i := 1297) (by decide +kernel))) rfl
theorem kM_s_depthOf : Cond.selects RM yM_depthOf yM_depthOf ∈ lw_g := lw_in (List.mem_append_left _ (List.mem_map.mpr ⟨(yM_depthOf, 40), by decide +kernel, rfl⟩)) rfl
-- find: maxLocals 4, ret (some .int)
theorem kM_c_find : Cond.code yM_find bM_find 4 (some .int) ∈ lw_g := lw_in (List.mem_append_right _ (List.mem_of_getElem? (i := 1282) (by decide +kernel))) rfl
theorem dM_find_0 : decode bM_find 0 = .ok (.iload_n 2, 1) := by decide +kernel
theorem dM_find_1 : decode bM_find 1 = .ok (.istore_n 3, 1) := by decide +kernel
theorem dM_find_2 : decode bM_find 2 = .ok (.iload_n 3, 1) := by decide +kernel
theorem dM_find_3 : decode bM_find 3 = .ok (.ifCond .le 23, 3) := by decide +kernel
theorem dM_find_6 : decode bM_find 6 = .ok (.aload_n 0, 1) := by decide +kernel
theorem dM_find_7 : decode bM_find 7 = .ok (.getfield 50, 3) := by decide +kernel
theorem dM_find_10 : decode bM_find 10 = .ok (.iload_n 3, 1) := by decide +kernel
theorem dM_find_11 : decode bM_find 11 = .ok (.iaload, 1) := by decide +kernel
theorem dM_find_12 : decode bM_find 12 = .ok (.iload_n 1, 1) := by decide +kernel
theorem dM_find_13 : decode bM_find 13 = .ok (.if_icmp .eq 13, 3) := by decide +kernel
theorem dM_find_16 : decode bM_find 16 = .ok (.aload_n 0, 1) := by decide +kernel
theorem dM_find_17 : decode bM_find 17 = .ok (.getfield 53, 3) := by decide +kernel
theorem dM_find_20 : decode bM_find 20 = .ok (.iload_n 3, 1) := by decide +kernel
theorem dM_find_21 : decode bM_find 21 = .ok (.iaload, 1) := by decide +kernel
theorem dM_find_22 : decode bM_find 22 = .ok (.istore_n 3, 1) := by decide +kernel
theorem dM_find_23 : decode bM_find 23 = .ok (.goto (-21), 3) := by decide +kernel
theorem dM_find_26 : decode bM_find 26 = .ok (.iload_n 3, 1) := by decide +kernel
theorem dM_find_27 : decode bM_find 27 = .ok (.ifCond .le 7, 3) := by decide +kernel
theorem dM_find_30 : decode bM_find 30 = .ok (.iload_n 3, 1) := by decide +kernel
theorem dM_find_31 : decode bM_find 31 = .ok (.goto 7, 3) := by decide +kernel
theorem dM_find_34 : decode bM_find 34 = .ok (.bipush 121, 2) := by decide +kernel
theorem dM_find_36 : decode bM_find 36 = .ok (.iload_n 1, 1) := by decide +kernel
theorem dM_find_37 : decode bM_find 37 = .ok (.iadd, 1) := by decide +kernel
theorem dM_find_38 : decode bM_find 38 = .ok (.ireturn, 1) := by decide +kernel
theorem kM_i_find : Cond.instanceMethod yM_find ∈ lw_g := lw_in (List.mem_append_right _ (List.mem_of_getElem? (i := 1281) (by decide +kernel))) rfl
theorem kM_s_find : Cond.selects RM yM_find yM_find ∈ lw_g := lw_in (List.mem_append_left _ (List.mem_map.mpr ⟨(yM_find, 40), by decide +kernel, rfl⟩)) rfl
-- bind: maxLocals 5, ret (some .int)
theorem kM_c_bind : Cond.code yM_bind bM_bind 5 (some .int) ∈ lw_g := lw_in (List.mem_append_right _ (List.mem_of_getElem? (i := 1290) (by decide +kernel))) rfl
theorem dM_bind_0 : decode bM_bind 0 = .ok (.aload_n 0, 1) := by decide +kernel
theorem dM_bind_1 : decode bM_bind 1 = .ok (.getfield 131, 3) := by decide +kernel
theorem dM_bind_4 : decode bM_bind 4 = .ok (.bipush 120, 2) := by decide +kernel
theorem dM_bind_6 : decode bM_bind 6 = .ok (.if_icmp .ne 10, 3) := by decide +kernel
theorem dM_bind_9 : decode bM_bind 9 = .ok (.aload_n 0, 1) := by decide +kernel
theorem dM_bind_10 : decode bM_bind 10 = .ok (.iconst 5, 1) := by decide +kernel
theorem dM_bind_11 : decode bM_bind 11 = .ok (.invokevirtual 166, 3) := by decide +kernel
theorem kM_m166 : Cond.methodLink RM 166 yM_stopBy ∈ lw_g := lw_in (List.mem_append_right _ (List.mem_of_getElem? (i := 1283) (by decide +kernel))) rfl
theorem dM_bind_14 : decode bM_bind 14 = .ok (.iconst 0, 1) := by decide +kernel
theorem dM_bind_15 : decode bM_bind 15 = .ok (.ireturn, 1) := by decide +kernel
theorem dM_bind_16 : decode bM_bind 16 = .ok (.aload_n 0, 1) := by decide +kernel
theorem dM_bind_17 : decode bM_bind 17 = .ok (.dup, 1) := by decide +kernel
theorem dM_bind_18 : decode bM_bind 18 = .ok (.getfield 131, 3) := by decide +kernel
theorem dM_bind_21 : decode bM_bind 21 = .ok (.iconst 1, 1) := by decide +kernel
theorem dM_bind_22 : decode bM_bind 22 = .ok (.iadd, 1) := by decide +kernel
theorem dM_bind_23 : decode bM_bind 23 = .ok (.putfield 131, 3) := by decide +kernel
theorem dM_bind_26 : decode bM_bind 26 = .ok (.aload_n 0, 1) := by decide +kernel
theorem dM_bind_27 : decode bM_bind 27 = .ok (.getfield 50, 3) := by decide +kernel
theorem dM_bind_30 : decode bM_bind 30 = .ok (.aload_n 0, 1) := by decide +kernel
theorem dM_bind_31 : decode bM_bind 31 = .ok (.getfield 131, 3) := by decide +kernel
theorem dM_bind_34 : decode bM_bind 34 = .ok (.iload_n 1, 1) := by decide +kernel
theorem dM_bind_35 : decode bM_bind 35 = .ok (.iastore, 1) := by decide +kernel
theorem dM_bind_36 : decode bM_bind 36 = .ok (.aload_n 0, 1) := by decide +kernel
theorem dM_bind_37 : decode bM_bind 37 = .ok (.getfield 53, 3) := by decide +kernel
theorem dM_bind_40 : decode bM_bind 40 = .ok (.aload_n 0, 1) := by decide +kernel
theorem dM_bind_41 : decode bM_bind 41 = .ok (.getfield 131, 3) := by decide +kernel
theorem dM_bind_44 : decode bM_bind 44 = .ok (.iload_n 2, 1) := by decide +kernel
theorem dM_bind_45 : decode bM_bind 45 = .ok (.iastore, 1) := by decide +kernel
theorem dM_bind_46 : decode bM_bind 46 = .ok (.aload_n 0, 1) := by decide +kernel
theorem dM_bind_47 : decode bM_bind 47 = .ok (.getfield 44, 3) := by decide +kernel
theorem dM_bind_50 : decode bM_bind 50 = .ok (.aload_n 0, 1) := by decide +kernel
theorem dM_bind_51 : decode bM_bind 51 = .ok (.getfield 131, 3) := by decide +kernel
theorem dM_bind_54 : decode bM_bind 54 = .ok (.iload_n 3, 1) := by decide +kernel
theorem dM_bind_55 : decode bM_bind 55 = .ok (.iastore, 1) := by decide +kernel
theorem dM_bind_56 : decode bM_bind 56 = .ok (.aload_n 0, 1) := by decide +kernel
theorem dM_bind_57 : decode bM_bind 57 = .ok (.getfield 47, 3) := by decide +kernel
theorem dM_bind_60 : decode bM_bind 60 = .ok (.aload_n 0, 1) := by decide +kernel
theorem dM_bind_61 : decode bM_bind 61 = .ok (.getfield 131, 3) := by decide +kernel
theorem dM_bind_64 : decode bM_bind 64 = .ok (.iload 4, 2) := by decide +kernel
theorem dM_bind_66 : decode bM_bind 66 = .ok (.iastore, 1) := by decide +kernel
theorem dM_bind_67 : decode bM_bind 67 = .ok (.aload_n 0, 1) := by decide +kernel
theorem dM_bind_68 : decode bM_bind 68 = .ok (.getfield 131, 3) := by decide +kernel
theorem dM_bind_71 : decode bM_bind 71 = .ok (.ireturn, 1) := by decide +kernel
theorem kM_i_bind : Cond.instanceMethod yM_bind ∈ lw_g := lw_in (List.mem_append_right _ (List.mem_of_getElem? (i := 1289) (by decide +kernel))) rfl
theorem kM_s_bind : Cond.selects RM yM_bind yM_bind ∈ lw_g := lw_in (List.mem_append_left _ (List.mem_map.mpr ⟨(yM_bind, 40), by decide +kernel, rfl⟩)) rfl
-- value: maxLocals 3, ret none
theorem kM_c_value : Cond.code yM_value bM_value 3 none ∈ lw_g := lw_in (List.mem_append_right _ (List.mem_of_getElem? (i := 1278) (by decide +kernel))) rfl
theorem dM_value_0 : decode bM_value 0 = .ok (.aload_n 0, 1) := by decide +kernel
theorem dM_value_1 : decode bM_value 1 = .ok (.iconst 0, 1) := by decide +kernel
theorem dM_value_2 : decode bM_value 2 = .ok (.putfield 149, 3) := by decide +kernel
theorem dM_value_5 : decode bM_value 5 = .ok (.aload_n 0, 1) := by decide +kernel
theorem dM_value_6 : decode bM_value 6 = .ok (.iload_n 1, 1) := by decide +kernel
theorem dM_value_7 : decode bM_value 7 = .ok (.putfield 169, 3) := by decide +kernel
theorem kM_f169 : Cond.fieldLink RM 169 "ContinuationCoreModel" "vKind" "I" ∈ lw_g := lw_in (List.mem_append_right _ (List.mem_of_getElem? (i := 1104) (by decide +kernel))) rfl
theorem dM_value_10 : decode bM_value 10 = .ok (.aload_n 0, 1) := by decide +kernel
theorem dM_value_11 : decode bM_value 11 = .ok (.iload_n 2, 1) := by decide +kernel
theorem dM_value_12 : decode bM_value 12 = .ok (.putfield 172, 3) := by decide +kernel
theorem kM_f172 : Cond.fieldLink RM 172 "ContinuationCoreModel" "v" "I" ∈ lw_g := lw_in (List.mem_append_right _ (List.mem_of_getElem? (i := 1105) (by decide +kernel))) rfl
theorem dM_value_15 : decode bM_value 15 = .ok (.return_, 1) := by decide +kernel
theorem kM_i_value : Cond.instanceMethod yM_value ∈ lw_g := lw_in (List.mem_append_right _ (List.mem_of_getElem? (i := 1277) (by decide +kernel))) rfl
theorem kM_s_value : Cond.selects RM yM_value yM_value ∈ lw_g := lw_in (List.mem_append_left _ (List.mem_map.mpr ⟨(yM_value, 40), by decide +kernel, rfl⟩)) rfl
-- last: maxLocals 3, ret none
theorem kM_c_last : Cond.code yM_last bM_last 3 none ∈ lw_g := lw_in (List.mem_append_right _ (List.mem_of_getElem? (i := 1302) (by decide +kernel))) rfl
theorem dM_last_0 : decode bM_last 0 = .ok (.aload_n 0, 1) := by decide +kernel
theorem dM_last_1 : decode bM_last 1 = .ok (.iconst 1, 1) := by decide +kernel
theorem dM_last_2 : decode bM_last 2 = .ok (.putfield 149, 3) := by decide +kernel
theorem dM_last_5 : decode bM_last 5 = .ok (.aload_n 0, 1) := by decide +kernel
theorem dM_last_6 : decode bM_last 6 = .ok (.iload_n 1, 1) := by decide +kernel
theorem dM_last_7 : decode bM_last 7 = .ok (.putfield 157, 3) := by decide +kernel
theorem dM_last_10 : decode bM_last 10 = .ok (.aload_n 0, 1) := by decide +kernel
theorem dM_last_11 : decode bM_last 11 = .ok (.iload_n 2, 1) := by decide +kernel
theorem dM_last_12 : decode bM_last 12 = .ok (.putfield 160, 3) := by decide +kernel
theorem dM_last_15 : decode bM_last 15 = .ok (.return_, 1) := by decide +kernel
theorem kM_i_last : Cond.instanceMethod yM_last ∈ lw_g := lw_in (List.mem_append_right _ (List.mem_of_getElem? (i := 1301) (by decide +kernel))) rfl
theorem kM_s_last : Cond.selects RM yM_last yM_last ∈ lw_g := lw_in (List.mem_append_left _ (List.mem_map.mpr ⟨(yM_last, 40), by decide +kernel, rfl⟩)) rfl
-- await: maxLocals 8, ret none
theorem kM_c_await : Cond.code yM_await bM_await 8 none ∈ lw_g := lw_in (List.mem_append_right _ (List.mem_of_getElem? (i := 1294) (by decide +kernel))) rfl
theorem dM_await_0 : decode bM_await 0 = .ok (.aload_n 0, 1) := by decide +kernel
theorem dM_await_1 : decode bM_await 1 = .ok (.iload 4, 2) := by decide +kernel
theorem dM_await_3 : decode bM_await 3 = .ok (.invokevirtual 175, 3) := by decide +kernel
theorem kM_m175 : Cond.methodLink RM 175 yM_depthOf ∈ lw_g := lw_in (List.mem_append_right _ (List.mem_of_getElem? (i := 1295) (by decide +kernel))) rfl
theorem dM_await_6 : decode bM_await 6 = .ok (.bipush 24, 2) := by decide +kernel
theorem dM_await_8 : decode bM_await 8 = .ok (.if_icmp .ne 9, 3) := by decide +kernel
theorem dM_await_11 : decode bM_await 11 = .ok (.aload_n 0, 1) := by decide +kernel
theorem dM_await_12 : decode bM_await 12 = .ok (.iconst 5, 1) := by decide +kernel
theorem dM_await_13 : decode bM_await 13 = .ok (.invokevirtual 166, 3) := by decide +kernel
theorem dM_await_16 : decode bM_await 16 = .ok (.return_, 1) := by decide +kernel
theorem dM_await_17 : decode bM_await 17 = .ok (.aload_n 0, 1) := by decide +kernel
theorem dM_await_18 : decode bM_await 18 = .ok (.getfield 62, 3) := by decide +kernel
theorem dM_await_21 : decode bM_await 21 = .ok (.aload_n 0, 1) := by decide +kernel
theorem dM_await_22 : decode bM_await 22 = .ok (.getfield 137, 3) := by decide +kernel
theorem dM_await_25 : decode bM_await 25 = .ok (.iload_n 1, 1) := by decide +kernel
theorem dM_await_26 : decode bM_await 26 = .ok (.iload_n 2, 1) := by decide +kernel
theorem dM_await_27 : decode bM_await 27 = .ok (.bipush 7, 2) := by decide +kernel
theorem dM_await_29 : decode bM_await 29 = .ok (.ishl, 1) := by decide +kernel
theorem dM_await_30 : decode bM_await 30 = .ok (.ior, 1) := by decide +kernel
theorem dM_await_31 : decode bM_await 31 = .ok (.iload_n 3, 1) := by decide +kernel
theorem dM_await_32 : decode bM_await 32 = .ok (.bipush 10, 2) := by decide +kernel
theorem dM_await_34 : decode bM_await 34 = .ok (.ishl, 1) := by decide +kernel
theorem dM_await_35 : decode bM_await 35 = .ok (.ior, 1) := by decide +kernel
theorem dM_await_36 : decode bM_await 36 = .ok (.iload 4, 2) := by decide +kernel
theorem dM_await_38 : decode bM_await 38 = .ok (.bipush 18, 2) := by decide +kernel
theorem dM_await_40 : decode bM_await 40 = .ok (.ishl, 1) := by decide +kernel
theorem dM_await_41 : decode bM_await 41 = .ok (.ior, 1) := by decide +kernel
theorem dM_await_42 : decode bM_await 42 = .ok (.iastore, 1) := by decide +kernel
theorem dM_await_43 : decode bM_await 43 = .ok (.aload_n 0, 1) := by decide +kernel
theorem dM_await_44 : decode bM_await 44 = .ok (.getfield 65, 3) := by decide +kernel
theorem dM_await_47 : decode bM_await 47 = .ok (.aload_n 0, 1) := by decide +kernel
theorem dM_await_48 : decode bM_await 48 = .ok (.getfield 137, 3) := by decide +kernel
theorem dM_await_51 : decode bM_await 51 = .ok (.iload 7, 2) := by decide +kernel
theorem dM_await_53 : decode bM_await 53 = .ok (.iastore, 1) := by decide +kernel
theorem dM_await_54 : decode bM_await 54 = .ok (.aload_n 0, 1) := by decide +kernel
theorem dM_await_55 : decode bM_await 55 = .ok (.getfield 68, 3) := by decide +kernel
theorem dM_await_58 : decode bM_await 58 = .ok (.aload_n 0, 1) := by decide +kernel
theorem dM_await_59 : decode bM_await 59 = .ok (.getfield 137, 3) := by decide +kernel
theorem dM_await_62 : decode bM_await 62 = .ok (.iload 5, 2) := by decide +kernel
theorem dM_await_64 : decode bM_await 64 = .ok (.iload 6, 2) := by decide +kernel
theorem dM_await_66 : decode bM_await 66 = .ok (.bipush 13, 2) := by decide +kernel
theorem dM_await_68 : decode bM_await 68 = .ok (.ishl, 1) := by decide +kernel
theorem dM_await_69 : decode bM_await 69 = .ok (.ior, 1) := by decide +kernel
theorem dM_await_70 : decode bM_await 70 = .ok (.iastore, 1) := by decide +kernel
theorem dM_await_71 : decode bM_await 71 = .ok (.aload_n 0, 1) := by decide +kernel
theorem dM_await_72 : decode bM_await 72 = .ok (.aload_n 0, 1) := by decide +kernel
theorem dM_await_73 : decode bM_await 73 = .ok (.getfield 137, 3) := by decide +kernel
theorem dM_await_76 : decode bM_await 76 = .ok (.putfield 163, 3) := by decide +kernel
theorem dM_await_79 : decode bM_await 79 = .ok (.aload_n 0, 1) := by decide +kernel
theorem dM_await_80 : decode bM_await 80 = .ok (.dup, 1) := by decide +kernel
theorem dM_await_81 : decode bM_await 81 = .ok (.getfield 137, 3) := by decide +kernel
theorem dM_await_84 : decode bM_await 84 = .ok (.iconst 1, 1) := by decide +kernel
theorem dM_await_85 : decode bM_await 85 = .ok (.iadd, 1) := by decide +kernel
theorem dM_await_86 : decode bM_await 86 = .ok (.putfield 137, 3) := by decide +kernel
theorem dM_await_89 : decode bM_await 89 = .ok (.aload_n 0, 1) := by decide +kernel
theorem dM_await_90 : decode bM_await 90 = .ok (.aload_n 0, 1) := by decide +kernel
theorem dM_await_91 : decode bM_await 91 = .ok (.getfield 34, 3) := by decide +kernel
theorem dM_await_94 : decode bM_await 94 = .ok (.iconst 4, 1) := by decide +kernel
theorem dM_await_95 : decode bM_await 95 = .ok (.iload_n 1, 1) := by decide +kernel
theorem dM_await_96 : decode bM_await 96 = .ok (.imul, 1) := by decide +kernel
theorem dM_await_97 : decode bM_await 97 = .ok (.iload_n 2, 1) := by decide +kernel
theorem dM_await_98 : decode bM_await 98 = .ok (.iadd, 1) := by decide +kernel
theorem dM_await_99 : decode bM_await 99 = .ok (.iaload, 1) := by decide +kernel
theorem dM_await_100 : decode bM_await 100 = .ok (.iload_n 3, 1) := by decide +kernel
theorem dM_await_101 : decode bM_await 101 = .ok (.invokevirtual 178, 3) := by decide +kernel
theorem kM_m178 : Cond.methodLink RM 178 yM_last ∈ lw_g := lw_in (List.mem_append_right _ (List.mem_of_getElem? (i := 1299) (by decide +kernel))) rfl
theorem dM_await_104 : decode bM_await 104 = .ok (.return_, 1) := by decide +kernel
theorem kM_i_await : Cond.instanceMethod yM_await ∈ lw_g := lw_in (List.mem_append_right _ (List.mem_of_getElem? (i := 1293) (by decide +kernel))) rfl
theorem kM_s_await : Cond.selects RM yM_await yM_await ∈ lw_g := lw_in (List.mem_append_left _ (List.mem_map.mpr ⟨(yM_await, 40), by decide +kernel, rfl⟩)) rfl
-- beginOne: maxLocals 4, ret none
theorem kM_c_beginOne : Cond.code yM_beginOne bM_beginOne 4 none ∈ lw_g := lw_in (List.mem_append_right _ (List.mem_of_getElem? (i := 1274) (by decide +kernel))) rfl
theorem dM_beginOne_0 : decode bM_beginOne 0 = .ok (.aload_n 0, 1) := by decide +kernel
theorem dM_beginOne_1 : decode bM_beginOne 1 = .ok (.getfield 157, 3) := by decide +kernel
theorem dM_beginOne_4 : decode bM_beginOne 4 = .ok (.istore_n 1, 1) := by decide +kernel
theorem dM_beginOne_5 : decode bM_beginOne 5 = .ok (.aload_n 0, 1) := by decide +kernel
theorem dM_beginOne_6 : decode bM_beginOne 6 = .ok (.getfield 25, 3) := by decide +kernel
theorem dM_beginOne_9 : decode bM_beginOne 9 = .ok (.iload_n 1, 1) := by decide +kernel
theorem dM_beginOne_10 : decode bM_beginOne 10 = .ok (.iaload, 1) := by decide +kernel
theorem dM_beginOne_11 : decode bM_beginOne 11 = .ok (.istore_n 2, 1) := by decide +kernel
theorem dM_beginOne_12 : decode bM_beginOne 12 = .ok (.iload_n 2, 1) := by decide +kernel
theorem dM_beginOne_13 : decode bM_beginOne 13 = .ok (.bipush 48, 2) := by decide +kernel
theorem dM_beginOne_15 : decode bM_beginOne 15 = .ok (.if_icmp .ne 17, 3) := by decide +kernel
theorem dM_beginOne_18 : decode bM_beginOne 18 = .ok (.aload_n 0, 1) := by decide +kernel
theorem dM_beginOne_19 : decode bM_beginOne 19 = .ok (.iconst 1, 1) := by decide +kernel
theorem dM_beginOne_20 : decode bM_beginOne 20 = .ok (.aload_n 0, 1) := by decide +kernel
theorem dM_beginOne_21 : decode bM_beginOne 21 = .ok (.getfield 28, 3) := by decide +kernel
theorem dM_beginOne_24 : decode bM_beginOne 24 = .ok (.iload_n 1, 1) := by decide +kernel
theorem dM_beginOne_25 : decode bM_beginOne 25 = .ok (.iaload, 1) := by decide +kernel
theorem dM_beginOne_26 : decode bM_beginOne 26 = .ok (.invokevirtual 182, 3) := by decide +kernel
theorem kM_m182 : Cond.methodLink RM 182 yM_value ∈ lw_g := lw_in (List.mem_append_right _ (List.mem_of_getElem? (i := 1275) (by decide +kernel))) rfl
theorem dM_beginOne_29 : decode bM_beginOne 29 = .ok (.goto 177, 3) := by decide +kernel
theorem dM_beginOne_32 : decode bM_beginOne 32 = .ok (.iload_n 2, 1) := by decide +kernel
theorem dM_beginOne_33 : decode bM_beginOne 33 = .ok (.bipush 95, 2) := by decide +kernel
theorem dM_beginOne_35 : decode bM_beginOne 35 = .ok (.if_icmp .ne 12, 3) := by decide +kernel
theorem dM_beginOne_38 : decode bM_beginOne 38 = .ok (.aload_n 0, 1) := by decide +kernel
theorem dM_beginOne_39 : decode bM_beginOne 39 = .ok (.iconst 2, 1) := by decide +kernel
theorem dM_beginOne_40 : decode bM_beginOne 40 = .ok (.iconst 0, 1) := by decide +kernel
theorem dM_beginOne_41 : decode bM_beginOne 41 = .ok (.invokevirtual 182, 3) := by decide +kernel
theorem dM_beginOne_44 : decode bM_beginOne 44 = .ok (.goto 162, 3) := by decide +kernel
theorem dM_beginOne_47 : decode bM_beginOne 47 = .ok (.iload_n 2, 1) := by decide +kernel
theorem dM_beginOne_48 : decode bM_beginOne 48 = .ok (.bipush 110, 2) := by decide +kernel
theorem dM_beginOne_50 : decode bM_beginOne 50 = .ok (.if_icmp .ne 54, 3) := by decide +kernel
theorem dM_beginOne_53 : decode bM_beginOne 53 = .ok (.aload_n 0, 1) := by decide +kernel
theorem dM_beginOne_54 : decode bM_beginOne 54 = .ok (.aload_n 0, 1) := by decide +kernel
theorem dM_beginOne_55 : decode bM_beginOne 55 = .ok (.getfield 28, 3) := by decide +kernel
theorem dM_beginOne_58 : decode bM_beginOne 58 = .ok (.iload_n 1, 1) := by decide +kernel
theorem dM_beginOne_59 : decode bM_beginOne 59 = .ok (.iaload, 1) := by decide +kernel
theorem dM_beginOne_60 : decode bM_beginOne 60 = .ok (.aload_n 0, 1) := by decide +kernel
theorem dM_beginOne_61 : decode bM_beginOne 61 = .ok (.getfield 160, 3) := by decide +kernel
theorem dM_beginOne_64 : decode bM_beginOne 64 = .ok (.invokevirtual 185, 3) := by decide +kernel
theorem kM_m185 : Cond.methodLink RM 185 yM_find ∈ lw_g := lw_in (List.mem_append_right _ (List.mem_of_getElem? (i := 1279) (by decide +kernel))) rfl
theorem dM_beginOne_67 : decode bM_beginOne 67 = .ok (.istore_n 3, 1) := by decide +kernel
theorem dM_beginOne_68 : decode bM_beginOne 68 = .ok (.aload_n 0, 1) := by decide +kernel
theorem dM_beginOne_69 : decode bM_beginOne 69 = .ok (.getfield 44, 3) := by decide +kernel
theorem dM_beginOne_72 : decode bM_beginOne 72 = .ok (.iload_n 3, 1) := by decide +kernel
theorem dM_beginOne_73 : decode bM_beginOne 73 = .ok (.iaload, 1) := by decide +kernel
theorem dM_beginOne_74 : decode bM_beginOne 74 = .ok (.ifCond .ne 11, 3) := by decide +kernel
theorem dM_beginOne_77 : decode bM_beginOne 77 = .ok (.aload_n 0, 1) := by decide +kernel
theorem dM_beginOne_78 : decode bM_beginOne 78 = .ok (.iconst 1, 1) := by decide +kernel
theorem dM_beginOne_79 : decode bM_beginOne 79 = .ok (.invokevirtual 166, 3) := by decide +kernel
theorem dM_beginOne_82 : decode bM_beginOne 82 = .ok (.goto 19, 3) := by decide +kernel
theorem dM_beginOne_85 : decode bM_beginOne 85 = .ok (.aload_n 0, 1) := by decide +kernel
theorem dM_beginOne_86 : decode bM_beginOne 86 = .ok (.aload_n 0, 1) := by decide +kernel
theorem dM_beginOne_87 : decode bM_beginOne 87 = .ok (.getfield 44, 3) := by decide +kernel
theorem dM_beginOne_90 : decode bM_beginOne 90 = .ok (.iload_n 3, 1) := by decide +kernel
theorem dM_beginOne_91 : decode bM_beginOne 91 = .ok (.iaload, 1) := by decide +kernel
theorem dM_beginOne_92 : decode bM_beginOne 92 = .ok (.aload_n 0, 1) := by decide +kernel
theorem dM_beginOne_93 : decode bM_beginOne 93 = .ok (.getfield 47, 3) := by decide +kernel
theorem dM_beginOne_96 : decode bM_beginOne 96 = .ok (.iload_n 3, 1) := by decide +kernel
theorem dM_beginOne_97 : decode bM_beginOne 97 = .ok (.iaload, 1) := by decide +kernel
theorem dM_beginOne_98 : decode bM_beginOne 98 = .ok (.invokevirtual 182, 3) := by decide +kernel
theorem dM_beginOne_101 : decode bM_beginOne 101 = .ok (.goto 105, 3) := by decide +kernel
theorem dM_beginOne_104 : decode bM_beginOne 104 = .ok (.iload_n 2, 1) := by decide +kernel
theorem dM_beginOne_105 : decode bM_beginOne 105 = .ok (.bipush 92, 2) := by decide +kernel
theorem dM_beginOne_107 : decode bM_beginOne 107 = .ok (.if_icmp .ne 38, 3) := by decide +kernel
theorem dM_beginOne_110 : decode bM_beginOne 110 = .ok (.aload_n 0, 1) := by decide +kernel
theorem dM_beginOne_111 : decode bM_beginOne 111 = .ok (.dup, 1) := by decide +kernel
theorem dM_beginOne_112 : decode bM_beginOne 112 = .ok (.getfield 140, 3) := by decide +kernel
theorem dM_beginOne_115 : decode bM_beginOne 115 = .ok (.iconst 1, 1) := by decide +kernel
theorem dM_beginOne_116 : decode bM_beginOne 116 = .ok (.iadd, 1) := by decide +kernel
theorem dM_beginOne_117 : decode bM_beginOne 117 = .ok (.putfield 140, 3) := by decide +kernel
theorem dM_beginOne_120 : decode bM_beginOne 120 = .ok (.aload_n 0, 1) := by decide +kernel
theorem dM_beginOne_121 : decode bM_beginOne 121 = .ok (.iconst 4, 1) := by decide +kernel
theorem dM_beginOne_122 : decode bM_beginOne 122 = .ok (.aload_n 0, 1) := by decide +kernel
theorem dM_beginOne_123 : decode bM_beginOne 123 = .ok (.getfield 140, 3) := by decide +kernel
theorem dM_beginOne_126 : decode bM_beginOne 126 = .ok (.bipush 15, 2) := by decide +kernel
theorem dM_beginOne_128 : decode bM_beginOne 128 = .ok (.ishl, 1) := by decide +kernel
theorem dM_beginOne_129 : decode bM_beginOne 129 = .ok (.iload_n 1, 1) := by decide +kernel
theorem dM_beginOne_130 : decode bM_beginOne 130 = .ok (.bipush 8, 2) := by decide +kernel
theorem dM_beginOne_132 : decode bM_beginOne 132 = .ok (.ishl, 1) := by decide +kernel
theorem dM_beginOne_133 : decode bM_beginOne 133 = .ok (.ior, 1) := by decide +kernel
theorem dM_beginOne_134 : decode bM_beginOne 134 = .ok (.aload_n 0, 1) := by decide +kernel
theorem dM_beginOne_135 : decode bM_beginOne 135 = .ok (.getfield 160, 3) := by decide +kernel
theorem dM_beginOne_138 : decode bM_beginOne 138 = .ok (.ior, 1) := by decide +kernel
theorem dM_beginOne_139 : decode bM_beginOne 139 = .ok (.invokevirtual 182, 3) := by decide +kernel
theorem dM_beginOne_142 : decode bM_beginOne 142 = .ok (.goto 64, 3) := by decide +kernel
theorem dM_beginOne_145 : decode bM_beginOne 145 = .ok (.iload_n 2, 1) := by decide +kernel
theorem dM_beginOne_146 : decode bM_beginOne 146 = .ok (.bipush 37, 2) := by decide +kernel
theorem dM_beginOne_148 : decode bM_beginOne 148 = .ok (.if_icmp .ne 41, 3) := by decide +kernel
theorem dM_beginOne_151 : decode bM_beginOne 151 = .ok (.aload_n 0, 1) := by decide +kernel
theorem dM_beginOne_152 : decode bM_beginOne 152 = .ok (.aload_n 0, 1) := by decide +kernel
theorem dM_beginOne_153 : decode bM_beginOne 153 = .ok (.getfield 28, 3) := by decide +kernel
theorem dM_beginOne_156 : decode bM_beginOne 156 = .ok (.iload_n 1, 1) := by decide +kernel
theorem dM_beginOne_157 : decode bM_beginOne 157 = .ok (.iaload, 1) := by decide +kernel
theorem dM_beginOne_158 : decode bM_beginOne 158 = .ok (.aload_n 0, 1) := by decide +kernel
theorem dM_beginOne_159 : decode bM_beginOne 159 = .ok (.getfield 160, 3) := by decide +kernel
theorem dM_beginOne_162 : decode bM_beginOne 162 = .ok (.iconst 0, 1) := by decide +kernel
theorem dM_beginOne_163 : decode bM_beginOne 163 = .ok (.iconst 0, 1) := by decide +kernel
theorem dM_beginOne_164 : decode bM_beginOne 164 = .ok (.invokevirtual 189, 3) := by decide +kernel
theorem kM_m189 : Cond.methodLink RM 189 yM_bind ∈ lw_g := lw_in (List.mem_append_right _ (List.mem_of_getElem? (i := 1287) (by decide +kernel))) rfl
theorem dM_beginOne_167 : decode bM_beginOne 167 = .ok (.istore_n 3, 1) := by decide +kernel
theorem dM_beginOne_168 : decode bM_beginOne 168 = .ok (.iload_n 3, 1) := by decide +kernel
theorem dM_beginOne_169 : decode bM_beginOne 169 = .ok (.ifCond .le 17, 3) := by decide +kernel
theorem dM_beginOne_172 : decode bM_beginOne 172 = .ok (.aload_n 0, 1) := by decide +kernel
theorem dM_beginOne_173 : decode bM_beginOne 173 = .ok (.iload_n 1, 1) := by decide +kernel
theorem dM_beginOne_174 : decode bM_beginOne 174 = .ok (.iconst 0, 1) := by decide +kernel
theorem dM_beginOne_175 : decode bM_beginOne 175 = .ok (.iload_n 3, 1) := by decide +kernel
theorem dM_beginOne_176 : decode bM_beginOne 176 = .ok (.aload_n 0, 1) := by decide +kernel
theorem dM_beginOne_177 : decode bM_beginOne 177 = .ok (.getfield 163, 3) := by decide +kernel
theorem dM_beginOne_180 : decode bM_beginOne 180 = .ok (.iconst 0, 1) := by decide +kernel
theorem dM_beginOne_181 : decode bM_beginOne 181 = .ok (.iconst 0, 1) := by decide +kernel
theorem dM_beginOne_182 : decode bM_beginOne 182 = .ok (.iconst 0, 1) := by decide +kernel
theorem dM_beginOne_183 : decode bM_beginOne 183 = .ok (.invokevirtual 193, 3) := by decide +kernel
theorem kM_m193 : Cond.methodLink RM 193 yM_await ∈ lw_g := lw_in (List.mem_append_right _ (List.mem_of_getElem? (i := 1291) (by decide +kernel))) rfl
theorem dM_beginOne_186 : decode bM_beginOne 186 = .ok (.goto 20, 3) := by decide +kernel
theorem dM_beginOne_189 : decode bM_beginOne 189 = .ok (.aload_n 0, 1) := by decide +kernel
theorem dM_beginOne_190 : decode bM_beginOne 190 = .ok (.iload_n 1, 1) := by decide +kernel
theorem dM_beginOne_191 : decode bM_beginOne 191 = .ok (.iconst 0, 1) := by decide +kernel
theorem dM_beginOne_192 : decode bM_beginOne 192 = .ok (.aload_n 0, 1) := by decide +kernel
theorem dM_beginOne_193 : decode bM_beginOne 193 = .ok (.getfield 160, 3) := by decide +kernel
theorem dM_beginOne_196 : decode bM_beginOne 196 = .ok (.aload_n 0, 1) := by decide +kernel
theorem dM_beginOne_197 : decode bM_beginOne 197 = .ok (.getfield 163, 3) := by decide +kernel
theorem dM_beginOne_200 : decode bM_beginOne 200 = .ok (.iconst 0, 1) := by decide +kernel
theorem dM_beginOne_201 : decode bM_beginOne 201 = .ok (.iconst 0, 1) := by decide +kernel
theorem dM_beginOne_202 : decode bM_beginOne 202 = .ok (.iconst 0, 1) := by decide +kernel
theorem dM_beginOne_203 : decode bM_beginOne 203 = .ok (.invokevirtual 193, 3) := by decide +kernel
theorem dM_beginOne_206 : decode bM_beginOne 206 = .ok (.return_, 1) := by decide +kernel
theorem kM_i_beginOne : Cond.instanceMethod yM_beginOne ∈ lw_g := lw_in (List.mem_append_right _ (List.mem_of_getElem? (i := 1273) (by decide +kernel))) rfl
theorem kM_s_beginOne : Cond.selects RM yM_beginOne yM_beginOne ∈ lw_g := lw_in (List.mem_append_left _ (List.mem_map.mpr ⟨(yM_beginOne, 40), by decide +kernel, rfl⟩)) rfl
-- binary: maxLocals 4, ret none
theorem kM_c_binary : Cond.code yM_binary bM_binary 4 none ∈ lw_g := lw_in (List.mem_append_right _ (List.mem_of_getElem? (i := 1326) (by decide +kernel))) rfl
theorem dM_binary_0 : decode bM_binary 0 = .ok (.iload_n 1, 1) := by decide +kernel
theorem dM_binary_1 : decode bM_binary 1 = .ok (.bipush 58, 2) := by decide +kernel
theorem dM_binary_3 : decode bM_binary 3 = .ok (.if_icmp .ne 98, 3) := by decide +kernel
theorem dM_binary_6 : decode bM_binary 6 = .ok (.aload_n 0, 1) := by decide +kernel
theorem dM_binary_7 : decode bM_binary 7 = .ok (.getfield 134, 3) := by decide +kernel
theorem dM_binary_10 : decode bM_binary 10 = .ok (.bipush 60, 2) := by decide +kernel
theorem dM_binary_12 : decode bM_binary 12 = .ok (.if_icmp .ne 9, 3) := by decide +kernel
theorem dM_binary_15 : decode bM_binary 15 = .ok (.aload_n 0, 1) := by decide +kernel
theorem dM_binary_16 : decode bM_binary 16 = .ok (.iconst 5, 1) := by decide +kernel
theorem dM_binary_17 : decode bM_binary 17 = .ok (.invokevirtual 166, 3) := by decide +kernel
theorem dM_binary_20 : decode bM_binary 20 = .ok (.return_, 1) := by decide +kernel
theorem dM_binary_21 : decode bM_binary 21 = .ok (.aload_n 0, 1) := by decide +kernel
theorem dM_binary_22 : decode bM_binary 22 = .ok (.dup, 1) := by decide +kernel
theorem dM_binary_23 : decode bM_binary 23 = .ok (.getfield 134, 3) := by decide +kernel
theorem dM_binary_26 : decode bM_binary 26 = .ok (.iconst 1, 1) := by decide +kernel
theorem dM_binary_27 : decode bM_binary 27 = .ok (.iadd, 1) := by decide +kernel
theorem dM_binary_28 : decode bM_binary 28 = .ok (.putfield 134, 3) := by decide +kernel
theorem dM_binary_31 : decode bM_binary 31 = .ok (.aload_n 0, 1) := by decide +kernel
theorem dM_binary_32 : decode bM_binary 32 = .ok (.getfield 56, 3) := by decide +kernel
theorem dM_binary_35 : decode bM_binary 35 = .ok (.iconst 2, 1) := by decide +kernel
theorem dM_binary_36 : decode bM_binary 36 = .ok (.aload_n 0, 1) := by decide +kernel
theorem dM_binary_37 : decode bM_binary 37 = .ok (.getfield 134, 3) := by decide +kernel
theorem dM_binary_40 : decode bM_binary 40 = .ok (.imul, 1) := by decide +kernel
theorem dM_binary_41 : decode bM_binary 41 = .ok (.iload_n 2, 1) := by decide +kernel
theorem dM_binary_42 : decode bM_binary 42 = .ok (.iastore, 1) := by decide +kernel
theorem dM_binary_43 : decode bM_binary 43 = .ok (.aload_n 0, 1) := by decide +kernel
theorem dM_binary_44 : decode bM_binary 44 = .ok (.getfield 59, 3) := by decide +kernel
theorem dM_binary_47 : decode bM_binary 47 = .ok (.iconst 2, 1) := by decide +kernel
theorem dM_binary_48 : decode bM_binary 48 = .ok (.aload_n 0, 1) := by decide +kernel
theorem dM_binary_49 : decode bM_binary 49 = .ok (.getfield 134, 3) := by decide +kernel
theorem dM_binary_52 : decode bM_binary 52 = .ok (.imul, 1) := by decide +kernel
theorem dM_binary_53 : decode bM_binary 53 = .ok (.iload_n 3, 1) := by decide +kernel
theorem dM_binary_54 : decode bM_binary 54 = .ok (.iastore, 1) := by decide +kernel
theorem dM_binary_55 : decode bM_binary 55 = .ok (.aload_n 0, 1) := by decide +kernel
theorem dM_binary_56 : decode bM_binary 56 = .ok (.getfield 56, 3) := by decide +kernel
theorem dM_binary_59 : decode bM_binary 59 = .ok (.iconst 2, 1) := by decide +kernel
theorem dM_binary_60 : decode bM_binary 60 = .ok (.aload_n 0, 1) := by decide +kernel
theorem dM_binary_61 : decode bM_binary 61 = .ok (.getfield 134, 3) := by decide +kernel
theorem dM_binary_64 : decode bM_binary 64 = .ok (.imul, 1) := by decide +kernel
theorem dM_binary_65 : decode bM_binary 65 = .ok (.iconst 1, 1) := by decide +kernel
theorem dM_binary_66 : decode bM_binary 66 = .ok (.iadd, 1) := by decide +kernel
theorem dM_binary_67 : decode bM_binary 67 = .ok (.aload_n 0, 1) := by decide +kernel
theorem dM_binary_68 : decode bM_binary 68 = .ok (.getfield 169, 3) := by decide +kernel
theorem dM_binary_71 : decode bM_binary 71 = .ok (.iastore, 1) := by decide +kernel
theorem dM_binary_72 : decode bM_binary 72 = .ok (.aload_n 0, 1) := by decide +kernel
theorem dM_binary_73 : decode bM_binary 73 = .ok (.getfield 59, 3) := by decide +kernel
theorem dM_binary_76 : decode bM_binary 76 = .ok (.iconst 2, 1) := by decide +kernel
theorem dM_binary_77 : decode bM_binary 77 = .ok (.aload_n 0, 1) := by decide +kernel
theorem dM_binary_78 : decode bM_binary 78 = .ok (.getfield 134, 3) := by decide +kernel
theorem dM_binary_81 : decode bM_binary 81 = .ok (.imul, 1) := by decide +kernel
theorem dM_binary_82 : decode bM_binary 82 = .ok (.iconst 1, 1) := by decide +kernel
theorem dM_binary_83 : decode bM_binary 83 = .ok (.iadd, 1) := by decide +kernel
theorem dM_binary_84 : decode bM_binary 84 = .ok (.aload_n 0, 1) := by decide +kernel
theorem dM_binary_85 : decode bM_binary 85 = .ok (.getfield 172, 3) := by decide +kernel
theorem dM_binary_88 : decode bM_binary 88 = .ok (.iastore, 1) := by decide +kernel
theorem dM_binary_89 : decode bM_binary 89 = .ok (.aload_n 0, 1) := by decide +kernel
theorem dM_binary_90 : decode bM_binary 90 = .ok (.iconst 3, 1) := by decide +kernel
theorem dM_binary_91 : decode bM_binary 91 = .ok (.aload_n 0, 1) := by decide +kernel
theorem dM_binary_92 : decode bM_binary 92 = .ok (.getfield 134, 3) := by decide +kernel
theorem dM_binary_95 : decode bM_binary 95 = .ok (.invokevirtual 182, 3) := by decide +kernel
theorem dM_binary_98 : decode bM_binary 98 = .ok (.goto 163, 3) := by decide +kernel
theorem dM_binary_101 : decode bM_binary 101 = .ok (.iload_n 1, 1) := by decide +kernel
theorem dM_binary_102 : decode bM_binary 102 = .ok (.bipush 61, 2) := by decide +kernel
theorem dM_binary_104 : decode bM_binary 104 = .ok (.if_icmp .ne 37, 3) := by decide +kernel
theorem dM_binary_107 : decode bM_binary 107 = .ok (.aload_n 0, 1) := by decide +kernel
theorem dM_binary_108 : decode bM_binary 108 = .ok (.iconst 1, 1) := by decide +kernel
theorem dM_binary_109 : decode bM_binary 109 = .ok (.iload_n 2, 1) := by decide +kernel
theorem dM_binary_110 : decode bM_binary 110 = .ok (.aload_n 0, 1) := by decide +kernel
theorem dM_binary_111 : decode bM_binary 111 = .ok (.getfield 169, 3) := by decide +kernel
theorem dM_binary_114 : decode bM_binary 114 = .ok (.if_icmp .ne 20, 3) := by decide +kernel
theorem dM_binary_117 : decode bM_binary 117 = .ok (.iload_n 2, 1) := by decide +kernel
theorem dM_binary_118 : decode bM_binary 118 = .ok (.iconst 2, 1) := by decide +kernel
theorem dM_binary_119 : decode bM_binary 119 = .ok (.if_icmp .eq 11, 3) := by decide +kernel
theorem dM_binary_122 : decode bM_binary 122 = .ok (.iload_n 3, 1) := by decide +kernel
theorem dM_binary_123 : decode bM_binary 123 = .ok (.aload_n 0, 1) := by decide +kernel
theorem dM_binary_124 : decode bM_binary 124 = .ok (.getfield 172, 3) := by decide +kernel
theorem dM_binary_127 : decode bM_binary 127 = .ok (.if_icmp .ne 7, 3) := by decide +kernel
theorem dM_binary_130 : decode bM_binary 130 = .ok (.iconst 1, 1) := by decide +kernel
theorem dM_binary_131 : decode bM_binary 131 = .ok (.goto 4, 3) := by decide +kernel
theorem dM_binary_134 : decode bM_binary 134 = .ok (.iconst 0, 1) := by decide +kernel
theorem dM_binary_135 : decode bM_binary 135 = .ok (.invokevirtual 182, 3) := by decide +kernel
theorem dM_binary_138 : decode bM_binary 138 = .ok (.goto 123, 3) := by decide +kernel
theorem dM_binary_141 : decode bM_binary 141 = .ok (.iload_n 2, 1) := by decide +kernel
theorem dM_binary_142 : decode bM_binary 142 = .ok (.iconst 1, 1) := by decide +kernel
theorem dM_binary_143 : decode bM_binary 143 = .ok (.if_icmp .ne 11, 3) := by decide +kernel
theorem dM_binary_146 : decode bM_binary 146 = .ok (.aload_n 0, 1) := by decide +kernel
theorem dM_binary_147 : decode bM_binary 147 = .ok (.getfield 169, 3) := by decide +kernel
theorem dM_binary_150 : decode bM_binary 150 = .ok (.iconst 1, 1) := by decide +kernel
theorem dM_binary_151 : decode bM_binary 151 = .ok (.if_icmp .eq 11, 3) := by decide +kernel
theorem dM_binary_154 : decode bM_binary 154 = .ok (.aload_n 0, 1) := by decide +kernel
theorem dM_binary_155 : decode bM_binary 155 = .ok (.iconst 2, 1) := by decide +kernel
theorem dM_binary_156 : decode bM_binary 156 = .ok (.invokevirtual 166, 3) := by decide +kernel
theorem dM_binary_159 : decode bM_binary 159 = .ok (.goto 102, 3) := by decide +kernel
theorem dM_binary_162 : decode bM_binary 162 = .ok (.iload_n 1, 1) := by decide +kernel
theorem dM_binary_163 : decode bM_binary 163 = .ok (.bipush 47, 2) := by decide +kernel
theorem dM_binary_165 : decode bM_binary 165 = .ok (.if_icmp .ne 18, 3) := by decide +kernel
theorem dM_binary_168 : decode bM_binary 168 = .ok (.aload_n 0, 1) := by decide +kernel
theorem dM_binary_169 : decode bM_binary 169 = .ok (.getfield 172, 3) := by decide +kernel
theorem dM_binary_172 : decode bM_binary 172 = .ok (.ifCond .ne 11, 3) := by decide +kernel
theorem dM_binary_175 : decode bM_binary 175 = .ok (.aload_n 0, 1) := by decide +kernel
theorem dM_binary_176 : decode bM_binary 176 = .ok (.iconst 3, 1) := by decide +kernel
theorem dM_binary_177 : decode bM_binary 177 = .ok (.invokevirtual 166, 3) := by decide +kernel
theorem dM_binary_180 : decode bM_binary 180 = .ok (.goto 81, 3) := by decide +kernel
theorem dM_binary_183 : decode bM_binary 183 = .ok (.aload_n 0, 1) := by decide +kernel
theorem dM_binary_184 : decode bM_binary 184 = .ok (.iconst 1, 1) := by decide +kernel
theorem dM_binary_185 : decode bM_binary 185 = .ok (.iload_n 1, 1) := by decide +kernel
theorem dM_binary_186 : decode bM_binary 186 = .ok (.bipush 43, 2) := by decide +kernel
theorem dM_binary_188 : decode bM_binary 188 = .ok (.if_icmp .ne 12, 3) := by decide +kernel
theorem dM_binary_191 : decode bM_binary 191 = .ok (.iload_n 3, 1) := by decide +kernel
theorem dM_binary_192 : decode bM_binary 192 = .ok (.aload_n 0, 1) := by decide +kernel
theorem dM_binary_193 : decode bM_binary 193 = .ok (.getfield 172, 3) := by decide +kernel
theorem dM_binary_196 : decode bM_binary 196 = .ok (.iadd, 1) := by decide +kernel
theorem dM_binary_197 : decode bM_binary 197 = .ok (.goto 61, 3) := by decide +kernel
theorem dM_binary_200 : decode bM_binary 200 = .ok (.iload_n 1, 1) := by decide +kernel
theorem dM_binary_201 : decode bM_binary 201 = .ok (.bipush 45, 2) := by decide +kernel
theorem dM_binary_203 : decode bM_binary 203 = .ok (.if_icmp .ne 12, 3) := by decide +kernel
theorem dM_binary_206 : decode bM_binary 206 = .ok (.iload_n 3, 1) := by decide +kernel
theorem dM_binary_207 : decode bM_binary 207 = .ok (.aload_n 0, 1) := by decide +kernel
theorem dM_binary_208 : decode bM_binary 208 = .ok (.getfield 172, 3) := by decide +kernel
theorem dM_binary_211 : decode bM_binary 211 = .ok (.isub, 1) := by decide +kernel
theorem dM_binary_212 : decode bM_binary 212 = .ok (.goto 46, 3) := by decide +kernel
theorem dM_binary_215 : decode bM_binary 215 = .ok (.iload_n 1, 1) := by decide +kernel
theorem dM_binary_216 : decode bM_binary 216 = .ok (.bipush 42, 2) := by decide +kernel
theorem dM_binary_218 : decode bM_binary 218 = .ok (.if_icmp .ne 12, 3) := by decide +kernel
theorem dM_binary_221 : decode bM_binary 221 = .ok (.iload_n 3, 1) := by decide +kernel
theorem dM_binary_222 : decode bM_binary 222 = .ok (.aload_n 0, 1) := by decide +kernel
theorem dM_binary_223 : decode bM_binary 223 = .ok (.getfield 172, 3) := by decide +kernel
theorem dM_binary_226 : decode bM_binary 226 = .ok (.imul, 1) := by decide +kernel
theorem dM_binary_227 : decode bM_binary 227 = .ok (.goto 31, 3) := by decide +kernel
theorem dM_binary_230 : decode bM_binary 230 = .ok (.iload_n 1, 1) := by decide +kernel
theorem dM_binary_231 : decode bM_binary 231 = .ok (.bipush 47, 2) := by decide +kernel
theorem dM_binary_233 : decode bM_binary 233 = .ok (.if_icmp .ne 12, 3) := by decide +kernel
theorem dM_binary_236 : decode bM_binary 236 = .ok (.iload_n 3, 1) := by decide +kernel
theorem dM_binary_237 : decode bM_binary 237 = .ok (.aload_n 0, 1) := by decide +kernel
theorem dM_binary_238 : decode bM_binary 238 = .ok (.getfield 172, 3) := by decide +kernel
theorem dM_binary_241 : decode bM_binary 241 = .ok (.idiv, 1) := by decide +kernel
theorem dM_binary_242 : decode bM_binary 242 = .ok (.goto 16, 3) := by decide +kernel
theorem dM_binary_245 : decode bM_binary 245 = .ok (.iload_n 3, 1) := by decide +kernel
theorem dM_binary_246 : decode bM_binary 246 = .ok (.aload_n 0, 1) := by decide +kernel
theorem dM_binary_247 : decode bM_binary 247 = .ok (.getfield 172, 3) := by decide +kernel
theorem dM_binary_250 : decode bM_binary 250 = .ok (.if_icmp .ge 7, 3) := by decide +kernel
theorem dM_binary_253 : decode bM_binary 253 = .ok (.iconst 1, 1) := by decide +kernel
theorem dM_binary_254 : decode bM_binary 254 = .ok (.goto 4, 3) := by decide +kernel
theorem dM_binary_257 : decode bM_binary 257 = .ok (.iconst 0, 1) := by decide +kernel
theorem dM_binary_258 : decode bM_binary 258 = .ok (.invokevirtual 182, 3) := by decide +kernel
theorem dM_binary_261 : decode bM_binary 261 = .ok (.return_, 1) := by decide +kernel
theorem kM_i_binary : Cond.instanceMethod yM_binary ∈ lw_g := lw_in (List.mem_append_right _ (List.mem_of_getElem? (i := 1325) (by decide +kernel))) rfl
theorem kM_s_binary : Cond.selects RM yM_binary yM_binary ∈ lw_g := lw_in (List.mem_append_left _ (List.mem_map.mpr ⟨(yM_binary, 40), by decide +kernel, rfl⟩)) rfl
-- unary: maxLocals 3, ret none
theorem kM_c_unary : Cond.code yM_unary bM_unary 3 none ∈ lw_g := lw_in (List.mem_append_right _ (List.mem_of_getElem? (i := 1322) (by decide +kernel))) rfl
theorem dM_unary_0 : decode bM_unary 0 = .ok (.iload_n 1, 1) := by decide +kernel
theorem dM_unary_1 : decode bM_unary 1 = .ok (.bipush 80, 2) := by decide +kernel
theorem dM_unary_3 : decode bM_unary 3 = .ok (.if_icmp .ne 24, 3) := by decide +kernel
theorem dM_unary_6 : decode bM_unary 6 = .ok (.aload_n 0, 1) := by decide +kernel
theorem dM_unary_7 : decode bM_unary 7 = .ok (.iconst 1, 1) := by decide +kernel
theorem dM_unary_8 : decode bM_unary 8 = .ok (.aload_n 0, 1) := by decide +kernel
theorem dM_unary_9 : decode bM_unary 9 = .ok (.getfield 169, 3) := by decide +kernel
theorem dM_unary_12 : decode bM_unary 12 = .ok (.iconst 3, 1) := by decide +kernel
theorem dM_unary_13 : decode bM_unary 13 = .ok (.if_icmp .ne 7, 3) := by decide +kernel
theorem dM_unary_16 : decode bM_unary 16 = .ok (.iconst 1, 1) := by decide +kernel
theorem dM_unary_17 : decode bM_unary 17 = .ok (.goto 4, 3) := by decide +kernel
theorem dM_unary_20 : decode bM_unary 20 = .ok (.iconst 0, 1) := by decide +kernel
theorem dM_unary_21 : decode bM_unary 21 = .ok (.invokevirtual 182, 3) := by decide +kernel
theorem dM_unary_24 : decode bM_unary 24 = .ok (.goto 54, 3) := by decide +kernel
theorem dM_unary_27 : decode bM_unary 27 = .ok (.aload_n 0, 1) := by decide +kernel
theorem dM_unary_28 : decode bM_unary 28 = .ok (.getfield 169, 3) := by decide +kernel
theorem dM_unary_31 : decode bM_unary 31 = .ok (.iconst 3, 1) := by decide +kernel
theorem dM_unary_32 : decode bM_unary 32 = .ok (.if_icmp .eq 11, 3) := by decide +kernel
theorem dM_unary_35 : decode bM_unary 35 = .ok (.aload_n 0, 1) := by decide +kernel
theorem dM_unary_36 : decode bM_unary 36 = .ok (.iconst 2, 1) := by decide +kernel
theorem dM_unary_37 : decode bM_unary 37 = .ok (.invokevirtual 166, 3) := by decide +kernel
theorem dM_unary_40 : decode bM_unary 40 = .ok (.goto 38, 3) := by decide +kernel
theorem dM_unary_43 : decode bM_unary 43 = .ok (.iconst 2, 1) := by decide +kernel
theorem dM_unary_44 : decode bM_unary 44 = .ok (.aload_n 0, 1) := by decide +kernel
theorem dM_unary_45 : decode bM_unary 45 = .ok (.getfield 172, 3) := by decide +kernel
theorem dM_unary_48 : decode bM_unary 48 = .ok (.imul, 1) := by decide +kernel
theorem dM_unary_49 : decode bM_unary 49 = .ok (.iload_n 1, 1) := by decide +kernel
theorem dM_unary_50 : decode bM_unary 50 = .ok (.bipush 68, 2) := by decide +kernel
theorem dM_unary_52 : decode bM_unary 52 = .ok (.if_icmp .ne 7, 3) := by decide +kernel
theorem dM_unary_55 : decode bM_unary 55 = .ok (.iconst 1, 1) := by decide +kernel
theorem dM_unary_56 : decode bM_unary 56 = .ok (.goto 4, 3) := by decide +kernel
theorem dM_unary_59 : decode bM_unary 59 = .ok (.iconst 0, 1) := by decide +kernel
theorem dM_unary_60 : decode bM_unary 60 = .ok (.iadd, 1) := by decide +kernel
theorem dM_unary_61 : decode bM_unary 61 = .ok (.istore_n 2, 1) := by decide +kernel
theorem dM_unary_62 : decode bM_unary 62 = .ok (.aload_n 0, 1) := by decide +kernel
theorem dM_unary_63 : decode bM_unary 63 = .ok (.aload_n 0, 1) := by decide +kernel
theorem dM_unary_64 : decode bM_unary 64 = .ok (.getfield 56, 3) := by decide +kernel
theorem dM_unary_67 : decode bM_unary 67 = .ok (.iload_n 2, 1) := by decide +kernel
theorem dM_unary_68 : decode bM_unary 68 = .ok (.iaload, 1) := by decide +kernel
theorem dM_unary_69 : decode bM_unary 69 = .ok (.aload_n 0, 1) := by decide +kernel
theorem dM_unary_70 : decode bM_unary 70 = .ok (.getfield 59, 3) := by decide +kernel
theorem dM_unary_73 : decode bM_unary 73 = .ok (.iload_n 2, 1) := by decide +kernel
theorem dM_unary_74 : decode bM_unary 74 = .ok (.iaload, 1) := by decide +kernel
theorem dM_unary_75 : decode bM_unary 75 = .ok (.invokevirtual 182, 3) := by decide +kernel
theorem dM_unary_78 : decode bM_unary 78 = .ok (.return_, 1) := by decide +kernel
theorem kM_i_unary : Cond.instanceMethod yM_unary ∈ lw_g := lw_in (List.mem_append_right _ (List.mem_of_getElem? (i := 1321) (by decide +kernel))) rfl
theorem kM_s_unary : Cond.selects RM yM_unary yM_unary ∈ lw_g := lw_in (List.mem_append_left _ (List.mem_map.mpr ⟨(yM_unary, 40), by decide +kernel, rfl⟩)) rfl
-- call: maxLocals 14, ret none
theorem kM_c_call : Cond.code yM_call bM_call 14 none ∈ lw_g := lw_in (List.mem_append_right _ (List.mem_of_getElem? (i := 1318) (by decide +kernel))) rfl
theorem dM_call_0 : decode bM_call 0 = .ok (.iload_n 1, 1) := by decide +kernel
theorem dM_call_1 : decode bM_call 1 = .ok (.iconst 4, 1) := by decide +kernel
theorem dM_call_2 : decode bM_call 2 = .ok (.if_icmp .eq 14, 3) := by decide +kernel
theorem dM_call_5 : decode bM_call 5 = .ok (.iload_n 1, 1) := by decide +kernel
theorem dM_call_6 : decode bM_call 6 = .ok (.iconst 5, 1) := by decide +kernel
theorem dM_call_7 : decode bM_call 7 = .ok (.if_icmp .eq 9, 3) := by decide +kernel
theorem dM_call_10 : decode bM_call 10 = .ok (.aload_n 0, 1) := by decide +kernel
theorem dM_call_11 : decode bM_call 11 = .ok (.iconst 2, 1) := by decide +kernel
theorem dM_call_12 : decode bM_call 12 = .ok (.invokevirtual 166, 3) := by decide +kernel
theorem dM_call_15 : decode bM_call 15 = .ok (.return_, 1) := by decide +kernel
theorem dM_call_16 : decode bM_call 16 = .ok (.iload_n 1, 1) := by decide +kernel
theorem dM_call_17 : decode bM_call 17 = .ok (.iconst 5, 1) := by decide +kernel
theorem dM_call_18 : decode bM_call 18 = .ok (.if_icmp .ne 7, 3) := by decide +kernel
theorem dM_call_21 : decode bM_call 21 = .ok (.iconst 1, 1) := by decide +kernel
theorem dM_call_22 : decode bM_call 22 = .ok (.goto 18, 3) := by decide +kernel
theorem dM_call_25 : decode bM_call 25 = .ok (.aload_n 0, 1) := by decide +kernel
theorem dM_call_26 : decode bM_call 26 = .ok (.getfield 31, 3) := by decide +kernel
theorem dM_call_29 : decode bM_call 29 = .ok (.iload_n 2, 1) := by decide +kernel
theorem dM_call_30 : decode bM_call 30 = .ok (.bipush 8, 2) := by decide +kernel
theorem dM_call_32 : decode bM_call 32 = .ok (.ishr, 1) := by decide +kernel
theorem dM_call_33 : decode bM_call 33 = .ok (.bipush 127, 2) := by decide +kernel
theorem dM_call_35 : decode bM_call 35 = .ok (.iand, 1) := by decide +kernel
theorem dM_call_36 : decode bM_call 36 = .ok (.iaload, 1) := by decide +kernel
theorem dM_call_37 : decode bM_call 37 = .ok (.bipush 20, 2) := by decide +kernel
theorem dM_call_39 : decode bM_call 39 = .ok (.ishr, 1) := by decide +kernel
theorem dM_call_40 : decode bM_call 40 = .ok (.istore 5, 2) := by decide +kernel
theorem dM_call_42 : decode bM_call 42 = .ok (.iload_n 3, 1) := by decide +kernel
theorem dM_call_43 : decode bM_call 43 = .ok (.iload 5, 2) := by decide +kernel
theorem dM_call_45 : decode bM_call 45 = .ok (.if_icmp .eq 9, 3) := by decide +kernel
theorem dM_call_48 : decode bM_call 48 = .ok (.aload_n 0, 1) := by decide +kernel
theorem dM_call_49 : decode bM_call 49 = .ok (.iconst 4, 1) := by decide +kernel
theorem dM_call_50 : decode bM_call 50 = .ok (.invokevirtual 166, 3) := by decide +kernel
theorem dM_call_53 : decode bM_call 53 = .ok (.return_, 1) := by decide +kernel
theorem dM_call_54 : decode bM_call 54 = .ok (.iload_n 1, 1) := by decide +kernel
theorem dM_call_55 : decode bM_call 55 = .ok (.iconst 5, 1) := by decide +kernel
theorem dM_call_56 : decode bM_call 56 = .ok (.if_icmp .ne 18, 3) := by decide +kernel
theorem dM_call_59 : decode bM_call 59 = .ok (.aload_n 0, 1) := by decide +kernel
theorem dM_call_60 : decode bM_call 60 = .ok (.iload_n 2, 1) := by decide +kernel
theorem dM_call_61 : decode bM_call 61 = .ok (.sipush 8191, 3) := by decide +kernel
theorem dM_call_64 : decode bM_call 64 = .ok (.iand, 1) := by decide +kernel
theorem dM_call_65 : decode bM_call 65 = .ok (.putfield 163, 3) := by decide +kernel
theorem dM_call_68 : decode bM_call 68 = .ok (.aload_n 0, 1) := by decide +kernel
theorem dM_call_69 : decode bM_call 69 = .ok (.iconst 0, 1) := by decide +kernel
theorem dM_call_70 : decode bM_call 70 = .ok (.putfield 149, 3) := by decide +kernel
theorem dM_call_73 : decode bM_call 73 = .ok (.return_, 1) := by decide +kernel
theorem dM_call_74 : decode bM_call 74 = .ok (.iload_n 2, 1) := by decide +kernel
theorem dM_call_75 : decode bM_call 75 = .ok (.bipush 8, 2) := by decide +kernel
theorem dM_call_77 : decode bM_call 77 = .ok (.ishr, 1) := by decide +kernel
theorem dM_call_78 : decode bM_call 78 = .ok (.bipush 127, 2) := by decide +kernel
theorem dM_call_80 : decode bM_call 80 = .ok (.iand, 1) := by decide +kernel
theorem dM_call_81 : decode bM_call 81 = .ok (.istore 6, 2) := by decide +kernel
theorem dM_call_83 : decode bM_call 83 = .ok (.iload_n 2, 1) := by decide +kernel
theorem dM_call_84 : decode bM_call 84 = .ok (.sipush 255, 3) := by decide +kernel
theorem dM_call_87 : decode bM_call 87 = .ok (.iand, 1) := by decide +kernel
theorem dM_call_88 : decode bM_call 88 = .ok (.istore 7, 2) := by decide +kernel
theorem dM_call_90 : decode bM_call 90 = .ok (.aload_n 0, 1) := by decide +kernel
theorem dM_call_91 : decode bM_call 91 = .ok (.getfield 169, 3) := by decide +kernel
theorem dM_call_94 : decode bM_call 94 = .ok (.istore 8, 2) := by decide +kernel
theorem dM_call_96 : decode bM_call 96 = .ok (.aload_n 0, 1) := by decide +kernel
theorem dM_call_97 : decode bM_call 97 = .ok (.getfield 172, 3) := by decide +kernel
theorem dM_call_100 : decode bM_call 100 = .ok (.istore 9, 2) := by decide +kernel
theorem dM_call_102 : decode bM_call 102 = .ok (.iconst 0, 1) := by decide +kernel
theorem dM_call_103 : decode bM_call 103 = .ok (.istore 10, 2) := by decide +kernel
theorem dM_call_105 : decode bM_call 105 = .ok (.iload 10, 2) := by decide +kernel
theorem dM_call_107 : decode bM_call 107 = .ok (.iload_n 3, 1) := by decide +kernel
theorem dM_call_108 : decode bM_call 108 = .ok (.if_icmp .ge 131, 3) := by decide +kernel
theorem dM_call_111 : decode bM_call 111 = .ok (.aload_n 0, 1) := by decide +kernel
theorem dM_call_112 : decode bM_call 112 = .ok (.getfield 115, 3) := by decide +kernel
theorem dM_call_115 : decode bM_call 115 = .ok (.iconst 1, 1) := by decide +kernel
theorem dM_call_116 : decode bM_call 116 = .ok (.if_icmp .ne 123, 3) := by decide +kernel
theorem dM_call_119 : decode bM_call 119 = .ok (.iload 4, 2) := by decide +kernel
theorem dM_call_121 : decode bM_call 121 = .ok (.istore 11, 2) := by decide +kernel
theorem dM_call_123 : decode bM_call 123 = .ok (.iload_n 3, 1) := by decide +kernel
theorem dM_call_124 : decode bM_call 124 = .ok (.iconst 2, 1) := by decide +kernel
theorem dM_call_125 : decode bM_call 125 = .ok (.isub, 1) := by decide +kernel
theorem dM_call_126 : decode bM_call 126 = .ok (.istore 12, 2) := by decide +kernel
theorem dM_call_128 : decode bM_call 128 = .ok (.iload 12, 2) := by decide +kernel
theorem dM_call_130 : decode bM_call 130 = .ok (.iload 10, 2) := by decide +kernel
theorem dM_call_132 : decode bM_call 132 = .ok (.if_icmp .le 22, 3) := by decide +kernel
theorem dM_call_135 : decode bM_call 135 = .ok (.aload_n 0, 1) := by decide +kernel
theorem dM_call_136 : decode bM_call 136 = .ok (.getfield 68, 3) := by decide +kernel
theorem dM_call_139 : decode bM_call 139 = .ok (.iload 11, 2) := by decide +kernel
theorem dM_call_141 : decode bM_call 141 = .ok (.iaload, 1) := by decide +kernel
theorem dM_call_142 : decode bM_call 142 = .ok (.sipush 8191, 3) := by decide +kernel
theorem dM_call_145 : decode bM_call 145 = .ok (.iand, 1) := by decide +kernel
theorem dM_call_146 : decode bM_call 146 = .ok (.istore 11, 2) := by decide +kernel
theorem dM_call_148 : decode bM_call 148 = .ok (.iinc 12 (-1), 3) := by decide +kernel
theorem dM_call_151 : decode bM_call 151 = .ok (.goto (-23), 3) := by decide +kernel
theorem dM_call_154 : decode bM_call 154 = .ok (.iload 10, 2) := by decide +kernel
theorem dM_call_156 : decode bM_call 156 = .ok (.iload_n 3, 1) := by decide +kernel
theorem dM_call_157 : decode bM_call 157 = .ok (.iconst 1, 1) := by decide +kernel
theorem dM_call_158 : decode bM_call 158 = .ok (.isub, 1) := by decide +kernel
theorem dM_call_159 : decode bM_call 159 = .ok (.if_icmp .ne 7, 3) := by decide +kernel
theorem dM_call_162 : decode bM_call 162 = .ok (.iconst 1, 1) := by decide +kernel
theorem dM_call_163 : decode bM_call 163 = .ok (.goto 4, 3) := by decide +kernel
theorem dM_call_166 : decode bM_call 166 = .ok (.iconst 0, 1) := by decide +kernel
theorem dM_call_167 : decode bM_call 167 = .ok (.istore 12, 2) := by decide +kernel
theorem dM_call_169 : decode bM_call 169 = .ok (.aload_n 0, 1) := by decide +kernel
theorem dM_call_170 : decode bM_call 170 = .ok (.getfield 31, 3) := by decide +kernel
theorem dM_call_173 : decode bM_call 173 = .ok (.iload 6, 2) := by decide +kernel
theorem dM_call_175 : decode bM_call 175 = .ok (.iaload, 1) := by decide +kernel
theorem dM_call_176 : decode bM_call 176 = .ok (.iconst 5, 1) := by decide +kernel
theorem dM_call_177 : decode bM_call 177 = .ok (.iload 10, 2) := by decide +kernel
theorem dM_call_179 : decode bM_call 179 = .ok (.imul, 1) := by decide +kernel
theorem dM_call_180 : decode bM_call 180 = .ok (.ishr, 1) := by decide +kernel
theorem dM_call_181 : decode bM_call 181 = .ok (.bipush 31, 2) := by decide +kernel
theorem dM_call_183 : decode bM_call 183 = .ok (.iand, 1) := by decide +kernel
theorem dM_call_184 : decode bM_call 184 = .ok (.istore 13, 2) := by decide +kernel
theorem dM_call_186 : decode bM_call 186 = .ok (.aload_n 0, 1) := by decide +kernel
theorem dM_call_187 : decode bM_call 187 = .ok (.iload 13, 2) := by decide +kernel
theorem dM_call_189 : decode bM_call 189 = .ok (.iload 7, 2) := by decide +kernel
theorem dM_call_191 : decode bM_call 191 = .ok (.iload 12, 2) := by decide +kernel
theorem dM_call_193 : decode bM_call 193 = .ok (.ifCond .eq 8, 3) := by decide +kernel
theorem dM_call_196 : decode bM_call 196 = .ok (.iload 8, 2) := by decide +kernel
theorem dM_call_198 : decode bM_call 198 = .ok (.goto 13, 3) := by decide +kernel
theorem dM_call_201 : decode bM_call 201 = .ok (.aload_n 0, 1) := by decide +kernel
theorem dM_call_202 : decode bM_call 202 = .ok (.getfield 68, 3) := by decide +kernel
theorem dM_call_205 : decode bM_call 205 = .ok (.iload 11, 2) := by decide +kernel
theorem dM_call_207 : decode bM_call 207 = .ok (.iaload, 1) := by decide +kernel
theorem dM_call_208 : decode bM_call 208 = .ok (.bipush 13, 2) := by decide +kernel
theorem dM_call_210 : decode bM_call 210 = .ok (.ishr, 1) := by decide +kernel
theorem dM_call_211 : decode bM_call 211 = .ok (.iload 12, 2) := by decide +kernel
theorem dM_call_213 : decode bM_call 213 = .ok (.ifCond .eq 8, 3) := by decide +kernel
theorem dM_call_216 : decode bM_call 216 = .ok (.iload 9, 2) := by decide +kernel
theorem dM_call_218 : decode bM_call 218 = .ok (.goto 10, 3) := by decide +kernel
theorem dM_call_221 : decode bM_call 221 = .ok (.aload_n 0, 1) := by decide +kernel
theorem dM_call_222 : decode bM_call 222 = .ok (.getfield 65, 3) := by decide +kernel
theorem dM_call_225 : decode bM_call 225 = .ok (.iload 11, 2) := by decide +kernel
theorem dM_call_227 : decode bM_call 227 = .ok (.iaload, 1) := by decide +kernel
theorem dM_call_228 : decode bM_call 228 = .ok (.invokevirtual 189, 3) := by decide +kernel
theorem dM_call_231 : decode bM_call 231 = .ok (.istore 7, 2) := by decide +kernel
theorem dM_call_233 : decode bM_call 233 = .ok (.iinc 10 1, 3) := by decide +kernel
theorem dM_call_236 : decode bM_call 236 = .ok (.goto (-131), 3) := by decide +kernel
theorem dM_call_239 : decode bM_call 239 = .ok (.aload_n 0, 1) := by decide +kernel
theorem dM_call_240 : decode bM_call 240 = .ok (.getfield 115, 3) := by decide +kernel
theorem dM_call_243 : decode bM_call 243 = .ok (.iconst 1, 1) := by decide +kernel
theorem dM_call_244 : decode bM_call 244 = .ok (.if_icmp .ne 18, 3) := by decide +kernel
theorem dM_call_247 : decode bM_call 247 = .ok (.aload_n 0, 1) := by decide +kernel
theorem dM_call_248 : decode bM_call 248 = .ok (.aload_n 0, 1) := by decide +kernel
theorem dM_call_249 : decode bM_call 249 = .ok (.getfield 34, 3) := by decide +kernel
theorem dM_call_252 : decode bM_call 252 = .ok (.iconst 4, 1) := by decide +kernel
theorem dM_call_253 : decode bM_call 253 = .ok (.iload 6, 2) := by decide +kernel
theorem dM_call_255 : decode bM_call 255 = .ok (.imul, 1) := by decide +kernel
theorem dM_call_256 : decode bM_call 256 = .ok (.iaload, 1) := by decide +kernel
theorem dM_call_257 : decode bM_call 257 = .ok (.iload 7, 2) := by decide +kernel
theorem dM_call_259 : decode bM_call 259 = .ok (.invokevirtual 178, 3) := by decide +kernel
theorem dM_call_262 : decode bM_call 262 = .ok (.return_, 1) := by decide +kernel
theorem kM_i_call : Cond.instanceMethod yM_call ∈ lw_g := lw_in (List.mem_append_right _ (List.mem_of_getElem? (i := 1317) (by decide +kernel))) rfl
theorem kM_s_call : Cond.selects RM yM_call yM_call ∈ lw_g := lw_in (List.mem_append_left _ (List.mem_map.mpr ⟨(yM_call, 40), by decide +kernel, rfl⟩)) rfl
-- partsOf: maxLocals 2, ret (some .int)
theorem kM_c_partsOf : Cond.code yM_partsOf bM_partsOf 2 (some .int) ∈ lw_g := lw_in (List.mem_append_right _ (List.mem_of_getElem? (i := 1314) (by decide +kernel))) rfl
theorem dM_partsOf_0 : decode bM_partsOf 0 = .ok (.aload_n 0, 1) := by decide +kernel
theorem dM_partsOf_1 : decode bM_partsOf 1 = .ok (.getfield 28, 3) := by decide +kernel
theorem dM_partsOf_4 : decode bM_partsOf 4 = .ok (.iload_n 1, 1) := by decide +kernel
theorem dM_partsOf_5 : decode bM_partsOf 5 = .ok (.iaload, 1) := by decide +kernel
theorem dM_partsOf_6 : decode bM_partsOf 6 = .ok (.ireturn, 1) := by decide +kernel
theorem kM_i_partsOf : Cond.instanceMethod yM_partsOf ∈ lw_g := lw_in (List.mem_append_right _ (List.mem_of_getElem? (i := 1313) (by decide +kernel))) rfl
theorem kM_s_partsOf : Cond.selects RM yM_partsOf yM_partsOf ∈ lw_g := lw_in (List.mem_append_left _ (List.mem_map.mpr ⟨(yM_partsOf, 40), by decide +kernel, rfl⟩)) rfl
-- apply: maxLocals 8, ret none
theorem kM_c_apply : Cond.code yM_apply bM_apply 8 none ∈ lw_g := lw_in (List.mem_append_right _ (List.mem_of_getElem? (i := 1310) (by decide +kernel))) rfl
theorem dM_apply_0 : decode bM_apply 0 = .ok (.iload_n 3, 1) := by decide +kernel
theorem dM_apply_1 : decode bM_apply 1 = .ok (.iconst 1, 1) := by decide +kernel
theorem dM_apply_2 : decode bM_apply 2 = .ok (.iadd, 1) := by decide +kernel
theorem dM_apply_3 : decode bM_apply 3 = .ok (.aload_n 0, 1) := by decide +kernel
theorem dM_apply_4 : decode bM_apply 4 = .ok (.iload_n 2, 1) := by decide +kernel
theorem dM_apply_5 : decode bM_apply 5 = .ok (.invokevirtual 197, 3) := by decide +kernel
theorem kM_m197 : Cond.methodLink RM 197 yM_partsOf ∈ lw_g := lw_in (List.mem_append_right _ (List.mem_of_getElem? (i := 1311) (by decide +kernel))) rfl
theorem dM_apply_8 : decode bM_apply 8 = .ok (.if_icmp .ge 25, 3) := by decide +kernel
theorem dM_apply_11 : decode bM_apply 11 = .ok (.aload_n 0, 1) := by decide +kernel
theorem dM_apply_12 : decode bM_apply 12 = .ok (.iload_n 2, 1) := by decide +kernel
theorem dM_apply_13 : decode bM_apply 13 = .ok (.iload_n 3, 1) := by decide +kernel
theorem dM_apply_14 : decode bM_apply 14 = .ok (.iconst 1, 1) := by decide +kernel
theorem dM_apply_15 : decode bM_apply 15 = .ok (.iadd, 1) := by decide +kernel
theorem dM_apply_16 : decode bM_apply 16 = .ok (.iload 4, 2) := by decide +kernel
theorem dM_apply_18 : decode bM_apply 18 = .ok (.iload 5, 2) := by decide +kernel
theorem dM_apply_20 : decode bM_apply 20 = .ok (.iload_n 1, 1) := by decide +kernel
theorem dM_apply_21 : decode bM_apply 21 = .ok (.aload_n 0, 1) := by decide +kernel
theorem dM_apply_22 : decode bM_apply 22 = .ok (.getfield 169, 3) := by decide +kernel
theorem dM_apply_25 : decode bM_apply 25 = .ok (.aload_n 0, 1) := by decide +kernel
theorem dM_apply_26 : decode bM_apply 26 = .ok (.getfield 172, 3) := by decide +kernel
theorem dM_apply_29 : decode bM_apply 29 = .ok (.invokevirtual 193, 3) := by decide +kernel
theorem dM_apply_32 : decode bM_apply 32 = .ok (.return_, 1) := by decide +kernel
theorem dM_apply_33 : decode bM_apply 33 = .ok (.aload_n 0, 1) := by decide +kernel
theorem dM_apply_34 : decode bM_apply 34 = .ok (.iload 5, 2) := by decide +kernel
theorem dM_apply_36 : decode bM_apply 36 = .ok (.putfield 163, 3) := by decide +kernel
theorem dM_apply_39 : decode bM_apply 39 = .ok (.iload_n 3, 1) := by decide +kernel
theorem dM_apply_40 : decode bM_apply 40 = .ok (.ifCond .ne 18, 3) := by decide +kernel
theorem dM_apply_43 : decode bM_apply 43 = .ok (.aload_n 0, 1) := by decide +kernel
theorem dM_apply_44 : decode bM_apply 44 = .ok (.aload_n 0, 1) := by decide +kernel
theorem dM_apply_45 : decode bM_apply 45 = .ok (.getfield 169, 3) := by decide +kernel
theorem dM_apply_48 : decode bM_apply 48 = .ok (.aload_n 0, 1) := by decide +kernel
theorem dM_apply_49 : decode bM_apply 49 = .ok (.getfield 172, 3) := by decide +kernel
theorem dM_apply_52 : decode bM_apply 52 = .ok (.iconst 0, 1) := by decide +kernel
theorem dM_apply_53 : decode bM_apply 53 = .ok (.iconst 0, 1) := by decide +kernel
theorem dM_apply_54 : decode bM_apply 54 = .ok (.invokevirtual 200, 3) := by decide +kernel
theorem kM_m200 : Cond.methodLink RM 200 yM_call ∈ lw_g := lw_in (List.mem_append_right _ (List.mem_of_getElem? (i := 1315) (by decide +kernel))) rfl
theorem dM_apply_57 : decode bM_apply 57 = .ok (.return_, 1) := by decide +kernel
theorem dM_apply_58 : decode bM_apply 58 = .ok (.iload_n 1, 1) := by decide +kernel
theorem dM_apply_59 : decode bM_apply 59 = .ok (.istore 6, 2) := by decide +kernel
theorem dM_apply_61 : decode bM_apply 61 = .ok (.iload_n 3, 1) := by decide +kernel
theorem dM_apply_62 : decode bM_apply 62 = .ok (.istore 7, 2) := by decide +kernel
theorem dM_apply_64 : decode bM_apply 64 = .ok (.iload 7, 2) := by decide +kernel
theorem dM_apply_66 : decode bM_apply 66 = .ok (.iconst 1, 1) := by decide +kernel
theorem dM_apply_67 : decode bM_apply 67 = .ok (.if_icmp .le 22, 3) := by decide +kernel
theorem dM_apply_70 : decode bM_apply 70 = .ok (.aload_n 0, 1) := by decide +kernel
theorem dM_apply_71 : decode bM_apply 71 = .ok (.getfield 68, 3) := by decide +kernel
theorem dM_apply_74 : decode bM_apply 74 = .ok (.iload 6, 2) := by decide +kernel
theorem dM_apply_76 : decode bM_apply 76 = .ok (.iaload, 1) := by decide +kernel
theorem dM_apply_77 : decode bM_apply 77 = .ok (.sipush 8191, 3) := by decide +kernel
theorem dM_apply_80 : decode bM_apply 80 = .ok (.iand, 1) := by decide +kernel
theorem dM_apply_81 : decode bM_apply 81 = .ok (.istore 6, 2) := by decide +kernel
theorem dM_apply_83 : decode bM_apply 83 = .ok (.iinc 7 (-1), 3) := by decide +kernel
theorem dM_apply_86 : decode bM_apply 86 = .ok (.goto (-22), 3) := by decide +kernel
theorem dM_apply_89 : decode bM_apply 89 = .ok (.aload_n 0, 1) := by decide +kernel
theorem dM_apply_90 : decode bM_apply 90 = .ok (.aload_n 0, 1) := by decide +kernel
theorem dM_apply_91 : decode bM_apply 91 = .ok (.getfield 68, 3) := by decide +kernel
theorem dM_apply_94 : decode bM_apply 94 = .ok (.iload 6, 2) := by decide +kernel
theorem dM_apply_96 : decode bM_apply 96 = .ok (.iaload, 1) := by decide +kernel
theorem dM_apply_97 : decode bM_apply 97 = .ok (.bipush 13, 2) := by decide +kernel
theorem dM_apply_99 : decode bM_apply 99 = .ok (.ishr, 1) := by decide +kernel
theorem dM_apply_100 : decode bM_apply 100 = .ok (.aload_n 0, 1) := by decide +kernel
theorem dM_apply_101 : decode bM_apply 101 = .ok (.getfield 65, 3) := by decide +kernel
theorem dM_apply_104 : decode bM_apply 104 = .ok (.iload 6, 2) := by decide +kernel
theorem dM_apply_106 : decode bM_apply 106 = .ok (.iaload, 1) := by decide +kernel
theorem dM_apply_107 : decode bM_apply 107 = .ok (.iload_n 3, 1) := by decide +kernel
theorem dM_apply_108 : decode bM_apply 108 = .ok (.iload_n 1, 1) := by decide +kernel
theorem dM_apply_109 : decode bM_apply 109 = .ok (.invokevirtual 200, 3) := by decide +kernel
theorem dM_apply_112 : decode bM_apply 112 = .ok (.return_, 1) := by decide +kernel
theorem kM_i_apply : Cond.instanceMethod yM_apply ∈ lw_g := lw_in (List.mem_append_right _ (List.mem_of_getElem? (i := 1309) (by decide +kernel))) rfl
theorem kM_s_apply : Cond.selects RM yM_apply yM_apply ∈ lw_g := lw_in (List.mem_append_left _ (List.mem_map.mpr ⟨(yM_apply, 40), by decide +kernel, rfl⟩)) rfl
-- goOn: maxLocals 9, ret none
theorem kM_c_goOn : Cond.code yM_goOn bM_goOn 9 none ∈ lw_g := lw_in (List.mem_append_right _ (List.mem_of_getElem? (i := 1306) (by decide +kernel))) rfl
theorem dM_goOn_0 : decode bM_goOn 0 = .ok (.aload_n 0, 1) := by decide +kernel
theorem dM_goOn_1 : decode bM_goOn 1 = .ok (.getfield 163, 3) := by decide +kernel
theorem dM_goOn_4 : decode bM_goOn 4 = .ok (.istore_n 1, 1) := by decide +kernel
theorem dM_goOn_5 : decode bM_goOn 5 = .ok (.aload_n 0, 1) := by decide +kernel
theorem dM_goOn_6 : decode bM_goOn 6 = .ok (.getfield 62, 3) := by decide +kernel
theorem dM_goOn_9 : decode bM_goOn 9 = .ok (.iload_n 1, 1) := by decide +kernel
theorem dM_goOn_10 : decode bM_goOn 10 = .ok (.iaload, 1) := by decide +kernel
theorem dM_goOn_11 : decode bM_goOn 11 = .ok (.bipush 127, 2) := by decide +kernel
theorem dM_goOn_13 : decode bM_goOn 13 = .ok (.iand, 1) := by decide +kernel
theorem dM_goOn_14 : decode bM_goOn 14 = .ok (.istore_n 2, 1) := by decide +kernel
theorem dM_goOn_15 : decode bM_goOn 15 = .ok (.aload_n 0, 1) := by decide +kernel
theorem dM_goOn_16 : decode bM_goOn 16 = .ok (.getfield 62, 3) := by decide +kernel
theorem dM_goOn_19 : decode bM_goOn 19 = .ok (.iload_n 1, 1) := by decide +kernel
theorem dM_goOn_20 : decode bM_goOn 20 = .ok (.iaload, 1) := by decide +kernel
theorem dM_goOn_21 : decode bM_goOn 21 = .ok (.bipush 7, 2) := by decide +kernel
theorem dM_goOn_23 : decode bM_goOn 23 = .ok (.ishr, 1) := by decide +kernel
theorem dM_goOn_24 : decode bM_goOn 24 = .ok (.bipush 7, 2) := by decide +kernel
theorem dM_goOn_26 : decode bM_goOn 26 = .ok (.iand, 1) := by decide +kernel
theorem dM_goOn_27 : decode bM_goOn 27 = .ok (.istore_n 3, 1) := by decide +kernel
theorem dM_goOn_28 : decode bM_goOn 28 = .ok (.aload_n 0, 1) := by decide +kernel
theorem dM_goOn_29 : decode bM_goOn 29 = .ok (.getfield 62, 3) := by decide +kernel
theorem dM_goOn_32 : decode bM_goOn 32 = .ok (.iload_n 1, 1) := by decide +kernel
theorem dM_goOn_33 : decode bM_goOn 33 = .ok (.iaload, 1) := by decide +kernel
theorem dM_goOn_34 : decode bM_goOn 34 = .ok (.bipush 10, 2) := by decide +kernel
theorem dM_goOn_36 : decode bM_goOn 36 = .ok (.ishr, 1) := by decide +kernel
theorem dM_goOn_37 : decode bM_goOn 37 = .ok (.sipush 255, 3) := by decide +kernel
theorem dM_goOn_40 : decode bM_goOn 40 = .ok (.iand, 1) := by decide +kernel
theorem dM_goOn_41 : decode bM_goOn 41 = .ok (.istore 4, 2) := by decide +kernel
theorem dM_goOn_43 : decode bM_goOn 43 = .ok (.aload_n 0, 1) := by decide +kernel
theorem dM_goOn_44 : decode bM_goOn 44 = .ok (.getfield 62, 3) := by decide +kernel
theorem dM_goOn_47 : decode bM_goOn 47 = .ok (.iload_n 1, 1) := by decide +kernel
theorem dM_goOn_48 : decode bM_goOn 48 = .ok (.iaload, 1) := by decide +kernel
theorem dM_goOn_49 : decode bM_goOn 49 = .ok (.bipush 18, 2) := by decide +kernel
theorem dM_goOn_51 : decode bM_goOn 51 = .ok (.ishr, 1) := by decide +kernel
theorem dM_goOn_52 : decode bM_goOn 52 = .ok (.istore 5, 2) := by decide +kernel
theorem dM_goOn_54 : decode bM_goOn 54 = .ok (.aload_n 0, 1) := by decide +kernel
theorem dM_goOn_55 : decode bM_goOn 55 = .ok (.getfield 25, 3) := by decide +kernel
theorem dM_goOn_58 : decode bM_goOn 58 = .ok (.iload_n 2, 1) := by decide +kernel
theorem dM_goOn_59 : decode bM_goOn 59 = .ok (.iaload, 1) := by decide +kernel
theorem dM_goOn_60 : decode bM_goOn 60 = .ok (.istore 6, 2) := by decide +kernel
theorem dM_goOn_62 : decode bM_goOn 62 = .ok (.aload_n 0, 1) := by decide +kernel
theorem dM_goOn_63 : decode bM_goOn 63 = .ok (.iload 5, 2) := by decide +kernel
theorem dM_goOn_65 : decode bM_goOn 65 = .ok (.putfield 163, 3) := by decide +kernel
theorem dM_goOn_68 : decode bM_goOn 68 = .ok (.iload 6, 2) := by decide +kernel
theorem dM_goOn_70 : decode bM_goOn 70 = .ok (.bipush 40, 2) := by decide +kernel
theorem dM_goOn_72 : decode bM_goOn 72 = .ok (.if_icmp .ne 17, 3) := by decide +kernel
theorem dM_goOn_75 : decode bM_goOn 75 = .ok (.aload_n 0, 1) := by decide +kernel
theorem dM_goOn_76 : decode bM_goOn 76 = .ok (.iload_n 1, 1) := by decide +kernel
theorem dM_goOn_77 : decode bM_goOn 77 = .ok (.iload_n 2, 1) := by decide +kernel
theorem dM_goOn_78 : decode bM_goOn 78 = .ok (.iload_n 3, 1) := by decide +kernel
theorem dM_goOn_79 : decode bM_goOn 79 = .ok (.iload 4, 2) := by decide +kernel
theorem dM_goOn_81 : decode bM_goOn 81 = .ok (.iload 5, 2) := by decide +kernel
theorem dM_goOn_83 : decode bM_goOn 83 = .ok (.invokevirtual 204, 3) := by decide +kernel
theorem kM_m204 : Cond.methodLink RM 204 yM_apply ∈ lw_g := lw_in (List.mem_append_right _ (List.mem_of_getElem? (i := 1307) (by decide +kernel))) rfl
theorem dM_goOn_86 : decode bM_goOn 86 = .ok (.goto 355, 3) := by decide +kernel
theorem dM_goOn_89 : decode bM_goOn 89 = .ok (.iload 6, 2) := by decide +kernel
theorem dM_goOn_91 : decode bM_goOn 91 = .ok (.bipush 94, 2) := by decide +kernel
theorem dM_goOn_93 : decode bM_goOn 93 = .ok (.if_icmp .ne 53, 3) := by decide +kernel
theorem dM_goOn_96 : decode bM_goOn 96 = .ok (.aload_n 0, 1) := by decide +kernel
theorem dM_goOn_97 : decode bM_goOn 97 = .ok (.getfield 169, 3) := by decide +kernel
theorem dM_goOn_100 : decode bM_goOn 100 = .ok (.istore 7, 2) := by decide +kernel
theorem dM_goOn_102 : decode bM_goOn 102 = .ok (.aload_n 0, 1) := by decide +kernel
theorem dM_goOn_103 : decode bM_goOn 103 = .ok (.getfield 172, 3) := by decide +kernel
theorem dM_goOn_106 : decode bM_goOn 106 = .ok (.istore 8, 2) := by decide +kernel
theorem dM_goOn_108 : decode bM_goOn 108 = .ok (.aload_n 0, 1) := by decide +kernel
theorem dM_goOn_109 : decode bM_goOn 109 = .ok (.dup, 1) := by decide +kernel
theorem dM_goOn_110 : decode bM_goOn 110 = .ok (.getfield 140, 3) := by decide +kernel
theorem dM_goOn_113 : decode bM_goOn 113 = .ok (.iconst 1, 1) := by decide +kernel
theorem dM_goOn_114 : decode bM_goOn 114 = .ok (.iadd, 1) := by decide +kernel
theorem dM_goOn_115 : decode bM_goOn 115 = .ok (.putfield 140, 3) := by decide +kernel
theorem dM_goOn_118 : decode bM_goOn 118 = .ok (.aload_n 0, 1) := by decide +kernel
theorem dM_goOn_119 : decode bM_goOn 119 = .ok (.iconst 5, 1) := by decide +kernel
theorem dM_goOn_120 : decode bM_goOn 120 = .ok (.aload_n 0, 1) := by decide +kernel
theorem dM_goOn_121 : decode bM_goOn 121 = .ok (.getfield 140, 3) := by decide +kernel
theorem dM_goOn_124 : decode bM_goOn 124 = .ok (.bipush 13, 2) := by decide +kernel
theorem dM_goOn_126 : decode bM_goOn 126 = .ok (.ishl, 1) := by decide +kernel
theorem dM_goOn_127 : decode bM_goOn 127 = .ok (.iload 5, 2) := by decide +kernel
theorem dM_goOn_129 : decode bM_goOn 129 = .ok (.ior, 1) := by decide +kernel
theorem dM_goOn_130 : decode bM_goOn 130 = .ok (.invokevirtual 182, 3) := by decide +kernel
theorem dM_goOn_133 : decode bM_goOn 133 = .ok (.aload_n 0, 1) := by decide +kernel
theorem dM_goOn_134 : decode bM_goOn 134 = .ok (.iload 7, 2) := by decide +kernel
theorem dM_goOn_136 : decode bM_goOn 136 = .ok (.iload 8, 2) := by decide +kernel
theorem dM_goOn_138 : decode bM_goOn 138 = .ok (.iconst 1, 1) := by decide +kernel
theorem dM_goOn_139 : decode bM_goOn 139 = .ok (.iconst 0, 1) := by decide +kernel
theorem dM_goOn_140 : decode bM_goOn 140 = .ok (.invokevirtual 200, 3) := by decide +kernel
theorem dM_goOn_143 : decode bM_goOn 143 = .ok (.goto 298, 3) := by decide +kernel
theorem dM_goOn_146 : decode bM_goOn 146 = .ok (.iload 6, 2) := by decide +kernel
theorem dM_goOn_148 : decode bM_goOn 148 = .ok (.bipush 65, 2) := by decide +kernel
theorem dM_goOn_150 : decode bM_goOn 150 = .ok (.if_icmp .eq 17, 3) := by decide +kernel
theorem dM_goOn_153 : decode bM_goOn 153 = .ok (.iload 6, 2) := by decide +kernel
theorem dM_goOn_155 : decode bM_goOn 155 = .ok (.bipush 68, 2) := by decide +kernel
theorem dM_goOn_157 : decode bM_goOn 157 = .ok (.if_icmp .eq 10, 3) := by decide +kernel
theorem dM_goOn_160 : decode bM_goOn 160 = .ok (.iload 6, 2) := by decide +kernel
theorem dM_goOn_162 : decode bM_goOn 162 = .ok (.bipush 80, 2) := by decide +kernel
theorem dM_goOn_164 : decode bM_goOn 164 = .ok (.if_icmp .ne 12, 3) := by decide +kernel
theorem dM_goOn_167 : decode bM_goOn 167 = .ok (.aload_n 0, 1) := by decide +kernel
theorem dM_goOn_168 : decode bM_goOn 168 = .ok (.iload 6, 2) := by decide +kernel
theorem dM_goOn_170 : decode bM_goOn 170 = .ok (.invokevirtual 208, 3) := by decide +kernel
theorem kM_m208 : Cond.methodLink RM 208 yM_unary ∈ lw_g := lw_in (List.mem_append_right _ (List.mem_of_getElem? (i := 1319) (by decide +kernel))) rfl
theorem dM_goOn_173 : decode bM_goOn 173 = .ok (.goto 268, 3) := by decide +kernel
theorem dM_goOn_176 : decode bM_goOn 176 = .ok (.iload 6, 2) := by decide +kernel
theorem dM_goOn_178 : decode bM_goOn 178 = .ok (.bipush 63, 2) := by decide +kernel
theorem dM_goOn_180 : decode bM_goOn 180 = .ok (.if_icmp .ne 41, 3) := by decide +kernel
theorem dM_goOn_183 : decode bM_goOn 183 = .ok (.aload_n 0, 1) := by decide +kernel
theorem dM_goOn_184 : decode bM_goOn 184 = .ok (.aload_n 0, 1) := by decide +kernel
theorem dM_goOn_185 : decode bM_goOn 185 = .ok (.getfield 34, 3) := by decide +kernel
theorem dM_goOn_188 : decode bM_goOn 188 = .ok (.iconst 4, 1) := by decide +kernel
theorem dM_goOn_189 : decode bM_goOn 189 = .ok (.iload_n 2, 1) := by decide +kernel
theorem dM_goOn_190 : decode bM_goOn 190 = .ok (.imul, 1) := by decide +kernel
theorem dM_goOn_191 : decode bM_goOn 191 = .ok (.aload_n 0, 1) := by decide +kernel
theorem dM_goOn_192 : decode bM_goOn 192 = .ok (.getfield 169, 3) := by decide +kernel
theorem dM_goOn_195 : decode bM_goOn 195 = .ok (.iconst 1, 1) := by decide +kernel
theorem dM_goOn_196 : decode bM_goOn 196 = .ok (.if_icmp .ne 14, 3) := by decide +kernel
theorem dM_goOn_199 : decode bM_goOn 199 = .ok (.aload_n 0, 1) := by decide +kernel
theorem dM_goOn_200 : decode bM_goOn 200 = .ok (.getfield 172, 3) := by decide +kernel
theorem dM_goOn_203 : decode bM_goOn 203 = .ok (.ifCond .ne 7, 3) := by decide +kernel
theorem dM_goOn_206 : decode bM_goOn 206 = .ok (.iconst 2, 1) := by decide +kernel
theorem dM_goOn_207 : decode bM_goOn 207 = .ok (.goto 4, 3) := by decide +kernel
theorem dM_goOn_210 : decode bM_goOn 210 = .ok (.iconst 1, 1) := by decide +kernel
theorem dM_goOn_211 : decode bM_goOn 211 = .ok (.iadd, 1) := by decide +kernel
theorem dM_goOn_212 : decode bM_goOn 212 = .ok (.iaload, 1) := by decide +kernel
theorem dM_goOn_213 : decode bM_goOn 213 = .ok (.iload 4, 2) := by decide +kernel
theorem dM_goOn_215 : decode bM_goOn 215 = .ok (.invokevirtual 178, 3) := by decide +kernel
theorem dM_goOn_218 : decode bM_goOn 218 = .ok (.goto 223, 3) := by decide +kernel
theorem dM_goOn_221 : decode bM_goOn 221 = .ok (.iload 6, 2) := by decide +kernel
theorem dM_goOn_223 : decode bM_goOn 223 = .ok (.bipush 38, 2) := by decide +kernel
theorem dM_goOn_225 : decode bM_goOn 225 = .ok (.if_icmp .ne 22, 3) := by decide +kernel
theorem dM_goOn_228 : decode bM_goOn 228 = .ok (.aload_n 0, 1) := by decide +kernel
theorem dM_goOn_229 : decode bM_goOn 229 = .ok (.aload_n 0, 1) := by decide +kernel
theorem dM_goOn_230 : decode bM_goOn 230 = .ok (.getfield 34, 3) := by decide +kernel
theorem dM_goOn_233 : decode bM_goOn 233 = .ok (.iconst 4, 1) := by decide +kernel
theorem dM_goOn_234 : decode bM_goOn 234 = .ok (.iload_n 2, 1) := by decide +kernel
theorem dM_goOn_235 : decode bM_goOn 235 = .ok (.imul, 1) := by decide +kernel
theorem dM_goOn_236 : decode bM_goOn 236 = .ok (.iconst 1, 1) := by decide +kernel
theorem dM_goOn_237 : decode bM_goOn 237 = .ok (.iadd, 1) := by decide +kernel
theorem dM_goOn_238 : decode bM_goOn 238 = .ok (.iaload, 1) := by decide +kernel
theorem dM_goOn_239 : decode bM_goOn 239 = .ok (.iload 4, 2) := by decide +kernel
theorem dM_goOn_241 : decode bM_goOn 241 = .ok (.invokevirtual 178, 3) := by decide +kernel
theorem dM_goOn_244 : decode bM_goOn 244 = .ok (.goto 197, 3) := by decide +kernel
theorem dM_goOn_247 : decode bM_goOn 247 = .ok (.iload 6, 2) := by decide +kernel
theorem dM_goOn_249 : decode bM_goOn 249 = .ok (.bipush 33, 2) := by decide +kernel
theorem dM_goOn_251 : decode bM_goOn 251 = .ok (.if_icmp .ne 42, 3) := by decide +kernel
theorem dM_goOn_254 : decode bM_goOn 254 = .ok (.aload_n 0, 1) := by decide +kernel
theorem dM_goOn_255 : decode bM_goOn 255 = .ok (.aload_n 0, 1) := by decide +kernel
theorem dM_goOn_256 : decode bM_goOn 256 = .ok (.getfield 28, 3) := by decide +kernel
theorem dM_goOn_259 : decode bM_goOn 259 = .ok (.iload_n 2, 1) := by decide +kernel
theorem dM_goOn_260 : decode bM_goOn 260 = .ok (.iaload, 1) := by decide +kernel
theorem dM_goOn_261 : decode bM_goOn 261 = .ok (.iload 4, 2) := by decide +kernel
theorem dM_goOn_263 : decode bM_goOn 263 = .ok (.invokevirtual 185, 3) := by decide +kernel
theorem dM_goOn_266 : decode bM_goOn 266 = .ok (.istore 7, 2) := by decide +kernel
theorem dM_goOn_268 : decode bM_goOn 268 = .ok (.aload_n 0, 1) := by decide +kernel
theorem dM_goOn_269 : decode bM_goOn 269 = .ok (.getfield 44, 3) := by decide +kernel
theorem dM_goOn_272 : decode bM_goOn 272 = .ok (.iload 7, 2) := by decide +kernel
theorem dM_goOn_274 : decode bM_goOn 274 = .ok (.aload_n 0, 1) := by decide +kernel
theorem dM_goOn_275 : decode bM_goOn 275 = .ok (.getfield 169, 3) := by decide +kernel
theorem dM_goOn_278 : decode bM_goOn 278 = .ok (.iastore, 1) := by decide +kernel
theorem dM_goOn_279 : decode bM_goOn 279 = .ok (.aload_n 0, 1) := by decide +kernel
theorem dM_goOn_280 : decode bM_goOn 280 = .ok (.getfield 47, 3) := by decide +kernel
theorem dM_goOn_283 : decode bM_goOn 283 = .ok (.iload 7, 2) := by decide +kernel
theorem dM_goOn_285 : decode bM_goOn 285 = .ok (.aload_n 0, 1) := by decide +kernel
theorem dM_goOn_286 : decode bM_goOn 286 = .ok (.getfield 172, 3) := by decide +kernel
theorem dM_goOn_289 : decode bM_goOn 289 = .ok (.iastore, 1) := by decide +kernel
theorem dM_goOn_290 : decode bM_goOn 290 = .ok (.goto 151, 3) := by decide +kernel
theorem dM_goOn_293 : decode bM_goOn 293 = .ok (.iload 6, 2) := by decide +kernel
theorem dM_goOn_295 : decode bM_goOn 295 = .ok (.bipush 64, 2) := by decide +kernel
theorem dM_goOn_297 : decode bM_goOn 297 = .ok (.if_icmp .ne 49, 3) := by decide +kernel
theorem dM_goOn_300 : decode bM_goOn 300 = .ok (.aload_n 0, 1) := by decide +kernel
theorem dM_goOn_301 : decode bM_goOn 301 = .ok (.aload_n 0, 1) := by decide +kernel
theorem dM_goOn_302 : decode bM_goOn 302 = .ok (.getfield 28, 3) := by decide +kernel
theorem dM_goOn_305 : decode bM_goOn 305 = .ok (.iload_n 2, 1) := by decide +kernel
theorem dM_goOn_306 : decode bM_goOn 306 = .ok (.iaload, 1) := by decide +kernel
theorem dM_goOn_307 : decode bM_goOn 307 = .ok (.iload 4, 2) := by decide +kernel
theorem dM_goOn_309 : decode bM_goOn 309 = .ok (.aload_n 0, 1) := by decide +kernel
theorem dM_goOn_310 : decode bM_goOn 310 = .ok (.getfield 169, 3) := by decide +kernel
theorem dM_goOn_313 : decode bM_goOn 313 = .ok (.aload_n 0, 1) := by decide +kernel
theorem dM_goOn_314 : decode bM_goOn 314 = .ok (.getfield 172, 3) := by decide +kernel
theorem dM_goOn_317 : decode bM_goOn 317 = .ok (.invokevirtual 189, 3) := by decide +kernel
theorem dM_goOn_320 : decode bM_goOn 320 = .ok (.istore 7, 2) := by decide +kernel
theorem dM_goOn_322 : decode bM_goOn 322 = .ok (.iload 7, 2) := by decide +kernel
theorem dM_goOn_324 : decode bM_goOn 324 = .ok (.ifCond .le 19, 3) := by decide +kernel
theorem dM_goOn_327 : decode bM_goOn 327 = .ok (.aload_n 0, 1) := by decide +kernel
theorem dM_goOn_328 : decode bM_goOn 328 = .ok (.aload_n 0, 1) := by decide +kernel
theorem dM_goOn_329 : decode bM_goOn 329 = .ok (.getfield 34, 3) := by decide +kernel
theorem dM_goOn_332 : decode bM_goOn 332 = .ok (.iconst 4, 1) := by decide +kernel
theorem dM_goOn_333 : decode bM_goOn 333 = .ok (.iload_n 2, 1) := by decide +kernel
theorem dM_goOn_334 : decode bM_goOn 334 = .ok (.imul, 1) := by decide +kernel
theorem dM_goOn_335 : decode bM_goOn 335 = .ok (.iconst 1, 1) := by decide +kernel
theorem dM_goOn_336 : decode bM_goOn 336 = .ok (.iadd, 1) := by decide +kernel
theorem dM_goOn_337 : decode bM_goOn 337 = .ok (.iaload, 1) := by decide +kernel
theorem dM_goOn_338 : decode bM_goOn 338 = .ok (.iload 7, 2) := by decide +kernel
theorem dM_goOn_340 : decode bM_goOn 340 = .ok (.invokevirtual 178, 3) := by decide +kernel
theorem dM_goOn_343 : decode bM_goOn 343 = .ok (.goto 98, 3) := by decide +kernel
theorem dM_goOn_346 : decode bM_goOn 346 = .ok (.iload 6, 2) := by decide +kernel
theorem dM_goOn_348 : decode bM_goOn 348 = .ok (.bipush 37, 2) := by decide +kernel
theorem dM_goOn_350 : decode bM_goOn 350 = .ok (.if_icmp .ne 44, 3) := by decide +kernel
theorem dM_goOn_353 : decode bM_goOn 353 = .ok (.aload_n 0, 1) := by decide +kernel
theorem dM_goOn_354 : decode bM_goOn 354 = .ok (.getfield 44, 3) := by decide +kernel
theorem dM_goOn_357 : decode bM_goOn 357 = .ok (.iload 4, 2) := by decide +kernel
theorem dM_goOn_359 : decode bM_goOn 359 = .ok (.aload_n 0, 1) := by decide +kernel
theorem dM_goOn_360 : decode bM_goOn 360 = .ok (.getfield 169, 3) := by decide +kernel
theorem dM_goOn_363 : decode bM_goOn 363 = .ok (.iastore, 1) := by decide +kernel
theorem dM_goOn_364 : decode bM_goOn 364 = .ok (.aload_n 0, 1) := by decide +kernel
theorem dM_goOn_365 : decode bM_goOn 365 = .ok (.getfield 47, 3) := by decide +kernel
theorem dM_goOn_368 : decode bM_goOn 368 = .ok (.iload 4, 2) := by decide +kernel
theorem dM_goOn_370 : decode bM_goOn 370 = .ok (.aload_n 0, 1) := by decide +kernel
theorem dM_goOn_371 : decode bM_goOn 371 = .ok (.getfield 172, 3) := by decide +kernel
theorem dM_goOn_374 : decode bM_goOn 374 = .ok (.iastore, 1) := by decide +kernel
theorem dM_goOn_375 : decode bM_goOn 375 = .ok (.aload_n 0, 1) := by decide +kernel
theorem dM_goOn_376 : decode bM_goOn 376 = .ok (.aload_n 0, 1) := by decide +kernel
theorem dM_goOn_377 : decode bM_goOn 377 = .ok (.getfield 34, 3) := by decide +kernel
theorem dM_goOn_380 : decode bM_goOn 380 = .ok (.iconst 4, 1) := by decide +kernel
theorem dM_goOn_381 : decode bM_goOn 381 = .ok (.iload_n 2, 1) := by decide +kernel
theorem dM_goOn_382 : decode bM_goOn 382 = .ok (.imul, 1) := by decide +kernel
theorem dM_goOn_383 : decode bM_goOn 383 = .ok (.iconst 1, 1) := by decide +kernel
theorem dM_goOn_384 : decode bM_goOn 384 = .ok (.iadd, 1) := by decide +kernel
theorem dM_goOn_385 : decode bM_goOn 385 = .ok (.iaload, 1) := by decide +kernel
theorem dM_goOn_386 : decode bM_goOn 386 = .ok (.iload 4, 2) := by decide +kernel
theorem dM_goOn_388 : decode bM_goOn 388 = .ok (.invokevirtual 178, 3) := by decide +kernel
theorem dM_goOn_391 : decode bM_goOn 391 = .ok (.goto 50, 3) := by decide +kernel
theorem dM_goOn_394 : decode bM_goOn 394 = .ok (.iload_n 3, 1) := by decide +kernel
theorem dM_goOn_395 : decode bM_goOn 395 = .ok (.ifCond .ne 25, 3) := by decide +kernel
theorem dM_goOn_398 : decode bM_goOn 398 = .ok (.aload_n 0, 1) := by decide +kernel
theorem dM_goOn_399 : decode bM_goOn 399 = .ok (.iload_n 2, 1) := by decide +kernel
theorem dM_goOn_400 : decode bM_goOn 400 = .ok (.iconst 1, 1) := by decide +kernel
theorem dM_goOn_401 : decode bM_goOn 401 = .ok (.iload 4, 2) := by decide +kernel
theorem dM_goOn_403 : decode bM_goOn 403 = .ok (.iload 5, 2) := by decide +kernel
theorem dM_goOn_405 : decode bM_goOn 405 = .ok (.iload_n 1, 1) := by decide +kernel
theorem dM_goOn_406 : decode bM_goOn 406 = .ok (.aload_n 0, 1) := by decide +kernel
theorem dM_goOn_407 : decode bM_goOn 407 = .ok (.getfield 169, 3) := by decide +kernel
theorem dM_goOn_410 : decode bM_goOn 410 = .ok (.aload_n 0, 1) := by decide +kernel
theorem dM_goOn_411 : decode bM_goOn 411 = .ok (.getfield 172, 3) := by decide +kernel
theorem dM_goOn_414 : decode bM_goOn 414 = .ok (.invokevirtual 193, 3) := by decide +kernel
theorem dM_goOn_417 : decode bM_goOn 417 = .ok (.goto 24, 3) := by decide +kernel
theorem dM_goOn_420 : decode bM_goOn 420 = .ok (.aload_n 0, 1) := by decide +kernel
theorem dM_goOn_421 : decode bM_goOn 421 = .ok (.iload 6, 2) := by decide +kernel
theorem dM_goOn_423 : decode bM_goOn 423 = .ok (.aload_n 0, 1) := by decide +kernel
theorem dM_goOn_424 : decode bM_goOn 424 = .ok (.getfield 68, 3) := by decide +kernel
theorem dM_goOn_427 : decode bM_goOn 427 = .ok (.iload_n 1, 1) := by decide +kernel
theorem dM_goOn_428 : decode bM_goOn 428 = .ok (.iaload, 1) := by decide +kernel
theorem dM_goOn_429 : decode bM_goOn 429 = .ok (.bipush 13, 2) := by decide +kernel
theorem dM_goOn_431 : decode bM_goOn 431 = .ok (.ishr, 1) := by decide +kernel
theorem dM_goOn_432 : decode bM_goOn 432 = .ok (.aload_n 0, 1) := by decide +kernel
theorem dM_goOn_433 : decode bM_goOn 433 = .ok (.getfield 65, 3) := by decide +kernel
theorem dM_goOn_436 : decode bM_goOn 436 = .ok (.iload_n 1, 1) := by decide +kernel
theorem dM_goOn_437 : decode bM_goOn 437 = .ok (.iaload, 1) := by decide +kernel
theorem dM_goOn_438 : decode bM_goOn 438 = .ok (.invokevirtual 211, 3) := by decide +kernel
theorem kM_m211 : Cond.methodLink RM 211 yM_binary ∈ lw_g := lw_in (List.mem_append_right _ (List.mem_of_getElem? (i := 1323) (by decide +kernel))) rfl
theorem dM_goOn_441 : decode bM_goOn 441 = .ok (.return_, 1) := by decide +kernel
theorem kM_i_goOn : Cond.instanceMethod yM_goOn ∈ lw_g := lw_in (List.mem_append_right _ (List.mem_of_getElem? (i := 1305) (by decide +kernel))) rfl
theorem kM_s_goOn : Cond.selects RM yM_goOn yM_goOn ∈ lw_g := lw_in (List.mem_append_left _ (List.mem_map.mpr ⟨(yM_goOn, 40), by decide +kernel, rfl⟩)) rfl
-- one: maxLocals 1, ret none
theorem kM_c_one : Cond.code yM_one bM_one 1 none ∈ lw_g := lw_in (List.mem_append_right _ (List.mem_of_getElem? (i := 1270) (by decide +kernel))) rfl
theorem dM_one_0 : decode bM_one 0 = .ok (.aload_n 0, 1) := by decide +kernel
theorem dM_one_1 : decode bM_one 1 = .ok (.dup, 1) := by decide +kernel
theorem dM_one_2 : decode bM_one 2 = .ok (.getfield 143, 3) := by decide +kernel
theorem dM_one_5 : decode bM_one 5 = .ok (.iconst 1, 1) := by decide +kernel
theorem dM_one_6 : decode bM_one 6 = .ok (.iadd, 1) := by decide +kernel
theorem dM_one_7 : decode bM_one 7 = .ok (.putfield 143, 3) := by decide +kernel
theorem dM_one_10 : decode bM_one 10 = .ok (.aload_n 0, 1) := by decide +kernel
theorem dM_one_11 : decode bM_one 11 = .ok (.invokevirtual 215, 3) := by decide +kernel
theorem kM_m215 : Cond.methodLink RM 215 yM_beginOne ∈ lw_g := lw_in (List.mem_append_right _ (List.mem_of_getElem? (i := 1271) (by decide +kernel))) rfl
theorem dM_one_14 : decode bM_one 14 = .ok (.aload_n 0, 1) := by decide +kernel
theorem dM_one_15 : decode bM_one 15 = .ok (.getfield 115, 3) := by decide +kernel
theorem dM_one_18 : decode bM_one 18 = .ok (.iconst 1, 1) := by decide +kernel
theorem dM_one_19 : decode bM_one 19 = .ok (.if_icmp .ne 32, 3) := by decide +kernel
theorem dM_one_22 : decode bM_one 22 = .ok (.aload_n 0, 1) := by decide +kernel
theorem dM_one_23 : decode bM_one 23 = .ok (.getfield 149, 3) := by decide +kernel
theorem dM_one_26 : decode bM_one 26 = .ok (.ifCond .ne 25, 3) := by decide +kernel
theorem dM_one_29 : decode bM_one 29 = .ok (.aload_n 0, 1) := by decide +kernel
theorem dM_one_30 : decode bM_one 30 = .ok (.getfield 163, 3) := by decide +kernel
theorem dM_one_33 : decode bM_one 33 = .ok (.ifCond .ne 11, 3) := by decide +kernel
theorem dM_one_36 : decode bM_one 36 = .ok (.aload_n 0, 1) := by decide +kernel
theorem dM_one_37 : decode bM_one 37 = .ok (.iconst 2, 1) := by decide +kernel
theorem dM_one_38 : decode bM_one 38 = .ok (.putfield 115, 3) := by decide +kernel
theorem dM_one_41 : decode bM_one 41 = .ok (.goto (-27), 3) := by decide +kernel
theorem dM_one_44 : decode bM_one 44 = .ok (.aload_n 0, 1) := by decide +kernel
theorem dM_one_45 : decode bM_one 45 = .ok (.invokevirtual 218, 3) := by decide +kernel
theorem kM_m218 : Cond.methodLink RM 218 yM_goOn ∈ lw_g := lw_in (List.mem_append_right _ (List.mem_of_getElem? (i := 1303) (by decide +kernel))) rfl
theorem dM_one_48 : decode bM_one 48 = .ok (.goto (-34), 3) := by decide +kernel
theorem dM_one_51 : decode bM_one 51 = .ok (.return_, 1) := by decide +kernel
theorem kM_i_one : Cond.instanceMethod yM_one ∈ lw_g := lw_in (List.mem_append_right _ (List.mem_of_getElem? (i := 1269) (by decide +kernel))) rfl
theorem kM_s_one : Cond.selects RM yM_one yM_one ∈ lw_g := lw_in (List.mem_append_left _ (List.mem_map.mpr ⟨(yM_one, 40), by decide +kernel, rfl⟩)) rfl
-- run: maxLocals 4, ret (some .int)
theorem kM_c_run : Cond.code yM_run bM_run 4 (some .int) ∈ lw_g := lw_in (List.mem_append_right _ (List.mem_of_getElem? (i := 1262) (by decide +kernel))) rfl
theorem dM_run_0 : decode bM_run 0 = .ok (.aload_n 0, 1) := by decide +kernel
theorem dM_run_1 : decode bM_run 1 = .ok (.iconst 0, 1) := by decide +kernel
theorem dM_run_2 : decode bM_run 2 = .ok (.putfield 77, 3) := by decide +kernel
theorem dM_run_5 : decode bM_run 5 = .ok (.iload_n 1, 1) := by decide +kernel
theorem dM_run_6 : decode bM_run 6 = .ok (.iconst 1, 1) := by decide +kernel
theorem dM_run_7 : decode bM_run 7 = .ok (.if_icmp .lt 9, 3) := by decide +kernel
theorem dM_run_10 : decode bM_run 10 = .ok (.iload_n 1, 1) := by decide +kernel
theorem dM_run_11 : decode bM_run 11 = .ok (.bipush 10, 2) := by decide +kernel
theorem dM_run_13 : decode bM_run 13 = .ok (.if_icmp .le 9, 3) := by decide +kernel
theorem dM_run_16 : decode bM_run 16 = .ok (.aload_n 0, 1) := by decide +kernel
theorem dM_run_17 : decode bM_run 17 = .ok (.iconst 2, 1) := by decide +kernel
theorem dM_run_18 : decode bM_run 18 = .ok (.invokevirtual 118, 3) := by decide +kernel
theorem dM_run_21 : decode bM_run 21 = .ok (.ireturn, 1) := by decide +kernel
theorem dM_run_22 : decode bM_run 22 = .ok (.aload_n 0, 1) := by decide +kernel
theorem dM_run_23 : decode bM_run 23 = .ok (.getfield 115, 3) := by decide +kernel
theorem dM_run_26 : decode bM_run 26 = .ok (.iconst 1, 1) := by decide +kernel
theorem dM_run_27 : decode bM_run 27 = .ok (.if_icmp .eq 9, 3) := by decide +kernel
theorem dM_run_30 : decode bM_run 30 = .ok (.aload_n 0, 1) := by decide +kernel
theorem dM_run_31 : decode bM_run 31 = .ok (.iconst 1, 1) := by decide +kernel
theorem dM_run_32 : decode bM_run 32 = .ok (.invokevirtual 118, 3) := by decide +kernel
theorem dM_run_35 : decode bM_run 35 = .ok (.ireturn, 1) := by decide +kernel
theorem dM_run_36 : decode bM_run 36 = .ok (.aload_n 0, 1) := by decide +kernel
theorem dM_run_37 : decode bM_run 37 = .ok (.aload_n 0, 1) := by decide +kernel
theorem dM_run_38 : decode bM_run 38 = .ok (.getfield 121, 3) := by decide +kernel
theorem dM_run_41 : decode bM_run 41 = .ok (.invokevirtual 124, 3) := by decide +kernel
theorem dM_run_44 : decode bM_run 44 = .ok (.istore_n 2, 1) := by decide +kernel
theorem dM_run_45 : decode bM_run 45 = .ok (.aload_n 0, 1) := by decide +kernel
theorem dM_run_46 : decode bM_run 46 = .ok (.invokevirtual 221, 3) := by decide +kernel
theorem kM_m221 : Cond.methodLink RM 221 yM_countParts ∈ lw_g := lw_in (List.mem_append_right _ (List.mem_of_getElem? (i := 1263) (by decide +kernel))) rfl
theorem dM_run_49 : decode bM_run 49 = .ok (.iconst 0, 1) := by decide +kernel
theorem dM_run_50 : decode bM_run 50 = .ok (.istore_n 3, 1) := by decide +kernel
theorem dM_run_51 : decode bM_run 51 = .ok (.iload_n 3, 1) := by decide +kernel
theorem dM_run_52 : decode bM_run 52 = .ok (.iload_n 1, 1) := by decide +kernel
theorem dM_run_53 : decode bM_run 53 = .ok (.if_icmp .ge 21, 3) := by decide +kernel
theorem dM_run_56 : decode bM_run 56 = .ok (.aload_n 0, 1) := by decide +kernel
theorem dM_run_57 : decode bM_run 57 = .ok (.getfield 115, 3) := by decide +kernel
theorem dM_run_60 : decode bM_run 60 = .ok (.iconst 1, 1) := by decide +kernel
theorem dM_run_61 : decode bM_run 61 = .ok (.if_icmp .ne 13, 3) := by decide +kernel
theorem dM_run_64 : decode bM_run 64 = .ok (.aload_n 0, 1) := by decide +kernel
theorem dM_run_65 : decode bM_run 65 = .ok (.invokevirtual 224, 3) := by decide +kernel
theorem kM_m224 : Cond.methodLink RM 224 yM_one ∈ lw_g := lw_in (List.mem_append_right _ (List.mem_of_getElem? (i := 1267) (by decide +kernel))) rfl
theorem dM_run_68 : decode bM_run 68 = .ok (.iinc 3 1, 3) := by decide +kernel
theorem dM_run_71 : decode bM_run 71 = .ok (.goto (-20), 3) := by decide +kernel
theorem dM_run_74 : decode bM_run 74 = .ok (.aload_n 0, 1) := by decide +kernel
theorem dM_run_75 : decode bM_run 75 = .ok (.getfield 115, 3) := by decide +kernel
theorem dM_run_78 : decode bM_run 78 = .ok (.iconst 3, 1) := by decide +kernel
theorem dM_run_79 : decode bM_run 79 = .ok (.if_icmp .eq 5, 3) := by decide +kernel
theorem dM_run_82 : decode bM_run 82 = .ok (.iload_n 3, 1) := by decide +kernel
theorem dM_run_83 : decode bM_run 83 = .ok (.ireturn, 1) := by decide +kernel
theorem dM_run_84 : decode bM_run 84 = .ok (.aload_n 0, 1) := by decide +kernel
theorem dM_run_85 : decode bM_run 85 = .ok (.aload_n 0, 1) := by decide +kernel
theorem dM_run_86 : decode bM_run 86 = .ok (.getfield 146, 3) := by decide +kernel
theorem dM_run_89 : decode bM_run 89 = .ok (.iconst 1, 1) := by decide +kernel
theorem dM_run_90 : decode bM_run 90 = .ok (.if_icmp .ne 7, 3) := by decide +kernel
theorem dM_run_93 : decode bM_run 93 = .ok (.iconst 1, 1) := by decide +kernel
theorem dM_run_94 : decode bM_run 94 = .ok (.goto 28, 3) := by decide +kernel
theorem dM_run_97 : decode bM_run 97 = .ok (.aload_n 0, 1) := by decide +kernel
theorem dM_run_98 : decode bM_run 98 = .ok (.getfield 146, 3) := by decide +kernel
theorem dM_run_101 : decode bM_run 101 = .ok (.iconst 2, 1) := by decide +kernel
theorem dM_run_102 : decode bM_run 102 = .ok (.if_icmp .ne 7, 3) := by decide +kernel
theorem dM_run_105 : decode bM_run 105 = .ok (.iconst 4, 1) := by decide +kernel
theorem dM_run_106 : decode bM_run 106 = .ok (.goto 16, 3) := by decide +kernel
theorem dM_run_109 : decode bM_run 109 = .ok (.aload_n 0, 1) := by decide +kernel
theorem dM_run_110 : decode bM_run 110 = .ok (.getfield 146, 3) := by decide +kernel
theorem dM_run_113 : decode bM_run 113 = .ok (.iconst 3, 1) := by decide +kernel
theorem dM_run_114 : decode bM_run 114 = .ok (.if_icmp .ne 7, 3) := by decide +kernel
theorem dM_run_117 : decode bM_run 117 = .ok (.iconst 3, 1) := by decide +kernel
theorem dM_run_118 : decode bM_run 118 = .ok (.goto 4, 3) := by decide +kernel
theorem dM_run_121 : decode bM_run 121 = .ok (.iconst 2, 1) := by decide +kernel
theorem dM_run_122 : decode bM_run 122 = .ok (.invokevirtual 118, 3) := by decide +kernel
theorem dM_run_125 : decode bM_run 125 = .ok (.ireturn, 1) := by decide +kernel
theorem kM_i_run : Cond.instanceMethod yM_run ∈ lw_g := lw_in (List.mem_append_right _ (List.mem_of_getElem? (i := 1260) (by decide +kernel))) rfl
theorem kM_s_run : Cond.selects RM yM_run yM_run ∈ lw_g := lw_in (List.mem_append_right _ (List.mem_of_getElem? (i := 1261) (by decide +kernel))) rfl
-- countParts: maxLocals 6, ret none
theorem kM_c_countParts : Cond.code yM_countParts bM_countParts 6 none ∈ lw_g := lw_in (List.mem_append_right _ (List.mem_of_getElem? (i := 1266) (by decide +kernel))) rfl
theorem dM_countParts_0 : decode bM_countParts 0 = .ok (.aload_n 0, 1) := by decide +kernel
theorem dM_countParts_1 : decode bM_countParts 1 = .ok (.iconst 0, 1) := by decide +kernel
theorem dM_countParts_2 : decode bM_countParts 2 = .ok (.putfield 84, 3) := by decide +kernel
theorem dM_countParts_5 : decode bM_countParts 5 = .ok (.aload_n 0, 1) := by decide +kernel
theorem dM_countParts_6 : decode bM_countParts 6 = .ok (.iconst 0, 1) := by decide +kernel
theorem dM_countParts_7 : decode bM_countParts 7 = .ok (.putfield 87, 3) := by decide +kernel
theorem dM_countParts_10 : decode bM_countParts 10 = .ok (.aload_n 0, 1) := by decide +kernel
theorem dM_countParts_11 : decode bM_countParts 11 = .ok (.iconst 0, 1) := by decide +kernel
theorem dM_countParts_12 : decode bM_countParts 12 = .ok (.putfield 81, 3) := by decide +kernel
theorem dM_countParts_15 : decode bM_countParts 15 = .ok (.iconst 0, 1) := by decide +kernel
theorem dM_countParts_16 : decode bM_countParts 16 = .ok (.istore_n 1, 1) := by decide +kernel
theorem dM_countParts_17 : decode bM_countParts 17 = .ok (.iload_n 1, 1) := by decide +kernel
theorem dM_countParts_18 : decode bM_countParts 18 = .ok (.aload_n 0, 1) := by decide +kernel
theorem dM_countParts_19 : decode bM_countParts 19 = .ok (.getfield 121, 3) := by decide +kernel
theorem dM_countParts_22 : decode bM_countParts 22 = .ok (.if_icmp .ge 88, 3) := by decide +kernel
theorem dM_countParts_25 : decode bM_countParts 25 = .ok (.aload_n 0, 1) := by decide +kernel
theorem dM_countParts_26 : decode bM_countParts 26 = .ok (.getfield 84, 3) := by decide +kernel
theorem dM_countParts_29 : decode bM_countParts 29 = .ok (.istore_n 2, 1) := by decide +kernel
theorem dM_countParts_30 : decode bM_countParts 30 = .ok (.iload_n 2, 1) := by decide +kernel
theorem dM_countParts_31 : decode bM_countParts 31 = .ok (.ifCond .le 14, 3) := by decide +kernel
theorem dM_countParts_34 : decode bM_countParts 34 = .ok (.aload_n 0, 1) := by decide +kernel
theorem dM_countParts_35 : decode bM_countParts 35 = .ok (.getfield 13, 3) := by decide +kernel
theorem dM_countParts_38 : decode bM_countParts 38 = .ok (.iload_n 2, 1) := by decide +kernel
theorem dM_countParts_39 : decode bM_countParts 39 = .ok (.iconst 1, 1) := by decide +kernel
theorem dM_countParts_40 : decode bM_countParts 40 = .ok (.isub, 1) := by decide +kernel
theorem dM_countParts_41 : decode bM_countParts 41 = .ok (.iaload, 1) := by decide +kernel
theorem dM_countParts_42 : decode bM_countParts 42 = .ok (.goto 4, 3) := by decide +kernel
theorem dM_countParts_45 : decode bM_countParts 45 = .ok (.iconst 0, 1) := by decide +kernel
theorem dM_countParts_46 : decode bM_countParts 46 = .ok (.istore_n 3, 1) := by decide +kernel
theorem dM_countParts_47 : decode bM_countParts 47 = .ok (.iload_n 2, 1) := by decide +kernel
theorem dM_countParts_48 : decode bM_countParts 48 = .ok (.ifCond .le 14, 3) := by decide +kernel
theorem dM_countParts_51 : decode bM_countParts 51 = .ok (.aload_n 0, 1) := by decide +kernel
theorem dM_countParts_52 : decode bM_countParts 52 = .ok (.getfield 16, 3) := by decide +kernel
theorem dM_countParts_55 : decode bM_countParts 55 = .ok (.iload_n 2, 1) := by decide +kernel
theorem dM_countParts_56 : decode bM_countParts 56 = .ok (.iconst 1, 1) := by decide +kernel
theorem dM_countParts_57 : decode bM_countParts 57 = .ok (.isub, 1) := by decide +kernel
theorem dM_countParts_58 : decode bM_countParts 58 = .ok (.iaload, 1) := by decide +kernel
theorem dM_countParts_59 : decode bM_countParts 59 = .ok (.goto 4, 3) := by decide +kernel
theorem dM_countParts_62 : decode bM_countParts 62 = .ok (.iconst 0, 1) := by decide +kernel
theorem dM_countParts_63 : decode bM_countParts 63 = .ok (.istore 4, 2) := by decide +kernel
theorem dM_countParts_65 : decode bM_countParts 65 = .ok (.aload_n 0, 1) := by decide +kernel
theorem dM_countParts_66 : decode bM_countParts 66 = .ok (.aload_n 0, 1) := by decide +kernel
theorem dM_countParts_67 : decode bM_countParts 67 = .ok (.getfield 7, 3) := by decide +kernel
theorem dM_countParts_70 : decode bM_countParts 70 = .ok (.iload_n 1, 1) := by decide +kernel
theorem dM_countParts_71 : decode bM_countParts 71 = .ok (.iaload, 1) := by decide +kernel
theorem dM_countParts_72 : decode bM_countParts 72 = .ok (.invokevirtual 112, 3) := by decide +kernel
theorem dM_countParts_75 : decode bM_countParts 75 = .ok (.istore 5, 2) := by decide +kernel
theorem dM_countParts_77 : decode bM_countParts 77 = .ok (.aload_n 0, 1) := by decide +kernel
theorem dM_countParts_78 : decode bM_countParts 78 = .ok (.getfield 84, 3) := by decide +kernel
theorem dM_countParts_81 : decode bM_countParts 81 = .ok (.iload_n 2, 1) := by decide +kernel
theorem dM_countParts_82 : decode bM_countParts 82 = .ok (.if_icmp .ge 22, 3) := by decide +kernel
theorem dM_countParts_85 : decode bM_countParts 85 = .ok (.aload_n 0, 1) := by decide +kernel
theorem dM_countParts_86 : decode bM_countParts 86 = .ok (.getfield 25, 3) := by decide +kernel
theorem dM_countParts_89 : decode bM_countParts 89 = .ok (.iload_n 3, 1) := by decide +kernel
theorem dM_countParts_90 : decode bM_countParts 90 = .ok (.iaload, 1) := by decide +kernel
theorem dM_countParts_91 : decode bM_countParts 91 = .ok (.bipush 40, 2) := by decide +kernel
theorem dM_countParts_93 : decode bM_countParts 93 = .ok (.if_icmp .ne 11, 3) := by decide +kernel
theorem dM_countParts_96 : decode bM_countParts 96 = .ok (.aload_n 0, 1) := by decide +kernel
theorem dM_countParts_97 : decode bM_countParts 97 = .ok (.getfield 28, 3) := by decide +kernel
theorem dM_countParts_100 : decode bM_countParts 100 = .ok (.iload_n 3, 1) := by decide +kernel
theorem dM_countParts_101 : decode bM_countParts 101 = .ok (.iload 4, 2) := by decide +kernel
theorem dM_countParts_103 : decode bM_countParts 103 = .ok (.iastore, 1) := by decide +kernel
theorem dM_countParts_104 : decode bM_countParts 104 = .ok (.iinc 1 1, 3) := by decide +kernel
theorem dM_countParts_107 : decode bM_countParts 107 = .ok (.goto (-90), 3) := by decide +kernel
theorem dM_countParts_110 : decode bM_countParts 110 = .ok (.return_, 1) := by decide +kernel
theorem kM_i_countParts : Cond.instanceMethod yM_countParts ∈ lw_g := lw_in (List.mem_append_right _ (List.mem_of_getElem? (i := 1265) (by decide +kernel))) rfl
theorem kM_s_countParts : Cond.selects RM yM_countParts yM_countParts ∈ lw_g := lw_in (List.mem_append_left _ (List.mem_map.mpr ⟨(yM_countParts, 40), by decide +kernel, rfl⟩)) rfl
-- stop: maxLocals 1, ret (some .int)
theorem kM_c_stop : Cond.code yM_stop bM_stop 1 (some .int) ∈ lw_g := lw_in (List.mem_append_right _ (List.mem_of_getElem? (i := 1330) (by decide +kernel))) rfl
theorem dM_stop_0 : decode bM_stop 0 = .ok (.aload_n 0, 1) := by decide +kernel
theorem dM_stop_1 : decode bM_stop 1 = .ok (.iconst 0, 1) := by decide +kernel
theorem dM_stop_2 : decode bM_stop 2 = .ok (.putfield 77, 3) := by decide +kernel
theorem dM_stop_5 : decode bM_stop 5 = .ok (.aload_n 0, 1) := by decide +kernel
theorem dM_stop_6 : decode bM_stop 6 = .ok (.getfield 115, 3) := by decide +kernel
theorem dM_stop_9 : decode bM_stop 9 = .ok (.iconst 1, 1) := by decide +kernel
theorem dM_stop_10 : decode bM_stop 10 = .ok (.if_icmp .eq 9, 3) := by decide +kernel
theorem dM_stop_13 : decode bM_stop 13 = .ok (.aload_n 0, 1) := by decide +kernel
theorem dM_stop_14 : decode bM_stop 14 = .ok (.iconst 1, 1) := by decide +kernel
theorem dM_stop_15 : decode bM_stop 15 = .ok (.invokevirtual 118, 3) := by decide +kernel
theorem dM_stop_18 : decode bM_stop 18 = .ok (.ireturn, 1) := by decide +kernel
theorem dM_stop_19 : decode bM_stop 19 = .ok (.aload_n 0, 1) := by decide +kernel
theorem dM_stop_20 : decode bM_stop 20 = .ok (.iconst 0, 1) := by decide +kernel
theorem dM_stop_21 : decode bM_stop 21 = .ok (.putfield 115, 3) := by decide +kernel
theorem dM_stop_24 : decode bM_stop 24 = .ok (.aload_n 0, 1) := by decide +kernel
theorem dM_stop_25 : decode bM_stop 25 = .ok (.getfield 143, 3) := by decide +kernel
theorem dM_stop_28 : decode bM_stop 28 = .ok (.ireturn, 1) := by decide +kernel
theorem kM_i_stop : Cond.instanceMethod yM_stop ∈ lw_g := lw_in (List.mem_append_right _ (List.mem_of_getElem? (i := 1328) (by decide +kernel))) rfl
theorem kM_s_stop : Cond.selects RM yM_stop yM_stop ∈ lw_g := lw_in (List.mem_append_right _ (List.mem_of_getElem? (i := 1329) (by decide +kernel))) rfl
-- state: maxLocals 2, ret (some .int)
theorem kM_c_state : Cond.code yM_state bM_state 2 (some .int) ∈ lw_g := lw_in (List.mem_append_right _ (List.mem_of_getElem? (i := 1334) (by decide +kernel))) rfl
theorem dM_state_0 : decode bM_state 0 = .ok (.aload_n 0, 1) := by decide +kernel
theorem dM_state_1 : decode bM_state 1 = .ok (.iconst 0, 1) := by decide +kernel
theorem dM_state_2 : decode bM_state 2 = .ok (.putfield 77, 3) := by decide +kernel
theorem dM_state_5 : decode bM_state 5 = .ok (.iload_n 1, 1) := by decide +kernel
theorem dM_state_6 : decode bM_state 6 = .ok (.tableswitch 96 0 5 #[38, 43, 48, 53, 58, 79], 38) := by decide +kernel
theorem dM_state_44 : decode bM_state 44 = .ok (.aload_n 0, 1) := by decide +kernel
theorem dM_state_45 : decode bM_state 45 = .ok (.getfield 115, 3) := by decide +kernel
theorem dM_state_48 : decode bM_state 48 = .ok (.ireturn, 1) := by decide +kernel
theorem dM_state_49 : decode bM_state 49 = .ok (.aload_n 0, 1) := by decide +kernel
theorem dM_state_50 : decode bM_state 50 = .ok (.getfield 143, 3) := by decide +kernel
theorem dM_state_53 : decode bM_state 53 = .ok (.ireturn, 1) := by decide +kernel
theorem dM_state_54 : decode bM_state 54 = .ok (.aload_n 0, 1) := by decide +kernel
theorem dM_state_55 : decode bM_state 55 = .ok (.getfield 134, 3) := by decide +kernel
theorem dM_state_58 : decode bM_state 58 = .ok (.ireturn, 1) := by decide +kernel
theorem dM_state_59 : decode bM_state 59 = .ok (.aload_n 0, 1) := by decide +kernel
theorem dM_state_60 : decode bM_state 60 = .ok (.getfield 131, 3) := by decide +kernel
theorem dM_state_63 : decode bM_state 63 = .ok (.ireturn, 1) := by decide +kernel
theorem dM_state_64 : decode bM_state 64 = .ok (.aload_n 0, 1) := by decide +kernel
theorem dM_state_65 : decode bM_state 65 = .ok (.getfield 115, 3) := by decide +kernel
theorem dM_state_68 : decode bM_state 68 = .ok (.iconst 1, 1) := by decide +kernel
theorem dM_state_69 : decode bM_state 69 = .ok (.if_icmp .ne 14, 3) := by decide +kernel
theorem dM_state_72 : decode bM_state 72 = .ok (.aload_n 0, 1) := by decide +kernel
theorem dM_state_73 : decode bM_state 73 = .ok (.aload_n 0, 1) := by decide +kernel
theorem dM_state_74 : decode bM_state 74 = .ok (.getfield 163, 3) := by decide +kernel
theorem dM_state_77 : decode bM_state 77 = .ok (.invokevirtual 175, 3) := by decide +kernel
theorem dM_state_80 : decode bM_state 80 = .ok (.goto 4, 3) := by decide +kernel
theorem dM_state_83 : decode bM_state 83 = .ok (.iconst 0, 1) := by decide +kernel
theorem dM_state_84 : decode bM_state 84 = .ok (.ireturn, 1) := by decide +kernel
theorem dM_state_85 : decode bM_state 85 = .ok (.aload_n 0, 1) := by decide +kernel
theorem dM_state_86 : decode bM_state 86 = .ok (.getfield 115, 3) := by decide +kernel
theorem dM_state_89 : decode bM_state 89 = .ok (.iconst 3, 1) := by decide +kernel
theorem dM_state_90 : decode bM_state 90 = .ok (.if_icmp .ne 10, 3) := by decide +kernel
theorem dM_state_93 : decode bM_state 93 = .ok (.aload_n 0, 1) := by decide +kernel
theorem dM_state_94 : decode bM_state 94 = .ok (.getfield 146, 3) := by decide +kernel
theorem dM_state_97 : decode bM_state 97 = .ok (.goto 4, 3) := by decide +kernel
theorem dM_state_100 : decode bM_state 100 = .ok (.iconst 0, 1) := by decide +kernel
theorem dM_state_101 : decode bM_state 101 = .ok (.ireturn, 1) := by decide +kernel
theorem dM_state_102 : decode bM_state 102 = .ok (.aload_n 0, 1) := by decide +kernel
theorem dM_state_103 : decode bM_state 103 = .ok (.iconst 1, 1) := by decide +kernel
theorem dM_state_104 : decode bM_state 104 = .ok (.invokevirtual 118, 3) := by decide +kernel
theorem dM_state_107 : decode bM_state 107 = .ok (.ireturn, 1) := by decide +kernel
theorem kM_i_state : Cond.instanceMethod yM_state ∈ lw_g := lw_in (List.mem_append_right _ (List.mem_of_getElem? (i := 1332) (by decide +kernel))) rfl
theorem kM_s_state : Cond.selects RM yM_state yM_state ∈ lw_g := lw_in (List.mem_append_right _ (List.mem_of_getElem? (i := 1333) (by decide +kernel))) rfl
-- digit: maxLocals 10, ret (some .int)
theorem kM_c_digit : Cond.code yM_digit bM_digit 10 (some .int) ∈ lw_g := lw_in (List.mem_append_right _ (List.mem_of_getElem? (i := 1346) (by decide +kernel))) rfl
theorem dM_digit_0 : decode bM_digit 0 = .ok (.iload_n 1, 1) := by decide +kernel
theorem dM_digit_1 : decode bM_digit 1 = .ok (.ifCond .ge 9, 3) := by decide +kernel
theorem dM_digit_4 : decode bM_digit 4 = .ok (.iload_n 1, 1) := by decide +kernel
theorem dM_digit_5 : decode bM_digit 5 = .ok (.i2l, 1) := by decide +kernel
theorem dM_digit_6 : decode bM_digit 6 = .ok (.lneg, 1) := by decide +kernel
theorem dM_digit_7 : decode bM_digit 7 = .ok (.goto 5, 3) := by decide +kernel
theorem dM_digit_10 : decode bM_digit 10 = .ok (.iload_n 1, 1) := by decide +kernel
theorem dM_digit_11 : decode bM_digit 11 = .ok (.i2l, 1) := by decide +kernel
theorem dM_digit_12 : decode bM_digit 12 = .ok (.lstore_n 3, 1) := by decide +kernel
theorem dM_digit_13 : decode bM_digit 13 = .ok (.iconst 1, 1) := by decide +kernel
theorem dM_digit_14 : decode bM_digit 14 = .ok (.istore 5, 2) := by decide +kernel
theorem dM_digit_16 : decode bM_digit 16 = .ok (.ldc2_w 227, 3) := by decide +kernel
theorem dM_digit_19 : decode bM_digit 19 = .ok (.lstore 6, 2) := by decide +kernel
theorem dM_digit_21 : decode bM_digit 21 = .ok (.lload 6, 2) := by decide +kernel
theorem dM_digit_23 : decode bM_digit 23 = .ok (.lload_n 3, 1) := by decide +kernel
theorem dM_digit_24 : decode bM_digit 24 = .ok (.lcmp, 1) := by decide +kernel
theorem dM_digit_25 : decode bM_digit 25 = .ok (.ifCond .gt 24, 3) := by decide +kernel
theorem dM_digit_28 : decode bM_digit 28 = .ok (.iload 5, 2) := by decide +kernel
theorem dM_digit_30 : decode bM_digit 30 = .ok (.bipush 11, 2) := by decide +kernel
theorem dM_digit_32 : decode bM_digit 32 = .ok (.if_icmp .ge 17, 3) := by decide +kernel
theorem dM_digit_35 : decode bM_digit 35 = .ok (.lload 6, 2) := by decide +kernel
theorem dM_digit_37 : decode bM_digit 37 = .ok (.ldc2_w 227, 3) := by decide +kernel
theorem dM_digit_40 : decode bM_digit 40 = .ok (.lmul, 1) := by decide +kernel
theorem dM_digit_41 : decode bM_digit 41 = .ok (.lstore 6, 2) := by decide +kernel
theorem dM_digit_43 : decode bM_digit 43 = .ok (.iinc 5 1, 3) := by decide +kernel
theorem dM_digit_46 : decode bM_digit 46 = .ok (.goto (-25), 3) := by decide +kernel
theorem dM_digit_49 : decode bM_digit 49 = .ok (.iload_n 1, 1) := by decide +kernel
theorem dM_digit_50 : decode bM_digit 50 = .ok (.ifCond .ge 7, 3) := by decide +kernel
theorem dM_digit_53 : decode bM_digit 53 = .ok (.iconst 1, 1) := by decide +kernel
theorem dM_digit_54 : decode bM_digit 54 = .ok (.goto 4, 3) := by decide +kernel
theorem dM_digit_57 : decode bM_digit 57 = .ok (.iconst 0, 1) := by decide +kernel
theorem dM_digit_58 : decode bM_digit 58 = .ok (.istore 8, 2) := by decide +kernel
theorem dM_digit_60 : decode bM_digit 60 = .ok (.aload_n 0, 1) := by decide +kernel
theorem dM_digit_61 : decode bM_digit 61 = .ok (.iload 5, 2) := by decide +kernel
theorem dM_digit_63 : decode bM_digit 63 = .ok (.iload 8, 2) := by decide +kernel
theorem dM_digit_65 : decode bM_digit 65 = .ok (.iadd, 1) := by decide +kernel
theorem dM_digit_66 : decode bM_digit 66 = .ok (.putfield 84, 3) := by decide +kernel
theorem dM_digit_69 : decode bM_digit 69 = .ok (.iload_n 2, 1) := by decide +kernel
theorem dM_digit_70 : decode bM_digit 70 = .ok (.iload 8, 2) := by decide +kernel
theorem dM_digit_72 : decode bM_digit 72 = .ok (.if_icmp .ge 6, 3) := by decide +kernel
theorem dM_digit_75 : decode bM_digit 75 = .ok (.bipush 45, 2) := by decide +kernel
theorem dM_digit_77 : decode bM_digit 77 = .ok (.ireturn, 1) := by decide +kernel
theorem dM_digit_78 : decode bM_digit 78 = .ok (.iload 5, 2) := by decide +kernel
theorem dM_digit_80 : decode bM_digit 80 = .ok (.iconst 1, 1) := by decide +kernel
theorem dM_digit_81 : decode bM_digit 81 = .ok (.isub, 1) := by decide +kernel
theorem dM_digit_82 : decode bM_digit 82 = .ok (.iload 8, 2) := by decide +kernel
theorem dM_digit_84 : decode bM_digit 84 = .ok (.iadd, 1) := by decide +kernel
theorem dM_digit_85 : decode bM_digit 85 = .ok (.istore 9, 2) := by decide +kernel
theorem dM_digit_87 : decode bM_digit 87 = .ok (.iload 9, 2) := by decide +kernel
theorem dM_digit_89 : decode bM_digit 89 = .ok (.iload_n 2, 1) := by decide +kernel
theorem dM_digit_90 : decode bM_digit 90 = .ok (.if_icmp .le 15, 3) := by decide +kernel
theorem dM_digit_93 : decode bM_digit 93 = .ok (.lload_n 3, 1) := by decide +kernel
theorem dM_digit_94 : decode bM_digit 94 = .ok (.ldc2_w 227, 3) := by decide +kernel
theorem dM_digit_97 : decode bM_digit 97 = .ok (.ldiv, 1) := by decide +kernel
theorem dM_digit_98 : decode bM_digit 98 = .ok (.lstore_n 3, 1) := by decide +kernel
theorem dM_digit_99 : decode bM_digit 99 = .ok (.iinc 9 (-1), 3) := by decide +kernel
theorem dM_digit_102 : decode bM_digit 102 = .ok (.goto (-15), 3) := by decide +kernel
theorem dM_digit_105 : decode bM_digit 105 = .ok (.ldc2_w 229, 3) := by decide +kernel
theorem dM_digit_108 : decode bM_digit 108 = .ok (.lload_n 3, 1) := by decide +kernel
theorem dM_digit_109 : decode bM_digit 109 = .ok (.ldc2_w 227, 3) := by decide +kernel
theorem dM_digit_112 : decode bM_digit 112 = .ok (.lrem, 1) := by decide +kernel
theorem dM_digit_113 : decode bM_digit 113 = .ok (.ladd, 1) := by decide +kernel
theorem dM_digit_114 : decode bM_digit 114 = .ok (.l2i, 1) := by decide +kernel
theorem dM_digit_115 : decode bM_digit 115 = .ok (.ireturn, 1) := by decide +kernel
theorem kM_i_digit : Cond.instanceMethod yM_digit ∈ lw_g := lw_in (List.mem_append_right _ (List.mem_of_getElem? (i := 1345) (by decide +kernel))) rfl
theorem kM_s_digit : Cond.selects RM yM_digit yM_digit ∈ lw_g := lw_in (List.mem_append_left _ (List.mem_map.mpr ⟨(yM_digit, 40), by decide +kernel, rfl⟩)) rfl
-- show: maxLocals 4, ret none
theorem kM_c_show : Cond.code yM_show bM_show 4 none ∈ lw_g := lw_in (List.mem_append_right _ (List.mem_of_getElem? (i := 1342) (by decide +kernel))) rfl
theorem dM_show_0 : decode bM_show 0 = .ok (.aload_n 0, 1) := by decide +kernel
theorem dM_show_1 : decode bM_show 1 = .ok (.getfield 71, 3) := by decide +kernel
theorem dM_show_4 : decode bM_show 4 = .ok (.iload_n 1, 1) := by decide +kernel
theorem dM_show_5 : decode bM_show 5 = .ok (.iload_n 2, 1) := by decide +kernel
theorem dM_show_6 : decode bM_show 6 = .ok (.iastore, 1) := by decide +kernel
theorem dM_show_7 : decode bM_show 7 = .ok (.aload_n 0, 1) := by decide +kernel
theorem dM_show_8 : decode bM_show 8 = .ok (.getfield 74, 3) := by decide +kernel
theorem dM_show_11 : decode bM_show 11 = .ok (.iload_n 1, 1) := by decide +kernel
theorem dM_show_12 : decode bM_show 12 = .ok (.iload_n 3, 1) := by decide +kernel
theorem dM_show_13 : decode bM_show 13 = .ok (.iastore, 1) := by decide +kernel
theorem dM_show_14 : decode bM_show 14 = .ok (.return_, 1) := by decide +kernel
theorem kM_i_show : Cond.instanceMethod yM_show ∈ lw_g := lw_in (List.mem_append_right _ (List.mem_of_getElem? (i := 1341) (by decide +kernel))) rfl
theorem kM_s_show : Cond.selects RM yM_show yM_show ∈ lw_g := lw_in (List.mem_append_left _ (List.mem_map.mpr ⟨(yM_show, 40), by decide +kernel, rfl⟩)) rfl
-- sign: maxLocals 8, ret (some .int)
theorem kM_c_sign : Cond.code yM_sign bM_sign 8 (some .int) ∈ lw_g := lw_in (List.mem_append_right _ (List.mem_of_getElem? (i := 1338) (by decide +kernel))) rfl
theorem dM_sign_0 : decode bM_sign 0 = .ok (.aload_n 0, 1) := by decide +kernel
theorem dM_sign_1 : decode bM_sign 1 = .ok (.iconst 0, 1) := by decide +kernel
theorem dM_sign_2 : decode bM_sign 2 = .ok (.putfield 77, 3) := by decide +kernel
theorem dM_sign_5 : decode bM_sign 5 = .ok (.iload_n 1, 1) := by decide +kernel
theorem dM_sign_6 : decode bM_sign 6 = .ok (.ifCond .lt 9, 3) := by decide +kernel
theorem dM_sign_9 : decode bM_sign 9 = .ok (.iload_n 1, 1) := by decide +kernel
theorem dM_sign_10 : decode bM_sign 10 = .ok (.bipush 59, 2) := by decide +kernel
theorem dM_sign_12 : decode bM_sign 12 = .ok (.if_icmp .le 9, 3) := by decide +kernel
theorem dM_sign_15 : decode bM_sign 15 = .ok (.aload_n 0, 1) := by decide +kernel
theorem dM_sign_16 : decode bM_sign 16 = .ok (.iconst 2, 1) := by decide +kernel
theorem dM_sign_17 : decode bM_sign 17 = .ok (.invokevirtual 118, 3) := by decide +kernel
theorem dM_sign_20 : decode bM_sign 20 = .ok (.ireturn, 1) := by decide +kernel
theorem dM_sign_21 : decode bM_sign 21 = .ok (.aload_n 0, 1) := by decide +kernel
theorem dM_sign_22 : decode bM_sign 22 = .ok (.getfield 115, 3) := by decide +kernel
theorem dM_sign_25 : decode bM_sign 25 = .ok (.iconst 2, 1) := by decide +kernel
theorem dM_sign_26 : decode bM_sign 26 = .ok (.if_icmp .eq 9, 3) := by decide +kernel
theorem dM_sign_29 : decode bM_sign 29 = .ok (.aload_n 0, 1) := by decide +kernel
theorem dM_sign_30 : decode bM_sign 30 = .ok (.iconst 1, 1) := by decide +kernel
theorem dM_sign_31 : decode bM_sign 31 = .ok (.invokevirtual 118, 3) := by decide +kernel
theorem dM_sign_34 : decode bM_sign 34 = .ok (.ireturn, 1) := by decide +kernel
theorem dM_sign_35 : decode bM_sign 35 = .ok (.iload_n 1, 1) := by decide +kernel
theorem dM_sign_36 : decode bM_sign 36 = .ok (.istore_n 2, 1) := by decide +kernel
theorem dM_sign_37 : decode bM_sign 37 = .ok (.iconst 1, 1) := by decide +kernel
theorem dM_sign_38 : decode bM_sign 38 = .ok (.istore_n 3, 1) := by decide +kernel
theorem dM_sign_39 : decode bM_sign 39 = .ok (.aload_n 0, 1) := by decide +kernel
theorem dM_sign_40 : decode bM_sign 40 = .ok (.iconst 0, 1) := by decide +kernel
theorem dM_sign_41 : decode bM_sign 41 = .ok (.aload_n 0, 1) := by decide +kernel
theorem dM_sign_42 : decode bM_sign 42 = .ok (.getfield 169, 3) := by decide +kernel
theorem dM_sign_45 : decode bM_sign 45 = .ok (.aload_n 0, 1) := by decide +kernel
theorem dM_sign_46 : decode bM_sign 46 = .ok (.getfield 172, 3) := by decide +kernel
theorem dM_sign_49 : decode bM_sign 49 = .ok (.invokevirtual 231, 3) := by decide +kernel
theorem kM_m231 : Cond.methodLink RM 231 yM_show ∈ lw_g := lw_in (List.mem_append_right _ (List.mem_of_getElem? (i := 1339) (by decide +kernel))) rfl
theorem dM_sign_52 : decode bM_sign 52 = .ok (.iload_n 3, 1) := by decide +kernel
theorem dM_sign_53 : decode bM_sign 53 = .ok (.ifCond .le 191, 3) := by decide +kernel
theorem dM_sign_56 : decode bM_sign 56 = .ok (.iinc 3 (-1), 3) := by decide +kernel
theorem dM_sign_59 : decode bM_sign 59 = .ok (.aload_n 0, 1) := by decide +kernel
theorem dM_sign_60 : decode bM_sign 60 = .ok (.getfield 71, 3) := by decide +kernel
theorem dM_sign_63 : decode bM_sign 63 = .ok (.iload_n 3, 1) := by decide +kernel
theorem dM_sign_64 : decode bM_sign 64 = .ok (.iaload, 1) := by decide +kernel
theorem dM_sign_65 : decode bM_sign 65 = .ok (.istore 4, 2) := by decide +kernel
theorem dM_sign_67 : decode bM_sign 67 = .ok (.aload_n 0, 1) := by decide +kernel
theorem dM_sign_68 : decode bM_sign 68 = .ok (.getfield 74, 3) := by decide +kernel
theorem dM_sign_71 : decode bM_sign 71 = .ok (.iload_n 3, 1) := by decide +kernel
theorem dM_sign_72 : decode bM_sign 72 = .ok (.iaload, 1) := by decide +kernel
theorem dM_sign_73 : decode bM_sign 73 = .ok (.istore 5, 2) := by decide +kernel
theorem dM_sign_75 : decode bM_sign 75 = .ok (.iconst 1, 1) := by decide +kernel
theorem dM_sign_76 : decode bM_sign 76 = .ok (.istore 6, 2) := by decide +kernel
theorem dM_sign_78 : decode bM_sign 78 = .ok (.iload 4, 2) := by decide +kernel
theorem dM_sign_80 : decode bM_sign 80 = .ok (.ifCond .ne 8, 3) := by decide +kernel
theorem dM_sign_83 : decode bM_sign 83 = .ok (.iload 5, 2) := by decide +kernel
theorem dM_sign_85 : decode bM_sign 85 = .ok (.goto 38, 3) := by decide +kernel
theorem dM_sign_88 : decode bM_sign 88 = .ok (.iload 4, 2) := by decide +kernel
theorem dM_sign_90 : decode bM_sign 90 = .ok (.iconst 2, 1) := by decide +kernel
theorem dM_sign_91 : decode bM_sign 91 = .ok (.if_icmp .ne 8, 3) := by decide +kernel
theorem dM_sign_94 : decode bM_sign 94 = .ok (.bipush 95, 2) := by decide +kernel
theorem dM_sign_96 : decode bM_sign 96 = .ok (.goto 27, 3) := by decide +kernel
theorem dM_sign_99 : decode bM_sign 99 = .ok (.iload 4, 2) := by decide +kernel
theorem dM_sign_101 : decode bM_sign 101 = .ok (.iconst 4, 1) := by decide +kernel
theorem dM_sign_102 : decode bM_sign 102 = .ok (.if_icmp .ne 8, 3) := by decide +kernel
theorem dM_sign_105 : decode bM_sign 105 = .ok (.bipush 76, 2) := by decide +kernel
theorem dM_sign_107 : decode bM_sign 107 = .ok (.goto 16, 3) := by decide +kernel
theorem dM_sign_110 : decode bM_sign 110 = .ok (.iload 4, 2) := by decide +kernel
theorem dM_sign_112 : decode bM_sign 112 = .ok (.iconst 5, 1) := by decide +kernel
theorem dM_sign_113 : decode bM_sign 113 = .ok (.if_icmp .ne 8, 3) := by decide +kernel
theorem dM_sign_116 : decode bM_sign 116 = .ok (.bipush 75, 2) := by decide +kernel
theorem dM_sign_118 : decode bM_sign 118 = .ok (.goto 5, 3) := by decide +kernel
theorem dM_sign_121 : decode bM_sign 121 = .ok (.bipush 40, 2) := by decide +kernel
theorem dM_sign_123 : decode bM_sign 123 = .ok (.istore 7, 2) := by decide +kernel
theorem dM_sign_125 : decode bM_sign 125 = .ok (.iload 4, 2) := by decide +kernel
theorem dM_sign_127 : decode bM_sign 127 = .ok (.iconst 1, 1) := by decide +kernel
theorem dM_sign_128 : decode bM_sign 128 = .ok (.if_icmp .ne 18, 3) := by decide +kernel
theorem dM_sign_131 : decode bM_sign 131 = .ok (.aload_n 0, 1) := by decide +kernel
theorem dM_sign_132 : decode bM_sign 132 = .ok (.iload 5, 2) := by decide +kernel
theorem dM_sign_134 : decode bM_sign 134 = .ok (.iload_n 2, 1) := by decide +kernel
theorem dM_sign_135 : decode bM_sign 135 = .ok (.invokevirtual 234, 3) := by decide +kernel
theorem kM_m234 : Cond.methodLink RM 234 yM_digit ∈ lw_g := lw_in (List.mem_append_right _ (List.mem_of_getElem? (i := 1343) (by decide +kernel))) rfl
theorem dM_sign_138 : decode bM_sign 138 = .ok (.istore 7, 2) := by decide +kernel
theorem dM_sign_140 : decode bM_sign 140 = .ok (.aload_n 0, 1) := by decide +kernel
theorem dM_sign_141 : decode bM_sign 141 = .ok (.getfield 84, 3) := by decide +kernel
theorem dM_sign_144 : decode bM_sign 144 = .ok (.istore 6, 2) := by decide +kernel
theorem dM_sign_146 : decode bM_sign 146 = .ok (.iload_n 2, 1) := by decide +kernel
theorem dM_sign_147 : decode bM_sign 147 = .ok (.iload 6, 2) := by decide +kernel
theorem dM_sign_149 : decode bM_sign 149 = .ok (.if_icmp .ge 6, 3) := by decide +kernel
theorem dM_sign_152 : decode bM_sign 152 = .ok (.iload 7, 2) := by decide +kernel
theorem dM_sign_154 : decode bM_sign 154 = .ok (.ireturn, 1) := by decide +kernel
theorem dM_sign_155 : decode bM_sign 155 = .ok (.iload_n 2, 1) := by decide +kernel
theorem dM_sign_156 : decode bM_sign 156 = .ok (.iload 6, 2) := by decide +kernel
theorem dM_sign_158 : decode bM_sign 158 = .ok (.isub, 1) := by decide +kernel
theorem dM_sign_159 : decode bM_sign 159 = .ok (.istore_n 2, 1) := by decide +kernel
theorem dM_sign_160 : decode bM_sign 160 = .ok (.iload 4, 2) := by decide +kernel
theorem dM_sign_162 : decode bM_sign 162 = .ok (.iconst 3, 1) := by decide +kernel
theorem dM_sign_163 : decode bM_sign 163 = .ok (.if_icmp .ne 78, 3) := by decide +kernel
theorem dM_sign_166 : decode bM_sign 166 = .ok (.aload_n 0, 1) := by decide +kernel
theorem dM_sign_167 : decode bM_sign 167 = .ok (.iload_n 3, 1) := by decide +kernel
theorem dM_sign_168 : decode bM_sign 168 = .ok (.iconst 0, 1) := by decide +kernel
theorem dM_sign_169 : decode bM_sign 169 = .ok (.bipush 41, 2) := by decide +kernel
theorem dM_sign_171 : decode bM_sign 171 = .ok (.invokevirtual 231, 3) := by decide +kernel
theorem dM_sign_174 : decode bM_sign 174 = .ok (.aload_n 0, 1) := by decide +kernel
theorem dM_sign_175 : decode bM_sign 175 = .ok (.iload_n 3, 1) := by decide +kernel
theorem dM_sign_176 : decode bM_sign 176 = .ok (.iconst 1, 1) := by decide +kernel
theorem dM_sign_177 : decode bM_sign 177 = .ok (.iadd, 1) := by decide +kernel
theorem dM_sign_178 : decode bM_sign 178 = .ok (.aload_n 0, 1) := by decide +kernel
theorem dM_sign_179 : decode bM_sign 179 = .ok (.getfield 56, 3) := by decide +kernel
theorem dM_sign_182 : decode bM_sign 182 = .ok (.iconst 2, 1) := by decide +kernel
theorem dM_sign_183 : decode bM_sign 183 = .ok (.iload 5, 2) := by decide +kernel
theorem dM_sign_185 : decode bM_sign 185 = .ok (.imul, 1) := by decide +kernel
theorem dM_sign_186 : decode bM_sign 186 = .ok (.iconst 1, 1) := by decide +kernel
theorem dM_sign_187 : decode bM_sign 187 = .ok (.iadd, 1) := by decide +kernel
theorem dM_sign_188 : decode bM_sign 188 = .ok (.iaload, 1) := by decide +kernel
theorem dM_sign_189 : decode bM_sign 189 = .ok (.aload_n 0, 1) := by decide +kernel
theorem dM_sign_190 : decode bM_sign 190 = .ok (.getfield 59, 3) := by decide +kernel
theorem dM_sign_193 : decode bM_sign 193 = .ok (.iconst 2, 1) := by decide +kernel
theorem dM_sign_194 : decode bM_sign 194 = .ok (.iload 5, 2) := by decide +kernel
theorem dM_sign_196 : decode bM_sign 196 = .ok (.imul, 1) := by decide +kernel
theorem dM_sign_197 : decode bM_sign 197 = .ok (.iconst 1, 1) := by decide +kernel
theorem dM_sign_198 : decode bM_sign 198 = .ok (.iadd, 1) := by decide +kernel
theorem dM_sign_199 : decode bM_sign 199 = .ok (.iaload, 1) := by decide +kernel
theorem dM_sign_200 : decode bM_sign 200 = .ok (.invokevirtual 231, 3) := by decide +kernel
theorem dM_sign_203 : decode bM_sign 203 = .ok (.aload_n 0, 1) := by decide +kernel
theorem dM_sign_204 : decode bM_sign 204 = .ok (.iload_n 3, 1) := by decide +kernel
theorem dM_sign_205 : decode bM_sign 205 = .ok (.iconst 2, 1) := by decide +kernel
theorem dM_sign_206 : decode bM_sign 206 = .ok (.iadd, 1) := by decide +kernel
theorem dM_sign_207 : decode bM_sign 207 = .ok (.iconst 0, 1) := by decide +kernel
theorem dM_sign_208 : decode bM_sign 208 = .ok (.bipush 46, 2) := by decide +kernel
theorem dM_sign_210 : decode bM_sign 210 = .ok (.invokevirtual 231, 3) := by decide +kernel
theorem dM_sign_213 : decode bM_sign 213 = .ok (.aload_n 0, 1) := by decide +kernel
theorem dM_sign_214 : decode bM_sign 214 = .ok (.iload_n 3, 1) := by decide +kernel
theorem dM_sign_215 : decode bM_sign 215 = .ok (.iconst 3, 1) := by decide +kernel
theorem dM_sign_216 : decode bM_sign 216 = .ok (.iadd, 1) := by decide +kernel
theorem dM_sign_217 : decode bM_sign 217 = .ok (.aload_n 0, 1) := by decide +kernel
theorem dM_sign_218 : decode bM_sign 218 = .ok (.getfield 56, 3) := by decide +kernel
theorem dM_sign_221 : decode bM_sign 221 = .ok (.iconst 2, 1) := by decide +kernel
theorem dM_sign_222 : decode bM_sign 222 = .ok (.iload 5, 2) := by decide +kernel
theorem dM_sign_224 : decode bM_sign 224 = .ok (.imul, 1) := by decide +kernel
theorem dM_sign_225 : decode bM_sign 225 = .ok (.iaload, 1) := by decide +kernel
theorem dM_sign_226 : decode bM_sign 226 = .ok (.aload_n 0, 1) := by decide +kernel
theorem dM_sign_227 : decode bM_sign 227 = .ok (.getfield 59, 3) := by decide +kernel
theorem dM_sign_230 : decode bM_sign 230 = .ok (.iconst 2, 1) := by decide +kernel
theorem dM_sign_231 : decode bM_sign 231 = .ok (.iload 5, 2) := by decide +kernel
theorem dM_sign_233 : decode bM_sign 233 = .ok (.imul, 1) := by decide +kernel
theorem dM_sign_234 : decode bM_sign 234 = .ok (.iaload, 1) := by decide +kernel
theorem dM_sign_235 : decode bM_sign 235 = .ok (.invokevirtual 231, 3) := by decide +kernel
theorem dM_sign_238 : decode bM_sign 238 = .ok (.iinc 3 4, 3) := by decide +kernel
theorem dM_sign_241 : decode bM_sign 241 = .ok (.goto (-189), 3) := by decide +kernel
theorem dM_sign_244 : decode bM_sign 244 = .ok (.iconst (-1), 1) := by decide +kernel
theorem dM_sign_245 : decode bM_sign 245 = .ok (.ireturn, 1) := by decide +kernel
theorem kM_i_sign : Cond.instanceMethod yM_sign ∈ lw_g := lw_in (List.mem_append_right _ (List.mem_of_getElem? (i := 1336) (by decide +kernel))) rfl
theorem kM_s_sign : Cond.selects RM yM_sign yM_sign ∈ lw_g := lw_in (List.mem_append_right _ (List.mem_of_getElem? (i := 1337) (by decide +kernel))) rfl
-- global: maxLocals 2, ret (some .int)
theorem kM_c_global : Cond.code yM_global bM_global 2 (some .int) ∈ lw_g := lw_in (List.mem_append_right _ (List.mem_of_getElem? (i := 1352) (by decide +kernel))) rfl
theorem dM_global_0 : decode bM_global 0 = .ok (.aload_n 0, 1) := by decide +kernel
theorem dM_global_1 : decode bM_global 1 = .ok (.iconst 0, 1) := by decide +kernel
theorem dM_global_2 : decode bM_global 2 = .ok (.putfield 77, 3) := by decide +kernel
theorem dM_global_5 : decode bM_global 5 = .ok (.iload_n 1, 1) := by decide +kernel
theorem dM_global_6 : decode bM_global 6 = .ok (.ifCond .lt 9, 3) := by decide +kernel
theorem dM_global_9 : decode bM_global 9 = .ok (.iload_n 1, 1) := by decide +kernel
theorem dM_global_10 : decode bM_global 10 = .ok (.bipush 25, 2) := by decide +kernel
theorem dM_global_12 : decode bM_global 12 = .ok (.if_icmp .le 9, 3) := by decide +kernel
theorem dM_global_15 : decode bM_global 15 = .ok (.aload_n 0, 1) := by decide +kernel
theorem dM_global_16 : decode bM_global 16 = .ok (.iconst 1, 1) := by decide +kernel
theorem dM_global_17 : decode bM_global 17 = .ok (.invokevirtual 118, 3) := by decide +kernel
theorem dM_global_20 : decode bM_global 20 = .ok (.ireturn, 1) := by decide +kernel
theorem dM_global_21 : decode bM_global 21 = .ok (.aload_n 0, 1) := by decide +kernel
theorem dM_global_22 : decode bM_global 22 = .ok (.getfield 44, 3) := by decide +kernel
theorem dM_global_25 : decode bM_global 25 = .ok (.bipush 121, 2) := by decide +kernel
theorem dM_global_27 : decode bM_global 27 = .ok (.iload_n 1, 1) := by decide +kernel
theorem dM_global_28 : decode bM_global 28 = .ok (.iadd, 1) := by decide +kernel
theorem dM_global_29 : decode bM_global 29 = .ok (.iaload, 1) := by decide +kernel
theorem dM_global_30 : decode bM_global 30 = .ok (.iconst 1, 1) := by decide +kernel
theorem dM_global_31 : decode bM_global 31 = .ok (.if_icmp .eq 9, 3) := by decide +kernel
theorem dM_global_34 : decode bM_global 34 = .ok (.aload_n 0, 1) := by decide +kernel
theorem dM_global_35 : decode bM_global 35 = .ok (.iconst 2, 1) := by decide +kernel
theorem dM_global_36 : decode bM_global 36 = .ok (.invokevirtual 118, 3) := by decide +kernel
theorem dM_global_39 : decode bM_global 39 = .ok (.ireturn, 1) := by decide +kernel
theorem dM_global_40 : decode bM_global 40 = .ok (.aload_n 0, 1) := by decide +kernel
theorem dM_global_41 : decode bM_global 41 = .ok (.getfield 47, 3) := by decide +kernel
theorem dM_global_44 : decode bM_global 44 = .ok (.bipush 121, 2) := by decide +kernel
theorem dM_global_46 : decode bM_global 46 = .ok (.iload_n 1, 1) := by decide +kernel
theorem dM_global_47 : decode bM_global 47 = .ok (.iadd, 1) := by decide +kernel
theorem dM_global_48 : decode bM_global 48 = .ok (.iaload, 1) := by decide +kernel
theorem dM_global_49 : decode bM_global 49 = .ok (.ireturn, 1) := by decide +kernel
theorem kM_i_global : Cond.instanceMethod yM_global ∈ lw_g := lw_in (List.mem_append_right _ (List.mem_of_getElem? (i := 1350) (by decide +kernel))) rfl
theorem kM_s_global : Cond.selects RM yM_global yM_global ∈ lw_g := lw_in (List.mem_append_right _ (List.mem_of_getElem? (i := 1351) (by decide +kernel))) rfl
