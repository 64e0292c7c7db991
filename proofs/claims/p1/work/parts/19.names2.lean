def R_C : String := "ContinuationCore"
def R_Binding : String := "ContinuationCore$Binding"
def R_ClosureValue : String := "ContinuationCore$ClosureValue"
def R_ContinuationValue : String := "ContinuationCore$ContinuationValue"
def R_EmptyValue : String := "ContinuationCore$EmptyValue"
def R_Expression : String := "ContinuationCore$Expression"
def R_IntValue : String := "ContinuationCore$IntValue"
def R_Machine : String := "ContinuationCore$Machine"
def R_PairValue : String := "ContinuationCore$PairValue"
def R_Reader : String := "ContinuationCore$Reader"
def R_Value : String := "ContinuationCore$Value"
def R_Waiting : String := "ContinuationCore$Waiting"
def R_Law : String := "ContinuationCoreLaw"
def y_C_init : MethodName := ⟨R_C, "<init>", "()V"⟩
abbrev b_C_init : ByteArray := prog_1_method_1_code
def y_C_text : MethodName := ⟨R_C, "text", "(J)I"⟩
abbrev b_C_text : ByteArray := prog_1_method_2_code
def y_C_clear : MethodName := ⟨R_C, "clear", "()I"⟩
abbrev b_C_clear : ByteArray := prog_1_method_3_code
def y_C_whole : MethodName := ⟨R_C, "whole", "()I"⟩
abbrev b_C_whole : ByteArray := prog_1_method_4_code
def y_C_given : MethodName := ⟨R_C, "given", "(II)I"⟩
abbrev b_C_given : ByteArray := prog_1_method_5_code
def y_C_start : MethodName := ⟨R_C, "start", "()I"⟩
abbrev b_C_start : ByteArray := prog_1_method_6_code
def y_C_run : MethodName := ⟨R_C, "run", "(I)I"⟩
abbrev b_C_run : ByteArray := prog_1_method_7_code
def y_C_stop : MethodName := ⟨R_C, "stop", "()I"⟩
abbrev b_C_stop : ByteArray := prog_1_method_8_code
def y_C_state : MethodName := ⟨R_C, "state", "(I)I"⟩
abbrev b_C_state : ByteArray := prog_1_method_9_code
def y_C_sign : MethodName := ⟨R_C, "sign", "(I)I"⟩
abbrev b_C_sign : ByteArray := prog_1_method_10_code
def y_C_global : MethodName := ⟨R_C, "global", "(I)I"⟩
abbrev b_C_global : ByteArray := prog_1_method_11_code
def y_C_isLetter : MethodName := ⟨R_C, "isLetter", "(I)Z"⟩
abbrev b_C_isLetter : ByteArray := prog_1_method_12_code
def y_C_putBehind : MethodName := ⟨R_C, "putBehind", "(J)I"⟩
abbrev b_C_putBehind : ByteArray := prog_1_method_13_code
def y_C_throwFault : MethodName := ⟨R_C, "throwFault", "(I)V"⟩
abbrev b_C_throwFault : ByteArray := prog_1_method_14_code
def y_Binding_init : MethodName := ⟨R_Binding, "<init>", "(ILContinuationCore$Value;LContinuationCore$Binding;)V"⟩
abbrev b_Binding_init : ByteArray := prog_2_method_1_code
def y_ClosureValue_init : MethodName := ⟨R_ClosureValue, "<init>", "(LContinuationCore$Expression;LContinuationCore$Binding;)V"⟩
abbrev b_ClosureValue_init : ByteArray := prog_3_method_1_code
def y_ClosureValue_write : MethodName := ⟨R_ClosureValue, "write", "(Ljava/lang/StringBuilder;)V"⟩
abbrev b_ClosureValue_write : ByteArray := prog_3_method_2_code
def y_ContinuationValue_init : MethodName := ⟨R_ContinuationValue, "<init>", "(LContinuationCore$Waiting;)V"⟩
abbrev b_ContinuationValue_init : ByteArray := prog_4_method_1_code
def y_ContinuationValue_write : MethodName := ⟨R_ContinuationValue, "write", "(Ljava/lang/StringBuilder;)V"⟩
abbrev b_ContinuationValue_write : ByteArray := prog_4_method_2_code
def y_EmptyValue_init : MethodName := ⟨R_EmptyValue, "<init>", "()V"⟩
abbrev b_EmptyValue_init : ByteArray := prog_5_method_1_code
def y_EmptyValue_isSame : MethodName := ⟨R_EmptyValue, "isSame", "(LContinuationCore$Value;)Z"⟩
abbrev b_EmptyValue_isSame : ByteArray := prog_5_method_2_code
def y_EmptyValue_write : MethodName := ⟨R_EmptyValue, "write", "(Ljava/lang/StringBuilder;)V"⟩
abbrev b_EmptyValue_write : ByteArray := prog_5_method_3_code
def y_Expression_init : MethodName := ⟨R_Expression, "<init>", "()V"⟩
abbrev b_Expression_init : ByteArray := prog_6_method_1_code
def y_Expression_become : MethodName := ⟨R_Expression, "become", "(CI)V"⟩
abbrev b_Expression_become : ByteArray := prog_6_method_2_code
def y_Expression_addName : MethodName := ⟨R_Expression, "addName", "(I)Z"⟩
abbrev b_Expression_addName : ByteArray := prog_6_method_3_code
def y_Expression_addPart : MethodName := ⟨R_Expression, "addPart", "(LContinuationCore$Expression;)Z"⟩
abbrev b_Expression_addPart : ByteArray := prog_6_method_4_code
def y_Expression_mayClose : MethodName := ⟨R_Expression, "mayClose", "()Z"⟩
abbrev b_Expression_mayClose : ByteArray := prog_6_method_5_code
def y_Expression_mostParts : MethodName := ⟨R_Expression, "mostParts", "()I"⟩
abbrev b_Expression_mostParts : ByteArray := prog_6_method_6_code
def y_IntValue_init : MethodName := ⟨R_IntValue, "<init>", "(I)V"⟩
abbrev b_IntValue_init : ByteArray := prog_7_method_1_code
def y_IntValue_isSame : MethodName := ⟨R_IntValue, "isSame", "(LContinuationCore$Value;)Z"⟩
abbrev b_IntValue_isSame : ByteArray := prog_7_method_2_code
def y_IntValue_write : MethodName := ⟨R_IntValue, "write", "(Ljava/lang/StringBuilder;)V"⟩
abbrev b_IntValue_write : ByteArray := prog_7_method_3_code
def y_Machine_init : MethodName := ⟨R_Machine, "<init>", "()V"⟩
abbrev b_Machine_init : ByteArray := prog_8_method_1_code
def y_Machine_prepare : MethodName := ⟨R_Machine, "prepare", "(LContinuationCore$Expression;[LContinuationCore$IntValue;)V"⟩
abbrev b_Machine_prepare : ByteArray := prog_8_method_2_code
def y_Machine_depth : MethodName := ⟨R_Machine, "depth", "()I"⟩
abbrev b_Machine_depth : ByteArray := prog_8_method_3_code
def y_Machine_step : MethodName := ⟨R_Machine, "step", "()V"⟩
abbrev b_Machine_step : ByteArray := prog_8_method_4_code
def y_Machine_fail : MethodName := ⟨R_Machine, "fail", "(I)LContinuationCore$Value;"⟩
abbrev b_Machine_fail : ByteArray := prog_8_method_5_code
def y_Machine_begin : MethodName := ⟨R_Machine, "begin", "(LContinuationCore$Expression;LContinuationCore$Binding;)LContinuationCore$Value;"⟩
abbrev b_Machine_begin : ByteArray := prog_8_method_6_code
def y_Machine_goOn : MethodName := ⟨R_Machine, "goOn", "(LContinuationCore$Waiting;LContinuationCore$Value;)LContinuationCore$Value;"⟩
abbrev b_Machine_goOn : ByteArray := prog_8_method_7_code
def y_Machine_goLast : MethodName := ⟨R_Machine, "goLast", "(LContinuationCore$Expression;LContinuationCore$Binding;)LContinuationCore$Value;"⟩
abbrev b_Machine_goLast : ByteArray := prog_8_method_8_code
def y_Machine_await : MethodName := ⟨R_Machine, "await", "(LContinuationCore$Expression;LContinuationCore$Binding;[LContinuationCore$Value;)LContinuationCore$Value;"⟩
abbrev b_Machine_await : ByteArray := prog_8_method_9_code
def y_Machine_complete : MethodName := ⟨R_Machine, "complete", "(LContinuationCore$Expression;LContinuationCore$Binding;[LContinuationCore$Value;)LContinuationCore$Value;"⟩
abbrev b_Machine_complete : ByteArray := prog_8_method_10_code
def y_Machine_call : MethodName := ⟨R_Machine, "call", "([LContinuationCore$Value;)LContinuationCore$Value;"⟩
abbrev b_Machine_call : ByteArray := prog_8_method_11_code
def y_Machine_bind : MethodName := ⟨R_Machine, "bind", "(ILContinuationCore$Value;LContinuationCore$Binding;)LContinuationCore$Binding;"⟩
abbrev b_Machine_bind : ByteArray := prog_8_method_12_code
def y_Machine_makePair : MethodName := ⟨R_Machine, "makePair", "(LContinuationCore$Value;LContinuationCore$Value;)LContinuationCore$Value;"⟩
abbrev b_Machine_makePair : ByteArray := prog_8_method_13_code
def y_Machine_assign : MethodName := ⟨R_Machine, "assign", "(ILContinuationCore$Value;LContinuationCore$Binding;)LContinuationCore$Value;"⟩
abbrev b_Machine_assign : ByteArray := prog_8_method_14_code
def y_Machine_valueOf : MethodName := ⟨R_Machine, "valueOf", "(ILContinuationCore$Binding;)LContinuationCore$Value;"⟩
abbrev b_Machine_valueOf : ByteArray := prog_8_method_15_code
def y_Machine_find : MethodName := ⟨R_Machine, "find", "(ILContinuationCore$Binding;)LContinuationCore$Binding;"⟩
abbrev b_Machine_find : ByteArray := prog_8_method_16_code
def y_Machine_reckon : MethodName := ⟨R_Machine, "reckon", "(CLContinuationCore$Value;LContinuationCore$Value;)LContinuationCore$Value;"⟩
abbrev b_Machine_reckon : ByteArray := prog_8_method_17_code
def y_Machine_reckonInts : MethodName := ⟨R_Machine, "reckonInts", "(CII)LContinuationCore$Value;"⟩
abbrev b_Machine_reckonInts : ByteArray := prog_8_method_18_code
def y_Machine_truth : MethodName := ⟨R_Machine, "truth", "(Z)LContinuationCore$Value;"⟩
abbrev b_Machine_truth : ByteArray := prog_8_method_19_code
def y_Machine_isZero : MethodName := ⟨R_Machine, "isZero", "(LContinuationCore$Value;)Z"⟩
abbrev b_Machine_isZero : ByteArray := prog_8_method_20_code
def y_PairValue_init : MethodName := ⟨R_PairValue, "<init>", "(LContinuationCore$Value;LContinuationCore$Value;)V"⟩
abbrev b_PairValue_init : ByteArray := prog_9_method_1_code
def y_PairValue_write : MethodName := ⟨R_PairValue, "write", "(Ljava/lang/StringBuilder;)V"⟩
abbrev b_PairValue_write : ByteArray := prog_9_method_2_code
def y_Reader_init : MethodName := ⟨R_Reader, "<init>", "()V"⟩
abbrev b_Reader_init : ByteArray := prog_10_method_1_code
def y_Reader_read : MethodName := ⟨R_Reader, "read", "([CI)Z"⟩
abbrev b_Reader_read : ByteArray := prog_10_method_2_code
def y_Reader_isWhole : MethodName := ⟨R_Reader, "isWhole", "()Z"⟩
abbrev b_Reader_isWhole : ByteArray := prog_10_method_3_code
def y_Reader_outermost : MethodName := ⟨R_Reader, "outermost", "()LContinuationCore$Expression;"⟩
abbrev b_Reader_outermost : ByteArray := prog_10_method_4_code
def y_Reader_take : MethodName := ⟨R_Reader, "take", "(C)Z"⟩
abbrev b_Reader_take : ByteArray := prog_10_method_5_code
def y_Reader_takeDigit : MethodName := ⟨R_Reader, "takeDigit", "(C)Z"⟩
abbrev b_Reader_takeDigit : ByteArray := prog_10_method_6_code
def y_Reader_takeHead : MethodName := ⟨R_Reader, "takeHead", "(LContinuationCore$Expression;C)Z"⟩
abbrev b_Reader_takeHead : ByteArray := prog_10_method_7_code
def y_Reader_takeOneName : MethodName := ⟨R_Reader, "takeOneName", "(LContinuationCore$Expression;C)Z"⟩
abbrev b_Reader_takeOneName : ByteArray := prog_10_method_8_code
def y_Reader_takeNameOrDot : MethodName := ⟨R_Reader, "takeNameOrDot", "(LContinuationCore$Expression;C)Z"⟩
abbrev b_Reader_takeNameOrDot : ByteArray := prog_10_method_9_code
def y_Reader_takePart : MethodName := ⟨R_Reader, "takePart", "(LContinuationCore$Expression;C)Z"⟩
abbrev b_Reader_takePart : ByteArray := prog_10_method_10_code
def y_Reader_takeExpression : MethodName := ⟨R_Reader, "takeExpression", "(C)Z"⟩
abbrev b_Reader_takeExpression : ByteArray := prog_10_method_11_code
def y_Reader_openForm : MethodName := ⟨R_Reader, "openForm", "(LContinuationCore$Expression;)Z"⟩
abbrev b_Reader_openForm : ByteArray := prog_10_method_12_code
def y_Reader_isDigit : MethodName := ⟨R_Reader, "isDigit", "(C)Z"⟩
abbrev b_Reader_isDigit : ByteArray := prog_10_method_13_code
def y_Reader_isName : MethodName := ⟨R_Reader, "isName", "(C)Z"⟩
abbrev b_Reader_isName : ByteArray := prog_10_method_14_code
def y_Value_init : MethodName := ⟨R_Value, "<init>", "()V"⟩
abbrev b_Value_init : ByteArray := prog_11_method_1_code
def y_Value_isSame : MethodName := ⟨R_Value, "isSame", "(LContinuationCore$Value;)Z"⟩
abbrev b_Value_isSame : ByteArray := prog_11_method_2_code
def y_Waiting_init : MethodName := ⟨R_Waiting, "<init>", "(LContinuationCore$Expression;LContinuationCore$Binding;[LContinuationCore$Value;LContinuationCore$Waiting;)V"⟩
abbrev b_Waiting_init : ByteArray := prog_12_method_1_code
def y_Waiting_doneWith : MethodName := ⟨R_Waiting, "doneWith", "(LContinuationCore$Value;)[LContinuationCore$Value;"⟩
abbrev b_Waiting_doneWith : ByteArray := prog_12_method_2_code
def y_Law_text : MethodName := ⟨R_Law, "text", "(LContinuationCore;J[J)I"⟩
abbrev b_Law_text : ByteArray := method_3_code
def y_Law_clear : MethodName := ⟨R_Law, "clear", "(LContinuationCore;[J)I"⟩
abbrev b_Law_clear : ByteArray := method_4_code
def y_Law_given : MethodName := ⟨R_Law, "given", "(LContinuationCore;II[J)I"⟩
abbrev b_Law_given : ByteArray := method_5_code
def y_Law_start : MethodName := ⟨R_Law, "start", "(LContinuationCore;[J)I"⟩
abbrev b_Law_start : ByteArray := method_6_code
def y_Law_run : MethodName := ⟨R_Law, "run", "(LContinuationCore;I[J)I"⟩
abbrev b_Law_run : ByteArray := method_7_code
def y_Law_stop : MethodName := ⟨R_Law, "stop", "(LContinuationCore;[J)I"⟩
abbrev b_Law_stop : ByteArray := method_8_code
def y_Law_state : MethodName := ⟨R_Law, "state", "(LContinuationCore;I[J)I"⟩
abbrev b_Law_state : ByteArray := method_9_code
def y_Law_sign : MethodName := ⟨R_Law, "sign", "(LContinuationCore;I[J)I"⟩
abbrev b_Law_sign : ByteArray := method_10_code
def y_Law_global : MethodName := ⟨R_Law, "global", "(LContinuationCore;I[J)I"⟩
abbrev b_Law_global : ByteArray := method_11_code
def y_Law_law : MethodName := ⟨R_Law, "law", "([I)Z"⟩
abbrev b_Law_law : ByteArray := code
def T_C : u_T := fun k => match k with
  | 0 => ("ContinuationCore", "signRow", "[C", true)
  | 1 => ("ContinuationCore", "reader", "LContinuationCore$Reader;", true)
  | 2 => ("ContinuationCore", "machine", "LContinuationCore$Machine;", true)
  | 3 => ("ContinuationCore", "givens", "[LContinuationCore$IntValue;", true)
  | 4 => ("ContinuationCore", "length", "I", false)
  | _ => ("ContinuationCore", "givenCount", "I", false)
def ty_C : Nat → FieldType := fun k => match k with
  | 0 => .array .char
  | 1 => .object "ContinuationCore$Reader"
  | 2 => .object "ContinuationCore$Machine"
  | 3 => .array (.object "ContinuationCore$IntValue")
  | 4 => .int
  | _ => .int
theorem nm_C : ∀ a, a < 6 → ∀ b, b < 6 → a ≠ b → (T_C a).2.1 ≠ (T_C b).2.1 := by decide +kernel
theorem ty_C_ok : ∀ k, k < 6 → parseFieldDescriptor (T_C k).2.2.1 = some (ty_C k) := by decide +kernel
theorem in_C_l : u_ws R_C T_C 6 = ([228, 230, 232, 234, 236, 238] : List Nat).filterMap (fun i => tables_1[i]?) := by decide +kernel
theorem in_C : ∀ w ∈ u_ws R_C T_C 6, w ∈ lw_g := fun w h => by
  have hg : (u_ws R_C T_C 6).all goodWord = true := by decide +kernel
  refine lw_in ?_ (List.all_eq_true.mp hg w h)
  rw [in_C_l] at h
  obtain ⟨i, -, hi⟩ := List.mem_filterMap.mp h
  exact List.mem_append_right _ (List.mem_of_getElem? hi)
theorem k_C_inst : Cond.instantiable R_C 6 ∈ lw_g := lw_in (List.mem_append_right _ (List.mem_of_getElem? (i := 35) (by decide +kernel))) rfl
theorem k_C_ini : Cond.initialized R_C ∈ lw_g := lw_in (List.mem_append_right _ (List.mem_of_getElem? (i := 1) (by decide +kernel))) rfl
-- C_init: maxLocals 1, ret none
theorem kc_C_init : Cond.code y_C_init b_C_init 1 none ∈ lw_g := lw_in (List.mem_append_right _ (List.mem_of_getElem? (i := 38) (by decide +kernel))) rfl
theorem d_C_init_0 : decode b_C_init 0 = .ok (.aload_n 0, 1) := by decide +kernel
theorem d_C_init_1 : decode b_C_init 1 = .ok (.invokespecial 1, 3) := by decide +kernel
theorem k_C_m1 : Cond.methodLink R_C 1 objectInit ∈ lw_g := lw_in (List.mem_append_right _ (List.mem_of_getElem? (i := 39) (by decide +kernel))) rfl
theorem d_C_init_4 : decode b_C_init 4 = .ok (.aload_n 0, 1) := by decide +kernel
theorem d_C_init_5 : decode b_C_init 5 = .ok (.sipush 128, 3) := by decide +kernel
theorem d_C_init_8 : decode b_C_init 8 = .ok (.newarray .char, 2) := by decide +kernel
theorem d_C_init_10 : decode b_C_init 10 = .ok (.putfield 9, 3) := by decide +kernel
theorem k_C_f9 : Cond.fieldLink R_C 9 "ContinuationCore" "signRow" "[C" ∈ lw_g := lw_in (List.mem_append_right _ (List.mem_of_getElem? (i := 222) (by decide +kernel))) rfl
theorem d_C_init_13 : decode b_C_init 13 = .ok (.aload_n 0, 1) := by decide +kernel
theorem d_C_init_14 : decode b_C_init 14 = .ok (.new 13, 3) := by decide +kernel
theorem k_C_c13 : Cond.classLink R_C 13 "ContinuationCore$Reader" ∈ lw_g := lw_in (List.mem_append_right _ (List.mem_of_getElem? (i := 42) (by decide +kernel))) rfl
theorem d_C_init_17 : decode b_C_init 17 = .ok (.dup, 1) := by decide +kernel
theorem d_C_init_18 : decode b_C_init 18 = .ok (.invokespecial 15, 3) := by decide +kernel
theorem k_C_m15 : Cond.methodLink R_C 15 y_Reader_init ∈ lw_g := lw_in (List.mem_append_right _ (List.mem_of_getElem? (i := 44) (by decide +kernel))) rfl
theorem d_C_init_21 : decode b_C_init 21 = .ok (.putfield 16, 3) := by decide +kernel
theorem k_C_f16 : Cond.fieldLink R_C 16 "ContinuationCore" "reader" "LContinuationCore$Reader;" ∈ lw_g := lw_in (List.mem_append_right _ (List.mem_of_getElem? (i := 223) (by decide +kernel))) rfl
theorem d_C_init_24 : decode b_C_init 24 = .ok (.aload_n 0, 1) := by decide +kernel
theorem d_C_init_25 : decode b_C_init 25 = .ok (.new 20, 3) := by decide +kernel
theorem k_C_c20 : Cond.classLink R_C 20 "ContinuationCore$Machine" ∈ lw_g := lw_in (List.mem_append_right _ (List.mem_of_getElem? (i := 104) (by decide +kernel))) rfl
theorem d_C_init_28 : decode b_C_init 28 = .ok (.dup, 1) := by decide +kernel
theorem d_C_init_29 : decode b_C_init 29 = .ok (.invokespecial 22, 3) := by decide +kernel
theorem k_C_m22 : Cond.methodLink R_C 22 y_Machine_init ∈ lw_g := lw_in (List.mem_append_right _ (List.mem_of_getElem? (i := 106) (by decide +kernel))) rfl
theorem d_C_init_32 : decode b_C_init 32 = .ok (.putfield 23, 3) := by decide +kernel
theorem k_C_f23 : Cond.fieldLink R_C 23 "ContinuationCore" "machine" "LContinuationCore$Machine;" ∈ lw_g := lw_in (List.mem_append_right _ (List.mem_of_getElem? (i := 224) (by decide +kernel))) rfl
theorem d_C_init_35 : decode b_C_init 35 = .ok (.aload_n 0, 1) := by decide +kernel
theorem d_C_init_36 : decode b_C_init 36 = .ok (.bipush 26, 2) := by decide +kernel
theorem d_C_init_38 : decode b_C_init 38 = .ok (.anewarray 27, 3) := by decide +kernel
theorem k_C_c27 : Cond.classLink R_C 27 "ContinuationCore$IntValue" ∈ lw_g := lw_in (List.mem_append_right _ (List.mem_of_getElem? (i := 220) (by decide +kernel))) rfl
theorem d_C_init_41 : decode b_C_init 41 = .ok (.putfield 29, 3) := by decide +kernel
theorem k_C_f29 : Cond.fieldLink R_C 29 "ContinuationCore" "givens" "[LContinuationCore$IntValue;" ∈ lw_g := lw_in (List.mem_append_right _ (List.mem_of_getElem? (i := 225) (by decide +kernel))) rfl
theorem d_C_init_44 : decode b_C_init 44 = .ok (.return_, 1) := by decide +kernel
theorem ki_C_init : Cond.instanceMethod y_C_init ∈ lw_g := lw_in (List.mem_append_right _ (List.mem_of_getElem? (i := 37) (by decide +kernel))) rfl
-- C_text: maxLocals 4, ret (some .int)
theorem kc_C_text : Cond.code y_C_text b_C_text 4 (some .int) ∈ lw_g := lw_in (List.mem_append_right _ (List.mem_of_getElem? (i := 257) (by decide +kernel))) rfl
theorem d_C_text_0 : decode b_C_text 0 = .ok (.aload_n 0, 1) := by decide +kernel
theorem d_C_text_1 : decode b_C_text 1 = .ok (.getfield 23, 3) := by decide +kernel
theorem d_C_text_4 : decode b_C_text 4 = .ok (.getfield 33, 3) := by decide +kernel
theorem k_C_f33 : Cond.fieldLink R_C 33 "ContinuationCore$Machine" "status" "I" ∈ lw_g := lw_in (List.mem_append_right _ (List.mem_of_getElem? (i := 182) (by decide +kernel))) rfl
theorem d_C_text_7 : decode b_C_text 7 = .ok (.iconst 1, 1) := by decide +kernel
theorem d_C_text_8 : decode b_C_text 8 = .ok (.if_icmp .ne 13, 3) := by decide +kernel
theorem d_C_text_11 : decode b_C_text 11 = .ok (.new 37, 3) := by decide +kernel
theorem k_C_c37 : Cond.classLink R_C 37 "java/lang/IllegalStateException" ∈ lw_g := lw_in (List.mem_append_right _ (List.mem_of_getElem? (i := 258) (by decide +kernel))) rfl
theorem d_C_text_14 : decode b_C_text 14 = .ok (.dup, 1) := by decide +kernel
theorem d_C_text_15 : decode b_C_text 15 = .ok (.ldc 39, 2) := by decide +kernel
theorem k_C_s39 : Cond.stringRef R_C 39 "a run is going on" ∈ lw_tbl := List.mem_append_right _ (List.mem_of_getElem? (i := 301) (by decide +kernel))
theorem d_C_text_17 : decode b_C_text 17 = .ok (.invokespecial 41, 3) := by decide +kernel
theorem k_C_m41 : Cond.methodLink R_C 41 ⟨"java/lang/IllegalStateException", "<init>", "(Ljava/lang/String;)V"⟩ ∈ lw_g := lw_in (List.mem_append_right _ (List.mem_of_getElem? (i := 302) (by decide +kernel))) rfl
theorem d_C_text_20 : decode b_C_text 20 = .ok (.athrow, 1) := by decide +kernel
theorem d_C_text_21 : decode b_C_text 21 = .ok (.aload_n 0, 1) := by decide +kernel
theorem d_C_text_22 : decode b_C_text 22 = .ok (.lload_n 1, 1) := by decide +kernel
theorem d_C_text_23 : decode b_C_text 23 = .ok (.invokevirtual 44, 3) := by decide +kernel
theorem k_C_m44 : Cond.methodLink R_C 44 y_C_putBehind ∈ lw_g := lw_in (List.mem_append_right _ (List.mem_of_getElem? (i := 327) (by decide +kernel))) rfl
theorem d_C_text_26 : decode b_C_text 26 = .ok (.istore_n 3, 1) := by decide +kernel
theorem d_C_text_27 : decode b_C_text 27 = .ok (.iload_n 3, 1) := by decide +kernel
theorem d_C_text_28 : decode b_C_text 28 = .ok (.iconst (-1), 1) := by decide +kernel
theorem d_C_text_29 : decode b_C_text 29 = .ok (.if_icmp .ne 13, 3) := by decide +kernel
theorem d_C_text_32 : decode b_C_text 32 = .ok (.new 48, 3) := by decide +kernel
theorem k_C_c48 : Cond.classLink R_C 48 "java/lang/IllegalArgumentException" ∈ lw_g := lw_in (List.mem_append_right _ (List.mem_of_getElem? (i := 331) (by decide +kernel))) rfl
theorem d_C_text_35 : decode b_C_text 35 = .ok (.dup, 1) := by decide +kernel
theorem d_C_text_36 : decode b_C_text 36 = .ok (.ldc 50, 2) := by decide +kernel
theorem k_C_s50 : Cond.stringRef R_C 50 "a byte is no sign" ∈ lw_tbl := List.mem_append_right _ (List.mem_of_getElem? (i := 340) (by decide +kernel))
theorem d_C_text_38 : decode b_C_text 38 = .ok (.invokespecial 52, 3) := by decide +kernel
theorem k_C_m52 : Cond.methodLink R_C 52 ⟨"java/lang/IllegalArgumentException", "<init>", "(Ljava/lang/String;)V"⟩ ∈ lw_g := lw_in (List.mem_append_right _ (List.mem_of_getElem? (i := 341) (by decide +kernel))) rfl
theorem d_C_text_41 : decode b_C_text 41 = .ok (.athrow, 1) := by decide +kernel
theorem d_C_text_42 : decode b_C_text 42 = .ok (.aload_n 0, 1) := by decide +kernel
theorem d_C_text_43 : decode b_C_text 43 = .ok (.getfield 16, 3) := by decide +kernel
theorem d_C_text_46 : decode b_C_text 46 = .ok (.aload_n 0, 1) := by decide +kernel
theorem d_C_text_47 : decode b_C_text 47 = .ok (.getfield 9, 3) := by decide +kernel
theorem d_C_text_50 : decode b_C_text 50 = .ok (.iload_n 3, 1) := by decide +kernel
theorem d_C_text_51 : decode b_C_text 51 = .ok (.invokevirtual 53, 3) := by decide +kernel
theorem k_C_m53 : Cond.methodLink R_C 53 y_Reader_read ∈ lw_g := lw_in (List.mem_append_right _ (List.mem_of_getElem? (i := 347) (by decide +kernel))) rfl
theorem d_C_text_54 : decode b_C_text 54 = .ok (.ifCond .ne 29, 3) := by decide +kernel
theorem d_C_text_57 : decode b_C_text 57 = .ok (.aload_n 0, 1) := by decide +kernel
theorem d_C_text_58 : decode b_C_text 58 = .ok (.getfield 16, 3) := by decide +kernel
theorem d_C_text_61 : decode b_C_text 61 = .ok (.aload_n 0, 1) := by decide +kernel
theorem d_C_text_62 : decode b_C_text 62 = .ok (.getfield 9, 3) := by decide +kernel
theorem d_C_text_65 : decode b_C_text 65 = .ok (.aload_n 0, 1) := by decide +kernel
theorem d_C_text_66 : decode b_C_text 66 = .ok (.getfield 57, 3) := by decide +kernel
theorem k_C_f57 : Cond.fieldLink R_C 57 "ContinuationCore" "length" "I" ∈ lw_g := lw_in (List.mem_append_right _ (List.mem_of_getElem? (i := 226) (by decide +kernel))) rfl
theorem d_C_text_69 : decode b_C_text 69 = .ok (.invokevirtual 53, 3) := by decide +kernel
theorem d_C_text_72 : decode b_C_text 72 = .ok (.pop, 1) := by decide +kernel
theorem d_C_text_73 : decode b_C_text 73 = .ok (.new 48, 3) := by decide +kernel
theorem d_C_text_76 : decode b_C_text 76 = .ok (.dup, 1) := by decide +kernel
theorem d_C_text_77 : decode b_C_text 77 = .ok (.ldc 60, 2) := by decide +kernel
theorem k_C_s60 : Cond.stringRef R_C 60 "no expression begins so" ∈ lw_tbl := List.mem_append_right _ (List.mem_of_getElem? (i := 495) (by decide +kernel))
theorem d_C_text_79 : decode b_C_text 79 = .ok (.invokespecial 52, 3) := by decide +kernel
theorem d_C_text_82 : decode b_C_text 82 = .ok (.athrow, 1) := by decide +kernel
theorem d_C_text_83 : decode b_C_text 83 = .ok (.aload_n 0, 1) := by decide +kernel
theorem d_C_text_84 : decode b_C_text 84 = .ok (.iload_n 3, 1) := by decide +kernel
theorem d_C_text_85 : decode b_C_text 85 = .ok (.putfield 57, 3) := by decide +kernel
theorem d_C_text_88 : decode b_C_text 88 = .ok (.aload_n 0, 1) := by decide +kernel
theorem d_C_text_89 : decode b_C_text 89 = .ok (.getfield 57, 3) := by decide +kernel
theorem d_C_text_92 : decode b_C_text 92 = .ok (.ireturn, 1) := by decide +kernel
theorem ki_C_text : Cond.instanceMethod y_C_text ∈ lw_g := lw_in (List.mem_append_right _ (List.mem_of_getElem? (i := 255) (by decide +kernel))) rfl
theorem ke_C_text : Cond.selects R_C y_C_text y_C_text ∈ lw_g := lw_in (List.mem_append_right _ (List.mem_of_getElem? (i := 256) (by decide +kernel))) rfl
-- C_clear: maxLocals 2, ret (some .int)
theorem kc_C_clear : Cond.code y_C_clear b_C_clear 2 (some .int) ∈ lw_g := lw_in (List.mem_append_right _ (List.mem_of_getElem? (i := 502) (by decide +kernel))) rfl
theorem d_C_clear_0 : decode b_C_clear 0 = .ok (.aload_n 0, 1) := by decide +kernel
theorem d_C_clear_1 : decode b_C_clear 1 = .ok (.getfield 23, 3) := by decide +kernel
theorem d_C_clear_4 : decode b_C_clear 4 = .ok (.getfield 33, 3) := by decide +kernel
theorem d_C_clear_7 : decode b_C_clear 7 = .ok (.iconst 1, 1) := by decide +kernel
theorem d_C_clear_8 : decode b_C_clear 8 = .ok (.if_icmp .ne 13, 3) := by decide +kernel
theorem d_C_clear_11 : decode b_C_clear 11 = .ok (.new 37, 3) := by decide +kernel
theorem d_C_clear_14 : decode b_C_clear 14 = .ok (.dup, 1) := by decide +kernel
theorem d_C_clear_15 : decode b_C_clear 15 = .ok (.ldc 39, 2) := by decide +kernel
theorem d_C_clear_17 : decode b_C_clear 17 = .ok (.invokespecial 41, 3) := by decide +kernel
theorem d_C_clear_20 : decode b_C_clear 20 = .ok (.athrow, 1) := by decide +kernel
theorem d_C_clear_21 : decode b_C_clear 21 = .ok (.aload_n 0, 1) := by decide +kernel
theorem d_C_clear_22 : decode b_C_clear 22 = .ok (.getfield 57, 3) := by decide +kernel
theorem d_C_clear_25 : decode b_C_clear 25 = .ok (.istore_n 1, 1) := by decide +kernel
theorem d_C_clear_26 : decode b_C_clear 26 = .ok (.aload_n 0, 1) := by decide +kernel
theorem d_C_clear_27 : decode b_C_clear 27 = .ok (.iconst 0, 1) := by decide +kernel
theorem d_C_clear_28 : decode b_C_clear 28 = .ok (.putfield 57, 3) := by decide +kernel
theorem d_C_clear_31 : decode b_C_clear 31 = .ok (.aload_n 0, 1) := by decide +kernel
theorem d_C_clear_32 : decode b_C_clear 32 = .ok (.getfield 16, 3) := by decide +kernel
theorem d_C_clear_35 : decode b_C_clear 35 = .ok (.aload_n 0, 1) := by decide +kernel
theorem d_C_clear_36 : decode b_C_clear 36 = .ok (.getfield 9, 3) := by decide +kernel
theorem d_C_clear_39 : decode b_C_clear 39 = .ok (.iconst 0, 1) := by decide +kernel
theorem d_C_clear_40 : decode b_C_clear 40 = .ok (.invokevirtual 53, 3) := by decide +kernel
theorem d_C_clear_43 : decode b_C_clear 43 = .ok (.pop, 1) := by decide +kernel
theorem d_C_clear_44 : decode b_C_clear 44 = .ok (.iload_n 1, 1) := by decide +kernel
theorem d_C_clear_45 : decode b_C_clear 45 = .ok (.ireturn, 1) := by decide +kernel
theorem ki_C_clear : Cond.instanceMethod y_C_clear ∈ lw_g := lw_in (List.mem_append_right _ (List.mem_of_getElem? (i := 500) (by decide +kernel))) rfl
theorem ke_C_clear : Cond.selects R_C y_C_clear y_C_clear ∈ lw_g := lw_in (List.mem_append_right _ (List.mem_of_getElem? (i := 501) (by decide +kernel))) rfl
-- C_whole: maxLocals 1, ret (some .int)
theorem kc_C_whole : Cond.code y_C_whole b_C_whole 1 (some .int) ∈ lw_g := lw_in (List.mem_append_right _ (List.mem_of_getElem? (i := 244) (by decide +kernel))) rfl
theorem d_C_whole_0 : decode b_C_whole 0 = .ok (.aload_n 0, 1) := by decide +kernel
theorem d_C_whole_1 : decode b_C_whole 1 = .ok (.getfield 16, 3) := by decide +kernel
theorem d_C_whole_4 : decode b_C_whole 4 = .ok (.invokevirtual 62, 3) := by decide +kernel
theorem k_C_m62 : Cond.methodLink R_C 62 y_Reader_isWhole ∈ lw_g := lw_in (List.mem_append_right _ (List.mem_of_getElem? (i := 245) (by decide +kernel))) rfl
theorem d_C_whole_7 : decode b_C_whole 7 = .ok (.ifCond .eq 7, 3) := by decide +kernel
theorem d_C_whole_10 : decode b_C_whole 10 = .ok (.iconst 1, 1) := by decide +kernel
theorem d_C_whole_11 : decode b_C_whole 11 = .ok (.goto 4, 3) := by decide +kernel
theorem d_C_whole_14 : decode b_C_whole 14 = .ok (.iconst 0, 1) := by decide +kernel
theorem d_C_whole_15 : decode b_C_whole 15 = .ok (.ireturn, 1) := by decide +kernel
theorem ki_C_whole : Cond.instanceMethod y_C_whole ∈ lw_g := lw_in (List.mem_append_right _ (List.mem_of_getElem? (i := 242) (by decide +kernel))) rfl
theorem ke_C_whole : Cond.selects R_C y_C_whole y_C_whole ∈ lw_g := lw_in (List.mem_append_right _ (List.mem_of_getElem? (i := 243) (by decide +kernel))) rfl
-- C_given: maxLocals 3, ret (some .int)
theorem kc_C_given : Cond.code y_C_given b_C_given 3 (some .int) ∈ lw_g := lw_in (List.mem_append_right _ (List.mem_of_getElem? (i := 509) (by decide +kernel))) rfl
theorem d_C_given_0 : decode b_C_given 0 = .ok (.iload_n 1, 1) := by decide +kernel
theorem d_C_given_1 : decode b_C_given 1 = .ok (.invokestatic 66, 3) := by decide +kernel
theorem k_C_m66 : Cond.methodLink R_C 66 y_C_isLetter ∈ lw_g := lw_in (List.mem_append_right _ (List.mem_of_getElem? (i := 510) (by decide +kernel))) rfl
theorem d_C_given_4 : decode b_C_given 4 = .ok (.ifCond .ne 13, 3) := by decide +kernel
theorem d_C_given_7 : decode b_C_given 7 = .ok (.new 48, 3) := by decide +kernel
theorem d_C_given_10 : decode b_C_given 10 = .ok (.dup, 1) := by decide +kernel
theorem d_C_given_11 : decode b_C_given 11 = .ok (.ldc 70, 2) := by decide +kernel
theorem k_C_s70 : Cond.stringRef R_C 70 "the name is not 0 .. 25" ∈ lw_tbl := List.mem_append_right _ (List.mem_of_getElem? (i := 513) (by decide +kernel))
theorem d_C_given_13 : decode b_C_given 13 = .ok (.invokespecial 52, 3) := by decide +kernel
theorem d_C_given_16 : decode b_C_given 16 = .ok (.athrow, 1) := by decide +kernel
theorem d_C_given_17 : decode b_C_given 17 = .ok (.aload_n 0, 1) := by decide +kernel
theorem d_C_given_18 : decode b_C_given 18 = .ok (.getfield 23, 3) := by decide +kernel
theorem d_C_given_21 : decode b_C_given 21 = .ok (.getfield 33, 3) := by decide +kernel
theorem d_C_given_24 : decode b_C_given 24 = .ok (.iconst 1, 1) := by decide +kernel
theorem d_C_given_25 : decode b_C_given 25 = .ok (.if_icmp .ne 13, 3) := by decide +kernel
theorem d_C_given_28 : decode b_C_given 28 = .ok (.new 37, 3) := by decide +kernel
theorem d_C_given_31 : decode b_C_given 31 = .ok (.dup, 1) := by decide +kernel
theorem d_C_given_32 : decode b_C_given 32 = .ok (.ldc 39, 2) := by decide +kernel
theorem d_C_given_34 : decode b_C_given 34 = .ok (.invokespecial 41, 3) := by decide +kernel
theorem d_C_given_37 : decode b_C_given 37 = .ok (.athrow, 1) := by decide +kernel
theorem d_C_given_38 : decode b_C_given 38 = .ok (.aload_n 0, 1) := by decide +kernel
theorem d_C_given_39 : decode b_C_given 39 = .ok (.getfield 29, 3) := by decide +kernel
theorem d_C_given_42 : decode b_C_given 42 = .ok (.iload_n 1, 1) := by decide +kernel
theorem d_C_given_43 : decode b_C_given 43 = .ok (.aaload, 1) := by decide +kernel
theorem d_C_given_44 : decode b_C_given 44 = .ok (.ifnonnull 13, 3) := by decide +kernel
theorem d_C_given_47 : decode b_C_given 47 = .ok (.aload_n 0, 1) := by decide +kernel
theorem d_C_given_48 : decode b_C_given 48 = .ok (.dup, 1) := by decide +kernel
theorem d_C_given_49 : decode b_C_given 49 = .ok (.getfield 72, 3) := by decide +kernel
theorem k_C_f72 : Cond.fieldLink R_C 72 "ContinuationCore" "givenCount" "I" ∈ lw_g := lw_in (List.mem_append_right _ (List.mem_of_getElem? (i := 227) (by decide +kernel))) rfl
theorem d_C_given_52 : decode b_C_given 52 = .ok (.iconst 1, 1) := by decide +kernel
theorem d_C_given_53 : decode b_C_given 53 = .ok (.iadd, 1) := by decide +kernel
theorem d_C_given_54 : decode b_C_given 54 = .ok (.putfield 72, 3) := by decide +kernel
theorem d_C_given_57 : decode b_C_given 57 = .ok (.aload_n 0, 1) := by decide +kernel
theorem d_C_given_58 : decode b_C_given 58 = .ok (.getfield 29, 3) := by decide +kernel
theorem d_C_given_61 : decode b_C_given 61 = .ok (.iload_n 1, 1) := by decide +kernel
theorem d_C_given_62 : decode b_C_given 62 = .ok (.new 27, 3) := by decide +kernel
theorem d_C_given_65 : decode b_C_given 65 = .ok (.dup, 1) := by decide +kernel
theorem d_C_given_66 : decode b_C_given 66 = .ok (.iload_n 2, 1) := by decide +kernel
theorem d_C_given_67 : decode b_C_given 67 = .ok (.invokespecial 75, 3) := by decide +kernel
theorem k_C_m75 : Cond.methodLink R_C 75 y_IntValue_init ∈ lw_g := lw_in (List.mem_append_right _ (List.mem_of_getElem? (i := 515) (by decide +kernel))) rfl
theorem d_C_given_70 : decode b_C_given 70 = .ok (.aastore, 1) := by decide +kernel
theorem d_C_given_71 : decode b_C_given 71 = .ok (.aload_n 0, 1) := by decide +kernel
theorem d_C_given_72 : decode b_C_given 72 = .ok (.getfield 72, 3) := by decide +kernel
theorem d_C_given_75 : decode b_C_given 75 = .ok (.ireturn, 1) := by decide +kernel
theorem ki_C_given : Cond.instanceMethod y_C_given ∈ lw_g := lw_in (List.mem_append_right _ (List.mem_of_getElem? (i := 507) (by decide +kernel))) rfl
theorem ke_C_given : Cond.selects R_C y_C_given y_C_given ∈ lw_g := lw_in (List.mem_append_right _ (List.mem_of_getElem? (i := 508) (by decide +kernel))) rfl
-- C_start: maxLocals 1, ret (some .int)
theorem kc_C_start : Cond.code y_C_start b_C_start 1 (some .int) ∈ lw_g := lw_in (List.mem_append_right _ (List.mem_of_getElem? (i := 531) (by decide +kernel))) rfl
theorem d_C_start_0 : decode b_C_start 0 = .ok (.aload_n 0, 1) := by decide +kernel
theorem d_C_start_1 : decode b_C_start 1 = .ok (.getfield 23, 3) := by decide +kernel
theorem d_C_start_4 : decode b_C_start 4 = .ok (.getfield 33, 3) := by decide +kernel
theorem d_C_start_7 : decode b_C_start 7 = .ok (.iconst 1, 1) := by decide +kernel
theorem d_C_start_8 : decode b_C_start 8 = .ok (.if_icmp .ne 13, 3) := by decide +kernel
theorem d_C_start_11 : decode b_C_start 11 = .ok (.new 37, 3) := by decide +kernel
theorem d_C_start_14 : decode b_C_start 14 = .ok (.dup, 1) := by decide +kernel
theorem d_C_start_15 : decode b_C_start 15 = .ok (.ldc 39, 2) := by decide +kernel
theorem d_C_start_17 : decode b_C_start 17 = .ok (.invokespecial 41, 3) := by decide +kernel
theorem d_C_start_20 : decode b_C_start 20 = .ok (.athrow, 1) := by decide +kernel
theorem d_C_start_21 : decode b_C_start 21 = .ok (.aload_n 0, 1) := by decide +kernel
theorem d_C_start_22 : decode b_C_start 22 = .ok (.getfield 16, 3) := by decide +kernel
theorem d_C_start_25 : decode b_C_start 25 = .ok (.invokevirtual 62, 3) := by decide +kernel
theorem d_C_start_28 : decode b_C_start 28 = .ok (.ifCond .ne 13, 3) := by decide +kernel
theorem d_C_start_31 : decode b_C_start 31 = .ok (.new 37, 3) := by decide +kernel
theorem d_C_start_34 : decode b_C_start 34 = .ok (.dup, 1) := by decide +kernel
theorem d_C_start_35 : decode b_C_start 35 = .ok (.ldc 78, 2) := by decide +kernel
theorem k_C_s78 : Cond.stringRef R_C 78 "the text is not whole" ∈ lw_tbl := List.mem_append_right _ (List.mem_of_getElem? (i := 532) (by decide +kernel))
theorem d_C_start_37 : decode b_C_start 37 = .ok (.invokespecial 41, 3) := by decide +kernel
theorem d_C_start_40 : decode b_C_start 40 = .ok (.athrow, 1) := by decide +kernel
theorem d_C_start_41 : decode b_C_start 41 = .ok (.aload_n 0, 1) := by decide +kernel
theorem d_C_start_42 : decode b_C_start 42 = .ok (.getfield 23, 3) := by decide +kernel
theorem d_C_start_45 : decode b_C_start 45 = .ok (.aload_n 0, 1) := by decide +kernel
theorem d_C_start_46 : decode b_C_start 46 = .ok (.getfield 16, 3) := by decide +kernel
theorem d_C_start_49 : decode b_C_start 49 = .ok (.invokevirtual 80, 3) := by decide +kernel
theorem k_C_m80 : Cond.methodLink R_C 80 y_Reader_outermost ∈ lw_g := lw_in (List.mem_append_right _ (List.mem_of_getElem? (i := 533) (by decide +kernel))) rfl
theorem d_C_start_52 : decode b_C_start 52 = .ok (.aload_n 0, 1) := by decide +kernel
theorem d_C_start_53 : decode b_C_start 53 = .ok (.getfield 29, 3) := by decide +kernel
theorem d_C_start_56 : decode b_C_start 56 = .ok (.invokevirtual 84, 3) := by decide +kernel
theorem k_C_m84 : Cond.methodLink R_C 84 y_Machine_prepare ∈ lw_g := lw_in (List.mem_append_right _ (List.mem_of_getElem? (i := 537) (by decide +kernel))) rfl
theorem d_C_start_59 : decode b_C_start 59 = .ok (.aload_n 0, 1) := by decide +kernel
theorem d_C_start_60 : decode b_C_start 60 = .ok (.getfield 16, 3) := by decide +kernel
theorem d_C_start_63 : decode b_C_start 63 = .ok (.getfield 88, 3) := by decide +kernel
theorem k_C_f88 : Cond.fieldLink R_C 88 "ContinuationCore$Reader" "used" "I" ∈ lw_g := lw_in (List.mem_append_right _ (List.mem_of_getElem? (i := 90) (by decide +kernel))) rfl
theorem d_C_start_66 : decode b_C_start 66 = .ok (.ireturn, 1) := by decide +kernel
theorem ki_C_start : Cond.instanceMethod y_C_start ∈ lw_g := lw_in (List.mem_append_right _ (List.mem_of_getElem? (i := 529) (by decide +kernel))) rfl
theorem ke_C_start : Cond.selects R_C y_C_start y_C_start ∈ lw_g := lw_in (List.mem_append_right _ (List.mem_of_getElem? (i := 530) (by decide +kernel))) rfl
-- C_run: maxLocals 3, ret (some .int)
theorem kc_C_run : Cond.code y_C_run b_C_run 3 (some .int) ∈ lw_g := lw_in (List.mem_append_right _ (List.mem_of_getElem? (i := 553) (by decide +kernel))) rfl
theorem d_C_run_0 : decode b_C_run 0 = .ok (.iload_n 1, 1) := by decide +kernel
theorem d_C_run_1 : decode b_C_run 1 = .ok (.iconst 1, 1) := by decide +kernel
theorem d_C_run_2 : decode b_C_run 2 = .ok (.if_icmp .lt 9, 3) := by decide +kernel
theorem d_C_run_5 : decode b_C_run 5 = .ok (.iload_n 1, 1) := by decide +kernel
theorem d_C_run_6 : decode b_C_run 6 = .ok (.bipush 10, 2) := by decide +kernel
theorem d_C_run_8 : decode b_C_run 8 = .ok (.if_icmp .le 13, 3) := by decide +kernel
theorem d_C_run_11 : decode b_C_run 11 = .ok (.new 48, 3) := by decide +kernel
theorem d_C_run_14 : decode b_C_run 14 = .ok (.dup, 1) := by decide +kernel
theorem d_C_run_15 : decode b_C_run 15 = .ok (.ldc 91, 2) := by decide +kernel
theorem k_C_s91 : Cond.stringRef R_C 91 "the steps are not 1 .. 10" ∈ lw_tbl := List.mem_append_right _ (List.mem_of_getElem? (i := 554) (by decide +kernel))
theorem d_C_run_17 : decode b_C_run 17 = .ok (.invokespecial 52, 3) := by decide +kernel
theorem d_C_run_20 : decode b_C_run 20 = .ok (.athrow, 1) := by decide +kernel
theorem d_C_run_21 : decode b_C_run 21 = .ok (.aload_n 0, 1) := by decide +kernel
theorem d_C_run_22 : decode b_C_run 22 = .ok (.getfield 23, 3) := by decide +kernel
theorem d_C_run_25 : decode b_C_run 25 = .ok (.getfield 33, 3) := by decide +kernel
theorem d_C_run_28 : decode b_C_run 28 = .ok (.iconst 1, 1) := by decide +kernel
theorem d_C_run_29 : decode b_C_run 29 = .ok (.if_icmp .eq 13, 3) := by decide +kernel
theorem d_C_run_32 : decode b_C_run 32 = .ok (.new 37, 3) := by decide +kernel
theorem d_C_run_35 : decode b_C_run 35 = .ok (.dup, 1) := by decide +kernel
theorem d_C_run_36 : decode b_C_run 36 = .ok (.ldc 93, 2) := by decide +kernel
theorem k_C_s93 : Cond.stringRef R_C 93 "no run is going on" ∈ lw_tbl := List.mem_append_right _ (List.mem_of_getElem? (i := 555) (by decide +kernel))
theorem d_C_run_38 : decode b_C_run 38 = .ok (.invokespecial 41, 3) := by decide +kernel
theorem d_C_run_41 : decode b_C_run 41 = .ok (.athrow, 1) := by decide +kernel
theorem d_C_run_42 : decode b_C_run 42 = .ok (.iconst 0, 1) := by decide +kernel
theorem d_C_run_43 : decode b_C_run 43 = .ok (.istore_n 2, 1) := by decide +kernel
theorem d_C_run_44 : decode b_C_run 44 = .ok (.iload_n 2, 1) := by decide +kernel
theorem d_C_run_45 : decode b_C_run 45 = .ok (.iload_n 1, 1) := by decide +kernel
theorem d_C_run_46 : decode b_C_run 46 = .ok (.if_icmp .ge 27, 3) := by decide +kernel
theorem d_C_run_49 : decode b_C_run 49 = .ok (.aload_n 0, 1) := by decide +kernel
theorem d_C_run_50 : decode b_C_run 50 = .ok (.getfield 23, 3) := by decide +kernel
theorem d_C_run_53 : decode b_C_run 53 = .ok (.getfield 33, 3) := by decide +kernel
theorem d_C_run_56 : decode b_C_run 56 = .ok (.iconst 1, 1) := by decide +kernel
theorem d_C_run_57 : decode b_C_run 57 = .ok (.if_icmp .ne 16, 3) := by decide +kernel
theorem d_C_run_60 : decode b_C_run 60 = .ok (.aload_n 0, 1) := by decide +kernel
theorem d_C_run_61 : decode b_C_run 61 = .ok (.getfield 23, 3) := by decide +kernel
theorem d_C_run_64 : decode b_C_run 64 = .ok (.invokevirtual 95, 3) := by decide +kernel
theorem k_C_m95 : Cond.methodLink R_C 95 y_Machine_step ∈ lw_g := lw_in (List.mem_append_right _ (List.mem_of_getElem? (i := 556) (by decide +kernel))) rfl
theorem d_C_run_67 : decode b_C_run 67 = .ok (.iinc 2 1, 3) := by decide +kernel
theorem d_C_run_70 : decode b_C_run 70 = .ok (.goto (-26), 3) := by decide +kernel
theorem d_C_run_73 : decode b_C_run 73 = .ok (.aload_n 0, 1) := by decide +kernel
theorem d_C_run_74 : decode b_C_run 74 = .ok (.getfield 23, 3) := by decide +kernel
theorem d_C_run_77 : decode b_C_run 77 = .ok (.getfield 33, 3) := by decide +kernel
theorem d_C_run_80 : decode b_C_run 80 = .ok (.iconst 3, 1) := by decide +kernel
theorem d_C_run_81 : decode b_C_run 81 = .ok (.if_icmp .ne 13, 3) := by decide +kernel
theorem d_C_run_84 : decode b_C_run 84 = .ok (.aload_n 0, 1) := by decide +kernel
theorem d_C_run_85 : decode b_C_run 85 = .ok (.getfield 23, 3) := by decide +kernel
theorem d_C_run_88 : decode b_C_run 88 = .ok (.getfield 98, 3) := by decide +kernel
theorem k_C_f98 : Cond.fieldLink R_C 98 "ContinuationCore$Machine" "fault" "I" ∈ lw_g := lw_in (List.mem_append_right _ (List.mem_of_getElem? (i := 191) (by decide +kernel))) rfl
theorem d_C_run_91 : decode b_C_run 91 = .ok (.invokestatic 101, 3) := by decide +kernel
theorem k_C_m101 : Cond.methodLink R_C 101 y_C_throwFault ∈ lw_g := lw_in (List.mem_append_right _ (List.mem_of_getElem? (i := 955) (by decide +kernel))) rfl
theorem d_C_run_94 : decode b_C_run 94 = .ok (.iload_n 2, 1) := by decide +kernel
theorem d_C_run_95 : decode b_C_run 95 = .ok (.ireturn, 1) := by decide +kernel
theorem ki_C_run : Cond.instanceMethod y_C_run ∈ lw_g := lw_in (List.mem_append_right _ (List.mem_of_getElem? (i := 551) (by decide +kernel))) rfl
theorem ke_C_run : Cond.selects R_C y_C_run y_C_run ∈ lw_g := lw_in (List.mem_append_right _ (List.mem_of_getElem? (i := 552) (by decide +kernel))) rfl
-- C_stop: maxLocals 1, ret (some .int)
theorem kc_C_stop : Cond.code y_C_stop b_C_stop 1 (some .int) ∈ lw_g := lw_in (List.mem_append_right _ (List.mem_of_getElem? (i := 999) (by decide +kernel))) rfl
theorem d_C_stop_0 : decode b_C_stop 0 = .ok (.aload_n 0, 1) := by decide +kernel
theorem d_C_stop_1 : decode b_C_stop 1 = .ok (.getfield 23, 3) := by decide +kernel
theorem d_C_stop_4 : decode b_C_stop 4 = .ok (.getfield 33, 3) := by decide +kernel
theorem d_C_stop_7 : decode b_C_stop 7 = .ok (.iconst 1, 1) := by decide +kernel
theorem d_C_stop_8 : decode b_C_stop 8 = .ok (.if_icmp .eq 13, 3) := by decide +kernel
theorem d_C_stop_11 : decode b_C_stop 11 = .ok (.new 37, 3) := by decide +kernel
theorem d_C_stop_14 : decode b_C_stop 14 = .ok (.dup, 1) := by decide +kernel
theorem d_C_stop_15 : decode b_C_stop 15 = .ok (.ldc 93, 2) := by decide +kernel
theorem d_C_stop_17 : decode b_C_stop 17 = .ok (.invokespecial 41, 3) := by decide +kernel
theorem d_C_stop_20 : decode b_C_stop 20 = .ok (.athrow, 1) := by decide +kernel
theorem d_C_stop_21 : decode b_C_stop 21 = .ok (.aload_n 0, 1) := by decide +kernel
theorem d_C_stop_22 : decode b_C_stop 22 = .ok (.getfield 23, 3) := by decide +kernel
theorem d_C_stop_25 : decode b_C_stop 25 = .ok (.iconst 0, 1) := by decide +kernel
theorem d_C_stop_26 : decode b_C_stop 26 = .ok (.putfield 33, 3) := by decide +kernel
theorem d_C_stop_29 : decode b_C_stop 29 = .ok (.aload_n 0, 1) := by decide +kernel
theorem d_C_stop_30 : decode b_C_stop 30 = .ok (.getfield 23, 3) := by decide +kernel
theorem d_C_stop_33 : decode b_C_stop 33 = .ok (.getfield 104, 3) := by decide +kernel
theorem k_C_f104 : Cond.fieldLink R_C 104 "ContinuationCore$Machine" "steps" "I" ∈ lw_g := lw_in (List.mem_append_right _ (List.mem_of_getElem? (i := 185) (by decide +kernel))) rfl
theorem d_C_stop_36 : decode b_C_stop 36 = .ok (.ireturn, 1) := by decide +kernel
theorem ki_C_stop : Cond.instanceMethod y_C_stop ∈ lw_g := lw_in (List.mem_append_right _ (List.mem_of_getElem? (i := 997) (by decide +kernel))) rfl
theorem ke_C_stop : Cond.selects R_C y_C_stop y_C_stop ∈ lw_g := lw_in (List.mem_append_right _ (List.mem_of_getElem? (i := 998) (by decide +kernel))) rfl
-- C_state: maxLocals 2, ret (some .int)
theorem kc_C_state : Cond.code y_C_state b_C_state 2 (some .int) ∈ lw_g := lw_in (List.mem_append_right _ (List.mem_of_getElem? (i := 1006) (by decide +kernel))) rfl
theorem d_C_state_0 : decode b_C_state 0 = .ok (.iload_n 1, 1) := by decide +kernel
theorem d_C_state_1 : decode b_C_state 1 = .ok (.tableswitch 87 0 5 #[39, 47, 55, 63, 71, 79], 39) := by decide +kernel
theorem d_C_state_40 : decode b_C_state 40 = .ok (.aload_n 0, 1) := by decide +kernel
theorem d_C_state_41 : decode b_C_state 41 = .ok (.getfield 23, 3) := by decide +kernel
theorem d_C_state_44 : decode b_C_state 44 = .ok (.getfield 33, 3) := by decide +kernel
theorem d_C_state_47 : decode b_C_state 47 = .ok (.ireturn, 1) := by decide +kernel
theorem d_C_state_48 : decode b_C_state 48 = .ok (.aload_n 0, 1) := by decide +kernel
theorem d_C_state_49 : decode b_C_state 49 = .ok (.getfield 23, 3) := by decide +kernel
theorem d_C_state_52 : decode b_C_state 52 = .ok (.getfield 104, 3) := by decide +kernel
theorem d_C_state_55 : decode b_C_state 55 = .ok (.ireturn, 1) := by decide +kernel
theorem d_C_state_56 : decode b_C_state 56 = .ok (.aload_n 0, 1) := by decide +kernel
theorem d_C_state_57 : decode b_C_state 57 = .ok (.getfield 23, 3) := by decide +kernel
theorem d_C_state_60 : decode b_C_state 60 = .ok (.getfield 107, 3) := by decide +kernel
theorem k_C_f107 : Cond.fieldLink R_C 107 "ContinuationCore$Machine" "pairs" "I" ∈ lw_g := lw_in (List.mem_append_right _ (List.mem_of_getElem? (i := 187) (by decide +kernel))) rfl
theorem d_C_state_63 : decode b_C_state 63 = .ok (.ireturn, 1) := by decide +kernel
theorem d_C_state_64 : decode b_C_state 64 = .ok (.aload_n 0, 1) := by decide +kernel
theorem d_C_state_65 : decode b_C_state 65 = .ok (.getfield 23, 3) := by decide +kernel
theorem d_C_state_68 : decode b_C_state 68 = .ok (.getfield 110, 3) := by decide +kernel
theorem k_C_f110 : Cond.fieldLink R_C 110 "ContinuationCore$Machine" "bindings" "I" ∈ lw_g := lw_in (List.mem_append_right _ (List.mem_of_getElem? (i := 189) (by decide +kernel))) rfl
theorem d_C_state_71 : decode b_C_state 71 = .ok (.ireturn, 1) := by decide +kernel
theorem d_C_state_72 : decode b_C_state 72 = .ok (.aload_n 0, 1) := by decide +kernel
theorem d_C_state_73 : decode b_C_state 73 = .ok (.getfield 23, 3) := by decide +kernel
theorem d_C_state_76 : decode b_C_state 76 = .ok (.invokevirtual 113, 3) := by decide +kernel
theorem k_C_m113 : Cond.methodLink R_C 113 y_Machine_depth ∈ lw_g := lw_in (List.mem_append_right _ (List.mem_of_getElem? (i := 1007) (by decide +kernel))) rfl
theorem d_C_state_79 : decode b_C_state 79 = .ok (.ireturn, 1) := by decide +kernel
theorem d_C_state_80 : decode b_C_state 80 = .ok (.aload_n 0, 1) := by decide +kernel
theorem d_C_state_81 : decode b_C_state 81 = .ok (.getfield 23, 3) := by decide +kernel
theorem d_C_state_84 : decode b_C_state 84 = .ok (.getfield 98, 3) := by decide +kernel
theorem d_C_state_87 : decode b_C_state 87 = .ok (.ireturn, 1) := by decide +kernel
theorem d_C_state_88 : decode b_C_state 88 = .ok (.new 48, 3) := by decide +kernel
theorem d_C_state_91 : decode b_C_state 91 = .ok (.dup, 1) := by decide +kernel
theorem d_C_state_92 : decode b_C_state 92 = .ok (.ldc 117, 2) := by decide +kernel
theorem k_C_s117 : Cond.stringRef R_C 117 "what is not 0 .. 5" ∈ lw_tbl := List.mem_append_right _ (List.mem_of_getElem? (i := 1008) (by decide +kernel))
theorem d_C_state_94 : decode b_C_state 94 = .ok (.invokespecial 52, 3) := by decide +kernel
theorem d_C_state_97 : decode b_C_state 97 = .ok (.athrow, 1) := by decide +kernel
theorem ki_C_state : Cond.instanceMethod y_C_state ∈ lw_g := lw_in (List.mem_append_right _ (List.mem_of_getElem? (i := 1004) (by decide +kernel))) rfl
theorem ke_C_state : Cond.selects R_C y_C_state y_C_state ∈ lw_g := lw_in (List.mem_append_right _ (List.mem_of_getElem? (i := 1005) (by decide +kernel))) rfl
-- C_sign: maxLocals 2, ret (some .int)
theorem kc_C_sign : Cond.code y_C_sign b_C_sign 2 (some .int) ∈ lw_g := lw_in (List.mem_append_right _ (List.mem_of_getElem? (i := 1015) (by decide +kernel))) rfl
theorem d_C_sign_0 : decode b_C_sign 0 = .ok (.iload_n 1, 1) := by decide +kernel
theorem d_C_sign_1 : decode b_C_sign 1 = .ok (.ifCond .lt 9, 3) := by decide +kernel
theorem d_C_sign_4 : decode b_C_sign 4 = .ok (.iload_n 1, 1) := by decide +kernel
theorem d_C_sign_5 : decode b_C_sign 5 = .ok (.bipush 60, 2) := by decide +kernel
theorem d_C_sign_7 : decode b_C_sign 7 = .ok (.if_icmp .lt 13, 3) := by decide +kernel
theorem d_C_sign_10 : decode b_C_sign 10 = .ok (.new 48, 3) := by decide +kernel
theorem d_C_sign_13 : decode b_C_sign 13 = .ok (.dup, 1) := by decide +kernel
theorem d_C_sign_14 : decode b_C_sign 14 = .ok (.ldc 119, 2) := by decide +kernel
theorem k_C_s119 : Cond.stringRef R_C 119 "the place is not 0 .. 59" ∈ lw_tbl := List.mem_append_right _ (List.mem_of_getElem? (i := 1016) (by decide +kernel))
theorem d_C_sign_16 : decode b_C_sign 16 = .ok (.invokespecial 52, 3) := by decide +kernel
theorem d_C_sign_19 : decode b_C_sign 19 = .ok (.athrow, 1) := by decide +kernel
theorem d_C_sign_20 : decode b_C_sign 20 = .ok (.aload_n 0, 1) := by decide +kernel
theorem d_C_sign_21 : decode b_C_sign 21 = .ok (.getfield 23, 3) := by decide +kernel
theorem d_C_sign_24 : decode b_C_sign 24 = .ok (.getfield 33, 3) := by decide +kernel
theorem d_C_sign_27 : decode b_C_sign 27 = .ok (.iconst 2, 1) := by decide +kernel
theorem d_C_sign_28 : decode b_C_sign 28 = .ok (.if_icmp .eq 13, 3) := by decide +kernel
theorem d_C_sign_31 : decode b_C_sign 31 = .ok (.new 37, 3) := by decide +kernel
theorem d_C_sign_34 : decode b_C_sign 34 = .ok (.dup, 1) := by decide +kernel
theorem d_C_sign_35 : decode b_C_sign 35 = .ok (.ldc 121, 2) := by decide +kernel
theorem k_C_s121 : Cond.stringRef R_C 121 "the run has no value" ∈ lw_tbl := List.mem_append_right _ (List.mem_of_getElem? (i := 1017) (by decide +kernel))
theorem d_C_sign_37 : decode b_C_sign 37 = .ok (.invokespecial 41, 3) := by decide +kernel
theorem d_C_sign_40 : decode b_C_sign 40 = .ok (.athrow, 1) := by decide +kernel
theorem d_C_sign_41 : decode b_C_sign 41 = .ok (.iload_n 1, 1) := by decide +kernel
theorem d_C_sign_42 : decode b_C_sign 42 = .ok (.aload_n 0, 1) := by decide +kernel
theorem d_C_sign_43 : decode b_C_sign 43 = .ok (.getfield 23, 3) := by decide +kernel
theorem d_C_sign_46 : decode b_C_sign 46 = .ok (.getfield 123, 3) := by decide +kernel
theorem k_C_f123 : Cond.fieldLink R_C 123 "ContinuationCore$Machine" "shown" "Ljava/lang/StringBuilder;" ∈ lw_g := lw_in (List.mem_append_right _ (List.mem_of_getElem? (i := 179) (by decide +kernel))) rfl
theorem d_C_sign_49 : decode b_C_sign 49 = .ok (.invokevirtual 127, 3) := by decide +kernel
theorem k_C_m127 : Cond.methodLink R_C 127 ⟨"java/lang/StringBuilder", "length", "()I"⟩ ∈ lw_g := lw_in (List.mem_append_right _ (List.mem_of_getElem? (i := 1018) (by decide +kernel))) rfl
theorem d_C_sign_52 : decode b_C_sign 52 = .ok (.if_icmp .ge 17, 3) := by decide +kernel
theorem d_C_sign_55 : decode b_C_sign 55 = .ok (.aload_n 0, 1) := by decide +kernel
theorem d_C_sign_56 : decode b_C_sign 56 = .ok (.getfield 23, 3) := by decide +kernel
theorem d_C_sign_59 : decode b_C_sign 59 = .ok (.getfield 123, 3) := by decide +kernel
theorem d_C_sign_62 : decode b_C_sign 62 = .ok (.iload_n 1, 1) := by decide +kernel
theorem d_C_sign_63 : decode b_C_sign 63 = .ok (.invokevirtual 131, 3) := by decide +kernel
theorem k_C_m131 : Cond.methodLink R_C 131 ⟨"java/lang/StringBuilder", "charAt", "(I)C"⟩ ∈ lw_g := lw_in (List.mem_append_right _ (List.mem_of_getElem? (i := 1019) (by decide +kernel))) rfl
theorem d_C_sign_66 : decode b_C_sign 66 = .ok (.goto 4, 3) := by decide +kernel
theorem d_C_sign_69 : decode b_C_sign 69 = .ok (.iconst (-1), 1) := by decide +kernel
theorem d_C_sign_70 : decode b_C_sign 70 = .ok (.ireturn, 1) := by decide +kernel
theorem ki_C_sign : Cond.instanceMethod y_C_sign ∈ lw_g := lw_in (List.mem_append_right _ (List.mem_of_getElem? (i := 1013) (by decide +kernel))) rfl
theorem ke_C_sign : Cond.selects R_C y_C_sign y_C_sign ∈ lw_g := lw_in (List.mem_append_right _ (List.mem_of_getElem? (i := 1014) (by decide +kernel))) rfl
-- C_global: maxLocals 4, ret (some .int)
theorem kc_C_global : Cond.code y_C_global b_C_global 4 (some .int) ∈ lw_g := lw_in (List.mem_append_right _ (List.mem_of_getElem? (i := 1036) (by decide +kernel))) rfl
theorem d_C_global_0 : decode b_C_global 0 = .ok (.iload_n 1, 1) := by decide +kernel
theorem d_C_global_1 : decode b_C_global 1 = .ok (.invokestatic 66, 3) := by decide +kernel
theorem d_C_global_4 : decode b_C_global 4 = .ok (.ifCond .ne 13, 3) := by decide +kernel
theorem d_C_global_7 : decode b_C_global 7 = .ok (.new 48, 3) := by decide +kernel
theorem d_C_global_10 : decode b_C_global 10 = .ok (.dup, 1) := by decide +kernel
theorem d_C_global_11 : decode b_C_global 11 = .ok (.ldc 70, 2) := by decide +kernel
theorem d_C_global_13 : decode b_C_global 13 = .ok (.invokespecial 52, 3) := by decide +kernel
theorem d_C_global_16 : decode b_C_global 16 = .ok (.athrow, 1) := by decide +kernel
theorem d_C_global_17 : decode b_C_global 17 = .ok (.aload_n 0, 1) := by decide +kernel
theorem d_C_global_18 : decode b_C_global 18 = .ok (.getfield 23, 3) := by decide +kernel
theorem d_C_global_21 : decode b_C_global 21 = .ok (.getfield 135, 3) := by decide +kernel
theorem k_C_f135 : Cond.fieldLink R_C 135 "ContinuationCore$Machine" "globals" "[LContinuationCore$Binding;" ∈ lw_g := lw_in (List.mem_append_right _ (List.mem_of_getElem? (i := 177) (by decide +kernel))) rfl
theorem d_C_global_24 : decode b_C_global 24 = .ok (.iload_n 1, 1) := by decide +kernel
theorem d_C_global_25 : decode b_C_global 25 = .ok (.aaload, 1) := by decide +kernel
theorem d_C_global_26 : decode b_C_global 26 = .ok (.getfield 139, 3) := by decide +kernel
theorem k_C_f139 : Cond.fieldLink R_C 139 "ContinuationCore$Binding" "value" "LContinuationCore$Value;" ∈ lw_g := lw_in (List.mem_append_right _ (List.mem_of_getElem? (i := 168) (by decide +kernel))) rfl
theorem d_C_global_29 : decode b_C_global 29 = .ok (.astore_n 3, 1) := by decide +kernel
theorem d_C_global_30 : decode b_C_global 30 = .ok (.aload_n 3, 1) := by decide +kernel
theorem d_C_global_31 : decode b_C_global 31 = .ok (.instanceof 27, 3) := by decide +kernel
theorem d_C_global_34 : decode b_C_global 34 = .ok (.ifCond .eq 13, 3) := by decide +kernel
theorem d_C_global_37 : decode b_C_global 37 = .ok (.aload_n 3, 1) := by decide +kernel
theorem d_C_global_38 : decode b_C_global 38 = .ok (.checkcast 27, 3) := by decide +kernel
theorem d_C_global_41 : decode b_C_global 41 = .ok (.astore_n 2, 1) := by decide +kernel
theorem d_C_global_42 : decode b_C_global 42 = .ok (.aload_n 2, 1) := by decide +kernel
theorem d_C_global_43 : decode b_C_global 43 = .ok (.getfield 145, 3) := by decide +kernel
theorem k_C_f145 : Cond.fieldLink R_C 145 "ContinuationCore$IntValue" "number" "I" ∈ lw_g := lw_in (List.mem_append_right _ (List.mem_of_getElem? (i := 520) (by decide +kernel))) rfl
theorem d_C_global_46 : decode b_C_global 46 = .ok (.ireturn, 1) := by decide +kernel
theorem d_C_global_47 : decode b_C_global 47 = .ok (.new 148, 3) := by decide +kernel
theorem k_C_c148 : Cond.classLink R_C 148 "java/util/NoSuchElementException" ∈ lw_g := lw_in (List.mem_append_right _ (List.mem_of_getElem? (i := 1037) (by decide +kernel))) rfl
theorem d_C_global_50 : decode b_C_global 50 = .ok (.dup, 1) := by decide +kernel
theorem d_C_global_51 : decode b_C_global 51 = .ok (.ldc 150, 2) := by decide +kernel
theorem k_C_s150 : Cond.stringRef R_C 150 "the name has no int" ∈ lw_tbl := List.mem_append_right _ (List.mem_of_getElem? (i := 1046) (by decide +kernel))
theorem d_C_global_53 : decode b_C_global 53 = .ok (.invokespecial 152, 3) := by decide +kernel
theorem k_C_m152 : Cond.methodLink R_C 152 ⟨"java/util/NoSuchElementException", "<init>", "(Ljava/lang/String;)V"⟩ ∈ lw_g := lw_in (List.mem_append_right _ (List.mem_of_getElem? (i := 1047) (by decide +kernel))) rfl
theorem d_C_global_56 : decode b_C_global 56 = .ok (.athrow, 1) := by decide +kernel
theorem ki_C_global : Cond.instanceMethod y_C_global ∈ lw_g := lw_in (List.mem_append_right _ (List.mem_of_getElem? (i := 1034) (by decide +kernel))) rfl
theorem ke_C_global : Cond.selects R_C y_C_global y_C_global ∈ lw_g := lw_in (List.mem_append_right _ (List.mem_of_getElem? (i := 1035) (by decide +kernel))) rfl
-- C_isLetter: maxLocals 1, ret (some .boolean)
theorem kc_C_isLetter : Cond.code y_C_isLetter b_C_isLetter 1 (some .boolean) ∈ lw_g := lw_in (List.mem_append_right _ (List.mem_of_getElem? (i := 512) (by decide +kernel))) rfl
theorem d_C_isLetter_0 : decode b_C_isLetter 0 = .ok (.iload_n 0, 1) := by decide +kernel
theorem d_C_isLetter_1 : decode b_C_isLetter 1 = .ok (.ifCond .lt 13, 3) := by decide +kernel
theorem d_C_isLetter_4 : decode b_C_isLetter 4 = .ok (.iload_n 0, 1) := by decide +kernel
theorem d_C_isLetter_5 : decode b_C_isLetter 5 = .ok (.bipush 26, 2) := by decide +kernel
theorem d_C_isLetter_7 : decode b_C_isLetter 7 = .ok (.if_icmp .ge 7, 3) := by decide +kernel
theorem d_C_isLetter_10 : decode b_C_isLetter 10 = .ok (.iconst 1, 1) := by decide +kernel
theorem d_C_isLetter_11 : decode b_C_isLetter 11 = .ok (.goto 4, 3) := by decide +kernel
theorem d_C_isLetter_14 : decode b_C_isLetter 14 = .ok (.iconst 0, 1) := by decide +kernel
theorem d_C_isLetter_15 : decode b_C_isLetter 15 = .ok (.ireturn, 1) := by decide +kernel
theorem ks_C_isLetter : Cond.static y_C_isLetter ∈ lw_g := lw_in (List.mem_append_right _ (List.mem_of_getElem? (i := 511) (by decide +kernel))) rfl
-- C_putBehind: maxLocals 6, ret (some .int)
theorem kc_C_putBehind : Cond.code y_C_putBehind b_C_putBehind 6 (some .int) ∈ lw_g := lw_in (List.mem_append_right _ (List.mem_of_getElem? (i := 330) (by decide +kernel))) rfl
theorem d_C_putBehind_0 : decode b_C_putBehind 0 = .ok (.aload_n 0, 1) := by decide +kernel
theorem d_C_putBehind_1 : decode b_C_putBehind 1 = .ok (.getfield 57, 3) := by decide +kernel
theorem d_C_putBehind_4 : decode b_C_putBehind 4 = .ok (.istore_n 3, 1) := by decide +kernel
theorem d_C_putBehind_5 : decode b_C_putBehind 5 = .ok (.bipush 7, 2) := by decide +kernel
theorem d_C_putBehind_7 : decode b_C_putBehind 7 = .ok (.istore 4, 2) := by decide +kernel
theorem d_C_putBehind_9 : decode b_C_putBehind 9 = .ok (.iload 4, 2) := by decide +kernel
theorem d_C_putBehind_11 : decode b_C_putBehind 11 = .ok (.ifCond .lt 56, 3) := by decide +kernel
theorem d_C_putBehind_14 : decode b_C_putBehind 14 = .ok (.lload_n 1, 1) := by decide +kernel
theorem d_C_putBehind_15 : decode b_C_putBehind 15 = .ok (.bipush 8, 2) := by decide +kernel
theorem d_C_putBehind_17 : decode b_C_putBehind 17 = .ok (.iload 4, 2) := by decide +kernel
theorem d_C_putBehind_19 : decode b_C_putBehind 19 = .ok (.imul, 1) := by decide +kernel
theorem d_C_putBehind_20 : decode b_C_putBehind 20 = .ok (.lushr, 1) := by decide +kernel
theorem d_C_putBehind_21 : decode b_C_putBehind 21 = .ok (.l2i, 1) := by decide +kernel
theorem d_C_putBehind_22 : decode b_C_putBehind 22 = .ok (.sipush 255, 3) := by decide +kernel
theorem d_C_putBehind_25 : decode b_C_putBehind 25 = .ok (.iand, 1) := by decide +kernel
theorem d_C_putBehind_26 : decode b_C_putBehind 26 = .ok (.istore 5, 2) := by decide +kernel
theorem d_C_putBehind_28 : decode b_C_putBehind 28 = .ok (.iload 5, 2) := by decide +kernel
theorem d_C_putBehind_30 : decode b_C_putBehind 30 = .ok (.ifCond .eq 31, 3) := by decide +kernel
theorem d_C_putBehind_33 : decode b_C_putBehind 33 = .ok (.iload 5, 2) := by decide +kernel
theorem d_C_putBehind_35 : decode b_C_putBehind 35 = .ok (.bipush 32, 2) := by decide +kernel
theorem d_C_putBehind_37 : decode b_C_putBehind 37 = .ok (.if_icmp .lt 10, 3) := by decide +kernel
theorem d_C_putBehind_40 : decode b_C_putBehind 40 = .ok (.iload 5, 2) := by decide +kernel
theorem d_C_putBehind_42 : decode b_C_putBehind 42 = .ok (.bipush 126, 2) := by decide +kernel
theorem d_C_putBehind_44 : decode b_C_putBehind 44 = .ok (.if_icmp .le 5, 3) := by decide +kernel
theorem d_C_putBehind_47 : decode b_C_putBehind 47 = .ok (.iconst (-1), 1) := by decide +kernel
theorem d_C_putBehind_48 : decode b_C_putBehind 48 = .ok (.ireturn, 1) := by decide +kernel
theorem d_C_putBehind_49 : decode b_C_putBehind 49 = .ok (.aload_n 0, 1) := by decide +kernel
theorem d_C_putBehind_50 : decode b_C_putBehind 50 = .ok (.getfield 9, 3) := by decide +kernel
theorem d_C_putBehind_53 : decode b_C_putBehind 53 = .ok (.iload_n 3, 1) := by decide +kernel
theorem d_C_putBehind_54 : decode b_C_putBehind 54 = .ok (.iload 5, 2) := by decide +kernel
theorem d_C_putBehind_56 : decode b_C_putBehind 56 = .ok (.i2c, 1) := by decide +kernel
theorem d_C_putBehind_57 : decode b_C_putBehind 57 = .ok (.castore, 1) := by decide +kernel
theorem d_C_putBehind_58 : decode b_C_putBehind 58 = .ok (.iinc 3 1, 3) := by decide +kernel
theorem d_C_putBehind_61 : decode b_C_putBehind 61 = .ok (.iinc 4 (-1), 3) := by decide +kernel
theorem d_C_putBehind_64 : decode b_C_putBehind 64 = .ok (.goto (-55), 3) := by decide +kernel
theorem d_C_putBehind_67 : decode b_C_putBehind 67 = .ok (.iload_n 3, 1) := by decide +kernel
theorem d_C_putBehind_68 : decode b_C_putBehind 68 = .ok (.ireturn, 1) := by decide +kernel
theorem ki_C_putBehind : Cond.instanceMethod y_C_putBehind ∈ lw_g := lw_in (List.mem_append_right _ (List.mem_of_getElem? (i := 329) (by decide +kernel))) rfl
theorem ke_C_putBehind : Cond.selects R_C y_C_putBehind y_C_putBehind ∈ lw_g := lw_in (List.mem_append_left _ (List.mem_map.mpr ⟨(y_C_putBehind, 6), by decide +kernel, rfl⟩)) rfl
-- C_throwFault: maxLocals 1, ret none
theorem kc_C_throwFault : Cond.code y_C_throwFault b_C_throwFault 1 none ∈ lw_g := lw_in (List.mem_append_right _ (List.mem_of_getElem? (i := 957) (by decide +kernel))) rfl
theorem d_C_throwFault_0 : decode b_C_throwFault 0 = .ok (.iload_n 0, 1) := by decide +kernel
theorem d_C_throwFault_1 : decode b_C_throwFault 1 = .ok (.tableswitch 71 1 4 #[31, 41, 51, 61], 31) := by decide +kernel
theorem d_C_throwFault_32 : decode b_C_throwFault 32 = .ok (.new 37, 3) := by decide +kernel
theorem d_C_throwFault_35 : decode b_C_throwFault 35 = .ok (.dup, 1) := by decide +kernel
theorem d_C_throwFault_36 : decode b_C_throwFault 36 = .ok (.ldc 153, 2) := by decide +kernel
theorem k_C_s153 : Cond.stringRef R_C 153 "a name has no value" ∈ lw_tbl := List.mem_append_right _ (List.mem_of_getElem? (i := 958) (by decide +kernel))
theorem d_C_throwFault_38 : decode b_C_throwFault 38 = .ok (.invokespecial 41, 3) := by decide +kernel
theorem d_C_throwFault_41 : decode b_C_throwFault 41 = .ok (.athrow, 1) := by decide +kernel
theorem d_C_throwFault_42 : decode b_C_throwFault 42 = .ok (.new 155, 3) := by decide +kernel
theorem k_C_c155 : Cond.classLink R_C 155 "java/lang/UnsupportedOperationException" ∈ lw_g := lw_in (List.mem_append_right _ (List.mem_of_getElem? (i := 959) (by decide +kernel))) rfl
theorem d_C_throwFault_45 : decode b_C_throwFault 45 = .ok (.dup, 1) := by decide +kernel
theorem d_C_throwFault_46 : decode b_C_throwFault 46 = .ok (.ldc 157, 2) := by decide +kernel
theorem k_C_s157 : Cond.stringRef R_C 157 "a value is of another kind" ∈ lw_tbl := List.mem_append_right _ (List.mem_of_getElem? (i := 968) (by decide +kernel))
theorem d_C_throwFault_48 : decode b_C_throwFault 48 = .ok (.invokespecial 159, 3) := by decide +kernel
theorem k_C_m159 : Cond.methodLink R_C 159 ⟨"java/lang/UnsupportedOperationException", "<init>", "(Ljava/lang/String;)V"⟩ ∈ lw_g := lw_in (List.mem_append_right _ (List.mem_of_getElem? (i := 969) (by decide +kernel))) rfl
theorem d_C_throwFault_51 : decode b_C_throwFault 51 = .ok (.athrow, 1) := by decide +kernel
theorem d_C_throwFault_52 : decode b_C_throwFault 52 = .ok (.new 160, 3) := by decide +kernel
theorem k_C_c160 : Cond.classLink R_C 160 "java/lang/ArithmeticException" ∈ lw_g := lw_in (List.mem_append_right _ (List.mem_of_getElem? (i := 975) (by decide +kernel))) rfl
theorem d_C_throwFault_55 : decode b_C_throwFault 55 = .ok (.dup, 1) := by decide +kernel
theorem d_C_throwFault_56 : decode b_C_throwFault 56 = .ok (.ldc 162, 2) := by decide +kernel
theorem k_C_s162 : Cond.stringRef R_C 162 "division by 0" ∈ lw_tbl := List.mem_append_right _ (List.mem_of_getElem? (i := 984) (by decide +kernel))
theorem d_C_throwFault_58 : decode b_C_throwFault 58 = .ok (.invokespecial 164, 3) := by decide +kernel
theorem k_C_m164 : Cond.methodLink R_C 164 ⟨"java/lang/ArithmeticException", "<init>", "(Ljava/lang/String;)V"⟩ ∈ lw_g := lw_in (List.mem_append_right _ (List.mem_of_getElem? (i := 985) (by decide +kernel))) rfl
theorem d_C_throwFault_61 : decode b_C_throwFault 61 = .ok (.athrow, 1) := by decide +kernel
theorem d_C_throwFault_62 : decode b_C_throwFault 62 = .ok (.new 48, 3) := by decide +kernel
theorem d_C_throwFault_65 : decode b_C_throwFault 65 = .ok (.dup, 1) := by decide +kernel
theorem d_C_throwFault_66 : decode b_C_throwFault 66 = .ok (.ldc 165, 2) := by decide +kernel
theorem k_C_s165 : Cond.stringRef R_C 165 "not as many arguments as names" ∈ lw_tbl := List.mem_append_right _ (List.mem_of_getElem? (i := 991) (by decide +kernel))
theorem d_C_throwFault_68 : decode b_C_throwFault 68 = .ok (.invokespecial 52, 3) := by decide +kernel
theorem d_C_throwFault_71 : decode b_C_throwFault 71 = .ok (.athrow, 1) := by decide +kernel
theorem d_C_throwFault_72 : decode b_C_throwFault 72 = .ok (.new 48, 3) := by decide +kernel
theorem d_C_throwFault_75 : decode b_C_throwFault 75 = .ok (.dup, 1) := by decide +kernel
theorem d_C_throwFault_76 : decode b_C_throwFault 76 = .ok (.ldc 167, 2) := by decide +kernel
theorem k_C_s167 : Cond.stringRef R_C 167 "no room" ∈ lw_tbl := List.mem_append_right _ (List.mem_of_getElem? (i := 992) (by decide +kernel))
theorem d_C_throwFault_78 : decode b_C_throwFault 78 = .ok (.invokespecial 52, 3) := by decide +kernel
theorem d_C_throwFault_81 : decode b_C_throwFault 81 = .ok (.athrow, 1) := by decide +kernel
theorem ks_C_throwFault : Cond.static y_C_throwFault ∈ lw_g := lw_in (List.mem_append_right _ (List.mem_of_getElem? (i := 956) (by decide +kernel))) rfl
def T_Binding : u_T := fun k => match k with
  | 0 => ("ContinuationCore$Binding", "name", "I", true)
  | 1 => ("ContinuationCore$Binding", "behind", "LContinuationCore$Binding;", true)
  | _ => ("ContinuationCore$Binding", "value", "LContinuationCore$Value;", false)
def ty_Binding : Nat → FieldType := fun k => match k with
  | 0 => .int
  | 1 => .object "ContinuationCore$Binding"
  | _ => .object "ContinuationCore$Value"
theorem nm_Binding : ∀ a, a < 3 → ∀ b, b < 3 → a ≠ b → (T_Binding a).2.1 ≠ (T_Binding b).2.1 := by decide +kernel
theorem ty_Binding_ok : ∀ k, k < 3 → parseFieldDescriptor (T_Binding k).2.2.1 = some (ty_Binding k) := by decide +kernel
theorem in_Binding_l : u_ws R_Binding T_Binding 3 = ([169, 171, 173] : List Nat).filterMap (fun i => tables_1[i]?) := by decide +kernel
theorem in_Binding : ∀ w ∈ u_ws R_Binding T_Binding 3, w ∈ lw_g := fun w h => by
  have hg : (u_ws R_Binding T_Binding 3).all goodWord = true := by decide +kernel
  refine lw_in ?_ (List.all_eq_true.mp hg w h)
  rw [in_Binding_l] at h
  obtain ⟨i, -, hi⟩ := List.mem_filterMap.mp h
  exact List.mem_append_right _ (List.mem_of_getElem? hi)
theorem k_Binding_inst : Cond.instantiable R_Binding 3 ∈ lw_g := lw_in (List.mem_append_right _ (List.mem_of_getElem? (i := 157) (by decide +kernel))) rfl
theorem k_Binding_ini : Cond.initialized R_Binding ∈ lw_g := lw_in (List.mem_append_right _ (List.mem_of_getElem? (i := 11) (by decide +kernel))) rfl
-- Binding_init: maxLocals 4, ret none
theorem kc_Binding_init : Cond.code y_Binding_init b_Binding_init 4 none ∈ lw_g := lw_in (List.mem_append_right _ (List.mem_of_getElem? (i := 160) (by decide +kernel))) rfl
theorem d_Binding_init_0 : decode b_Binding_init 0 = .ok (.aload_n 0, 1) := by decide +kernel
theorem d_Binding_init_1 : decode b_Binding_init 1 = .ok (.invokespecial 1, 3) := by decide +kernel
theorem k_Binding_m1 : Cond.methodLink R_Binding 1 objectInit ∈ lw_g := lw_in (List.mem_append_right _ (List.mem_of_getElem? (i := 161) (by decide +kernel))) rfl
theorem d_Binding_init_4 : decode b_Binding_init 4 = .ok (.aload_n 0, 1) := by decide +kernel
theorem d_Binding_init_5 : decode b_Binding_init 5 = .ok (.iload_n 1, 1) := by decide +kernel
theorem d_Binding_init_6 : decode b_Binding_init 6 = .ok (.putfield 7, 3) := by decide +kernel
theorem k_Binding_f7 : Cond.fieldLink R_Binding 7 "ContinuationCore$Binding" "name" "I" ∈ lw_g := lw_in (List.mem_append_right _ (List.mem_of_getElem? (i := 162) (by decide +kernel))) rfl
theorem d_Binding_init_9 : decode b_Binding_init 9 = .ok (.aload_n 0, 1) := by decide +kernel
theorem d_Binding_init_10 : decode b_Binding_init 10 = .ok (.aload_n 2, 1) := by decide +kernel
theorem d_Binding_init_11 : decode b_Binding_init 11 = .ok (.putfield 13, 3) := by decide +kernel
theorem k_Binding_f13 : Cond.fieldLink R_Binding 13 "ContinuationCore$Binding" "value" "LContinuationCore$Value;" ∈ lw_g := lw_in (List.mem_append_right _ (List.mem_of_getElem? (i := 166) (by decide +kernel))) rfl
theorem d_Binding_init_14 : decode b_Binding_init 14 = .ok (.aload_n 0, 1) := by decide +kernel
theorem d_Binding_init_15 : decode b_Binding_init 15 = .ok (.aload_n 3, 1) := by decide +kernel
theorem d_Binding_init_16 : decode b_Binding_init 16 = .ok (.putfield 17, 3) := by decide +kernel
theorem k_Binding_f17 : Cond.fieldLink R_Binding 17 "ContinuationCore$Binding" "behind" "LContinuationCore$Binding;" ∈ lw_g := lw_in (List.mem_append_right _ (List.mem_of_getElem? (i := 164) (by decide +kernel))) rfl
theorem d_Binding_init_19 : decode b_Binding_init 19 = .ok (.return_, 1) := by decide +kernel
theorem ki_Binding_init : Cond.instanceMethod y_Binding_init ∈ lw_g := lw_in (List.mem_append_right _ (List.mem_of_getElem? (i := 159) (by decide +kernel))) rfl
def T_ClosureValue : u_T := fun k => match k with
  | 0 => ("ContinuationCore$ClosureValue", "code", "LContinuationCore$Expression;", true)
  | _ => ("ContinuationCore$ClosureValue", "scope", "LContinuationCore$Binding;", true)
def ty_ClosureValue : Nat → FieldType := fun k => match k with
  | 0 => .object "ContinuationCore$Expression"
  | _ => .object "ContinuationCore$Binding"
theorem nm_ClosureValue : ∀ a, a < 2 → ∀ b, b < 2 → a ≠ b → (T_ClosureValue a).2.1 ≠ (T_ClosureValue b).2.1 := by decide +kernel
theorem ty_ClosureValue_ok : ∀ k, k < 2 → parseFieldDescriptor (T_ClosureValue k).2.2.1 = some (ty_ClosureValue k) := by decide +kernel
theorem in_ClosureValue_l : u_ws R_ClosureValue T_ClosureValue 2 = ([587, 589] : List Nat).filterMap (fun i => tables_1[i]?) := by decide +kernel
theorem in_ClosureValue : ∀ w ∈ u_ws R_ClosureValue T_ClosureValue 2, w ∈ lw_g := fun w h => by
  have hg : (u_ws R_ClosureValue T_ClosureValue 2).all goodWord = true := by decide +kernel
  refine lw_in ?_ (List.all_eq_true.mp hg w h)
  rw [in_ClosureValue_l] at h
  obtain ⟨i, -, hi⟩ := List.mem_filterMap.mp h
  exact List.mem_append_right _ (List.mem_of_getElem? hi)
theorem k_ClosureValue_inst : Cond.instantiable R_ClosureValue 2 ∈ lw_g := lw_in (List.mem_append_right _ (List.mem_of_getElem? (i := 578) (by decide +kernel))) rfl
theorem k_ClosureValue_ini : Cond.initialized R_ClosureValue ∈ lw_g := lw_in (List.mem_append_right _ (List.mem_of_getElem? (i := 23) (by decide +kernel))) rfl
-- ClosureValue_init: maxLocals 3, ret none
theorem kc_ClosureValue_init : Cond.code y_ClosureValue_init b_ClosureValue_init 3 none ∈ lw_g := lw_in (List.mem_append_right _ (List.mem_of_getElem? (i := 581) (by decide +kernel))) rfl
theorem d_ClosureValue_init_0 : decode b_ClosureValue_init 0 = .ok (.aload_n 0, 1) := by decide +kernel
theorem d_ClosureValue_init_1 : decode b_ClosureValue_init 1 = .ok (.invokespecial 1, 3) := by decide +kernel
theorem k_ClosureValue_mn1 : Cond.methodLinkNest R_ClosureValue 1 y_Value_init "ContinuationCore" ∈ lw_tbl := List.mem_append_right _ (List.mem_of_getElem? (i := 582) (by decide +kernel))
theorem d_ClosureValue_init_4 : decode b_ClosureValue_init 4 = .ok (.aload_n 0, 1) := by decide +kernel
theorem d_ClosureValue_init_5 : decode b_ClosureValue_init 5 = .ok (.aload_n 1, 1) := by decide +kernel
theorem d_ClosureValue_init_6 : decode b_ClosureValue_init 6 = .ok (.putfield 7, 3) := by decide +kernel
theorem k_ClosureValue_f7 : Cond.fieldLink R_ClosureValue 7 "ContinuationCore$ClosureValue" "code" "LContinuationCore$Expression;" ∈ lw_g := lw_in (List.mem_append_right _ (List.mem_of_getElem? (i := 583) (by decide +kernel))) rfl
theorem d_ClosureValue_init_9 : decode b_ClosureValue_init 9 = .ok (.aload_n 0, 1) := by decide +kernel
theorem d_ClosureValue_init_10 : decode b_ClosureValue_init 10 = .ok (.aload_n 2, 1) := by decide +kernel
theorem d_ClosureValue_init_11 : decode b_ClosureValue_init 11 = .ok (.putfield 13, 3) := by decide +kernel
theorem k_ClosureValue_f13 : Cond.fieldLink R_ClosureValue 13 "ContinuationCore$ClosureValue" "scope" "LContinuationCore$Binding;" ∈ lw_g := lw_in (List.mem_append_right _ (List.mem_of_getElem? (i := 585) (by decide +kernel))) rfl
theorem d_ClosureValue_init_14 : decode b_ClosureValue_init 14 = .ok (.return_, 1) := by decide +kernel
theorem ki_ClosureValue_init : Cond.instanceMethod y_ClosureValue_init ∈ lw_g := lw_in (List.mem_append_right _ (List.mem_of_getElem? (i := 580) (by decide +kernel))) rfl
-- ClosureValue_write: maxLocals 2, ret none
theorem kc_ClosureValue_write : Cond.code y_ClosureValue_write b_ClosureValue_write 2 none ∈ lw_g := lw_in (List.mem_append_right _ (List.mem_of_getElem? (i := 834) (by decide +kernel))) rfl
theorem d_ClosureValue_write_0 : decode b_ClosureValue_write 0 = .ok (.aload_n 1, 1) := by decide +kernel
theorem d_ClosureValue_write_1 : decode b_ClosureValue_write 1 = .ok (.bipush 76, 2) := by decide +kernel
theorem d_ClosureValue_write_3 : decode b_ClosureValue_write 3 = .ok (.invokevirtual 17, 3) := by decide +kernel
theorem k_ClosureValue_m17 : Cond.methodLink R_ClosureValue 17 ⟨"java/lang/StringBuilder", "append", "(C)Ljava/lang/StringBuilder;"⟩ ∈ lw_g := lw_in (List.mem_append_right _ (List.mem_of_getElem? (i := 835) (by decide +kernel))) rfl
theorem d_ClosureValue_write_6 : decode b_ClosureValue_write 6 = .ok (.pop, 1) := by decide +kernel
theorem d_ClosureValue_write_7 : decode b_ClosureValue_write 7 = .ok (.return_, 1) := by decide +kernel
theorem ki_ClosureValue_write : Cond.instanceMethod y_ClosureValue_write ∈ lw_g := lw_in (List.mem_append_right _ (List.mem_of_getElem? (i := 833) (by decide +kernel))) rfl
def T_ContinuationValue : u_T := fun k => match k with
  | _ => ("ContinuationCore$ContinuationValue", "chain", "LContinuationCore$Waiting;", true)
def ty_ContinuationValue : Nat → FieldType := fun k => match k with
  | _ => .object "ContinuationCore$Waiting"
theorem nm_ContinuationValue : ∀ a, a < 1 → ∀ b, b < 1 → a ≠ b → (T_ContinuationValue a).2.1 ≠ (T_ContinuationValue b).2.1 := by decide +kernel
theorem ty_ContinuationValue_ok : ∀ k, k < 1 → parseFieldDescriptor (T_ContinuationValue k).2.2.1 = some (ty_ContinuationValue k) := by decide +kernel
theorem in_ContinuationValue_l : u_ws R_ContinuationValue T_ContinuationValue 1 = ([903] : List Nat).filterMap (fun i => tables_1[i]?) := by decide +kernel
theorem in_ContinuationValue : ∀ w ∈ u_ws R_ContinuationValue T_ContinuationValue 1, w ∈ lw_g := fun w h => by
  have hg : (u_ws R_ContinuationValue T_ContinuationValue 1).all goodWord = true := by decide +kernel
  refine lw_in ?_ (List.all_eq_true.mp hg w h)
  rw [in_ContinuationValue_l] at h
  obtain ⟨i, -, hi⟩ := List.mem_filterMap.mp h
  exact List.mem_append_right _ (List.mem_of_getElem? hi)
theorem k_ContinuationValue_inst : Cond.instantiable R_ContinuationValue 1 ∈ lw_g := lw_in (List.mem_append_right _ (List.mem_of_getElem? (i := 896) (by decide +kernel))) rfl
theorem k_ContinuationValue_ini : Cond.initialized R_ContinuationValue ∈ lw_g := lw_in (List.mem_append_right _ (List.mem_of_getElem? (i := 29) (by decide +kernel))) rfl
-- ContinuationValue_init: maxLocals 2, ret none
theorem kc_ContinuationValue_init : Cond.code y_ContinuationValue_init b_ContinuationValue_init 2 none ∈ lw_g := lw_in (List.mem_append_right _ (List.mem_of_getElem? (i := 899) (by decide +kernel))) rfl
theorem d_ContinuationValue_init_0 : decode b_ContinuationValue_init 0 = .ok (.aload_n 0, 1) := by decide +kernel
theorem d_ContinuationValue_init_1 : decode b_ContinuationValue_init 1 = .ok (.invokespecial 1, 3) := by decide +kernel
theorem k_ContinuationValue_mn1 : Cond.methodLinkNest R_ContinuationValue 1 y_Value_init "ContinuationCore" ∈ lw_tbl := List.mem_append_right _ (List.mem_of_getElem? (i := 900) (by decide +kernel))
theorem d_ContinuationValue_init_4 : decode b_ContinuationValue_init 4 = .ok (.aload_n 0, 1) := by decide +kernel
theorem d_ContinuationValue_init_5 : decode b_ContinuationValue_init 5 = .ok (.aload_n 1, 1) := by decide +kernel
theorem d_ContinuationValue_init_6 : decode b_ContinuationValue_init 6 = .ok (.putfield 7, 3) := by decide +kernel
theorem k_ContinuationValue_f7 : Cond.fieldLink R_ContinuationValue 7 "ContinuationCore$ContinuationValue" "chain" "LContinuationCore$Waiting;" ∈ lw_g := lw_in (List.mem_append_right _ (List.mem_of_getElem? (i := 901) (by decide +kernel))) rfl
theorem d_ContinuationValue_init_9 : decode b_ContinuationValue_init 9 = .ok (.return_, 1) := by decide +kernel
theorem ki_ContinuationValue_init : Cond.instanceMethod y_ContinuationValue_init ∈ lw_g := lw_in (List.mem_append_right _ (List.mem_of_getElem? (i := 898) (by decide +kernel))) rfl
-- ContinuationValue_write: maxLocals 2, ret none
theorem kc_ContinuationValue_write : Cond.code y_ContinuationValue_write b_ContinuationValue_write 2 none ∈ lw_g := lw_in (List.mem_append_right _ (List.mem_of_getElem? (i := 859) (by decide +kernel))) rfl
theorem d_ContinuationValue_write_0 : decode b_ContinuationValue_write 0 = .ok (.aload_n 1, 1) := by decide +kernel
theorem d_ContinuationValue_write_1 : decode b_ContinuationValue_write 1 = .ok (.bipush 75, 2) := by decide +kernel
theorem d_ContinuationValue_write_3 : decode b_ContinuationValue_write 3 = .ok (.invokevirtual 13, 3) := by decide +kernel
theorem k_ContinuationValue_m13 : Cond.methodLink R_ContinuationValue 13 ⟨"java/lang/StringBuilder", "append", "(C)Ljava/lang/StringBuilder;"⟩ ∈ lw_g := lw_in (List.mem_append_right _ (List.mem_of_getElem? (i := 860) (by decide +kernel))) rfl
theorem d_ContinuationValue_write_6 : decode b_ContinuationValue_write 6 = .ok (.pop, 1) := by decide +kernel
theorem d_ContinuationValue_write_7 : decode b_ContinuationValue_write 7 = .ok (.return_, 1) := by decide +kernel
theorem ki_ContinuationValue_write : Cond.instanceMethod y_ContinuationValue_write ∈ lw_g := lw_in (List.mem_append_right _ (List.mem_of_getElem? (i := 858) (by decide +kernel))) rfl
def T_EmptyValue : u_T := fun k => match k with
  | _ => ("", "", "", false)
def ty_EmptyValue : Nat → FieldType := fun k => match k with
  | _ => .int
theorem nm_EmptyValue : ∀ a, a < 0 → ∀ b, b < 0 → a ≠ b → (T_EmptyValue a).2.1 ≠ (T_EmptyValue b).2.1 := by decide +kernel
theorem ty_EmptyValue_ok : ∀ k, k < 0 → parseFieldDescriptor (T_EmptyValue k).2.2.1 = some (ty_EmptyValue k) := by decide +kernel
theorem in_EmptyValue_l : u_ws R_EmptyValue T_EmptyValue 0 = ([] : List Nat).filterMap (fun i => tables_1[i]?) := by decide +kernel
theorem in_EmptyValue : ∀ w ∈ u_ws R_EmptyValue T_EmptyValue 0, w ∈ lw_g := fun w h => by
  have hg : (u_ws R_EmptyValue T_EmptyValue 0).all goodWord = true := by decide +kernel
  refine lw_in ?_ (List.all_eq_true.mp hg w h)
  rw [in_EmptyValue_l] at h
  obtain ⟨i, -, hi⟩ := List.mem_filterMap.mp h
  exact List.mem_append_right _ (List.mem_of_getElem? hi)
theorem k_EmptyValue_inst : Cond.instantiable R_EmptyValue 0 ∈ lw_g := lw_in (List.mem_append_right _ (List.mem_of_getElem? (i := 146) (by decide +kernel))) rfl
theorem k_EmptyValue_ini : Cond.initialized R_EmptyValue ∈ lw_g := lw_in (List.mem_append_right _ (List.mem_of_getElem? (i := 10) (by decide +kernel))) rfl
-- EmptyValue_init: maxLocals 1, ret none
theorem kc_EmptyValue_init : Cond.code y_EmptyValue_init b_EmptyValue_init 1 none ∈ lw_g := lw_in (List.mem_append_right _ (List.mem_of_getElem? (i := 149) (by decide +kernel))) rfl
theorem d_EmptyValue_init_0 : decode b_EmptyValue_init 0 = .ok (.aload_n 0, 1) := by decide +kernel
theorem d_EmptyValue_init_1 : decode b_EmptyValue_init 1 = .ok (.invokespecial 1, 3) := by decide +kernel
theorem k_EmptyValue_mn1 : Cond.methodLinkNest R_EmptyValue 1 y_Value_init "ContinuationCore" ∈ lw_tbl := List.mem_append_right _ (List.mem_of_getElem? (i := 150) (by decide +kernel))
theorem d_EmptyValue_init_4 : decode b_EmptyValue_init 4 = .ok (.return_, 1) := by decide +kernel
theorem ki_EmptyValue_init : Cond.instanceMethod y_EmptyValue_init ∈ lw_g := lw_in (List.mem_append_right _ (List.mem_of_getElem? (i := 148) (by decide +kernel))) rfl
-- EmptyValue_isSame: maxLocals 2, ret (some .boolean)
theorem kc_EmptyValue_isSame : Cond.code y_EmptyValue_isSame b_EmptyValue_isSame 2 (some .boolean) ∈ lw_g := lw_in (List.mem_append_right _ (List.mem_of_getElem? (i := 939) (by decide +kernel))) rfl
theorem d_EmptyValue_isSame_0 : decode b_EmptyValue_isSame 0 = .ok (.aload_n 1, 1) := by decide +kernel
theorem d_EmptyValue_isSame_1 : decode b_EmptyValue_isSame 1 = .ok (.instanceof 7, 3) := by decide +kernel
theorem k_EmptyValue_c7 : Cond.classLink R_EmptyValue 7 "ContinuationCore$EmptyValue" ∈ lw_g := lw_in (List.mem_append_right _ (List.mem_of_getElem? (i := 940) (by decide +kernel))) rfl
theorem d_EmptyValue_isSame_4 : decode b_EmptyValue_isSame 4 = .ok (.ireturn, 1) := by decide +kernel
theorem ki_EmptyValue_isSame : Cond.instanceMethod y_EmptyValue_isSame ∈ lw_g := lw_in (List.mem_append_right _ (List.mem_of_getElem? (i := 938) (by decide +kernel))) rfl
-- EmptyValue_write: maxLocals 2, ret none
theorem kc_EmptyValue_write : Cond.code y_EmptyValue_write b_EmptyValue_write 2 none ∈ lw_g := lw_in (List.mem_append_right _ (List.mem_of_getElem? (i := 863) (by decide +kernel))) rfl
theorem d_EmptyValue_write_0 : decode b_EmptyValue_write 0 = .ok (.aload_n 1, 1) := by decide +kernel
theorem d_EmptyValue_write_1 : decode b_EmptyValue_write 1 = .ok (.bipush 95, 2) := by decide +kernel
theorem d_EmptyValue_write_3 : decode b_EmptyValue_write 3 = .ok (.invokevirtual 9, 3) := by decide +kernel
theorem k_EmptyValue_m9 : Cond.methodLink R_EmptyValue 9 ⟨"java/lang/StringBuilder", "append", "(C)Ljava/lang/StringBuilder;"⟩ ∈ lw_g := lw_in (List.mem_append_right _ (List.mem_of_getElem? (i := 864) (by decide +kernel))) rfl
theorem d_EmptyValue_write_6 : decode b_EmptyValue_write 6 = .ok (.pop, 1) := by decide +kernel
theorem d_EmptyValue_write_7 : decode b_EmptyValue_write 7 = .ok (.return_, 1) := by decide +kernel
theorem ki_EmptyValue_write : Cond.instanceMethod y_EmptyValue_write ∈ lw_g := lw_in (List.mem_append_right _ (List.mem_of_getElem? (i := 862) (by decide +kernel))) rfl
def T_Expression : u_T := fun k => match k with
  | 0 => ("ContinuationCore$Expression", "kind", "C", false)
  | 1 => ("ContinuationCore$Expression", "number", "I", false)
  | 2 => ("ContinuationCore$Expression", "nameCount", "I", false)
  | 3 => ("ContinuationCore$Expression", "partCount", "I", false)
  | 4 => ("ContinuationCore$Expression", "names", "[I", true)
  | _ => ("ContinuationCore$Expression", "parts", "[LContinuationCore$Expression;", true)
def ty_Expression : Nat → FieldType := fun k => match k with
  | 0 => .char
  | 1 => .int
  | 2 => .int
  | 3 => .int
  | 4 => .array .int
  | _ => .array (.object "ContinuationCore$Expression")
theorem nm_Expression : ∀ a, a < 6 → ∀ b, b < 6 → a ≠ b → (T_Expression a).2.1 ≠ (T_Expression b).2.1 := by decide +kernel
theorem ty_Expression_ok : ∀ k, k < 6 → parseFieldDescriptor (T_Expression k).2.2.1 = some (ty_Expression k) := by decide +kernel
theorem in_Expression_l : u_ws R_Expression T_Expression 6 = ([69, 71, 73, 75, 77, 79] : List Nat).filterMap (fun i => tables_1[i]?) := by decide +kernel
theorem in_Expression : ∀ w ∈ u_ws R_Expression T_Expression 6, w ∈ lw_g := fun w h => by
  have hg : (u_ws R_Expression T_Expression 6).all goodWord = true := by decide +kernel
  refine lw_in ?_ (List.all_eq_true.mp hg w h)
  rw [in_Expression_l] at h
  obtain ⟨i, -, hi⟩ := List.mem_filterMap.mp h
  exact List.mem_append_right _ (List.mem_of_getElem? hi)
theorem k_Expression_inst : Cond.instantiable R_Expression 6 ∈ lw_g := lw_in (List.mem_append_right _ (List.mem_of_getElem? (i := 50) (by decide +kernel))) rfl
theorem k_Expression_ini : Cond.initialized R_Expression ∈ lw_g := lw_in (List.mem_append_right _ (List.mem_of_getElem? (i := 3) (by decide +kernel))) rfl
-- Expression_init: maxLocals 1, ret none
theorem kc_Expression_init : Cond.code y_Expression_init b_Expression_init 1 none ∈ lw_g := lw_in (List.mem_append_right _ (List.mem_of_getElem? (i := 53) (by decide +kernel))) rfl
theorem d_Expression_init_0 : decode b_Expression_init 0 = .ok (.aload_n 0, 1) := by decide +kernel
theorem d_Expression_init_1 : decode b_Expression_init 1 = .ok (.invokespecial 1, 3) := by decide +kernel
theorem k_Expression_m1 : Cond.methodLink R_Expression 1 objectInit ∈ lw_g := lw_in (List.mem_append_right _ (List.mem_of_getElem? (i := 54) (by decide +kernel))) rfl
theorem d_Expression_init_4 : decode b_Expression_init 4 = .ok (.aload_n 0, 1) := by decide +kernel
theorem d_Expression_init_5 : decode b_Expression_init 5 = .ok (.iconst 3, 1) := by decide +kernel
theorem d_Expression_init_6 : decode b_Expression_init 6 = .ok (.newarray .int, 2) := by decide +kernel
theorem d_Expression_init_8 : decode b_Expression_init 8 = .ok (.putfield 9, 3) := by decide +kernel
theorem k_Expression_f9 : Cond.fieldLink R_Expression 9 "ContinuationCore$Expression" "names" "[I" ∈ lw_g := lw_in (List.mem_append_right _ (List.mem_of_getElem? (i := 65) (by decide +kernel))) rfl
theorem d_Expression_init_11 : decode b_Expression_init 11 = .ok (.aload_n 0, 1) := by decide +kernel
theorem d_Expression_init_12 : decode b_Expression_init 12 = .ok (.iconst 4, 1) := by decide +kernel
theorem d_Expression_init_13 : decode b_Expression_init 13 = .ok (.anewarray 7, 3) := by decide +kernel
theorem k_Expression_c7 : Cond.classLink R_Expression 7 "ContinuationCore$Expression" ∈ lw_g := lw_in (List.mem_append_right _ (List.mem_of_getElem? (i := 55) (by decide +kernel))) rfl
theorem d_Expression_init_16 : decode b_Expression_init 16 = .ok (.putfield 13, 3) := by decide +kernel
theorem k_Expression_f13 : Cond.fieldLink R_Expression 13 "ContinuationCore$Expression" "parts" "[LContinuationCore$Expression;" ∈ lw_g := lw_in (List.mem_append_right _ (List.mem_of_getElem? (i := 67) (by decide +kernel))) rfl
theorem d_Expression_init_19 : decode b_Expression_init 19 = .ok (.return_, 1) := by decide +kernel
theorem ki_Expression_init : Cond.instanceMethod y_Expression_init ∈ lw_g := lw_in (List.mem_append_right _ (List.mem_of_getElem? (i := 52) (by decide +kernel))) rfl
-- Expression_become: maxLocals 3, ret none
theorem kc_Expression_become : Cond.code y_Expression_become b_Expression_become 3 none ∈ lw_g := lw_in (List.mem_append_right _ (List.mem_of_getElem? (i := 369) (by decide +kernel))) rfl
theorem d_Expression_become_0 : decode b_Expression_become 0 = .ok (.aload_n 0, 1) := by decide +kernel
theorem d_Expression_become_1 : decode b_Expression_become 1 = .ok (.iload_n 1, 1) := by decide +kernel
theorem d_Expression_become_2 : decode b_Expression_become 2 = .ok (.putfield 17, 3) := by decide +kernel
theorem k_Expression_f17 : Cond.fieldLink R_Expression 17 "ContinuationCore$Expression" "kind" "C" ∈ lw_g := lw_in (List.mem_append_right _ (List.mem_of_getElem? (i := 56) (by decide +kernel))) rfl
theorem d_Expression_become_5 : decode b_Expression_become 5 = .ok (.aload_n 0, 1) := by decide +kernel
theorem d_Expression_become_6 : decode b_Expression_become 6 = .ok (.iload_n 2, 1) := by decide +kernel
theorem d_Expression_become_7 : decode b_Expression_become 7 = .ok (.putfield 21, 3) := by decide +kernel
theorem k_Expression_f21 : Cond.fieldLink R_Expression 21 "ContinuationCore$Expression" "number" "I" ∈ lw_g := lw_in (List.mem_append_right _ (List.mem_of_getElem? (i := 58) (by decide +kernel))) rfl
theorem d_Expression_become_10 : decode b_Expression_become 10 = .ok (.aload_n 0, 1) := by decide +kernel
theorem d_Expression_become_11 : decode b_Expression_become 11 = .ok (.iconst 0, 1) := by decide +kernel
theorem d_Expression_become_12 : decode b_Expression_become 12 = .ok (.putfield 25, 3) := by decide +kernel
theorem k_Expression_f25 : Cond.fieldLink R_Expression 25 "ContinuationCore$Expression" "nameCount" "I" ∈ lw_g := lw_in (List.mem_append_right _ (List.mem_of_getElem? (i := 61) (by decide +kernel))) rfl
theorem d_Expression_become_15 : decode b_Expression_become 15 = .ok (.aload_n 0, 1) := by decide +kernel
theorem d_Expression_become_16 : decode b_Expression_become 16 = .ok (.iconst 0, 1) := by decide +kernel
theorem d_Expression_become_17 : decode b_Expression_become 17 = .ok (.putfield 28, 3) := by decide +kernel
theorem k_Expression_f28 : Cond.fieldLink R_Expression 28 "ContinuationCore$Expression" "partCount" "I" ∈ lw_g := lw_in (List.mem_append_right _ (List.mem_of_getElem? (i := 63) (by decide +kernel))) rfl
theorem d_Expression_become_20 : decode b_Expression_become 20 = .ok (.return_, 1) := by decide +kernel
theorem ki_Expression_become : Cond.instanceMethod y_Expression_become ∈ lw_g := lw_in (List.mem_append_right _ (List.mem_of_getElem? (i := 367) (by decide +kernel))) rfl
theorem ke_Expression_become : Cond.selects R_Expression y_Expression_become y_Expression_become ∈ lw_g := lw_in (List.mem_append_right _ (List.mem_of_getElem? (i := 368) (by decide +kernel))) rfl
-- Expression_addName: maxLocals 3, ret (some .boolean)
theorem kc_Expression_addName : Cond.code y_Expression_addName b_Expression_addName 3 (some .boolean) ∈ lw_g := lw_in (List.mem_append_right _ (List.mem_of_getElem? (i := 494) (by decide +kernel))) rfl
theorem d_Expression_addName_0 : decode b_Expression_addName 0 = .ok (.aload_n 0, 1) := by decide +kernel
theorem d_Expression_addName_1 : decode b_Expression_addName 1 = .ok (.getfield 25, 3) := by decide +kernel
theorem d_Expression_addName_4 : decode b_Expression_addName 4 = .ok (.iconst 3, 1) := by decide +kernel
theorem d_Expression_addName_5 : decode b_Expression_addName 5 = .ok (.if_icmp .lt 5, 3) := by decide +kernel
theorem d_Expression_addName_8 : decode b_Expression_addName 8 = .ok (.iconst 0, 1) := by decide +kernel
theorem d_Expression_addName_9 : decode b_Expression_addName 9 = .ok (.ireturn, 1) := by decide +kernel
theorem d_Expression_addName_10 : decode b_Expression_addName 10 = .ok (.iconst 0, 1) := by decide +kernel
theorem d_Expression_addName_11 : decode b_Expression_addName 11 = .ok (.istore_n 2, 1) := by decide +kernel
theorem d_Expression_addName_12 : decode b_Expression_addName 12 = .ok (.iload_n 2, 1) := by decide +kernel
theorem d_Expression_addName_13 : decode b_Expression_addName 13 = .ok (.aload_n 0, 1) := by decide +kernel
theorem d_Expression_addName_14 : decode b_Expression_addName 14 = .ok (.getfield 25, 3) := by decide +kernel
theorem d_Expression_addName_17 : decode b_Expression_addName 17 = .ok (.if_icmp .ge 21, 3) := by decide +kernel
theorem d_Expression_addName_20 : decode b_Expression_addName 20 = .ok (.aload_n 0, 1) := by decide +kernel
theorem d_Expression_addName_21 : decode b_Expression_addName 21 = .ok (.getfield 9, 3) := by decide +kernel
theorem d_Expression_addName_24 : decode b_Expression_addName 24 = .ok (.iload_n 2, 1) := by decide +kernel
theorem d_Expression_addName_25 : decode b_Expression_addName 25 = .ok (.iaload, 1) := by decide +kernel
theorem d_Expression_addName_26 : decode b_Expression_addName 26 = .ok (.iload_n 1, 1) := by decide +kernel
theorem d_Expression_addName_27 : decode b_Expression_addName 27 = .ok (.if_icmp .ne 5, 3) := by decide +kernel
theorem d_Expression_addName_30 : decode b_Expression_addName 30 = .ok (.iconst 0, 1) := by decide +kernel
theorem d_Expression_addName_31 : decode b_Expression_addName 31 = .ok (.ireturn, 1) := by decide +kernel
theorem d_Expression_addName_32 : decode b_Expression_addName 32 = .ok (.iinc 2 1, 3) := by decide +kernel
theorem d_Expression_addName_35 : decode b_Expression_addName 35 = .ok (.goto (-23), 3) := by decide +kernel
theorem d_Expression_addName_38 : decode b_Expression_addName 38 = .ok (.aload_n 0, 1) := by decide +kernel
theorem d_Expression_addName_39 : decode b_Expression_addName 39 = .ok (.getfield 9, 3) := by decide +kernel
theorem d_Expression_addName_42 : decode b_Expression_addName 42 = .ok (.aload_n 0, 1) := by decide +kernel
theorem d_Expression_addName_43 : decode b_Expression_addName 43 = .ok (.getfield 25, 3) := by decide +kernel
theorem d_Expression_addName_46 : decode b_Expression_addName 46 = .ok (.iload_n 1, 1) := by decide +kernel
theorem d_Expression_addName_47 : decode b_Expression_addName 47 = .ok (.iastore, 1) := by decide +kernel
theorem d_Expression_addName_48 : decode b_Expression_addName 48 = .ok (.aload_n 0, 1) := by decide +kernel
theorem d_Expression_addName_49 : decode b_Expression_addName 49 = .ok (.dup, 1) := by decide +kernel
theorem d_Expression_addName_50 : decode b_Expression_addName 50 = .ok (.getfield 25, 3) := by decide +kernel
theorem d_Expression_addName_53 : decode b_Expression_addName 53 = .ok (.iconst 1, 1) := by decide +kernel
theorem d_Expression_addName_54 : decode b_Expression_addName 54 = .ok (.iadd, 1) := by decide +kernel
theorem d_Expression_addName_55 : decode b_Expression_addName 55 = .ok (.putfield 25, 3) := by decide +kernel
theorem d_Expression_addName_58 : decode b_Expression_addName 58 = .ok (.iconst 1, 1) := by decide +kernel
theorem d_Expression_addName_59 : decode b_Expression_addName 59 = .ok (.ireturn, 1) := by decide +kernel
theorem ki_Expression_addName : Cond.instanceMethod y_Expression_addName ∈ lw_g := lw_in (List.mem_append_right _ (List.mem_of_getElem? (i := 492) (by decide +kernel))) rfl
theorem ke_Expression_addName : Cond.selects R_Expression y_Expression_addName y_Expression_addName ∈ lw_g := lw_in (List.mem_append_right _ (List.mem_of_getElem? (i := 493) (by decide +kernel))) rfl
-- Expression_addPart: maxLocals 2, ret (some .boolean)
theorem kc_Expression_addPart : Cond.code y_Expression_addPart b_Expression_addPart 2 (some .boolean) ∈ lw_g := lw_in (List.mem_append_right _ (List.mem_of_getElem? (i := 482) (by decide +kernel))) rfl
theorem d_Expression_addPart_0 : decode b_Expression_addPart 0 = .ok (.aload_n 0, 1) := by decide +kernel
theorem d_Expression_addPart_1 : decode b_Expression_addPart 1 = .ok (.getfield 28, 3) := by decide +kernel
theorem d_Expression_addPart_4 : decode b_Expression_addPart 4 = .ok (.aload_n 0, 1) := by decide +kernel
theorem d_Expression_addPart_5 : decode b_Expression_addPart 5 = .ok (.invokevirtual 31, 3) := by decide +kernel
theorem k_Expression_m31 : Cond.methodLink R_Expression 31 y_Expression_mostParts ∈ lw_g := lw_in (List.mem_append_right _ (List.mem_of_getElem? (i := 475) (by decide +kernel))) rfl
theorem d_Expression_addPart_8 : decode b_Expression_addPart 8 = .ok (.if_icmp .lt 5, 3) := by decide +kernel
theorem d_Expression_addPart_11 : decode b_Expression_addPart 11 = .ok (.iconst 0, 1) := by decide +kernel
theorem d_Expression_addPart_12 : decode b_Expression_addPart 12 = .ok (.ireturn, 1) := by decide +kernel
theorem d_Expression_addPart_13 : decode b_Expression_addPart 13 = .ok (.aload_n 0, 1) := by decide +kernel
theorem d_Expression_addPart_14 : decode b_Expression_addPart 14 = .ok (.getfield 13, 3) := by decide +kernel
theorem d_Expression_addPart_17 : decode b_Expression_addPart 17 = .ok (.aload_n 0, 1) := by decide +kernel
theorem d_Expression_addPart_18 : decode b_Expression_addPart 18 = .ok (.getfield 28, 3) := by decide +kernel
theorem d_Expression_addPart_21 : decode b_Expression_addPart 21 = .ok (.aload_n 1, 1) := by decide +kernel
theorem d_Expression_addPart_22 : decode b_Expression_addPart 22 = .ok (.aastore, 1) := by decide +kernel
theorem d_Expression_addPart_23 : decode b_Expression_addPart 23 = .ok (.aload_n 0, 1) := by decide +kernel
theorem d_Expression_addPart_24 : decode b_Expression_addPart 24 = .ok (.dup, 1) := by decide +kernel
theorem d_Expression_addPart_25 : decode b_Expression_addPart 25 = .ok (.getfield 28, 3) := by decide +kernel
theorem d_Expression_addPart_28 : decode b_Expression_addPart 28 = .ok (.iconst 1, 1) := by decide +kernel
theorem d_Expression_addPart_29 : decode b_Expression_addPart 29 = .ok (.iadd, 1) := by decide +kernel
theorem d_Expression_addPart_30 : decode b_Expression_addPart 30 = .ok (.putfield 28, 3) := by decide +kernel
theorem d_Expression_addPart_33 : decode b_Expression_addPart 33 = .ok (.iconst 1, 1) := by decide +kernel
theorem d_Expression_addPart_34 : decode b_Expression_addPart 34 = .ok (.ireturn, 1) := by decide +kernel
theorem ki_Expression_addPart : Cond.instanceMethod y_Expression_addPart ∈ lw_g := lw_in (List.mem_append_right _ (List.mem_of_getElem? (i := 480) (by decide +kernel))) rfl
theorem ke_Expression_addPart : Cond.selects R_Expression y_Expression_addPart y_Expression_addPart ∈ lw_g := lw_in (List.mem_append_right _ (List.mem_of_getElem? (i := 481) (by decide +kernel))) rfl
-- Expression_mayClose: maxLocals 1, ret (some .boolean)
theorem kc_Expression_mayClose : Cond.code y_Expression_mayClose b_Expression_mayClose 1 (some .boolean) ∈ lw_g := lw_in (List.mem_append_right _ (List.mem_of_getElem? (i := 474) (by decide +kernel))) rfl
theorem d_Expression_mayClose_0 : decode b_Expression_mayClose 0 = .ok (.aload_n 0, 1) := by decide +kernel
theorem d_Expression_mayClose_1 : decode b_Expression_mayClose 1 = .ok (.getfield 28, 3) := by decide +kernel
theorem d_Expression_mayClose_4 : decode b_Expression_mayClose 4 = .ok (.aload_n 0, 1) := by decide +kernel
theorem d_Expression_mayClose_5 : decode b_Expression_mayClose 5 = .ok (.getfield 17, 3) := by decide +kernel
theorem d_Expression_mayClose_8 : decode b_Expression_mayClose 8 = .ok (.bipush 40, 2) := by decide +kernel
theorem d_Expression_mayClose_10 : decode b_Expression_mayClose 10 = .ok (.if_icmp .ne 7, 3) := by decide +kernel
theorem d_Expression_mayClose_13 : decode b_Expression_mayClose 13 = .ok (.iconst 1, 1) := by decide +kernel
theorem d_Expression_mayClose_14 : decode b_Expression_mayClose 14 = .ok (.goto 7, 3) := by decide +kernel
theorem d_Expression_mayClose_17 : decode b_Expression_mayClose 17 = .ok (.aload_n 0, 1) := by decide +kernel
theorem d_Expression_mayClose_18 : decode b_Expression_mayClose 18 = .ok (.invokevirtual 31, 3) := by decide +kernel
theorem d_Expression_mayClose_21 : decode b_Expression_mayClose 21 = .ok (.if_icmp .lt 7, 3) := by decide +kernel
theorem d_Expression_mayClose_24 : decode b_Expression_mayClose 24 = .ok (.iconst 1, 1) := by decide +kernel
theorem d_Expression_mayClose_25 : decode b_Expression_mayClose 25 = .ok (.goto 4, 3) := by decide +kernel
theorem d_Expression_mayClose_28 : decode b_Expression_mayClose 28 = .ok (.iconst 0, 1) := by decide +kernel
theorem d_Expression_mayClose_29 : decode b_Expression_mayClose 29 = .ok (.ireturn, 1) := by decide +kernel
theorem ki_Expression_mayClose : Cond.instanceMethod y_Expression_mayClose ∈ lw_g := lw_in (List.mem_append_right _ (List.mem_of_getElem? (i := 472) (by decide +kernel))) rfl
theorem ke_Expression_mayClose : Cond.selects R_Expression y_Expression_mayClose y_Expression_mayClose ∈ lw_g := lw_in (List.mem_append_right _ (List.mem_of_getElem? (i := 473) (by decide +kernel))) rfl
-- Expression_mostParts: maxLocals 1, ret (some .int)
theorem kc_Expression_mostParts : Cond.code y_Expression_mostParts b_Expression_mostParts 1 (some .int) ∈ lw_g := lw_in (List.mem_append_right _ (List.mem_of_getElem? (i := 478) (by decide +kernel))) rfl
theorem d_Expression_mostParts_0 : decode b_Expression_mostParts 0 = .ok (.aload_n 0, 1) := by decide +kernel
theorem d_Expression_mostParts_1 : decode b_Expression_mostParts 1 = .ok (.getfield 17, 3) := by decide +kernel
theorem d_Expression_mostParts_4 : decode b_Expression_mostParts 4 = .ok (.lookupswitch 108 #[(33, 102), (40, 106), (48, 100), (63, 104), (65, 102), (68, 102), (80, 102), (92, 102), (94, 102), (95, 100), (97, 100)], 100) := by decide +kernel
theorem d_Expression_mostParts_104 : decode b_Expression_mostParts 104 = .ok (.iconst 0, 1) := by decide +kernel
theorem d_Expression_mostParts_105 : decode b_Expression_mostParts 105 = .ok (.ireturn, 1) := by decide +kernel
theorem d_Expression_mostParts_106 : decode b_Expression_mostParts 106 = .ok (.iconst 1, 1) := by decide +kernel
theorem d_Expression_mostParts_107 : decode b_Expression_mostParts 107 = .ok (.ireturn, 1) := by decide +kernel
theorem d_Expression_mostParts_108 : decode b_Expression_mostParts 108 = .ok (.iconst 3, 1) := by decide +kernel
theorem d_Expression_mostParts_109 : decode b_Expression_mostParts 109 = .ok (.ireturn, 1) := by decide +kernel
theorem d_Expression_mostParts_110 : decode b_Expression_mostParts 110 = .ok (.iconst 4, 1) := by decide +kernel
theorem d_Expression_mostParts_111 : decode b_Expression_mostParts 111 = .ok (.ireturn, 1) := by decide +kernel
theorem d_Expression_mostParts_112 : decode b_Expression_mostParts 112 = .ok (.iconst 2, 1) := by decide +kernel
theorem d_Expression_mostParts_113 : decode b_Expression_mostParts 113 = .ok (.ireturn, 1) := by decide +kernel
theorem ki_Expression_mostParts : Cond.instanceMethod y_Expression_mostParts ∈ lw_g := lw_in (List.mem_append_right _ (List.mem_of_getElem? (i := 477) (by decide +kernel))) rfl
theorem ke_Expression_mostParts : Cond.selects R_Expression y_Expression_mostParts y_Expression_mostParts ∈ lw_g := lw_in (List.mem_append_left _ (List.mem_map.mpr ⟨(y_Expression_mostParts, 6), by decide +kernel, rfl⟩)) rfl
def T_IntValue : u_T := fun k => match k with
  | _ => ("ContinuationCore$IntValue", "number", "I", true)
def ty_IntValue : Nat → FieldType := fun k => match k with
  | _ => .int
theorem nm_IntValue : ∀ a, a < 1 → ∀ b, b < 1 → a ≠ b → (T_IntValue a).2.1 ≠ (T_IntValue b).2.1 := by decide +kernel
theorem ty_IntValue_ok : ∀ k, k < 1 → parseFieldDescriptor (T_IntValue k).2.2.1 = some (ty_IntValue k) := by decide +kernel
theorem in_IntValue_l : u_ws R_IntValue T_IntValue 1 = ([522] : List Nat).filterMap (fun i => tables_1[i]?) := by decide +kernel
theorem in_IntValue : ∀ w ∈ u_ws R_IntValue T_IntValue 1, w ∈ lw_g := fun w h => by
  have hg : (u_ws R_IntValue T_IntValue 1).all goodWord = true := by decide +kernel
  refine lw_in ?_ (List.all_eq_true.mp hg w h)
  rw [in_IntValue_l] at h
  obtain ⟨i, -, hi⟩ := List.mem_filterMap.mp h
  exact List.mem_append_right _ (List.mem_of_getElem? hi)
theorem k_IntValue_inst : Cond.instantiable R_IntValue 1 ∈ lw_g := lw_in (List.mem_append_right _ (List.mem_of_getElem? (i := 514) (by decide +kernel))) rfl
theorem k_IntValue_ini : Cond.initialized R_IntValue ∈ lw_g := lw_in (List.mem_append_right _ (List.mem_of_getElem? (i := 22) (by decide +kernel))) rfl
-- IntValue_init: maxLocals 2, ret none
theorem kc_IntValue_init : Cond.code y_IntValue_init b_IntValue_init 2 none ∈ lw_g := lw_in (List.mem_append_right _ (List.mem_of_getElem? (i := 517) (by decide +kernel))) rfl
theorem d_IntValue_init_0 : decode b_IntValue_init 0 = .ok (.aload_n 0, 1) := by decide +kernel
theorem d_IntValue_init_1 : decode b_IntValue_init 1 = .ok (.invokespecial 1, 3) := by decide +kernel
theorem k_IntValue_mn1 : Cond.methodLinkNest R_IntValue 1 y_Value_init "ContinuationCore" ∈ lw_tbl := List.mem_append_right _ (List.mem_of_getElem? (i := 518) (by decide +kernel))
theorem d_IntValue_init_4 : decode b_IntValue_init 4 = .ok (.aload_n 0, 1) := by decide +kernel
theorem d_IntValue_init_5 : decode b_IntValue_init 5 = .ok (.iload_n 1, 1) := by decide +kernel
theorem d_IntValue_init_6 : decode b_IntValue_init 6 = .ok (.putfield 7, 3) := by decide +kernel
theorem k_IntValue_f7 : Cond.fieldLink R_IntValue 7 "ContinuationCore$IntValue" "number" "I" ∈ lw_g := lw_in (List.mem_append_right _ (List.mem_of_getElem? (i := 519) (by decide +kernel))) rfl
theorem d_IntValue_init_9 : decode b_IntValue_init 9 = .ok (.return_, 1) := by decide +kernel
theorem ki_IntValue_init : Cond.instanceMethod y_IntValue_init ∈ lw_g := lw_in (List.mem_append_right _ (List.mem_of_getElem? (i := 516) (by decide +kernel))) rfl
-- IntValue_isSame: maxLocals 3, ret (some .boolean)
theorem kc_IntValue_isSame : Cond.code y_IntValue_isSame b_IntValue_isSame 3 (some .boolean) ∈ lw_g := lw_in (List.mem_append_right _ (List.mem_of_getElem? (i := 943) (by decide +kernel))) rfl
theorem d_IntValue_isSame_0 : decode b_IntValue_isSame 0 = .ok (.aload_n 1, 1) := by decide +kernel
theorem d_IntValue_isSame_1 : decode b_IntValue_isSame 1 = .ok (.instanceof 8, 3) := by decide +kernel
theorem k_IntValue_c8 : Cond.classLink R_IntValue 8 "ContinuationCore$IntValue" ∈ lw_g := lw_in (List.mem_append_right _ (List.mem_of_getElem? (i := 944) (by decide +kernel))) rfl
theorem d_IntValue_isSame_4 : decode b_IntValue_isSame 4 = .ok (.ifCond .eq 23, 3) := by decide +kernel
theorem d_IntValue_isSame_7 : decode b_IntValue_isSame 7 = .ok (.aload_n 1, 1) := by decide +kernel
theorem d_IntValue_isSame_8 : decode b_IntValue_isSame 8 = .ok (.checkcast 8, 3) := by decide +kernel
theorem d_IntValue_isSame_11 : decode b_IntValue_isSame 11 = .ok (.astore_n 2, 1) := by decide +kernel
theorem d_IntValue_isSame_12 : decode b_IntValue_isSame 12 = .ok (.aload_n 2, 1) := by decide +kernel
theorem d_IntValue_isSame_13 : decode b_IntValue_isSame 13 = .ok (.getfield 7, 3) := by decide +kernel
theorem d_IntValue_isSame_16 : decode b_IntValue_isSame 16 = .ok (.aload_n 0, 1) := by decide +kernel
theorem d_IntValue_isSame_17 : decode b_IntValue_isSame 17 = .ok (.getfield 7, 3) := by decide +kernel
theorem d_IntValue_isSame_20 : decode b_IntValue_isSame 20 = .ok (.if_icmp .ne 7, 3) := by decide +kernel
theorem d_IntValue_isSame_23 : decode b_IntValue_isSame 23 = .ok (.iconst 1, 1) := by decide +kernel
theorem d_IntValue_isSame_24 : decode b_IntValue_isSame 24 = .ok (.goto 4, 3) := by decide +kernel
theorem d_IntValue_isSame_27 : decode b_IntValue_isSame 27 = .ok (.iconst 0, 1) := by decide +kernel
theorem d_IntValue_isSame_28 : decode b_IntValue_isSame 28 = .ok (.ireturn, 1) := by decide +kernel
theorem ki_IntValue_isSame : Cond.instanceMethod y_IntValue_isSame ∈ lw_g := lw_in (List.mem_append_right _ (List.mem_of_getElem? (i := 942) (by decide +kernel))) rfl
-- IntValue_write: maxLocals 2, ret none
theorem kc_IntValue_write : Cond.code y_IntValue_write b_IntValue_write 2 none ∈ lw_g := lw_in (List.mem_append_right _ (List.mem_of_getElem? (i := 867) (by decide +kernel))) rfl
theorem d_IntValue_write_0 : decode b_IntValue_write 0 = .ok (.aload_n 1, 1) := by decide +kernel
theorem d_IntValue_write_1 : decode b_IntValue_write 1 = .ok (.aload_n 0, 1) := by decide +kernel
theorem d_IntValue_write_2 : decode b_IntValue_write 2 = .ok (.getfield 7, 3) := by decide +kernel
theorem d_IntValue_write_5 : decode b_IntValue_write 5 = .ok (.invokevirtual 13, 3) := by decide +kernel
theorem k_IntValue_m13 : Cond.methodLink R_IntValue 13 ⟨"java/lang/StringBuilder", "append", "(I)Ljava/lang/StringBuilder;"⟩ ∈ lw_g := lw_in (List.mem_append_right _ (List.mem_of_getElem? (i := 868) (by decide +kernel))) rfl
theorem d_IntValue_write_8 : decode b_IntValue_write 8 = .ok (.pop, 1) := by decide +kernel
theorem d_IntValue_write_9 : decode b_IntValue_write 9 = .ok (.return_, 1) := by decide +kernel
theorem ki_IntValue_write : Cond.instanceMethod y_IntValue_write ∈ lw_g := lw_in (List.mem_append_right _ (List.mem_of_getElem? (i := 866) (by decide +kernel))) rfl
def T_Machine : u_T := fun k => match k with
  | 0 => ("ContinuationCore$Machine", "globals", "[LContinuationCore$Binding;", true)
  | 1 => ("ContinuationCore$Machine", "shown", "Ljava/lang/StringBuilder;", true)
  | 2 => ("ContinuationCore$Machine", "empty", "LContinuationCore$Value;", true)
  | 3 => ("ContinuationCore$Machine", "nothing", "[LContinuationCore$Value;", true)
  | 4 => ("ContinuationCore$Machine", "status", "I", false)
  | 5 => ("ContinuationCore$Machine", "steps", "I", false)
  | 6 => ("ContinuationCore$Machine", "pairs", "I", false)
  | 7 => ("ContinuationCore$Machine", "bindings", "I", false)
  | 8 => ("ContinuationCore$Machine", "fault", "I", false)
  | 9 => ("ContinuationCore$Machine", "next", "LContinuationCore$Expression;", false)
  | 10 => ("ContinuationCore$Machine", "nextScope", "LContinuationCore$Binding;", false)
  | _ => ("ContinuationCore$Machine", "chain", "LContinuationCore$Waiting;", false)
def ty_Machine : Nat → FieldType := fun k => match k with
  | 0 => .array (.object "ContinuationCore$Binding")
  | 1 => .object "java/lang/StringBuilder"
  | 2 => .object "ContinuationCore$Value"
  | 3 => .array (.object "ContinuationCore$Value")
  | 4 => .int
  | 5 => .int
  | 6 => .int
  | 7 => .int
  | 8 => .int
  | 9 => .object "ContinuationCore$Expression"
  | 10 => .object "ContinuationCore$Binding"
  | _ => .object "ContinuationCore$Waiting"
theorem nm_Machine : ∀ a, a < 12 → ∀ b, b < 12 → a ≠ b → (T_Machine a).2.1 ≠ (T_Machine b).2.1 := by decide +kernel
theorem ty_Machine_ok : ∀ k, k < 12 → parseFieldDescriptor (T_Machine k).2.2.1 = some (ty_Machine k) := by decide +kernel
theorem in_Machine_l : u_ws R_Machine T_Machine 12 = ([195, 197, 199, 201, 203, 205, 207, 209, 211, 213, 215, 217] : List Nat).filterMap (fun i => tables_1[i]?) := by decide +kernel
theorem in_Machine : ∀ w ∈ u_ws R_Machine T_Machine 12, w ∈ lw_g := fun w h => by
  have hg : (u_ws R_Machine T_Machine 12).all goodWord = true := by decide +kernel
  refine lw_in ?_ (List.all_eq_true.mp hg w h)
  rw [in_Machine_l] at h
  obtain ⟨i, -, hi⟩ := List.mem_filterMap.mp h
  exact List.mem_append_right _ (List.mem_of_getElem? hi)
theorem k_Machine_inst : Cond.instantiable R_Machine 12 ∈ lw_g := lw_in (List.mem_append_right _ (List.mem_of_getElem? (i := 105) (by decide +kernel))) rfl
theorem k_Machine_ini : Cond.initialized R_Machine ∈ lw_g := lw_in (List.mem_append_right _ (List.mem_of_getElem? (i := 4) (by decide +kernel))) rfl
-- Machine_init: maxLocals 3, ret none
theorem kc_Machine_init : Cond.code y_Machine_init b_Machine_init 3 none ∈ lw_g := lw_in (List.mem_append_right _ (List.mem_of_getElem? (i := 108) (by decide +kernel))) rfl
theorem d_Machine_init_0 : decode b_Machine_init 0 = .ok (.aload_n 0, 1) := by decide +kernel
theorem d_Machine_init_1 : decode b_Machine_init 1 = .ok (.invokespecial 3, 3) := by decide +kernel
theorem k_Machine_m3 : Cond.methodLink R_Machine 3 objectInit ∈ lw_g := lw_in (List.mem_append_right _ (List.mem_of_getElem? (i := 109) (by decide +kernel))) rfl
theorem d_Machine_init_4 : decode b_Machine_init 4 = .ok (.aload_n 0, 1) := by decide +kernel
theorem d_Machine_init_5 : decode b_Machine_init 5 = .ok (.bipush 26, 2) := by decide +kernel
theorem d_Machine_init_7 : decode b_Machine_init 7 = .ok (.anewarray 9, 3) := by decide +kernel
theorem k_Machine_c9 : Cond.classLink R_Machine 9 "ContinuationCore$Binding" ∈ lw_g := lw_in (List.mem_append_right _ (List.mem_of_getElem? (i := 110) (by decide +kernel))) rfl
theorem d_Machine_init_10 : decode b_Machine_init 10 = .ok (.putfield 11, 3) := by decide +kernel
theorem k_Machine_f11 : Cond.fieldLink R_Machine 11 "ContinuationCore$Machine" "globals" "[LContinuationCore$Binding;" ∈ lw_g := lw_in (List.mem_append_right _ (List.mem_of_getElem? (i := 176) (by decide +kernel))) rfl
theorem d_Machine_init_13 : decode b_Machine_init 13 = .ok (.aload_n 0, 1) := by decide +kernel
theorem d_Machine_init_14 : decode b_Machine_init 14 = .ok (.new 17, 3) := by decide +kernel
theorem k_Machine_c17 : Cond.classLink R_Machine 17 "java/lang/StringBuilder" ∈ lw_g := lw_in (List.mem_append_right _ (List.mem_of_getElem? (i := 112) (by decide +kernel))) rfl
theorem d_Machine_init_17 : decode b_Machine_init 17 = .ok (.dup, 1) := by decide +kernel
theorem d_Machine_init_18 : decode b_Machine_init 18 = .ok (.invokespecial 19, 3) := by decide +kernel
theorem k_Machine_m19 : Cond.methodLink R_Machine 19 ⟨"java/lang/StringBuilder", "<init>", "()V"⟩ ∈ lw_g := lw_in (List.mem_append_right _ (List.mem_of_getElem? (i := 114) (by decide +kernel))) rfl
theorem d_Machine_init_21 : decode b_Machine_init 21 = .ok (.putfield 20, 3) := by decide +kernel
theorem k_Machine_f20 : Cond.fieldLink R_Machine 20 "ContinuationCore$Machine" "shown" "Ljava/lang/StringBuilder;" ∈ lw_g := lw_in (List.mem_append_right _ (List.mem_of_getElem? (i := 178) (by decide +kernel))) rfl
theorem d_Machine_init_24 : decode b_Machine_init 24 = .ok (.aload_n 0, 1) := by decide +kernel
theorem d_Machine_init_25 : decode b_Machine_init 25 = .ok (.new 24, 3) := by decide +kernel
theorem k_Machine_c24 : Cond.classLink R_Machine 24 "ContinuationCore$EmptyValue" ∈ lw_g := lw_in (List.mem_append_right _ (List.mem_of_getElem? (i := 145) (by decide +kernel))) rfl
theorem d_Machine_init_28 : decode b_Machine_init 28 = .ok (.dup, 1) := by decide +kernel
theorem d_Machine_init_29 : decode b_Machine_init 29 = .ok (.invokespecial 26, 3) := by decide +kernel
theorem k_Machine_mn26 : Cond.methodLinkNest R_Machine 26 y_EmptyValue_init "ContinuationCore" ∈ lw_tbl := List.mem_append_right _ (List.mem_of_getElem? (i := 147) (by decide +kernel))
theorem d_Machine_init_32 : decode b_Machine_init 32 = .ok (.putfield 27, 3) := by decide +kernel
theorem k_Machine_f27 : Cond.fieldLink R_Machine 27 "ContinuationCore$Machine" "empty" "LContinuationCore$Value;" ∈ lw_g := lw_in (List.mem_append_right _ (List.mem_of_getElem? (i := 180) (by decide +kernel))) rfl
theorem d_Machine_init_35 : decode b_Machine_init 35 = .ok (.aload_n 0, 1) := by decide +kernel
theorem d_Machine_init_36 : decode b_Machine_init 36 = .ok (.iconst 0, 1) := by decide +kernel
theorem d_Machine_init_37 : decode b_Machine_init 37 = .ok (.anewarray 31, 3) := by decide +kernel
theorem k_Machine_c31 : Cond.classLink R_Machine 31 "ContinuationCore$Value" ∈ lw_g := lw_in (List.mem_append_right _ (List.mem_of_getElem? (i := 155) (by decide +kernel))) rfl
theorem d_Machine_init_40 : decode b_Machine_init 40 = .ok (.putfield 33, 3) := by decide +kernel
theorem k_Machine_f33 : Cond.fieldLink R_Machine 33 "ContinuationCore$Machine" "nothing" "[LContinuationCore$Value;" ∈ lw_g := lw_in (List.mem_append_right _ (List.mem_of_getElem? (i := 181) (by decide +kernel))) rfl
theorem d_Machine_init_43 : decode b_Machine_init 43 = .ok (.aconst_null, 1) := by decide +kernel
theorem d_Machine_init_44 : decode b_Machine_init 44 = .ok (.astore_n 1, 1) := by decide +kernel
theorem d_Machine_init_45 : decode b_Machine_init 45 = .ok (.iconst 0, 1) := by decide +kernel
theorem d_Machine_init_46 : decode b_Machine_init 46 = .ok (.istore_n 2, 1) := by decide +kernel
theorem d_Machine_init_47 : decode b_Machine_init 47 = .ok (.iload_n 2, 1) := by decide +kernel
theorem d_Machine_init_48 : decode b_Machine_init 48 = .ok (.bipush 26, 2) := by decide +kernel
theorem d_Machine_init_50 : decode b_Machine_init 50 = .ok (.if_icmp .ge 27, 3) := by decide +kernel
theorem d_Machine_init_53 : decode b_Machine_init 53 = .ok (.new 9, 3) := by decide +kernel
theorem d_Machine_init_56 : decode b_Machine_init 56 = .ok (.dup, 1) := by decide +kernel
theorem d_Machine_init_57 : decode b_Machine_init 57 = .ok (.iload_n 2, 1) := by decide +kernel
theorem d_Machine_init_58 : decode b_Machine_init 58 = .ok (.aconst_null, 1) := by decide +kernel
theorem d_Machine_init_59 : decode b_Machine_init 59 = .ok (.aload_n 1, 1) := by decide +kernel
theorem d_Machine_init_60 : decode b_Machine_init 60 = .ok (.invokespecial 37, 3) := by decide +kernel
theorem k_Machine_m37 : Cond.methodLink R_Machine 37 y_Binding_init ∈ lw_g := lw_in (List.mem_append_right _ (List.mem_of_getElem? (i := 158) (by decide +kernel))) rfl
theorem d_Machine_init_63 : decode b_Machine_init 63 = .ok (.astore_n 1, 1) := by decide +kernel
theorem d_Machine_init_64 : decode b_Machine_init 64 = .ok (.aload_n 0, 1) := by decide +kernel
theorem d_Machine_init_65 : decode b_Machine_init 65 = .ok (.getfield 11, 3) := by decide +kernel
theorem d_Machine_init_68 : decode b_Machine_init 68 = .ok (.iload_n 2, 1) := by decide +kernel
theorem d_Machine_init_69 : decode b_Machine_init 69 = .ok (.aload_n 1, 1) := by decide +kernel
theorem d_Machine_init_70 : decode b_Machine_init 70 = .ok (.aastore, 1) := by decide +kernel
theorem d_Machine_init_71 : decode b_Machine_init 71 = .ok (.iinc 2 1, 3) := by decide +kernel
theorem d_Machine_init_74 : decode b_Machine_init 74 = .ok (.goto (-27), 3) := by decide +kernel
theorem d_Machine_init_77 : decode b_Machine_init 77 = .ok (.return_, 1) := by decide +kernel
theorem ki_Machine_init : Cond.instanceMethod y_Machine_init ∈ lw_g := lw_in (List.mem_append_right _ (List.mem_of_getElem? (i := 107) (by decide +kernel))) rfl
-- Machine_prepare: maxLocals 4, ret none
theorem kc_Machine_prepare : Cond.code y_Machine_prepare b_Machine_prepare 4 none ∈ lw_g := lw_in (List.mem_append_right _ (List.mem_of_getElem? (i := 540) (by decide +kernel))) rfl
theorem d_Machine_prepare_0 : decode b_Machine_prepare 0 = .ok (.iconst 0, 1) := by decide +kernel
theorem d_Machine_prepare_1 : decode b_Machine_prepare 1 = .ok (.istore_n 3, 1) := by decide +kernel
theorem d_Machine_prepare_2 : decode b_Machine_prepare 2 = .ok (.iload_n 3, 1) := by decide +kernel
theorem d_Machine_prepare_3 : decode b_Machine_prepare 3 = .ok (.bipush 26, 2) := by decide +kernel
theorem d_Machine_prepare_5 : decode b_Machine_prepare 5 = .ok (.if_icmp .ge 27, 3) := by decide +kernel
theorem d_Machine_prepare_8 : decode b_Machine_prepare 8 = .ok (.iload_n 3, 1) := by decide +kernel
theorem d_Machine_prepare_9 : decode b_Machine_prepare 9 = .ok (.aload_n 2, 1) := by decide +kernel
theorem d_Machine_prepare_10 : decode b_Machine_prepare 10 = .ok (.arraylength, 1) := by decide +kernel
theorem d_Machine_prepare_11 : decode b_Machine_prepare 11 = .ok (.if_icmp .ge 21, 3) := by decide +kernel
theorem d_Machine_prepare_14 : decode b_Machine_prepare 14 = .ok (.aload_n 0, 1) := by decide +kernel
theorem d_Machine_prepare_15 : decode b_Machine_prepare 15 = .ok (.getfield 11, 3) := by decide +kernel
theorem d_Machine_prepare_18 : decode b_Machine_prepare 18 = .ok (.iload_n 3, 1) := by decide +kernel
theorem d_Machine_prepare_19 : decode b_Machine_prepare 19 = .ok (.aaload, 1) := by decide +kernel
theorem d_Machine_prepare_20 : decode b_Machine_prepare 20 = .ok (.aload_n 2, 1) := by decide +kernel
theorem d_Machine_prepare_21 : decode b_Machine_prepare 21 = .ok (.iload_n 3, 1) := by decide +kernel
theorem d_Machine_prepare_22 : decode b_Machine_prepare 22 = .ok (.aaload, 1) := by decide +kernel
theorem d_Machine_prepare_23 : decode b_Machine_prepare 23 = .ok (.putfield 40, 3) := by decide +kernel
theorem k_Machine_f40 : Cond.fieldLink R_Machine 40 "ContinuationCore$Binding" "value" "LContinuationCore$Value;" ∈ lw_g := lw_in (List.mem_append_right _ (List.mem_of_getElem? (i := 167) (by decide +kernel))) rfl
theorem d_Machine_prepare_26 : decode b_Machine_prepare 26 = .ok (.iinc 3 1, 3) := by decide +kernel
theorem d_Machine_prepare_29 : decode b_Machine_prepare 29 = .ok (.goto (-27), 3) := by decide +kernel
theorem d_Machine_prepare_32 : decode b_Machine_prepare 32 = .ok (.aload_n 0, 1) := by decide +kernel
theorem d_Machine_prepare_33 : decode b_Machine_prepare 33 = .ok (.iconst 1, 1) := by decide +kernel
theorem d_Machine_prepare_34 : decode b_Machine_prepare 34 = .ok (.putfield 43, 3) := by decide +kernel
theorem k_Machine_f43 : Cond.fieldLink R_Machine 43 "ContinuationCore$Machine" "status" "I" ∈ lw_g := lw_in (List.mem_append_right _ (List.mem_of_getElem? (i := 183) (by decide +kernel))) rfl
theorem d_Machine_prepare_37 : decode b_Machine_prepare 37 = .ok (.aload_n 0, 1) := by decide +kernel
theorem d_Machine_prepare_38 : decode b_Machine_prepare 38 = .ok (.iconst 0, 1) := by decide +kernel
theorem d_Machine_prepare_39 : decode b_Machine_prepare 39 = .ok (.putfield 47, 3) := by decide +kernel
theorem k_Machine_f47 : Cond.fieldLink R_Machine 47 "ContinuationCore$Machine" "steps" "I" ∈ lw_g := lw_in (List.mem_append_right _ (List.mem_of_getElem? (i := 184) (by decide +kernel))) rfl
theorem d_Machine_prepare_42 : decode b_Machine_prepare 42 = .ok (.aload_n 0, 1) := by decide +kernel
theorem d_Machine_prepare_43 : decode b_Machine_prepare 43 = .ok (.iconst 0, 1) := by decide +kernel
theorem d_Machine_prepare_44 : decode b_Machine_prepare 44 = .ok (.putfield 50, 3) := by decide +kernel
theorem k_Machine_f50 : Cond.fieldLink R_Machine 50 "ContinuationCore$Machine" "pairs" "I" ∈ lw_g := lw_in (List.mem_append_right _ (List.mem_of_getElem? (i := 186) (by decide +kernel))) rfl
theorem d_Machine_prepare_47 : decode b_Machine_prepare 47 = .ok (.aload_n 0, 1) := by decide +kernel
theorem d_Machine_prepare_48 : decode b_Machine_prepare 48 = .ok (.iconst 0, 1) := by decide +kernel
theorem d_Machine_prepare_49 : decode b_Machine_prepare 49 = .ok (.putfield 53, 3) := by decide +kernel
theorem k_Machine_f53 : Cond.fieldLink R_Machine 53 "ContinuationCore$Machine" "bindings" "I" ∈ lw_g := lw_in (List.mem_append_right _ (List.mem_of_getElem? (i := 188) (by decide +kernel))) rfl
theorem d_Machine_prepare_52 : decode b_Machine_prepare 52 = .ok (.aload_n 0, 1) := by decide +kernel
theorem d_Machine_prepare_53 : decode b_Machine_prepare 53 = .ok (.iconst 0, 1) := by decide +kernel
theorem d_Machine_prepare_54 : decode b_Machine_prepare 54 = .ok (.putfield 56, 3) := by decide +kernel
theorem k_Machine_f56 : Cond.fieldLink R_Machine 56 "ContinuationCore$Machine" "fault" "I" ∈ lw_g := lw_in (List.mem_append_right _ (List.mem_of_getElem? (i := 190) (by decide +kernel))) rfl
theorem d_Machine_prepare_57 : decode b_Machine_prepare 57 = .ok (.aload_n 0, 1) := by decide +kernel
theorem d_Machine_prepare_58 : decode b_Machine_prepare 58 = .ok (.aconst_null, 1) := by decide +kernel
theorem d_Machine_prepare_59 : decode b_Machine_prepare 59 = .ok (.putfield 59, 3) := by decide +kernel
theorem k_Machine_f59 : Cond.fieldLink R_Machine 59 "ContinuationCore$Machine" "chain" "LContinuationCore$Waiting;" ∈ lw_g := lw_in (List.mem_append_right _ (List.mem_of_getElem? (i := 194) (by decide +kernel))) rfl
theorem d_Machine_prepare_62 : decode b_Machine_prepare 62 = .ok (.aload_n 0, 1) := by decide +kernel
theorem d_Machine_prepare_63 : decode b_Machine_prepare 63 = .ok (.aload_n 1, 1) := by decide +kernel
theorem d_Machine_prepare_64 : decode b_Machine_prepare 64 = .ok (.aload_n 0, 1) := by decide +kernel
theorem d_Machine_prepare_65 : decode b_Machine_prepare 65 = .ok (.getfield 11, 3) := by decide +kernel
theorem d_Machine_prepare_68 : decode b_Machine_prepare 68 = .ok (.bipush 25, 2) := by decide +kernel
theorem d_Machine_prepare_70 : decode b_Machine_prepare 70 = .ok (.aaload, 1) := by decide +kernel
theorem d_Machine_prepare_71 : decode b_Machine_prepare 71 = .ok (.invokevirtual 63, 3) := by decide +kernel
theorem k_Machine_m63 : Cond.methodLink R_Machine 63 y_Machine_goLast ∈ lw_g := lw_in (List.mem_append_right _ (List.mem_of_getElem? (i := 541) (by decide +kernel))) rfl
theorem d_Machine_prepare_74 : decode b_Machine_prepare 74 = .ok (.pop, 1) := by decide +kernel
theorem d_Machine_prepare_75 : decode b_Machine_prepare 75 = .ok (.return_, 1) := by decide +kernel
theorem ki_Machine_prepare : Cond.instanceMethod y_Machine_prepare ∈ lw_g := lw_in (List.mem_append_right _ (List.mem_of_getElem? (i := 538) (by decide +kernel))) rfl
theorem ke_Machine_prepare : Cond.selects R_Machine y_Machine_prepare y_Machine_prepare ∈ lw_g := lw_in (List.mem_append_right _ (List.mem_of_getElem? (i := 539) (by decide +kernel))) rfl
-- Machine_depth: maxLocals 1, ret (some .int)
theorem kc_Machine_depth : Cond.code y_Machine_depth b_Machine_depth 1 (some .int) ∈ lw_g := lw_in (List.mem_append_right _ (List.mem_of_getElem? (i := 603) (by decide +kernel))) rfl
theorem d_Machine_depth_0 : decode b_Machine_depth 0 = .ok (.aload_n 0, 1) := by decide +kernel
theorem d_Machine_depth_1 : decode b_Machine_depth 1 = .ok (.getfield 43, 3) := by decide +kernel
theorem d_Machine_depth_4 : decode b_Machine_depth 4 = .ok (.iconst 1, 1) := by decide +kernel
theorem d_Machine_depth_5 : decode b_Machine_depth 5 = .ok (.if_icmp .ne 10, 3) := by decide +kernel
theorem d_Machine_depth_8 : decode b_Machine_depth 8 = .ok (.aload_n 0, 1) := by decide +kernel
theorem d_Machine_depth_9 : decode b_Machine_depth 9 = .ok (.getfield 59, 3) := by decide +kernel
theorem d_Machine_depth_12 : decode b_Machine_depth 12 = .ok (.ifnonnull 7, 3) := by decide +kernel
theorem d_Machine_depth_15 : decode b_Machine_depth 15 = .ok (.iconst 0, 1) := by decide +kernel
theorem d_Machine_depth_16 : decode b_Machine_depth 16 = .ok (.goto 10, 3) := by decide +kernel
theorem d_Machine_depth_19 : decode b_Machine_depth 19 = .ok (.aload_n 0, 1) := by decide +kernel
theorem d_Machine_depth_20 : decode b_Machine_depth 20 = .ok (.getfield 59, 3) := by decide +kernel
theorem d_Machine_depth_23 : decode b_Machine_depth 23 = .ok (.getfield 67, 3) := by decide +kernel
theorem k_Machine_f67 : Cond.fieldLink R_Machine 67 "ContinuationCore$Waiting" "depth" "I" ∈ lw_g := lw_in (List.mem_append_right _ (List.mem_of_getElem? (i := 618) (by decide +kernel))) rfl
theorem d_Machine_depth_26 : decode b_Machine_depth 26 = .ok (.ireturn, 1) := by decide +kernel
theorem ki_Machine_depth : Cond.instanceMethod y_Machine_depth ∈ lw_g := lw_in (List.mem_append_right _ (List.mem_of_getElem? (i := 601) (by decide +kernel))) rfl
theorem ke_Machine_depth : Cond.selects R_Machine y_Machine_depth y_Machine_depth ∈ lw_g := lw_in (List.mem_append_right _ (List.mem_of_getElem? (i := 602) (by decide +kernel))) rfl
-- Machine_step: maxLocals 4, ret none
theorem kc_Machine_step : Cond.code y_Machine_step b_Machine_step 4 none ∈ lw_g := lw_in (List.mem_append_right _ (List.mem_of_getElem? (i := 559) (by decide +kernel))) rfl
theorem d_Machine_step_0 : decode b_Machine_step 0 = .ok (.aload_n 0, 1) := by decide +kernel
theorem d_Machine_step_1 : decode b_Machine_step 1 = .ok (.dup, 1) := by decide +kernel
theorem d_Machine_step_2 : decode b_Machine_step 2 = .ok (.getfield 47, 3) := by decide +kernel
theorem d_Machine_step_5 : decode b_Machine_step 5 = .ok (.iconst 1, 1) := by decide +kernel
theorem d_Machine_step_6 : decode b_Machine_step 6 = .ok (.iadd, 1) := by decide +kernel
theorem d_Machine_step_7 : decode b_Machine_step 7 = .ok (.putfield 47, 3) := by decide +kernel
theorem d_Machine_step_10 : decode b_Machine_step 10 = .ok (.aload_n 0, 1) := by decide +kernel
theorem d_Machine_step_11 : decode b_Machine_step 11 = .ok (.aload_n 0, 1) := by decide +kernel
theorem d_Machine_step_12 : decode b_Machine_step 12 = .ok (.getfield 72, 3) := by decide +kernel
theorem k_Machine_f72 : Cond.fieldLink R_Machine 72 "ContinuationCore$Machine" "next" "LContinuationCore$Expression;" ∈ lw_g := lw_in (List.mem_append_right _ (List.mem_of_getElem? (i := 192) (by decide +kernel))) rfl
theorem d_Machine_step_15 : decode b_Machine_step 15 = .ok (.aload_n 0, 1) := by decide +kernel
theorem d_Machine_step_16 : decode b_Machine_step 16 = .ok (.getfield 76, 3) := by decide +kernel
theorem k_Machine_f76 : Cond.fieldLink R_Machine 76 "ContinuationCore$Machine" "nextScope" "LContinuationCore$Binding;" ∈ lw_g := lw_in (List.mem_append_right _ (List.mem_of_getElem? (i := 193) (by decide +kernel))) rfl
theorem d_Machine_step_19 : decode b_Machine_step 19 = .ok (.invokevirtual 80, 3) := by decide +kernel
theorem k_Machine_m80 : Cond.methodLink R_Machine 80 y_Machine_begin ∈ lw_g := lw_in (List.mem_append_right _ (List.mem_of_getElem? (i := 560) (by decide +kernel))) rfl
theorem d_Machine_step_22 : decode b_Machine_step 22 = .ok (.astore_n 1, 1) := by decide +kernel
theorem d_Machine_step_23 : decode b_Machine_step 23 = .ok (.iconst 0, 1) := by decide +kernel
theorem d_Machine_step_24 : decode b_Machine_step 24 = .ok (.istore_n 2, 1) := by decide +kernel
theorem d_Machine_step_25 : decode b_Machine_step 25 = .ok (.iload_n 2, 1) := by decide +kernel
theorem d_Machine_step_26 : decode b_Machine_step 26 = .ok (.ldc 83, 2) := by decide +kernel
theorem k_Machine_k83 : Cond.constant R_Machine 83 (1000000) ∈ lw_g := lw_in (List.mem_append_right _ (List.mem_of_getElem? (i := 630) (by decide +kernel))) rfl
theorem d_Machine_step_28 : decode b_Machine_step 28 = .ok (.if_icmp .ge 63, 3) := by decide +kernel
theorem d_Machine_step_31 : decode b_Machine_step 31 = .ok (.aload_n 1, 1) := by decide +kernel
theorem d_Machine_step_32 : decode b_Machine_step 32 = .ok (.ifnull 59, 3) := by decide +kernel
theorem d_Machine_step_35 : decode b_Machine_step 35 = .ok (.aload_n 0, 1) := by decide +kernel
theorem d_Machine_step_36 : decode b_Machine_step 36 = .ok (.getfield 59, 3) := by decide +kernel
theorem d_Machine_step_39 : decode b_Machine_step 39 = .ok (.astore_n 3, 1) := by decide +kernel
theorem d_Machine_step_40 : decode b_Machine_step 40 = .ok (.aload_n 3, 1) := by decide +kernel
theorem d_Machine_step_41 : decode b_Machine_step 41 = .ok (.ifnonnull 29, 3) := by decide +kernel
theorem d_Machine_step_44 : decode b_Machine_step 44 = .ok (.aload_n 0, 1) := by decide +kernel
theorem d_Machine_step_45 : decode b_Machine_step 45 = .ok (.getfield 20, 3) := by decide +kernel
theorem d_Machine_step_48 : decode b_Machine_step 48 = .ok (.iconst 0, 1) := by decide +kernel
theorem d_Machine_step_49 : decode b_Machine_step 49 = .ok (.invokevirtual 84, 3) := by decide +kernel
theorem k_Machine_m84 : Cond.methodLink R_Machine 84 ⟨"java/lang/StringBuilder", "setLength", "(I)V"⟩ ∈ lw_g := lw_in (List.mem_append_right _ (List.mem_of_getElem? (i := 631) (by decide +kernel))) rfl
theorem d_Machine_step_52 : decode b_Machine_step 52 = .ok (.aload_n 1, 1) := by decide +kernel
theorem d_Machine_step_53 : decode b_Machine_step 53 = .ok (.aload_n 0, 1) := by decide +kernel
theorem d_Machine_step_54 : decode b_Machine_step 54 = .ok (.getfield 20, 3) := by decide +kernel
theorem d_Machine_step_57 : decode b_Machine_step 57 = .ok (.invokevirtual 88, 3) := by decide +kernel
theorem k_Machine_m88 : Cond.methodLink R_Machine 88 ⟨"ContinuationCore$Value", "write", "(Ljava/lang/StringBuilder;)V"⟩ ∈ lw_g := lw_in (List.mem_append_right _ (List.mem_of_getElem? (i := 829) (by decide +kernel))) rfl
theorem d_Machine_step_60 : decode b_Machine_step 60 = .ok (.aload_n 0, 1) := by decide +kernel
theorem d_Machine_step_61 : decode b_Machine_step 61 = .ok (.iconst 2, 1) := by decide +kernel
theorem d_Machine_step_62 : decode b_Machine_step 62 = .ok (.putfield 43, 3) := by decide +kernel
theorem d_Machine_step_65 : decode b_Machine_step 65 = .ok (.aconst_null, 1) := by decide +kernel
theorem d_Machine_step_66 : decode b_Machine_step 66 = .ok (.astore_n 1, 1) := by decide +kernel
theorem d_Machine_step_67 : decode b_Machine_step 67 = .ok (.goto 18, 3) := by decide +kernel
theorem d_Machine_step_70 : decode b_Machine_step 70 = .ok (.aload_n 0, 1) := by decide +kernel
theorem d_Machine_step_71 : decode b_Machine_step 71 = .ok (.aload_n 3, 1) := by decide +kernel
theorem d_Machine_step_72 : decode b_Machine_step 72 = .ok (.getfield 92, 3) := by decide +kernel
theorem k_Machine_f92 : Cond.fieldLink R_Machine 92 "ContinuationCore$Waiting" "behind" "LContinuationCore$Waiting;" ∈ lw_g := lw_in (List.mem_append_right _ (List.mem_of_getElem? (i := 616) (by decide +kernel))) rfl
theorem d_Machine_step_75 : decode b_Machine_step 75 = .ok (.putfield 59, 3) := by decide +kernel
theorem d_Machine_step_78 : decode b_Machine_step 78 = .ok (.aload_n 0, 1) := by decide +kernel
theorem d_Machine_step_79 : decode b_Machine_step 79 = .ok (.aload_n 3, 1) := by decide +kernel
theorem d_Machine_step_80 : decode b_Machine_step 80 = .ok (.aload_n 1, 1) := by decide +kernel
theorem d_Machine_step_81 : decode b_Machine_step 81 = .ok (.invokevirtual 95, 3) := by decide +kernel
theorem k_Machine_m95 : Cond.methodLink R_Machine 95 y_Machine_goOn ∈ lw_g := lw_in (List.mem_append_right _ (List.mem_of_getElem? (i := 875) (by decide +kernel))) rfl
theorem d_Machine_step_84 : decode b_Machine_step 84 = .ok (.astore_n 1, 1) := by decide +kernel
theorem d_Machine_step_85 : decode b_Machine_step 85 = .ok (.iinc 2 1, 3) := by decide +kernel
theorem d_Machine_step_88 : decode b_Machine_step 88 = .ok (.goto (-63), 3) := by decide +kernel
theorem d_Machine_step_91 : decode b_Machine_step 91 = .ok (.return_, 1) := by decide +kernel
theorem ki_Machine_step : Cond.instanceMethod y_Machine_step ∈ lw_g := lw_in (List.mem_append_right _ (List.mem_of_getElem? (i := 557) (by decide +kernel))) rfl
theorem ke_Machine_step : Cond.selects R_Machine y_Machine_step y_Machine_step ∈ lw_g := lw_in (List.mem_append_right _ (List.mem_of_getElem? (i := 558) (by decide +kernel))) rfl
-- Machine_fail: maxLocals 2, ret (some (.object "ContinuationCore$Value"))
theorem kc_Machine_fail : Cond.code y_Machine_fail b_Machine_fail 2 (some (.object "ContinuationCore$Value")) ∈ lw_g := lw_in (List.mem_append_right _ (List.mem_of_getElem? (i := 576) (by decide +kernel))) rfl
theorem d_Machine_fail_0 : decode b_Machine_fail 0 = .ok (.aload_n 0, 1) := by decide +kernel
theorem d_Machine_fail_1 : decode b_Machine_fail 1 = .ok (.iconst 3, 1) := by decide +kernel
theorem d_Machine_fail_2 : decode b_Machine_fail 2 = .ok (.putfield 43, 3) := by decide +kernel
theorem d_Machine_fail_5 : decode b_Machine_fail 5 = .ok (.aload_n 0, 1) := by decide +kernel
theorem d_Machine_fail_6 : decode b_Machine_fail 6 = .ok (.iload_n 1, 1) := by decide +kernel
theorem d_Machine_fail_7 : decode b_Machine_fail 7 = .ok (.putfield 56, 3) := by decide +kernel
theorem d_Machine_fail_10 : decode b_Machine_fail 10 = .ok (.aconst_null, 1) := by decide +kernel
theorem d_Machine_fail_11 : decode b_Machine_fail 11 = .ok (.areturn, 1) := by decide +kernel
theorem ki_Machine_fail : Cond.instanceMethod y_Machine_fail ∈ lw_g := lw_in (List.mem_append_right _ (List.mem_of_getElem? (i := 575) (by decide +kernel))) rfl
theorem ke_Machine_fail : Cond.selects R_Machine y_Machine_fail y_Machine_fail ∈ lw_g := lw_in (List.mem_append_left _ (List.mem_map.mpr ⟨(y_Machine_fail, 12), by decide +kernel, rfl⟩)) rfl
-- Machine_begin: maxLocals 4, ret (some (.object "ContinuationCore$Value"))
theorem kc_Machine_begin : Cond.code y_Machine_begin b_Machine_begin 4 (some (.object "ContinuationCore$Value")) ∈ lw_g := lw_in (List.mem_append_right _ (List.mem_of_getElem? (i := 563) (by decide +kernel))) rfl
theorem d_Machine_begin_0 : decode b_Machine_begin 0 = .ok (.aload_n 1, 1) := by decide +kernel
theorem d_Machine_begin_1 : decode b_Machine_begin 1 = .ok (.getfield 99, 3) := by decide +kernel
theorem k_Machine_f99 : Cond.fieldLink R_Machine 99 "ContinuationCore$Expression" "kind" "C" ∈ lw_g := lw_in (List.mem_append_right _ (List.mem_of_getElem? (i := 57) (by decide +kernel))) rfl
theorem d_Machine_begin_4 : decode b_Machine_begin 4 = .ok (.lookupswitch 119 #[(37, 89), (48, 52), (92, 79), (95, 64), (97, 69)], 52) := by decide +kernel
theorem d_Machine_begin_56 : decode b_Machine_begin 56 = .ok (.new 105, 3) := by decide +kernel
theorem k_Machine_c105 : Cond.classLink R_Machine 105 "ContinuationCore$IntValue" ∈ lw_g := lw_in (List.mem_append_right _ (List.mem_of_getElem? (i := 564) (by decide +kernel))) rfl
theorem d_Machine_begin_59 : decode b_Machine_begin 59 = .ok (.dup, 1) := by decide +kernel
theorem d_Machine_begin_60 : decode b_Machine_begin 60 = .ok (.aload_n 1, 1) := by decide +kernel
theorem d_Machine_begin_61 : decode b_Machine_begin 61 = .ok (.getfield 107, 3) := by decide +kernel
theorem k_Machine_f107 : Cond.fieldLink R_Machine 107 "ContinuationCore$Expression" "number" "I" ∈ lw_g := lw_in (List.mem_append_right _ (List.mem_of_getElem? (i := 60) (by decide +kernel))) rfl
theorem d_Machine_begin_64 : decode b_Machine_begin 64 = .ok (.invokespecial 110, 3) := by decide +kernel
theorem k_Machine_m110 : Cond.methodLink R_Machine 110 y_IntValue_init ∈ lw_g := lw_in (List.mem_append_right _ (List.mem_of_getElem? (i := 565) (by decide +kernel))) rfl
theorem d_Machine_begin_67 : decode b_Machine_begin 67 = .ok (.areturn, 1) := by decide +kernel
theorem d_Machine_begin_68 : decode b_Machine_begin 68 = .ok (.aload_n 0, 1) := by decide +kernel
theorem d_Machine_begin_69 : decode b_Machine_begin 69 = .ok (.getfield 27, 3) := by decide +kernel
theorem d_Machine_begin_72 : decode b_Machine_begin 72 = .ok (.areturn, 1) := by decide +kernel
theorem d_Machine_begin_73 : decode b_Machine_begin 73 = .ok (.aload_n 0, 1) := by decide +kernel
theorem d_Machine_begin_74 : decode b_Machine_begin 74 = .ok (.aload_n 1, 1) := by decide +kernel
theorem d_Machine_begin_75 : decode b_Machine_begin 75 = .ok (.getfield 107, 3) := by decide +kernel
theorem d_Machine_begin_78 : decode b_Machine_begin 78 = .ok (.aload_n 2, 1) := by decide +kernel
theorem d_Machine_begin_79 : decode b_Machine_begin 79 = .ok (.invokevirtual 112, 3) := by decide +kernel
theorem k_Machine_m112 : Cond.methodLink R_Machine 112 y_Machine_valueOf ∈ lw_g := lw_in (List.mem_append_right _ (List.mem_of_getElem? (i := 566) (by decide +kernel))) rfl
theorem d_Machine_begin_82 : decode b_Machine_begin 82 = .ok (.areturn, 1) := by decide +kernel
theorem d_Machine_begin_83 : decode b_Machine_begin 83 = .ok (.new 116, 3) := by decide +kernel
theorem k_Machine_c116 : Cond.classLink R_Machine 116 "ContinuationCore$ClosureValue" ∈ lw_g := lw_in (List.mem_append_right _ (List.mem_of_getElem? (i := 577) (by decide +kernel))) rfl
theorem d_Machine_begin_86 : decode b_Machine_begin 86 = .ok (.dup, 1) := by decide +kernel
theorem d_Machine_begin_87 : decode b_Machine_begin 87 = .ok (.aload_n 1, 1) := by decide +kernel
theorem d_Machine_begin_88 : decode b_Machine_begin 88 = .ok (.aload_n 2, 1) := by decide +kernel
theorem d_Machine_begin_89 : decode b_Machine_begin 89 = .ok (.invokespecial 118, 3) := by decide +kernel
theorem k_Machine_m118 : Cond.methodLink R_Machine 118 y_ClosureValue_init ∈ lw_g := lw_in (List.mem_append_right _ (List.mem_of_getElem? (i := 579) (by decide +kernel))) rfl
theorem d_Machine_begin_92 : decode b_Machine_begin 92 = .ok (.areturn, 1) := by decide +kernel
theorem d_Machine_begin_93 : decode b_Machine_begin 93 = .ok (.aload_n 0, 1) := by decide +kernel
theorem d_Machine_begin_94 : decode b_Machine_begin 94 = .ok (.aload_n 1, 1) := by decide +kernel
theorem d_Machine_begin_95 : decode b_Machine_begin 95 = .ok (.getfield 107, 3) := by decide +kernel
theorem d_Machine_begin_98 : decode b_Machine_begin 98 = .ok (.aconst_null, 1) := by decide +kernel
theorem d_Machine_begin_99 : decode b_Machine_begin 99 = .ok (.aload_n 2, 1) := by decide +kernel
theorem d_Machine_begin_100 : decode b_Machine_begin 100 = .ok (.invokevirtual 121, 3) := by decide +kernel
theorem k_Machine_m121 : Cond.methodLink R_Machine 121 y_Machine_bind ∈ lw_g := lw_in (List.mem_append_right _ (List.mem_of_getElem? (i := 592) (by decide +kernel))) rfl
theorem d_Machine_begin_103 : decode b_Machine_begin 103 = .ok (.astore_n 3, 1) := by decide +kernel
theorem d_Machine_begin_104 : decode b_Machine_begin 104 = .ok (.aload_n 3, 1) := by decide +kernel
theorem d_Machine_begin_105 : decode b_Machine_begin 105 = .ok (.ifnonnull 7, 3) := by decide +kernel
theorem d_Machine_begin_108 : decode b_Machine_begin 108 = .ok (.aconst_null, 1) := by decide +kernel
theorem d_Machine_begin_109 : decode b_Machine_begin 109 = .ok (.goto 13, 3) := by decide +kernel
theorem d_Machine_begin_112 : decode b_Machine_begin 112 = .ok (.aload_n 0, 1) := by decide +kernel
theorem d_Machine_begin_113 : decode b_Machine_begin 113 = .ok (.aload_n 1, 1) := by decide +kernel
theorem d_Machine_begin_114 : decode b_Machine_begin 114 = .ok (.aload_n 3, 1) := by decide +kernel
theorem d_Machine_begin_115 : decode b_Machine_begin 115 = .ok (.aload_n 0, 1) := by decide +kernel
theorem d_Machine_begin_116 : decode b_Machine_begin 116 = .ok (.getfield 33, 3) := by decide +kernel
theorem d_Machine_begin_119 : decode b_Machine_begin 119 = .ok (.invokevirtual 125, 3) := by decide +kernel
theorem k_Machine_m125 : Cond.methodLink R_Machine 125 y_Machine_await ∈ lw_g := lw_in (List.mem_append_right _ (List.mem_of_getElem? (i := 596) (by decide +kernel))) rfl
theorem d_Machine_begin_122 : decode b_Machine_begin 122 = .ok (.areturn, 1) := by decide +kernel
theorem d_Machine_begin_123 : decode b_Machine_begin 123 = .ok (.aload_n 0, 1) := by decide +kernel
theorem d_Machine_begin_124 : decode b_Machine_begin 124 = .ok (.aload_n 1, 1) := by decide +kernel
theorem d_Machine_begin_125 : decode b_Machine_begin 125 = .ok (.aload_n 2, 1) := by decide +kernel
theorem d_Machine_begin_126 : decode b_Machine_begin 126 = .ok (.aload_n 0, 1) := by decide +kernel
theorem d_Machine_begin_127 : decode b_Machine_begin 127 = .ok (.getfield 33, 3) := by decide +kernel
theorem d_Machine_begin_130 : decode b_Machine_begin 130 = .ok (.invokevirtual 125, 3) := by decide +kernel
theorem d_Machine_begin_133 : decode b_Machine_begin 133 = .ok (.areturn, 1) := by decide +kernel
theorem ki_Machine_begin : Cond.instanceMethod y_Machine_begin ∈ lw_g := lw_in (List.mem_append_right _ (List.mem_of_getElem? (i := 562) (by decide +kernel))) rfl
theorem ke_Machine_begin : Cond.selects R_Machine y_Machine_begin y_Machine_begin ∈ lw_g := lw_in (List.mem_append_left _ (List.mem_map.mpr ⟨(y_Machine_begin, 12), by decide +kernel, rfl⟩)) rfl
-- Machine_goOn: maxLocals 7, ret (some (.object "ContinuationCore$Value"))
theorem kc_Machine_goOn : Cond.code y_Machine_goOn b_Machine_goOn 7 (some (.object "ContinuationCore$Value")) ∈ lw_g := lw_in (List.mem_append_right _ (List.mem_of_getElem? (i := 878) (by decide +kernel))) rfl
theorem d_Machine_goOn_0 : decode b_Machine_goOn 0 = .ok (.aload_n 1, 1) := by decide +kernel
theorem d_Machine_goOn_1 : decode b_Machine_goOn 1 = .ok (.getfield 129, 3) := by decide +kernel
theorem k_Machine_f129 : Cond.fieldLink R_Machine 129 "ContinuationCore$Waiting" "form" "LContinuationCore$Expression;" ∈ lw_g := lw_in (List.mem_append_right _ (List.mem_of_getElem? (i := 611) (by decide +kernel))) rfl
theorem d_Machine_goOn_4 : decode b_Machine_goOn 4 = .ok (.astore_n 3, 1) := by decide +kernel
theorem d_Machine_goOn_5 : decode b_Machine_goOn 5 = .ok (.aload_n 1, 1) := by decide +kernel
theorem d_Machine_goOn_6 : decode b_Machine_goOn 6 = .ok (.getfield 132, 3) := by decide +kernel
theorem k_Machine_f132 : Cond.fieldLink R_Machine 132 "ContinuationCore$Waiting" "scope" "LContinuationCore$Binding;" ∈ lw_g := lw_in (List.mem_append_right _ (List.mem_of_getElem? (i := 613) (by decide +kernel))) rfl
theorem d_Machine_goOn_9 : decode b_Machine_goOn 9 = .ok (.astore 4, 2) := by decide +kernel
theorem d_Machine_goOn_11 : decode b_Machine_goOn 11 = .ok (.aload_n 3, 1) := by decide +kernel
theorem d_Machine_goOn_12 : decode b_Machine_goOn 12 = .ok (.getfield 99, 3) := by decide +kernel
theorem d_Machine_goOn_15 : decode b_Machine_goOn 15 = .ok (.lookupswitch 132 #[(37, 113), (38, 65), (63, 41), (64, 78)], 41) := by decide +kernel
theorem d_Machine_goOn_56 : decode b_Machine_goOn 56 = .ok (.aload_n 0, 1) := by decide +kernel
theorem d_Machine_goOn_57 : decode b_Machine_goOn 57 = .ok (.aload_n 3, 1) := by decide +kernel
theorem d_Machine_goOn_58 : decode b_Machine_goOn 58 = .ok (.getfield 135, 3) := by decide +kernel
theorem k_Machine_f135 : Cond.fieldLink R_Machine 135 "ContinuationCore$Expression" "parts" "[LContinuationCore$Expression;" ∈ lw_g := lw_in (List.mem_append_right _ (List.mem_of_getElem? (i := 68) (by decide +kernel))) rfl
theorem d_Machine_goOn_61 : decode b_Machine_goOn 61 = .ok (.aload_n 2, 1) := by decide +kernel
theorem d_Machine_goOn_62 : decode b_Machine_goOn 62 = .ok (.invokestatic 139, 3) := by decide +kernel
theorem k_Machine_m139 : Cond.methodLink R_Machine 139 y_Machine_isZero ∈ lw_g := lw_in (List.mem_append_right _ (List.mem_of_getElem? (i := 879) (by decide +kernel))) rfl
theorem d_Machine_goOn_65 : decode b_Machine_goOn 65 = .ok (.ifCond .eq 7, 3) := by decide +kernel
theorem d_Machine_goOn_68 : decode b_Machine_goOn 68 = .ok (.iconst 2, 1) := by decide +kernel
theorem d_Machine_goOn_69 : decode b_Machine_goOn 69 = .ok (.goto 4, 3) := by decide +kernel
theorem d_Machine_goOn_72 : decode b_Machine_goOn 72 = .ok (.iconst 1, 1) := by decide +kernel
theorem d_Machine_goOn_73 : decode b_Machine_goOn 73 = .ok (.aaload, 1) := by decide +kernel
theorem d_Machine_goOn_74 : decode b_Machine_goOn 74 = .ok (.aload 4, 2) := by decide +kernel
theorem d_Machine_goOn_76 : decode b_Machine_goOn 76 = .ok (.invokevirtual 63, 3) := by decide +kernel
theorem d_Machine_goOn_79 : decode b_Machine_goOn 79 = .ok (.areturn, 1) := by decide +kernel
theorem d_Machine_goOn_80 : decode b_Machine_goOn 80 = .ok (.aload_n 0, 1) := by decide +kernel
theorem d_Machine_goOn_81 : decode b_Machine_goOn 81 = .ok (.aload_n 3, 1) := by decide +kernel
theorem d_Machine_goOn_82 : decode b_Machine_goOn 82 = .ok (.getfield 135, 3) := by decide +kernel
theorem d_Machine_goOn_85 : decode b_Machine_goOn 85 = .ok (.iconst 1, 1) := by decide +kernel
theorem d_Machine_goOn_86 : decode b_Machine_goOn 86 = .ok (.aaload, 1) := by decide +kernel
theorem d_Machine_goOn_87 : decode b_Machine_goOn 87 = .ok (.aload 4, 2) := by decide +kernel
theorem d_Machine_goOn_89 : decode b_Machine_goOn 89 = .ok (.invokevirtual 63, 3) := by decide +kernel
theorem d_Machine_goOn_92 : decode b_Machine_goOn 92 = .ok (.areturn, 1) := by decide +kernel
theorem d_Machine_goOn_93 : decode b_Machine_goOn 93 = .ok (.aload_n 0, 1) := by decide +kernel
theorem d_Machine_goOn_94 : decode b_Machine_goOn 94 = .ok (.aload_n 3, 1) := by decide +kernel
theorem d_Machine_goOn_95 : decode b_Machine_goOn 95 = .ok (.getfield 107, 3) := by decide +kernel
theorem d_Machine_goOn_98 : decode b_Machine_goOn 98 = .ok (.aload_n 2, 1) := by decide +kernel
theorem d_Machine_goOn_99 : decode b_Machine_goOn 99 = .ok (.aload 4, 2) := by decide +kernel
theorem d_Machine_goOn_101 : decode b_Machine_goOn 101 = .ok (.invokevirtual 121, 3) := by decide +kernel
theorem d_Machine_goOn_104 : decode b_Machine_goOn 104 = .ok (.astore 5, 2) := by decide +kernel
theorem d_Machine_goOn_106 : decode b_Machine_goOn 106 = .ok (.aload 5, 2) := by decide +kernel
theorem d_Machine_goOn_108 : decode b_Machine_goOn 108 = .ok (.ifnonnull 7, 3) := by decide +kernel
theorem d_Machine_goOn_111 : decode b_Machine_goOn 111 = .ok (.aconst_null, 1) := by decide +kernel
theorem d_Machine_goOn_112 : decode b_Machine_goOn 112 = .ok (.goto 15, 3) := by decide +kernel
theorem d_Machine_goOn_115 : decode b_Machine_goOn 115 = .ok (.aload_n 0, 1) := by decide +kernel
theorem d_Machine_goOn_116 : decode b_Machine_goOn 116 = .ok (.aload_n 3, 1) := by decide +kernel
theorem d_Machine_goOn_117 : decode b_Machine_goOn 117 = .ok (.getfield 135, 3) := by decide +kernel
theorem d_Machine_goOn_120 : decode b_Machine_goOn 120 = .ok (.iconst 1, 1) := by decide +kernel
theorem d_Machine_goOn_121 : decode b_Machine_goOn 121 = .ok (.aaload, 1) := by decide +kernel
theorem d_Machine_goOn_122 : decode b_Machine_goOn 122 = .ok (.aload 5, 2) := by decide +kernel
theorem d_Machine_goOn_124 : decode b_Machine_goOn 124 = .ok (.invokevirtual 63, 3) := by decide +kernel
theorem d_Machine_goOn_127 : decode b_Machine_goOn 127 = .ok (.areturn, 1) := by decide +kernel
theorem d_Machine_goOn_128 : decode b_Machine_goOn 128 = .ok (.aload 4, 2) := by decide +kernel
theorem d_Machine_goOn_130 : decode b_Machine_goOn 130 = .ok (.aload_n 2, 1) := by decide +kernel
theorem d_Machine_goOn_131 : decode b_Machine_goOn 131 = .ok (.putfield 40, 3) := by decide +kernel
theorem d_Machine_goOn_134 : decode b_Machine_goOn 134 = .ok (.aload_n 0, 1) := by decide +kernel
theorem d_Machine_goOn_135 : decode b_Machine_goOn 135 = .ok (.aload_n 3, 1) := by decide +kernel
theorem d_Machine_goOn_136 : decode b_Machine_goOn 136 = .ok (.getfield 135, 3) := by decide +kernel
theorem d_Machine_goOn_139 : decode b_Machine_goOn 139 = .ok (.iconst 1, 1) := by decide +kernel
theorem d_Machine_goOn_140 : decode b_Machine_goOn 140 = .ok (.aaload, 1) := by decide +kernel
theorem d_Machine_goOn_141 : decode b_Machine_goOn 141 = .ok (.aload 4, 2) := by decide +kernel
theorem d_Machine_goOn_143 : decode b_Machine_goOn 143 = .ok (.invokevirtual 63, 3) := by decide +kernel
theorem d_Machine_goOn_146 : decode b_Machine_goOn 146 = .ok (.areturn, 1) := by decide +kernel
theorem d_Machine_goOn_147 : decode b_Machine_goOn 147 = .ok (.aload_n 1, 1) := by decide +kernel
theorem d_Machine_goOn_148 : decode b_Machine_goOn 148 = .ok (.aload_n 2, 1) := by decide +kernel
theorem d_Machine_goOn_149 : decode b_Machine_goOn 149 = .ok (.invokevirtual 143, 3) := by decide +kernel
theorem k_Machine_m143 : Cond.methodLink R_Machine 143 y_Waiting_doneWith ∈ lw_g := lw_in (List.mem_append_right _ (List.mem_of_getElem? (i := 882) (by decide +kernel))) rfl
theorem d_Machine_goOn_152 : decode b_Machine_goOn 152 = .ok (.astore 6, 2) := by decide +kernel
theorem d_Machine_goOn_154 : decode b_Machine_goOn 154 = .ok (.aload 6, 2) := by decide +kernel
theorem d_Machine_goOn_156 : decode b_Machine_goOn 156 = .ok (.arraylength, 1) := by decide +kernel
theorem d_Machine_goOn_157 : decode b_Machine_goOn 157 = .ok (.aload_n 3, 1) := by decide +kernel
theorem d_Machine_goOn_158 : decode b_Machine_goOn 158 = .ok (.getfield 147, 3) := by decide +kernel
theorem k_Machine_f147 : Cond.fieldLink R_Machine 147 "ContinuationCore$Expression" "partCount" "I" ∈ lw_g := lw_in (List.mem_append_right _ (List.mem_of_getElem? (i := 64) (by decide +kernel))) rfl
theorem d_Machine_goOn_161 : decode b_Machine_goOn 161 = .ok (.if_icmp .ge 15, 3) := by decide +kernel
theorem d_Machine_goOn_164 : decode b_Machine_goOn 164 = .ok (.aload_n 0, 1) := by decide +kernel
theorem d_Machine_goOn_165 : decode b_Machine_goOn 165 = .ok (.aload_n 3, 1) := by decide +kernel
theorem d_Machine_goOn_166 : decode b_Machine_goOn 166 = .ok (.aload 4, 2) := by decide +kernel
theorem d_Machine_goOn_168 : decode b_Machine_goOn 168 = .ok (.aload 6, 2) := by decide +kernel
theorem d_Machine_goOn_170 : decode b_Machine_goOn 170 = .ok (.invokevirtual 125, 3) := by decide +kernel
theorem d_Machine_goOn_173 : decode b_Machine_goOn 173 = .ok (.goto 12, 3) := by decide +kernel
theorem d_Machine_goOn_176 : decode b_Machine_goOn 176 = .ok (.aload_n 0, 1) := by decide +kernel
theorem d_Machine_goOn_177 : decode b_Machine_goOn 177 = .ok (.aload_n 3, 1) := by decide +kernel
theorem d_Machine_goOn_178 : decode b_Machine_goOn 178 = .ok (.aload 4, 2) := by decide +kernel
theorem d_Machine_goOn_180 : decode b_Machine_goOn 180 = .ok (.aload 6, 2) := by decide +kernel
theorem d_Machine_goOn_182 : decode b_Machine_goOn 182 = .ok (.invokevirtual 150, 3) := by decide +kernel
theorem k_Machine_m150 : Cond.methodLink R_Machine 150 y_Machine_complete ∈ lw_g := lw_in (List.mem_append_right _ (List.mem_of_getElem? (i := 887) (by decide +kernel))) rfl
theorem d_Machine_goOn_185 : decode b_Machine_goOn 185 = .ok (.areturn, 1) := by decide +kernel
theorem ki_Machine_goOn : Cond.instanceMethod y_Machine_goOn ∈ lw_g := lw_in (List.mem_append_right _ (List.mem_of_getElem? (i := 877) (by decide +kernel))) rfl
theorem ke_Machine_goOn : Cond.selects R_Machine y_Machine_goOn y_Machine_goOn ∈ lw_g := lw_in (List.mem_append_left _ (List.mem_map.mpr ⟨(y_Machine_goOn, 12), by decide +kernel, rfl⟩)) rfl
-- Machine_goLast: maxLocals 3, ret (some (.object "ContinuationCore$Value"))
theorem kc_Machine_goLast : Cond.code y_Machine_goLast b_Machine_goLast 3 (some (.object "ContinuationCore$Value")) ∈ lw_g := lw_in (List.mem_append_right _ (List.mem_of_getElem? (i := 544) (by decide +kernel))) rfl
theorem d_Machine_goLast_0 : decode b_Machine_goLast 0 = .ok (.aload_n 0, 1) := by decide +kernel
theorem d_Machine_goLast_1 : decode b_Machine_goLast 1 = .ok (.aload_n 1, 1) := by decide +kernel
theorem d_Machine_goLast_2 : decode b_Machine_goLast 2 = .ok (.putfield 72, 3) := by decide +kernel
theorem d_Machine_goLast_5 : decode b_Machine_goLast 5 = .ok (.aload_n 0, 1) := by decide +kernel
theorem d_Machine_goLast_6 : decode b_Machine_goLast 6 = .ok (.aload_n 2, 1) := by decide +kernel
theorem d_Machine_goLast_7 : decode b_Machine_goLast 7 = .ok (.putfield 76, 3) := by decide +kernel
theorem d_Machine_goLast_10 : decode b_Machine_goLast 10 = .ok (.aconst_null, 1) := by decide +kernel
theorem d_Machine_goLast_11 : decode b_Machine_goLast 11 = .ok (.areturn, 1) := by decide +kernel
theorem ki_Machine_goLast : Cond.instanceMethod y_Machine_goLast ∈ lw_g := lw_in (List.mem_append_right _ (List.mem_of_getElem? (i := 543) (by decide +kernel))) rfl
theorem ke_Machine_goLast : Cond.selects R_Machine y_Machine_goLast y_Machine_goLast ∈ lw_g := lw_in (List.mem_append_left _ (List.mem_map.mpr ⟨(y_Machine_goLast, 12), by decide +kernel, rfl⟩)) rfl
-- Machine_await: maxLocals 4, ret (some (.object "ContinuationCore$Value"))
theorem kc_Machine_await : Cond.code y_Machine_await b_Machine_await 4 (some (.object "ContinuationCore$Value")) ∈ lw_g := lw_in (List.mem_append_right _ (List.mem_of_getElem? (i := 599) (by decide +kernel))) rfl
theorem d_Machine_await_0 : decode b_Machine_await 0 = .ok (.aload_n 0, 1) := by decide +kernel
theorem d_Machine_await_1 : decode b_Machine_await 1 = .ok (.invokevirtual 153, 3) := by decide +kernel
theorem k_Machine_m153 : Cond.methodLink R_Machine 153 y_Machine_depth ∈ lw_g := lw_in (List.mem_append_right _ (List.mem_of_getElem? (i := 600) (by decide +kernel))) rfl
theorem d_Machine_await_4 : decode b_Machine_await 4 = .ok (.bipush 24, 2) := by decide +kernel
theorem d_Machine_await_6 : decode b_Machine_await 6 = .ok (.if_icmp .lt 9, 3) := by decide +kernel
theorem d_Machine_await_9 : decode b_Machine_await 9 = .ok (.aload_n 0, 1) := by decide +kernel
theorem d_Machine_await_10 : decode b_Machine_await 10 = .ok (.iconst 5, 1) := by decide +kernel
theorem d_Machine_await_11 : decode b_Machine_await 11 = .ok (.invokevirtual 156, 3) := by decide +kernel
theorem k_Machine_m156 : Cond.methodLink R_Machine 156 y_Machine_fail ∈ lw_g := lw_in (List.mem_append_right _ (List.mem_of_getElem? (i := 573) (by decide +kernel))) rfl
theorem d_Machine_await_14 : decode b_Machine_await 14 = .ok (.areturn, 1) := by decide +kernel
theorem d_Machine_await_15 : decode b_Machine_await 15 = .ok (.aload_n 0, 1) := by decide +kernel
theorem d_Machine_await_16 : decode b_Machine_await 16 = .ok (.new 68, 3) := by decide +kernel
theorem k_Machine_c68 : Cond.classLink R_Machine 68 "ContinuationCore$Waiting" ∈ lw_g := lw_in (List.mem_append_right _ (List.mem_of_getElem? (i := 604) (by decide +kernel))) rfl
theorem d_Machine_await_19 : decode b_Machine_await 19 = .ok (.dup, 1) := by decide +kernel
theorem d_Machine_await_20 : decode b_Machine_await 20 = .ok (.aload_n 1, 1) := by decide +kernel
theorem d_Machine_await_21 : decode b_Machine_await 21 = .ok (.aload_n 2, 1) := by decide +kernel
theorem d_Machine_await_22 : decode b_Machine_await 22 = .ok (.aload_n 3, 1) := by decide +kernel
theorem d_Machine_await_23 : decode b_Machine_await 23 = .ok (.aload_n 0, 1) := by decide +kernel
theorem d_Machine_await_24 : decode b_Machine_await 24 = .ok (.getfield 59, 3) := by decide +kernel
theorem d_Machine_await_27 : decode b_Machine_await 27 = .ok (.invokespecial 160, 3) := by decide +kernel
theorem k_Machine_m160 : Cond.methodLink R_Machine 160 y_Waiting_init ∈ lw_g := lw_in (List.mem_append_right _ (List.mem_of_getElem? (i := 606) (by decide +kernel))) rfl
theorem d_Machine_await_30 : decode b_Machine_await 30 = .ok (.putfield 59, 3) := by decide +kernel
theorem d_Machine_await_33 : decode b_Machine_await 33 = .ok (.aload_n 0, 1) := by decide +kernel
theorem d_Machine_await_34 : decode b_Machine_await 34 = .ok (.aload_n 1, 1) := by decide +kernel
theorem d_Machine_await_35 : decode b_Machine_await 35 = .ok (.getfield 135, 3) := by decide +kernel
theorem d_Machine_await_38 : decode b_Machine_await 38 = .ok (.aload_n 3, 1) := by decide +kernel
theorem d_Machine_await_39 : decode b_Machine_await 39 = .ok (.arraylength, 1) := by decide +kernel
theorem d_Machine_await_40 : decode b_Machine_await 40 = .ok (.aaload, 1) := by decide +kernel
theorem d_Machine_await_41 : decode b_Machine_await 41 = .ok (.aload_n 2, 1) := by decide +kernel
theorem d_Machine_await_42 : decode b_Machine_await 42 = .ok (.invokevirtual 63, 3) := by decide +kernel
theorem d_Machine_await_45 : decode b_Machine_await 45 = .ok (.areturn, 1) := by decide +kernel
theorem ki_Machine_await : Cond.instanceMethod y_Machine_await ∈ lw_g := lw_in (List.mem_append_right _ (List.mem_of_getElem? (i := 598) (by decide +kernel))) rfl
theorem ke_Machine_await : Cond.selects R_Machine y_Machine_await y_Machine_await ∈ lw_g := lw_in (List.mem_append_left _ (List.mem_map.mpr ⟨(y_Machine_await, 12), by decide +kernel, rfl⟩)) rfl
-- Machine_complete: maxLocals 6, ret (some (.object "ContinuationCore$Value"))
theorem kc_Machine_complete : Cond.code y_Machine_complete b_Machine_complete 6 (some (.object "ContinuationCore$Value")) ∈ lw_g := lw_in (List.mem_append_right _ (List.mem_of_getElem? (i := 890) (by decide +kernel))) rfl
theorem d_Machine_complete_0 : decode b_Machine_complete 0 = .ok (.aload_n 1, 1) := by decide +kernel
theorem d_Machine_complete_1 : decode b_Machine_complete 1 = .ok (.getfield 99, 3) := by decide +kernel
theorem d_Machine_complete_4 : decode b_Machine_complete 4 = .ok (.lookupswitch 226 #[(33, 111), (40, 76), (58, 202), (61, 213), (65, 124), (68, 158), (80, 192), (94, 82)], 76) := by decide +kernel
theorem d_Machine_complete_80 : decode b_Machine_complete 80 = .ok (.aload_n 0, 1) := by decide +kernel
theorem d_Machine_complete_81 : decode b_Machine_complete 81 = .ok (.aload_n 3, 1) := by decide +kernel
theorem d_Machine_complete_82 : decode b_Machine_complete 82 = .ok (.invokevirtual 163, 3) := by decide +kernel
theorem k_Machine_m163 : Cond.methodLink R_Machine 163 y_Machine_call ∈ lw_g := lw_in (List.mem_append_right _ (List.mem_of_getElem? (i := 891) (by decide +kernel))) rfl
theorem d_Machine_complete_85 : decode b_Machine_complete 85 = .ok (.areturn, 1) := by decide +kernel
theorem d_Machine_complete_86 : decode b_Machine_complete 86 = .ok (.aload_n 0, 1) := by decide +kernel
theorem d_Machine_complete_87 : decode b_Machine_complete 87 = .ok (.iconst 2, 1) := by decide +kernel
theorem d_Machine_complete_88 : decode b_Machine_complete 88 = .ok (.anewarray 31, 3) := by decide +kernel
theorem d_Machine_complete_91 : decode b_Machine_complete 91 = .ok (.dup, 1) := by decide +kernel
theorem d_Machine_complete_92 : decode b_Machine_complete 92 = .ok (.iconst 0, 1) := by decide +kernel
theorem d_Machine_complete_93 : decode b_Machine_complete 93 = .ok (.aload_n 3, 1) := by decide +kernel
theorem d_Machine_complete_94 : decode b_Machine_complete 94 = .ok (.iconst 0, 1) := by decide +kernel
theorem d_Machine_complete_95 : decode b_Machine_complete 95 = .ok (.aaload, 1) := by decide +kernel
theorem d_Machine_complete_96 : decode b_Machine_complete 96 = .ok (.aastore, 1) := by decide +kernel
theorem d_Machine_complete_97 : decode b_Machine_complete 97 = .ok (.dup, 1) := by decide +kernel
theorem d_Machine_complete_98 : decode b_Machine_complete 98 = .ok (.iconst 1, 1) := by decide +kernel
theorem d_Machine_complete_99 : decode b_Machine_complete 99 = .ok (.new 167, 3) := by decide +kernel
theorem k_Machine_c167 : Cond.classLink R_Machine 167 "ContinuationCore$ContinuationValue" ∈ lw_g := lw_in (List.mem_append_right _ (List.mem_of_getElem? (i := 895) (by decide +kernel))) rfl
theorem d_Machine_complete_102 : decode b_Machine_complete 102 = .ok (.dup, 1) := by decide +kernel
theorem d_Machine_complete_103 : decode b_Machine_complete 103 = .ok (.aload_n 0, 1) := by decide +kernel
theorem d_Machine_complete_104 : decode b_Machine_complete 104 = .ok (.getfield 59, 3) := by decide +kernel
theorem d_Machine_complete_107 : decode b_Machine_complete 107 = .ok (.invokespecial 169, 3) := by decide +kernel
theorem k_Machine_m169 : Cond.methodLink R_Machine 169 y_ContinuationValue_init ∈ lw_g := lw_in (List.mem_append_right _ (List.mem_of_getElem? (i := 897) (by decide +kernel))) rfl
theorem d_Machine_complete_110 : decode b_Machine_complete 110 = .ok (.aastore, 1) := by decide +kernel
theorem d_Machine_complete_111 : decode b_Machine_complete 111 = .ok (.invokevirtual 163, 3) := by decide +kernel
theorem d_Machine_complete_114 : decode b_Machine_complete 114 = .ok (.areturn, 1) := by decide +kernel
theorem d_Machine_complete_115 : decode b_Machine_complete 115 = .ok (.aload_n 0, 1) := by decide +kernel
theorem d_Machine_complete_116 : decode b_Machine_complete 116 = .ok (.aload_n 1, 1) := by decide +kernel
theorem d_Machine_complete_117 : decode b_Machine_complete 117 = .ok (.getfield 107, 3) := by decide +kernel
theorem d_Machine_complete_120 : decode b_Machine_complete 120 = .ok (.aload_n 3, 1) := by decide +kernel
theorem d_Machine_complete_121 : decode b_Machine_complete 121 = .ok (.iconst 0, 1) := by decide +kernel
theorem d_Machine_complete_122 : decode b_Machine_complete 122 = .ok (.aaload, 1) := by decide +kernel
theorem d_Machine_complete_123 : decode b_Machine_complete 123 = .ok (.aload_n 2, 1) := by decide +kernel
theorem d_Machine_complete_124 : decode b_Machine_complete 124 = .ok (.invokevirtual 172, 3) := by decide +kernel
theorem k_Machine_m172 : Cond.methodLink R_Machine 172 y_Machine_assign ∈ lw_g := lw_in (List.mem_append_right _ (List.mem_of_getElem? (i := 906) (by decide +kernel))) rfl
theorem d_Machine_complete_127 : decode b_Machine_complete 127 = .ok (.areturn, 1) := by decide +kernel
theorem d_Machine_complete_128 : decode b_Machine_complete 128 = .ok (.aload_n 3, 1) := by decide +kernel
theorem d_Machine_complete_129 : decode b_Machine_complete 129 = .ok (.iconst 0, 1) := by decide +kernel
theorem d_Machine_complete_130 : decode b_Machine_complete 130 = .ok (.aaload, 1) := by decide +kernel
theorem d_Machine_complete_131 : decode b_Machine_complete 131 = .ok (.astore 5, 2) := by decide +kernel
theorem d_Machine_complete_133 : decode b_Machine_complete 133 = .ok (.aload 5, 2) := by decide +kernel
theorem d_Machine_complete_135 : decode b_Machine_complete 135 = .ok (.instanceof 176, 3) := by decide +kernel
theorem k_Machine_c176 : Cond.classLink R_Machine 176 "ContinuationCore$PairValue" ∈ lw_g := lw_in (List.mem_append_right _ (List.mem_of_getElem? (i := 910) (by decide +kernel))) rfl
theorem d_Machine_complete_138 : decode b_Machine_complete 138 = .ok (.ifCond .eq 18, 3) := by decide +kernel
theorem d_Machine_complete_141 : decode b_Machine_complete 141 = .ok (.aload 5, 2) := by decide +kernel
theorem d_Machine_complete_143 : decode b_Machine_complete 143 = .ok (.checkcast 176, 3) := by decide +kernel
theorem d_Machine_complete_146 : decode b_Machine_complete 146 = .ok (.astore 4, 2) := by decide +kernel
theorem d_Machine_complete_148 : decode b_Machine_complete 148 = .ok (.aload 4, 2) := by decide +kernel
theorem d_Machine_complete_150 : decode b_Machine_complete 150 = .ok (.getfield 178, 3) := by decide +kernel
theorem k_Machine_f178 : Cond.fieldLink R_Machine 178 "ContinuationCore$PairValue" "first" "LContinuationCore$Value;" ∈ lw_g := lw_in (List.mem_append_right _ (List.mem_of_getElem? (i := 924) (by decide +kernel))) rfl
theorem d_Machine_complete_153 : decode b_Machine_complete 153 = .ok (.goto 8, 3) := by decide +kernel
theorem d_Machine_complete_156 : decode b_Machine_complete 156 = .ok (.aload_n 0, 1) := by decide +kernel
theorem d_Machine_complete_157 : decode b_Machine_complete 157 = .ok (.iconst 2, 1) := by decide +kernel
theorem d_Machine_complete_158 : decode b_Machine_complete 158 = .ok (.invokevirtual 156, 3) := by decide +kernel
theorem d_Machine_complete_161 : decode b_Machine_complete 161 = .ok (.areturn, 1) := by decide +kernel
theorem d_Machine_complete_162 : decode b_Machine_complete 162 = .ok (.aload_n 3, 1) := by decide +kernel
theorem d_Machine_complete_163 : decode b_Machine_complete 163 = .ok (.iconst 0, 1) := by decide +kernel
theorem d_Machine_complete_164 : decode b_Machine_complete 164 = .ok (.aaload, 1) := by decide +kernel
theorem d_Machine_complete_165 : decode b_Machine_complete 165 = .ok (.astore 5, 2) := by decide +kernel
theorem d_Machine_complete_167 : decode b_Machine_complete 167 = .ok (.aload 5, 2) := by decide +kernel
theorem d_Machine_complete_169 : decode b_Machine_complete 169 = .ok (.instanceof 176, 3) := by decide +kernel
theorem d_Machine_complete_172 : decode b_Machine_complete 172 = .ok (.ifCond .eq 18, 3) := by decide +kernel
theorem d_Machine_complete_175 : decode b_Machine_complete 175 = .ok (.aload 5, 2) := by decide +kernel
theorem d_Machine_complete_177 : decode b_Machine_complete 177 = .ok (.checkcast 176, 3) := by decide +kernel
theorem d_Machine_complete_180 : decode b_Machine_complete 180 = .ok (.astore 4, 2) := by decide +kernel
theorem d_Machine_complete_182 : decode b_Machine_complete 182 = .ok (.aload 4, 2) := by decide +kernel
theorem d_Machine_complete_184 : decode b_Machine_complete 184 = .ok (.getfield 181, 3) := by decide +kernel
theorem k_Machine_f181 : Cond.fieldLink R_Machine 181 "ContinuationCore$PairValue" "second" "LContinuationCore$Value;" ∈ lw_g := lw_in (List.mem_append_right _ (List.mem_of_getElem? (i := 926) (by decide +kernel))) rfl
theorem d_Machine_complete_187 : decode b_Machine_complete 187 = .ok (.goto 8, 3) := by decide +kernel
theorem d_Machine_complete_190 : decode b_Machine_complete 190 = .ok (.aload_n 0, 1) := by decide +kernel
theorem d_Machine_complete_191 : decode b_Machine_complete 191 = .ok (.iconst 2, 1) := by decide +kernel
theorem d_Machine_complete_192 : decode b_Machine_complete 192 = .ok (.invokevirtual 156, 3) := by decide +kernel
theorem d_Machine_complete_195 : decode b_Machine_complete 195 = .ok (.areturn, 1) := by decide +kernel
theorem d_Machine_complete_196 : decode b_Machine_complete 196 = .ok (.aload_n 3, 1) := by decide +kernel
theorem d_Machine_complete_197 : decode b_Machine_complete 197 = .ok (.iconst 0, 1) := by decide +kernel
theorem d_Machine_complete_198 : decode b_Machine_complete 198 = .ok (.aaload, 1) := by decide +kernel
theorem d_Machine_complete_199 : decode b_Machine_complete 199 = .ok (.instanceof 176, 3) := by decide +kernel
theorem d_Machine_complete_202 : decode b_Machine_complete 202 = .ok (.invokestatic 184, 3) := by decide +kernel
theorem k_Machine_m184 : Cond.methodLink R_Machine 184 y_Machine_truth ∈ lw_g := lw_in (List.mem_append_right _ (List.mem_of_getElem? (i := 911) (by decide +kernel))) rfl
theorem d_Machine_complete_205 : decode b_Machine_complete 205 = .ok (.areturn, 1) := by decide +kernel
theorem d_Machine_complete_206 : decode b_Machine_complete 206 = .ok (.aload_n 0, 1) := by decide +kernel
theorem d_Machine_complete_207 : decode b_Machine_complete 207 = .ok (.aload_n 3, 1) := by decide +kernel
theorem d_Machine_complete_208 : decode b_Machine_complete 208 = .ok (.iconst 0, 1) := by decide +kernel
theorem d_Machine_complete_209 : decode b_Machine_complete 209 = .ok (.aaload, 1) := by decide +kernel
theorem d_Machine_complete_210 : decode b_Machine_complete 210 = .ok (.aload_n 3, 1) := by decide +kernel
theorem d_Machine_complete_211 : decode b_Machine_complete 211 = .ok (.iconst 1, 1) := by decide +kernel
theorem d_Machine_complete_212 : decode b_Machine_complete 212 = .ok (.aaload, 1) := by decide +kernel
theorem d_Machine_complete_213 : decode b_Machine_complete 213 = .ok (.invokevirtual 188, 3) := by decide +kernel
theorem k_Machine_m188 : Cond.methodLink R_Machine 188 y_Machine_makePair ∈ lw_g := lw_in (List.mem_append_right _ (List.mem_of_getElem? (i := 914) (by decide +kernel))) rfl
theorem d_Machine_complete_216 : decode b_Machine_complete 216 = .ok (.areturn, 1) := by decide +kernel
theorem d_Machine_complete_217 : decode b_Machine_complete 217 = .ok (.aload_n 3, 1) := by decide +kernel
theorem d_Machine_complete_218 : decode b_Machine_complete 218 = .ok (.iconst 0, 1) := by decide +kernel
theorem d_Machine_complete_219 : decode b_Machine_complete 219 = .ok (.aaload, 1) := by decide +kernel
theorem d_Machine_complete_220 : decode b_Machine_complete 220 = .ok (.aload_n 3, 1) := by decide +kernel
theorem d_Machine_complete_221 : decode b_Machine_complete 221 = .ok (.iconst 1, 1) := by decide +kernel
theorem d_Machine_complete_222 : decode b_Machine_complete 222 = .ok (.aaload, 1) := by decide +kernel
theorem d_Machine_complete_223 : decode b_Machine_complete 223 = .ok (.invokevirtual 192, 3) := by decide +kernel
theorem k_Machine_m192 : Cond.methodLink R_Machine 192 y_Value_isSame ∈ lw_g := lw_in (List.mem_append_right _ (List.mem_of_getElem? (i := 932) (by decide +kernel))) rfl
theorem d_Machine_complete_226 : decode b_Machine_complete 226 = .ok (.invokestatic 184, 3) := by decide +kernel
theorem d_Machine_complete_229 : decode b_Machine_complete 229 = .ok (.areturn, 1) := by decide +kernel
theorem d_Machine_complete_230 : decode b_Machine_complete 230 = .ok (.aload_n 0, 1) := by decide +kernel
theorem d_Machine_complete_231 : decode b_Machine_complete 231 = .ok (.aload_n 1, 1) := by decide +kernel
theorem d_Machine_complete_232 : decode b_Machine_complete 232 = .ok (.getfield 99, 3) := by decide +kernel
theorem d_Machine_complete_235 : decode b_Machine_complete 235 = .ok (.aload_n 3, 1) := by decide +kernel
theorem d_Machine_complete_236 : decode b_Machine_complete 236 = .ok (.iconst 0, 1) := by decide +kernel
theorem d_Machine_complete_237 : decode b_Machine_complete 237 = .ok (.aaload, 1) := by decide +kernel
theorem d_Machine_complete_238 : decode b_Machine_complete 238 = .ok (.aload_n 3, 1) := by decide +kernel
theorem d_Machine_complete_239 : decode b_Machine_complete 239 = .ok (.iconst 1, 1) := by decide +kernel
theorem d_Machine_complete_240 : decode b_Machine_complete 240 = .ok (.aaload, 1) := by decide +kernel
theorem d_Machine_complete_241 : decode b_Machine_complete 241 = .ok (.invokevirtual 195, 3) := by decide +kernel
theorem k_Machine_m195 : Cond.methodLink R_Machine 195 y_Machine_reckon ∈ lw_g := lw_in (List.mem_append_right _ (List.mem_of_getElem? (i := 947) (by decide +kernel))) rfl
theorem d_Machine_complete_244 : decode b_Machine_complete 244 = .ok (.areturn, 1) := by decide +kernel
theorem ki_Machine_complete : Cond.instanceMethod y_Machine_complete ∈ lw_g := lw_in (List.mem_append_right _ (List.mem_of_getElem? (i := 889) (by decide +kernel))) rfl
theorem ke_Machine_complete : Cond.selects R_Machine y_Machine_complete y_Machine_complete ∈ lw_g := lw_in (List.mem_append_left _ (List.mem_map.mpr ⟨(y_Machine_complete, 12), by decide +kernel, rfl⟩)) rfl
-- Machine_call: maxLocals 6, ret (some (.object "ContinuationCore$Value"))
theorem kc_Machine_call : Cond.code y_Machine_call b_Machine_call 6 (some (.object "ContinuationCore$Value")) ∈ lw_g := lw_in (List.mem_append_right _ (List.mem_of_getElem? (i := 894) (by decide +kernel))) rfl
theorem d_Machine_call_0 : decode b_Machine_call 0 = .ok (.aload_n 1, 1) := by decide +kernel
theorem d_Machine_call_1 : decode b_Machine_call 1 = .ok (.arraylength, 1) := by decide +kernel
theorem d_Machine_call_2 : decode b_Machine_call 2 = .ok (.iconst 1, 1) := by decide +kernel
theorem d_Machine_call_3 : decode b_Machine_call 3 = .ok (.isub, 1) := by decide +kernel
theorem d_Machine_call_4 : decode b_Machine_call 4 = .ok (.istore_n 2, 1) := by decide +kernel
theorem d_Machine_call_5 : decode b_Machine_call 5 = .ok (.aload_n 1, 1) := by decide +kernel
theorem d_Machine_call_6 : decode b_Machine_call 6 = .ok (.iconst 0, 1) := by decide +kernel
theorem d_Machine_call_7 : decode b_Machine_call 7 = .ok (.aaload, 1) := by decide +kernel
theorem d_Machine_call_8 : decode b_Machine_call 8 = .ok (.astore 4, 2) := by decide +kernel
theorem d_Machine_call_10 : decode b_Machine_call 10 = .ok (.aload 4, 2) := by decide +kernel
theorem d_Machine_call_12 : decode b_Machine_call 12 = .ok (.instanceof 167, 3) := by decide +kernel
theorem d_Machine_call_15 : decode b_Machine_call 15 = .ok (.ifCond .eq 32, 3) := by decide +kernel
theorem d_Machine_call_18 : decode b_Machine_call 18 = .ok (.aload 4, 2) := by decide +kernel
theorem d_Machine_call_20 : decode b_Machine_call 20 = .ok (.checkcast 167, 3) := by decide +kernel
theorem d_Machine_call_23 : decode b_Machine_call 23 = .ok (.astore_n 3, 1) := by decide +kernel
theorem d_Machine_call_24 : decode b_Machine_call 24 = .ok (.iload_n 2, 1) := by decide +kernel
theorem d_Machine_call_25 : decode b_Machine_call 25 = .ok (.iconst 1, 1) := by decide +kernel
theorem d_Machine_call_26 : decode b_Machine_call 26 = .ok (.if_icmp .eq 9, 3) := by decide +kernel
theorem d_Machine_call_29 : decode b_Machine_call 29 = .ok (.aload_n 0, 1) := by decide +kernel
theorem d_Machine_call_30 : decode b_Machine_call 30 = .ok (.iconst 4, 1) := by decide +kernel
theorem d_Machine_call_31 : decode b_Machine_call 31 = .ok (.invokevirtual 156, 3) := by decide +kernel
theorem d_Machine_call_34 : decode b_Machine_call 34 = .ok (.areturn, 1) := by decide +kernel
theorem d_Machine_call_35 : decode b_Machine_call 35 = .ok (.aload_n 0, 1) := by decide +kernel
theorem d_Machine_call_36 : decode b_Machine_call 36 = .ok (.aload_n 3, 1) := by decide +kernel
theorem d_Machine_call_37 : decode b_Machine_call 37 = .ok (.getfield 199, 3) := by decide +kernel
theorem k_Machine_f199 : Cond.fieldLink R_Machine 199 "ContinuationCore$ContinuationValue" "chain" "LContinuationCore$Waiting;" ∈ lw_g := lw_in (List.mem_append_right _ (List.mem_of_getElem? (i := 902) (by decide +kernel))) rfl
theorem d_Machine_call_40 : decode b_Machine_call 40 = .ok (.putfield 59, 3) := by decide +kernel
theorem d_Machine_call_43 : decode b_Machine_call 43 = .ok (.aload_n 1, 1) := by decide +kernel
theorem d_Machine_call_44 : decode b_Machine_call 44 = .ok (.iconst 1, 1) := by decide +kernel
theorem d_Machine_call_45 : decode b_Machine_call 45 = .ok (.aaload, 1) := by decide +kernel
theorem d_Machine_call_46 : decode b_Machine_call 46 = .ok (.areturn, 1) := by decide +kernel
theorem d_Machine_call_47 : decode b_Machine_call 47 = .ok (.aload_n 1, 1) := by decide +kernel
theorem d_Machine_call_48 : decode b_Machine_call 48 = .ok (.iconst 0, 1) := by decide +kernel
theorem d_Machine_call_49 : decode b_Machine_call 49 = .ok (.aaload, 1) := by decide +kernel
theorem d_Machine_call_50 : decode b_Machine_call 50 = .ok (.astore 4, 2) := by decide +kernel
theorem d_Machine_call_52 : decode b_Machine_call 52 = .ok (.aload 4, 2) := by decide +kernel
theorem d_Machine_call_54 : decode b_Machine_call 54 = .ok (.instanceof 116, 3) := by decide +kernel
theorem d_Machine_call_57 : decode b_Machine_call 57 = .ok (.ifCond .eq 12, 3) := by decide +kernel
theorem d_Machine_call_60 : decode b_Machine_call 60 = .ok (.aload 4, 2) := by decide +kernel
theorem d_Machine_call_62 : decode b_Machine_call 62 = .ok (.checkcast 116, 3) := by decide +kernel
theorem d_Machine_call_65 : decode b_Machine_call 65 = .ok (.astore_n 3, 1) := by decide +kernel
theorem d_Machine_call_66 : decode b_Machine_call 66 = .ok (.goto 9, 3) := by decide +kernel
theorem d_Machine_call_69 : decode b_Machine_call 69 = .ok (.aload_n 0, 1) := by decide +kernel
theorem d_Machine_call_70 : decode b_Machine_call 70 = .ok (.iconst 2, 1) := by decide +kernel
theorem d_Machine_call_71 : decode b_Machine_call 71 = .ok (.invokevirtual 156, 3) := by decide +kernel
theorem d_Machine_call_74 : decode b_Machine_call 74 = .ok (.areturn, 1) := by decide +kernel
theorem d_Machine_call_75 : decode b_Machine_call 75 = .ok (.iload_n 2, 1) := by decide +kernel
theorem d_Machine_call_76 : decode b_Machine_call 76 = .ok (.aload_n 3, 1) := by decide +kernel
theorem d_Machine_call_77 : decode b_Machine_call 77 = .ok (.getfield 200, 3) := by decide +kernel
theorem k_Machine_f200 : Cond.fieldLink R_Machine 200 "ContinuationCore$ClosureValue" "code" "LContinuationCore$Expression;" ∈ lw_g := lw_in (List.mem_append_right _ (List.mem_of_getElem? (i := 584) (by decide +kernel))) rfl
theorem d_Machine_call_80 : decode b_Machine_call 80 = .ok (.getfield 203, 3) := by decide +kernel
theorem k_Machine_f203 : Cond.fieldLink R_Machine 203 "ContinuationCore$Expression" "nameCount" "I" ∈ lw_g := lw_in (List.mem_append_right _ (List.mem_of_getElem? (i := 62) (by decide +kernel))) rfl
theorem d_Machine_call_83 : decode b_Machine_call 83 = .ok (.if_icmp .eq 9, 3) := by decide +kernel
theorem d_Machine_call_86 : decode b_Machine_call 86 = .ok (.aload_n 0, 1) := by decide +kernel
theorem d_Machine_call_87 : decode b_Machine_call 87 = .ok (.iconst 4, 1) := by decide +kernel
theorem d_Machine_call_88 : decode b_Machine_call 88 = .ok (.invokevirtual 156, 3) := by decide +kernel
theorem d_Machine_call_91 : decode b_Machine_call 91 = .ok (.areturn, 1) := by decide +kernel
theorem d_Machine_call_92 : decode b_Machine_call 92 = .ok (.aload_n 3, 1) := by decide +kernel
theorem d_Machine_call_93 : decode b_Machine_call 93 = .ok (.getfield 206, 3) := by decide +kernel
theorem k_Machine_f206 : Cond.fieldLink R_Machine 206 "ContinuationCore$ClosureValue" "scope" "LContinuationCore$Binding;" ∈ lw_g := lw_in (List.mem_append_right _ (List.mem_of_getElem? (i := 586) (by decide +kernel))) rfl
theorem d_Machine_call_96 : decode b_Machine_call 96 = .ok (.astore 4, 2) := by decide +kernel
theorem d_Machine_call_98 : decode b_Machine_call 98 = .ok (.iconst 0, 1) := by decide +kernel
theorem d_Machine_call_99 : decode b_Machine_call 99 = .ok (.istore 5, 2) := by decide +kernel
theorem d_Machine_call_101 : decode b_Machine_call 101 = .ok (.iload 5, 2) := by decide +kernel
theorem d_Machine_call_103 : decode b_Machine_call 103 = .ok (.iload_n 2, 1) := by decide +kernel
theorem d_Machine_call_104 : decode b_Machine_call 104 = .ok (.if_icmp .ge 40, 3) := by decide +kernel
theorem d_Machine_call_107 : decode b_Machine_call 107 = .ok (.aload_n 0, 1) := by decide +kernel
theorem d_Machine_call_108 : decode b_Machine_call 108 = .ok (.aload_n 3, 1) := by decide +kernel
theorem d_Machine_call_109 : decode b_Machine_call 109 = .ok (.getfield 200, 3) := by decide +kernel
theorem d_Machine_call_112 : decode b_Machine_call 112 = .ok (.getfield 207, 3) := by decide +kernel
theorem k_Machine_f207 : Cond.fieldLink R_Machine 207 "ContinuationCore$Expression" "names" "[I" ∈ lw_g := lw_in (List.mem_append_right _ (List.mem_of_getElem? (i := 66) (by decide +kernel))) rfl
theorem d_Machine_call_115 : decode b_Machine_call 115 = .ok (.iload 5, 2) := by decide +kernel
theorem d_Machine_call_117 : decode b_Machine_call 117 = .ok (.iaload, 1) := by decide +kernel
theorem d_Machine_call_118 : decode b_Machine_call 118 = .ok (.aload_n 1, 1) := by decide +kernel
theorem d_Machine_call_119 : decode b_Machine_call 119 = .ok (.iload 5, 2) := by decide +kernel
theorem d_Machine_call_121 : decode b_Machine_call 121 = .ok (.iconst 1, 1) := by decide +kernel
theorem d_Machine_call_122 : decode b_Machine_call 122 = .ok (.iadd, 1) := by decide +kernel
theorem d_Machine_call_123 : decode b_Machine_call 123 = .ok (.aaload, 1) := by decide +kernel
theorem d_Machine_call_124 : decode b_Machine_call 124 = .ok (.aload 4, 2) := by decide +kernel
theorem d_Machine_call_126 : decode b_Machine_call 126 = .ok (.invokevirtual 121, 3) := by decide +kernel
theorem d_Machine_call_129 : decode b_Machine_call 129 = .ok (.astore 4, 2) := by decide +kernel
theorem d_Machine_call_131 : decode b_Machine_call 131 = .ok (.aload 4, 2) := by decide +kernel
theorem d_Machine_call_133 : decode b_Machine_call 133 = .ok (.ifnonnull 5, 3) := by decide +kernel
theorem d_Machine_call_136 : decode b_Machine_call 136 = .ok (.aconst_null, 1) := by decide +kernel
theorem d_Machine_call_137 : decode b_Machine_call 137 = .ok (.areturn, 1) := by decide +kernel
theorem d_Machine_call_138 : decode b_Machine_call 138 = .ok (.iinc 5 1, 3) := by decide +kernel
theorem d_Machine_call_141 : decode b_Machine_call 141 = .ok (.goto (-40), 3) := by decide +kernel
theorem d_Machine_call_144 : decode b_Machine_call 144 = .ok (.aload_n 0, 1) := by decide +kernel
theorem d_Machine_call_145 : decode b_Machine_call 145 = .ok (.aload_n 3, 1) := by decide +kernel
theorem d_Machine_call_146 : decode b_Machine_call 146 = .ok (.getfield 200, 3) := by decide +kernel
theorem d_Machine_call_149 : decode b_Machine_call 149 = .ok (.getfield 135, 3) := by decide +kernel
theorem d_Machine_call_152 : decode b_Machine_call 152 = .ok (.iconst 0, 1) := by decide +kernel
theorem d_Machine_call_153 : decode b_Machine_call 153 = .ok (.aaload, 1) := by decide +kernel
theorem d_Machine_call_154 : decode b_Machine_call 154 = .ok (.aload 4, 2) := by decide +kernel
theorem d_Machine_call_156 : decode b_Machine_call 156 = .ok (.invokevirtual 63, 3) := by decide +kernel
theorem d_Machine_call_159 : decode b_Machine_call 159 = .ok (.areturn, 1) := by decide +kernel
theorem ki_Machine_call : Cond.instanceMethod y_Machine_call ∈ lw_g := lw_in (List.mem_append_right _ (List.mem_of_getElem? (i := 893) (by decide +kernel))) rfl
theorem ke_Machine_call : Cond.selects R_Machine y_Machine_call y_Machine_call ∈ lw_g := lw_in (List.mem_append_left _ (List.mem_map.mpr ⟨(y_Machine_call, 12), by decide +kernel, rfl⟩)) rfl
-- Machine_bind: maxLocals 4, ret (some (.object "ContinuationCore$Binding"))
theorem kc_Machine_bind : Cond.code y_Machine_bind b_Machine_bind 4 (some (.object "ContinuationCore$Binding")) ∈ lw_g := lw_in (List.mem_append_right _ (List.mem_of_getElem? (i := 595) (by decide +kernel))) rfl
theorem d_Machine_bind_0 : decode b_Machine_bind 0 = .ok (.aload_n 0, 1) := by decide +kernel
theorem d_Machine_bind_1 : decode b_Machine_bind 1 = .ok (.getfield 53, 3) := by decide +kernel
theorem d_Machine_bind_4 : decode b_Machine_bind 4 = .ok (.bipush 120, 2) := by decide +kernel
theorem d_Machine_bind_6 : decode b_Machine_bind 6 = .ok (.if_icmp .lt 11, 3) := by decide +kernel
theorem d_Machine_bind_9 : decode b_Machine_bind 9 = .ok (.aload_n 0, 1) := by decide +kernel
theorem d_Machine_bind_10 : decode b_Machine_bind 10 = .ok (.iconst 5, 1) := by decide +kernel
theorem d_Machine_bind_11 : decode b_Machine_bind 11 = .ok (.invokevirtual 156, 3) := by decide +kernel
theorem d_Machine_bind_14 : decode b_Machine_bind 14 = .ok (.pop, 1) := by decide +kernel
theorem d_Machine_bind_15 : decode b_Machine_bind 15 = .ok (.aconst_null, 1) := by decide +kernel
theorem d_Machine_bind_16 : decode b_Machine_bind 16 = .ok (.areturn, 1) := by decide +kernel
theorem d_Machine_bind_17 : decode b_Machine_bind 17 = .ok (.aload_n 0, 1) := by decide +kernel
theorem d_Machine_bind_18 : decode b_Machine_bind 18 = .ok (.dup, 1) := by decide +kernel
theorem d_Machine_bind_19 : decode b_Machine_bind 19 = .ok (.getfield 53, 3) := by decide +kernel
theorem d_Machine_bind_22 : decode b_Machine_bind 22 = .ok (.iconst 1, 1) := by decide +kernel
theorem d_Machine_bind_23 : decode b_Machine_bind 23 = .ok (.iadd, 1) := by decide +kernel
theorem d_Machine_bind_24 : decode b_Machine_bind 24 = .ok (.putfield 53, 3) := by decide +kernel
theorem d_Machine_bind_27 : decode b_Machine_bind 27 = .ok (.new 9, 3) := by decide +kernel
theorem d_Machine_bind_30 : decode b_Machine_bind 30 = .ok (.dup, 1) := by decide +kernel
theorem d_Machine_bind_31 : decode b_Machine_bind 31 = .ok (.iload_n 1, 1) := by decide +kernel
theorem d_Machine_bind_32 : decode b_Machine_bind 32 = .ok (.aload_n 2, 1) := by decide +kernel
theorem d_Machine_bind_33 : decode b_Machine_bind 33 = .ok (.aload_n 3, 1) := by decide +kernel
theorem d_Machine_bind_34 : decode b_Machine_bind 34 = .ok (.invokespecial 37, 3) := by decide +kernel
theorem d_Machine_bind_37 : decode b_Machine_bind 37 = .ok (.areturn, 1) := by decide +kernel
theorem ki_Machine_bind : Cond.instanceMethod y_Machine_bind ∈ lw_g := lw_in (List.mem_append_right _ (List.mem_of_getElem? (i := 594) (by decide +kernel))) rfl
theorem ke_Machine_bind : Cond.selects R_Machine y_Machine_bind y_Machine_bind ∈ lw_g := lw_in (List.mem_append_left _ (List.mem_map.mpr ⟨(y_Machine_bind, 12), by decide +kernel, rfl⟩)) rfl
-- Machine_makePair: maxLocals 3, ret (some (.object "ContinuationCore$Value"))
theorem kc_Machine_makePair : Cond.code y_Machine_makePair b_Machine_makePair 3 (some (.object "ContinuationCore$Value")) ∈ lw_g := lw_in (List.mem_append_right _ (List.mem_of_getElem? (i := 917) (by decide +kernel))) rfl
theorem d_Machine_makePair_0 : decode b_Machine_makePair 0 = .ok (.aload_n 0, 1) := by decide +kernel
theorem d_Machine_makePair_1 : decode b_Machine_makePair 1 = .ok (.getfield 50, 3) := by decide +kernel
theorem d_Machine_makePair_4 : decode b_Machine_makePair 4 = .ok (.bipush 60, 2) := by decide +kernel
theorem d_Machine_makePair_6 : decode b_Machine_makePair 6 = .ok (.if_icmp .lt 9, 3) := by decide +kernel
theorem d_Machine_makePair_9 : decode b_Machine_makePair 9 = .ok (.aload_n 0, 1) := by decide +kernel
theorem d_Machine_makePair_10 : decode b_Machine_makePair 10 = .ok (.iconst 5, 1) := by decide +kernel
theorem d_Machine_makePair_11 : decode b_Machine_makePair 11 = .ok (.invokevirtual 156, 3) := by decide +kernel
theorem d_Machine_makePair_14 : decode b_Machine_makePair 14 = .ok (.areturn, 1) := by decide +kernel
theorem d_Machine_makePair_15 : decode b_Machine_makePair 15 = .ok (.aload_n 0, 1) := by decide +kernel
theorem d_Machine_makePair_16 : decode b_Machine_makePair 16 = .ok (.dup, 1) := by decide +kernel
theorem d_Machine_makePair_17 : decode b_Machine_makePair 17 = .ok (.getfield 50, 3) := by decide +kernel
theorem d_Machine_makePair_20 : decode b_Machine_makePair 20 = .ok (.iconst 1, 1) := by decide +kernel
theorem d_Machine_makePair_21 : decode b_Machine_makePair 21 = .ok (.iadd, 1) := by decide +kernel
theorem d_Machine_makePair_22 : decode b_Machine_makePair 22 = .ok (.putfield 50, 3) := by decide +kernel
theorem d_Machine_makePair_25 : decode b_Machine_makePair 25 = .ok (.new 176, 3) := by decide +kernel
theorem d_Machine_makePair_28 : decode b_Machine_makePair 28 = .ok (.dup, 1) := by decide +kernel
theorem d_Machine_makePair_29 : decode b_Machine_makePair 29 = .ok (.aload_n 1, 1) := by decide +kernel
theorem d_Machine_makePair_30 : decode b_Machine_makePair 30 = .ok (.aload_n 2, 1) := by decide +kernel
theorem d_Machine_makePair_31 : decode b_Machine_makePair 31 = .ok (.invokespecial 211, 3) := by decide +kernel
theorem k_Machine_m211 : Cond.methodLink R_Machine 211 y_PairValue_init ∈ lw_g := lw_in (List.mem_append_right _ (List.mem_of_getElem? (i := 919) (by decide +kernel))) rfl
theorem d_Machine_makePair_34 : decode b_Machine_makePair 34 = .ok (.areturn, 1) := by decide +kernel
theorem ki_Machine_makePair : Cond.instanceMethod y_Machine_makePair ∈ lw_g := lw_in (List.mem_append_right _ (List.mem_of_getElem? (i := 916) (by decide +kernel))) rfl
theorem ke_Machine_makePair : Cond.selects R_Machine y_Machine_makePair y_Machine_makePair ∈ lw_g := lw_in (List.mem_append_left _ (List.mem_map.mpr ⟨(y_Machine_makePair, 12), by decide +kernel, rfl⟩)) rfl
-- Machine_assign: maxLocals 5, ret (some (.object "ContinuationCore$Value"))
theorem kc_Machine_assign : Cond.code y_Machine_assign b_Machine_assign 5 (some (.object "ContinuationCore$Value")) ∈ lw_g := lw_in (List.mem_append_right _ (List.mem_of_getElem? (i := 909) (by decide +kernel))) rfl
theorem d_Machine_assign_0 : decode b_Machine_assign 0 = .ok (.iload_n 1, 1) := by decide +kernel
theorem d_Machine_assign_1 : decode b_Machine_assign 1 = .ok (.aload_n 3, 1) := by decide +kernel
theorem d_Machine_assign_2 : decode b_Machine_assign 2 = .ok (.invokestatic 214, 3) := by decide +kernel
theorem k_Machine_m214 : Cond.methodLink R_Machine 214 y_Machine_find ∈ lw_g := lw_in (List.mem_append_right _ (List.mem_of_getElem? (i := 570) (by decide +kernel))) rfl
theorem d_Machine_assign_5 : decode b_Machine_assign 5 = .ok (.astore 4, 2) := by decide +kernel
theorem d_Machine_assign_7 : decode b_Machine_assign 7 = .ok (.aload 4, 2) := by decide +kernel
theorem d_Machine_assign_9 : decode b_Machine_assign 9 = .ok (.ifnull 9, 3) := by decide +kernel
theorem d_Machine_assign_12 : decode b_Machine_assign 12 = .ok (.aload 4, 2) := by decide +kernel
theorem d_Machine_assign_14 : decode b_Machine_assign 14 = .ok (.aload_n 2, 1) := by decide +kernel
theorem d_Machine_assign_15 : decode b_Machine_assign 15 = .ok (.putfield 40, 3) := by decide +kernel
theorem d_Machine_assign_18 : decode b_Machine_assign 18 = .ok (.aload_n 2, 1) := by decide +kernel
theorem d_Machine_assign_19 : decode b_Machine_assign 19 = .ok (.areturn, 1) := by decide +kernel
theorem ki_Machine_assign : Cond.instanceMethod y_Machine_assign ∈ lw_g := lw_in (List.mem_append_right _ (List.mem_of_getElem? (i := 908) (by decide +kernel))) rfl
theorem ke_Machine_assign : Cond.selects R_Machine y_Machine_assign y_Machine_assign ∈ lw_g := lw_in (List.mem_append_left _ (List.mem_map.mpr ⟨(y_Machine_assign, 12), by decide +kernel, rfl⟩)) rfl
-- Machine_valueOf: maxLocals 4, ret (some (.object "ContinuationCore$Value"))
theorem kc_Machine_valueOf : Cond.code y_Machine_valueOf b_Machine_valueOf 4 (some (.object "ContinuationCore$Value")) ∈ lw_g := lw_in (List.mem_append_right _ (List.mem_of_getElem? (i := 569) (by decide +kernel))) rfl
theorem d_Machine_valueOf_0 : decode b_Machine_valueOf 0 = .ok (.iload_n 1, 1) := by decide +kernel
theorem d_Machine_valueOf_1 : decode b_Machine_valueOf 1 = .ok (.aload_n 2, 1) := by decide +kernel
theorem d_Machine_valueOf_2 : decode b_Machine_valueOf 2 = .ok (.invokestatic 214, 3) := by decide +kernel
theorem d_Machine_valueOf_5 : decode b_Machine_valueOf 5 = .ok (.astore_n 3, 1) := by decide +kernel
theorem d_Machine_valueOf_6 : decode b_Machine_valueOf 6 = .ok (.aload_n 3, 1) := by decide +kernel
theorem d_Machine_valueOf_7 : decode b_Machine_valueOf 7 = .ok (.ifnull 10, 3) := by decide +kernel
theorem d_Machine_valueOf_10 : decode b_Machine_valueOf 10 = .ok (.aload_n 3, 1) := by decide +kernel
theorem d_Machine_valueOf_11 : decode b_Machine_valueOf 11 = .ok (.getfield 40, 3) := by decide +kernel
theorem d_Machine_valueOf_14 : decode b_Machine_valueOf 14 = .ok (.ifnonnull 11, 3) := by decide +kernel
theorem d_Machine_valueOf_17 : decode b_Machine_valueOf 17 = .ok (.aload_n 0, 1) := by decide +kernel
theorem d_Machine_valueOf_18 : decode b_Machine_valueOf 18 = .ok (.iconst 1, 1) := by decide +kernel
theorem d_Machine_valueOf_19 : decode b_Machine_valueOf 19 = .ok (.invokevirtual 156, 3) := by decide +kernel
theorem d_Machine_valueOf_22 : decode b_Machine_valueOf 22 = .ok (.goto 7, 3) := by decide +kernel
theorem d_Machine_valueOf_25 : decode b_Machine_valueOf 25 = .ok (.aload_n 3, 1) := by decide +kernel
theorem d_Machine_valueOf_26 : decode b_Machine_valueOf 26 = .ok (.getfield 40, 3) := by decide +kernel
theorem d_Machine_valueOf_29 : decode b_Machine_valueOf 29 = .ok (.areturn, 1) := by decide +kernel
theorem ki_Machine_valueOf : Cond.instanceMethod y_Machine_valueOf ∈ lw_g := lw_in (List.mem_append_right _ (List.mem_of_getElem? (i := 568) (by decide +kernel))) rfl
theorem ke_Machine_valueOf : Cond.selects R_Machine y_Machine_valueOf y_Machine_valueOf ∈ lw_g := lw_in (List.mem_append_left _ (List.mem_map.mpr ⟨(y_Machine_valueOf, 12), by decide +kernel, rfl⟩)) rfl
-- Machine_find: maxLocals 3, ret (some (.object "ContinuationCore$Binding"))
theorem kc_Machine_find : Cond.code y_Machine_find b_Machine_find 3 (some (.object "ContinuationCore$Binding")) ∈ lw_g := lw_in (List.mem_append_right _ (List.mem_of_getElem? (i := 572) (by decide +kernel))) rfl
theorem d_Machine_find_0 : decode b_Machine_find 0 = .ok (.aload_n 1, 1) := by decide +kernel
theorem d_Machine_find_1 : decode b_Machine_find 1 = .ok (.astore_n 2, 1) := by decide +kernel
theorem d_Machine_find_2 : decode b_Machine_find 2 = .ok (.aload_n 2, 1) := by decide +kernel
theorem d_Machine_find_3 : decode b_Machine_find 3 = .ok (.ifnull 19, 3) := by decide +kernel
theorem d_Machine_find_6 : decode b_Machine_find 6 = .ok (.aload_n 2, 1) := by decide +kernel
theorem d_Machine_find_7 : decode b_Machine_find 7 = .ok (.getfield 218, 3) := by decide +kernel
theorem k_Machine_f218 : Cond.fieldLink R_Machine 218 "ContinuationCore$Binding" "name" "I" ∈ lw_g := lw_in (List.mem_append_right _ (List.mem_of_getElem? (i := 163) (by decide +kernel))) rfl
theorem d_Machine_find_10 : decode b_Machine_find 10 = .ok (.iload_n 0, 1) := by decide +kernel
theorem d_Machine_find_11 : decode b_Machine_find 11 = .ok (.if_icmp .eq 11, 3) := by decide +kernel
theorem d_Machine_find_14 : decode b_Machine_find 14 = .ok (.aload_n 2, 1) := by decide +kernel
theorem d_Machine_find_15 : decode b_Machine_find 15 = .ok (.getfield 221, 3) := by decide +kernel
theorem k_Machine_f221 : Cond.fieldLink R_Machine 221 "ContinuationCore$Binding" "behind" "LContinuationCore$Binding;" ∈ lw_g := lw_in (List.mem_append_right _ (List.mem_of_getElem? (i := 165) (by decide +kernel))) rfl
theorem d_Machine_find_18 : decode b_Machine_find 18 = .ok (.astore_n 2, 1) := by decide +kernel
theorem d_Machine_find_19 : decode b_Machine_find 19 = .ok (.goto (-17), 3) := by decide +kernel
theorem d_Machine_find_22 : decode b_Machine_find 22 = .ok (.aload_n 2, 1) := by decide +kernel
theorem d_Machine_find_23 : decode b_Machine_find 23 = .ok (.areturn, 1) := by decide +kernel
theorem ks_Machine_find : Cond.static y_Machine_find ∈ lw_g := lw_in (List.mem_append_right _ (List.mem_of_getElem? (i := 571) (by decide +kernel))) rfl
-- Machine_reckon: maxLocals 6, ret (some (.object "ContinuationCore$Value"))
theorem kc_Machine_reckon : Cond.code y_Machine_reckon b_Machine_reckon 6 (some (.object "ContinuationCore$Value")) ∈ lw_g := lw_in (List.mem_append_right _ (List.mem_of_getElem? (i := 950) (by decide +kernel))) rfl
theorem d_Machine_reckon_0 : decode b_Machine_reckon 0 = .ok (.aload_n 2, 1) := by decide +kernel
theorem d_Machine_reckon_1 : decode b_Machine_reckon 1 = .ok (.instanceof 105, 3) := by decide +kernel
theorem d_Machine_reckon_4 : decode b_Machine_reckon 4 = .ok (.ifCond .eq 68, 3) := by decide +kernel
theorem d_Machine_reckon_7 : decode b_Machine_reckon 7 = .ok (.aload_n 2, 1) := by decide +kernel
theorem d_Machine_reckon_8 : decode b_Machine_reckon 8 = .ok (.checkcast 105, 3) := by decide +kernel
theorem d_Machine_reckon_11 : decode b_Machine_reckon 11 = .ok (.astore 4, 2) := by decide +kernel
theorem d_Machine_reckon_13 : decode b_Machine_reckon 13 = .ok (.aload_n 3, 1) := by decide +kernel
theorem d_Machine_reckon_14 : decode b_Machine_reckon 14 = .ok (.instanceof 105, 3) := by decide +kernel
theorem d_Machine_reckon_17 : decode b_Machine_reckon 17 = .ok (.ifCond .eq 55, 3) := by decide +kernel
theorem d_Machine_reckon_20 : decode b_Machine_reckon 20 = .ok (.aload_n 3, 1) := by decide +kernel
theorem d_Machine_reckon_21 : decode b_Machine_reckon 21 = .ok (.checkcast 105, 3) := by decide +kernel
theorem d_Machine_reckon_24 : decode b_Machine_reckon 24 = .ok (.astore 5, 2) := by decide +kernel
theorem d_Machine_reckon_26 : decode b_Machine_reckon 26 = .ok (.iload_n 1, 1) := by decide +kernel
theorem d_Machine_reckon_27 : decode b_Machine_reckon 27 = .ok (.bipush 60, 2) := by decide +kernel
theorem d_Machine_reckon_29 : decode b_Machine_reckon 29 = .ok (.if_icmp .ne 27, 3) := by decide +kernel
theorem d_Machine_reckon_32 : decode b_Machine_reckon 32 = .ok (.aload 4, 2) := by decide +kernel
theorem d_Machine_reckon_34 : decode b_Machine_reckon 34 = .ok (.getfield 223, 3) := by decide +kernel
theorem k_Machine_f223 : Cond.fieldLink R_Machine 223 "ContinuationCore$IntValue" "number" "I" ∈ lw_g := lw_in (List.mem_append_right _ (List.mem_of_getElem? (i := 521) (by decide +kernel))) rfl
theorem d_Machine_reckon_37 : decode b_Machine_reckon 37 = .ok (.aload 5, 2) := by decide +kernel
theorem d_Machine_reckon_39 : decode b_Machine_reckon 39 = .ok (.getfield 223, 3) := by decide +kernel
theorem d_Machine_reckon_42 : decode b_Machine_reckon 42 = .ok (.if_icmp .ge 7, 3) := by decide +kernel
theorem d_Machine_reckon_45 : decode b_Machine_reckon 45 = .ok (.iconst 1, 1) := by decide +kernel
theorem d_Machine_reckon_46 : decode b_Machine_reckon 46 = .ok (.goto 4, 3) := by decide +kernel
theorem d_Machine_reckon_49 : decode b_Machine_reckon 49 = .ok (.iconst 0, 1) := by decide +kernel
theorem d_Machine_reckon_50 : decode b_Machine_reckon 50 = .ok (.invokestatic 184, 3) := by decide +kernel
theorem d_Machine_reckon_53 : decode b_Machine_reckon 53 = .ok (.goto 18, 3) := by decide +kernel
theorem d_Machine_reckon_56 : decode b_Machine_reckon 56 = .ok (.aload_n 0, 1) := by decide +kernel
theorem d_Machine_reckon_57 : decode b_Machine_reckon 57 = .ok (.iload_n 1, 1) := by decide +kernel
theorem d_Machine_reckon_58 : decode b_Machine_reckon 58 = .ok (.aload 4, 2) := by decide +kernel
theorem d_Machine_reckon_60 : decode b_Machine_reckon 60 = .ok (.getfield 223, 3) := by decide +kernel
theorem d_Machine_reckon_63 : decode b_Machine_reckon 63 = .ok (.aload 5, 2) := by decide +kernel
theorem d_Machine_reckon_65 : decode b_Machine_reckon 65 = .ok (.getfield 223, 3) := by decide +kernel
theorem d_Machine_reckon_68 : decode b_Machine_reckon 68 = .ok (.invokevirtual 224, 3) := by decide +kernel
theorem k_Machine_m224 : Cond.methodLink R_Machine 224 y_Machine_reckonInts ∈ lw_g := lw_in (List.mem_append_right _ (List.mem_of_getElem? (i := 951) (by decide +kernel))) rfl
theorem d_Machine_reckon_71 : decode b_Machine_reckon 71 = .ok (.areturn, 1) := by decide +kernel
theorem d_Machine_reckon_72 : decode b_Machine_reckon 72 = .ok (.aload_n 0, 1) := by decide +kernel
theorem d_Machine_reckon_73 : decode b_Machine_reckon 73 = .ok (.iconst 2, 1) := by decide +kernel
theorem d_Machine_reckon_74 : decode b_Machine_reckon 74 = .ok (.invokevirtual 156, 3) := by decide +kernel
theorem d_Machine_reckon_77 : decode b_Machine_reckon 77 = .ok (.areturn, 1) := by decide +kernel
theorem ki_Machine_reckon : Cond.instanceMethod y_Machine_reckon ∈ lw_g := lw_in (List.mem_append_right _ (List.mem_of_getElem? (i := 949) (by decide +kernel))) rfl
theorem ke_Machine_reckon : Cond.selects R_Machine y_Machine_reckon y_Machine_reckon ∈ lw_g := lw_in (List.mem_append_left _ (List.mem_map.mpr ⟨(y_Machine_reckon, 12), by decide +kernel, rfl⟩)) rfl
-- Machine_reckonInts: maxLocals 4, ret (some (.object "ContinuationCore$Value"))
theorem kc_Machine_reckonInts : Cond.code y_Machine_reckonInts b_Machine_reckonInts 4 (some (.object "ContinuationCore$Value")) ∈ lw_g := lw_in (List.mem_append_right _ (List.mem_of_getElem? (i := 954) (by decide +kernel))) rfl
theorem d_Machine_reckonInts_0 : decode b_Machine_reckonInts 0 = .ok (.iload_n 1, 1) := by decide +kernel
theorem d_Machine_reckonInts_1 : decode b_Machine_reckonInts 1 = .ok (.tableswitch 64 42 45 #[53, 31, 64, 42], 31) := by decide +kernel
theorem d_Machine_reckonInts_32 : decode b_Machine_reckonInts 32 = .ok (.new 105, 3) := by decide +kernel
theorem d_Machine_reckonInts_35 : decode b_Machine_reckonInts 35 = .ok (.dup, 1) := by decide +kernel
theorem d_Machine_reckonInts_36 : decode b_Machine_reckonInts 36 = .ok (.iload_n 2, 1) := by decide +kernel
theorem d_Machine_reckonInts_37 : decode b_Machine_reckonInts 37 = .ok (.iload_n 3, 1) := by decide +kernel
theorem d_Machine_reckonInts_38 : decode b_Machine_reckonInts 38 = .ok (.iadd, 1) := by decide +kernel
theorem d_Machine_reckonInts_39 : decode b_Machine_reckonInts 39 = .ok (.invokespecial 110, 3) := by decide +kernel
theorem d_Machine_reckonInts_42 : decode b_Machine_reckonInts 42 = .ok (.areturn, 1) := by decide +kernel
theorem d_Machine_reckonInts_43 : decode b_Machine_reckonInts 43 = .ok (.new 105, 3) := by decide +kernel
theorem d_Machine_reckonInts_46 : decode b_Machine_reckonInts 46 = .ok (.dup, 1) := by decide +kernel
theorem d_Machine_reckonInts_47 : decode b_Machine_reckonInts 47 = .ok (.iload_n 2, 1) := by decide +kernel
theorem d_Machine_reckonInts_48 : decode b_Machine_reckonInts 48 = .ok (.iload_n 3, 1) := by decide +kernel
theorem d_Machine_reckonInts_49 : decode b_Machine_reckonInts 49 = .ok (.isub, 1) := by decide +kernel
theorem d_Machine_reckonInts_50 : decode b_Machine_reckonInts 50 = .ok (.invokespecial 110, 3) := by decide +kernel
theorem d_Machine_reckonInts_53 : decode b_Machine_reckonInts 53 = .ok (.areturn, 1) := by decide +kernel
theorem d_Machine_reckonInts_54 : decode b_Machine_reckonInts 54 = .ok (.new 105, 3) := by decide +kernel
theorem d_Machine_reckonInts_57 : decode b_Machine_reckonInts 57 = .ok (.dup, 1) := by decide +kernel
theorem d_Machine_reckonInts_58 : decode b_Machine_reckonInts 58 = .ok (.iload_n 2, 1) := by decide +kernel
theorem d_Machine_reckonInts_59 : decode b_Machine_reckonInts 59 = .ok (.iload_n 3, 1) := by decide +kernel
theorem d_Machine_reckonInts_60 : decode b_Machine_reckonInts 60 = .ok (.imul, 1) := by decide +kernel
theorem d_Machine_reckonInts_61 : decode b_Machine_reckonInts 61 = .ok (.invokespecial 110, 3) := by decide +kernel
theorem d_Machine_reckonInts_64 : decode b_Machine_reckonInts 64 = .ok (.areturn, 1) := by decide +kernel
theorem d_Machine_reckonInts_65 : decode b_Machine_reckonInts 65 = .ok (.iload_n 3, 1) := by decide +kernel
theorem d_Machine_reckonInts_66 : decode b_Machine_reckonInts 66 = .ok (.ifCond .ne 11, 3) := by decide +kernel
theorem d_Machine_reckonInts_69 : decode b_Machine_reckonInts 69 = .ok (.aload_n 0, 1) := by decide +kernel
theorem d_Machine_reckonInts_70 : decode b_Machine_reckonInts 70 = .ok (.iconst 3, 1) := by decide +kernel
theorem d_Machine_reckonInts_71 : decode b_Machine_reckonInts 71 = .ok (.invokevirtual 156, 3) := by decide +kernel
theorem d_Machine_reckonInts_74 : decode b_Machine_reckonInts 74 = .ok (.goto 13, 3) := by decide +kernel
theorem d_Machine_reckonInts_77 : decode b_Machine_reckonInts 77 = .ok (.new 105, 3) := by decide +kernel
theorem d_Machine_reckonInts_80 : decode b_Machine_reckonInts 80 = .ok (.dup, 1) := by decide +kernel
theorem d_Machine_reckonInts_81 : decode b_Machine_reckonInts 81 = .ok (.iload_n 2, 1) := by decide +kernel
theorem d_Machine_reckonInts_82 : decode b_Machine_reckonInts 82 = .ok (.iload_n 3, 1) := by decide +kernel
theorem d_Machine_reckonInts_83 : decode b_Machine_reckonInts 83 = .ok (.idiv, 1) := by decide +kernel
theorem d_Machine_reckonInts_84 : decode b_Machine_reckonInts 84 = .ok (.invokespecial 110, 3) := by decide +kernel
theorem d_Machine_reckonInts_87 : decode b_Machine_reckonInts 87 = .ok (.areturn, 1) := by decide +kernel
theorem ki_Machine_reckonInts : Cond.instanceMethod y_Machine_reckonInts ∈ lw_g := lw_in (List.mem_append_right _ (List.mem_of_getElem? (i := 953) (by decide +kernel))) rfl
theorem ke_Machine_reckonInts : Cond.selects R_Machine y_Machine_reckonInts y_Machine_reckonInts ∈ lw_g := lw_in (List.mem_append_left _ (List.mem_map.mpr ⟨(y_Machine_reckonInts, 12), by decide +kernel, rfl⟩)) rfl
-- Machine_truth: maxLocals 1, ret (some (.object "ContinuationCore$Value"))
theorem kc_Machine_truth : Cond.code y_Machine_truth b_Machine_truth 1 (some (.object "ContinuationCore$Value")) ∈ lw_g := lw_in (List.mem_append_right _ (List.mem_of_getElem? (i := 913) (by decide +kernel))) rfl
theorem d_Machine_truth_0 : decode b_Machine_truth 0 = .ok (.new 105, 3) := by decide +kernel
theorem d_Machine_truth_3 : decode b_Machine_truth 3 = .ok (.dup, 1) := by decide +kernel
theorem d_Machine_truth_4 : decode b_Machine_truth 4 = .ok (.iload_n 0, 1) := by decide +kernel
theorem d_Machine_truth_5 : decode b_Machine_truth 5 = .ok (.ifCond .eq 7, 3) := by decide +kernel
theorem d_Machine_truth_8 : decode b_Machine_truth 8 = .ok (.iconst 1, 1) := by decide +kernel
theorem d_Machine_truth_9 : decode b_Machine_truth 9 = .ok (.goto 4, 3) := by decide +kernel
theorem d_Machine_truth_12 : decode b_Machine_truth 12 = .ok (.iconst 0, 1) := by decide +kernel
theorem d_Machine_truth_13 : decode b_Machine_truth 13 = .ok (.invokespecial 110, 3) := by decide +kernel
theorem d_Machine_truth_16 : decode b_Machine_truth 16 = .ok (.areturn, 1) := by decide +kernel
theorem ks_Machine_truth : Cond.static y_Machine_truth ∈ lw_g := lw_in (List.mem_append_right _ (List.mem_of_getElem? (i := 912) (by decide +kernel))) rfl
-- Machine_isZero: maxLocals 2, ret (some .boolean)
theorem kc_Machine_isZero : Cond.code y_Machine_isZero b_Machine_isZero 2 (some .boolean) ∈ lw_g := lw_in (List.mem_append_right _ (List.mem_of_getElem? (i := 881) (by decide +kernel))) rfl
theorem d_Machine_isZero_0 : decode b_Machine_isZero 0 = .ok (.aload_n 0, 1) := by decide +kernel
theorem d_Machine_isZero_1 : decode b_Machine_isZero 1 = .ok (.instanceof 105, 3) := by decide +kernel
theorem d_Machine_isZero_4 : decode b_Machine_isZero 4 = .ok (.ifCond .eq 19, 3) := by decide +kernel
theorem d_Machine_isZero_7 : decode b_Machine_isZero 7 = .ok (.aload_n 0, 1) := by decide +kernel
theorem d_Machine_isZero_8 : decode b_Machine_isZero 8 = .ok (.checkcast 105, 3) := by decide +kernel
theorem d_Machine_isZero_11 : decode b_Machine_isZero 11 = .ok (.astore_n 1, 1) := by decide +kernel
theorem d_Machine_isZero_12 : decode b_Machine_isZero 12 = .ok (.aload_n 1, 1) := by decide +kernel
theorem d_Machine_isZero_13 : decode b_Machine_isZero 13 = .ok (.getfield 223, 3) := by decide +kernel
theorem d_Machine_isZero_16 : decode b_Machine_isZero 16 = .ok (.ifCond .ne 7, 3) := by decide +kernel
theorem d_Machine_isZero_19 : decode b_Machine_isZero 19 = .ok (.iconst 1, 1) := by decide +kernel
theorem d_Machine_isZero_20 : decode b_Machine_isZero 20 = .ok (.goto 4, 3) := by decide +kernel
theorem d_Machine_isZero_23 : decode b_Machine_isZero 23 = .ok (.iconst 0, 1) := by decide +kernel
theorem d_Machine_isZero_24 : decode b_Machine_isZero 24 = .ok (.ireturn, 1) := by decide +kernel
theorem ks_Machine_isZero : Cond.static y_Machine_isZero ∈ lw_g := lw_in (List.mem_append_right _ (List.mem_of_getElem? (i := 880) (by decide +kernel))) rfl
def T_PairValue : u_T := fun k => match k with
  | 0 => ("ContinuationCore$PairValue", "first", "LContinuationCore$Value;", true)
  | _ => ("ContinuationCore$PairValue", "second", "LContinuationCore$Value;", true)
def ty_PairValue : Nat → FieldType := fun k => match k with
  | 0 => .object "ContinuationCore$Value"
  | _ => .object "ContinuationCore$Value"
theorem nm_PairValue : ∀ a, a < 2 → ∀ b, b < 2 → a ≠ b → (T_PairValue a).2.1 ≠ (T_PairValue b).2.1 := by decide +kernel
theorem ty_PairValue_ok : ∀ k, k < 2 → parseFieldDescriptor (T_PairValue k).2.2.1 = some (ty_PairValue k) := by decide +kernel
theorem in_PairValue_l : u_ws R_PairValue T_PairValue 2 = ([927, 929] : List Nat).filterMap (fun i => tables_1[i]?) := by decide +kernel
theorem in_PairValue : ∀ w ∈ u_ws R_PairValue T_PairValue 2, w ∈ lw_g := fun w h => by
  have hg : (u_ws R_PairValue T_PairValue 2).all goodWord = true := by decide +kernel
  refine lw_in ?_ (List.all_eq_true.mp hg w h)
  rw [in_PairValue_l] at h
  obtain ⟨i, -, hi⟩ := List.mem_filterMap.mp h
  exact List.mem_append_right _ (List.mem_of_getElem? hi)
theorem k_PairValue_inst : Cond.instantiable R_PairValue 2 ∈ lw_g := lw_in (List.mem_append_right _ (List.mem_of_getElem? (i := 918) (by decide +kernel))) rfl
theorem k_PairValue_ini : Cond.initialized R_PairValue ∈ lw_g := lw_in (List.mem_append_right _ (List.mem_of_getElem? (i := 30) (by decide +kernel))) rfl
-- PairValue_init: maxLocals 3, ret none
theorem kc_PairValue_init : Cond.code y_PairValue_init b_PairValue_init 3 none ∈ lw_g := lw_in (List.mem_append_right _ (List.mem_of_getElem? (i := 921) (by decide +kernel))) rfl
theorem d_PairValue_init_0 : decode b_PairValue_init 0 = .ok (.aload_n 0, 1) := by decide +kernel
theorem d_PairValue_init_1 : decode b_PairValue_init 1 = .ok (.invokespecial 3, 3) := by decide +kernel
theorem k_PairValue_mn3 : Cond.methodLinkNest R_PairValue 3 y_Value_init "ContinuationCore" ∈ lw_tbl := List.mem_append_right _ (List.mem_of_getElem? (i := 922) (by decide +kernel))
theorem d_PairValue_init_4 : decode b_PairValue_init 4 = .ok (.aload_n 0, 1) := by decide +kernel
theorem d_PairValue_init_5 : decode b_PairValue_init 5 = .ok (.aload_n 1, 1) := by decide +kernel
theorem d_PairValue_init_6 : decode b_PairValue_init 6 = .ok (.putfield 9, 3) := by decide +kernel
theorem k_PairValue_f9 : Cond.fieldLink R_PairValue 9 "ContinuationCore$PairValue" "first" "LContinuationCore$Value;" ∈ lw_g := lw_in (List.mem_append_right _ (List.mem_of_getElem? (i := 923) (by decide +kernel))) rfl
theorem d_PairValue_init_9 : decode b_PairValue_init 9 = .ok (.aload_n 0, 1) := by decide +kernel
theorem d_PairValue_init_10 : decode b_PairValue_init 10 = .ok (.aload_n 2, 1) := by decide +kernel
theorem d_PairValue_init_11 : decode b_PairValue_init 11 = .ok (.putfield 15, 3) := by decide +kernel
theorem k_PairValue_f15 : Cond.fieldLink R_PairValue 15 "ContinuationCore$PairValue" "second" "LContinuationCore$Value;" ∈ lw_g := lw_in (List.mem_append_right _ (List.mem_of_getElem? (i := 925) (by decide +kernel))) rfl
theorem d_PairValue_init_14 : decode b_PairValue_init 14 = .ok (.return_, 1) := by decide +kernel
theorem ki_PairValue_init : Cond.instanceMethod y_PairValue_init ∈ lw_g := lw_in (List.mem_append_right _ (List.mem_of_getElem? (i := 920) (by decide +kernel))) rfl
-- PairValue_write: maxLocals 2, ret none
theorem kc_PairValue_write : Cond.code y_PairValue_write b_PairValue_write 2 none ∈ lw_g := lw_in (List.mem_append_right _ (List.mem_of_getElem? (i := 871) (by decide +kernel))) rfl
theorem d_PairValue_write_0 : decode b_PairValue_write 0 = .ok (.aload_n 1, 1) := by decide +kernel
theorem d_PairValue_write_1 : decode b_PairValue_write 1 = .ok (.invokevirtual 18, 3) := by decide +kernel
theorem k_PairValue_m18 : Cond.methodLink R_PairValue 18 ⟨"java/lang/StringBuilder", "length", "()I"⟩ ∈ lw_g := lw_in (List.mem_append_right _ (List.mem_of_getElem? (i := 872) (by decide +kernel))) rfl
theorem d_PairValue_write_4 : decode b_PairValue_write 4 = .ok (.bipush 60, 2) := by decide +kernel
theorem d_PairValue_write_6 : decode b_PairValue_write 6 = .ok (.if_icmp .lt 4, 3) := by decide +kernel
theorem d_PairValue_write_9 : decode b_PairValue_write 9 = .ok (.return_, 1) := by decide +kernel
theorem d_PairValue_write_10 : decode b_PairValue_write 10 = .ok (.aload_n 1, 1) := by decide +kernel
theorem d_PairValue_write_11 : decode b_PairValue_write 11 = .ok (.bipush 40, 2) := by decide +kernel
theorem d_PairValue_write_13 : decode b_PairValue_write 13 = .ok (.invokevirtual 24, 3) := by decide +kernel
theorem k_PairValue_m24 : Cond.methodLink R_PairValue 24 ⟨"java/lang/StringBuilder", "append", "(C)Ljava/lang/StringBuilder;"⟩ ∈ lw_g := lw_in (List.mem_append_right _ (List.mem_of_getElem? (i := 873) (by decide +kernel))) rfl
theorem d_PairValue_write_16 : decode b_PairValue_write 16 = .ok (.pop, 1) := by decide +kernel
theorem d_PairValue_write_17 : decode b_PairValue_write 17 = .ok (.aload_n 0, 1) := by decide +kernel
theorem d_PairValue_write_18 : decode b_PairValue_write 18 = .ok (.getfield 9, 3) := by decide +kernel
theorem d_PairValue_write_21 : decode b_PairValue_write 21 = .ok (.aload_n 1, 1) := by decide +kernel
theorem d_PairValue_write_22 : decode b_PairValue_write 22 = .ok (.invokevirtual 28, 3) := by decide +kernel
theorem k_PairValue_m28 : Cond.methodLink R_PairValue 28 ⟨"ContinuationCore$Value", "write", "(Ljava/lang/StringBuilder;)V"⟩ ∈ lw_g := lw_in (List.mem_append_right _ (List.mem_of_getElem? (i := 874) (by decide +kernel))) rfl
theorem d_PairValue_write_25 : decode b_PairValue_write 25 = .ok (.aload_n 1, 1) := by decide +kernel
theorem d_PairValue_write_26 : decode b_PairValue_write 26 = .ok (.bipush 46, 2) := by decide +kernel
theorem d_PairValue_write_28 : decode b_PairValue_write 28 = .ok (.invokevirtual 24, 3) := by decide +kernel
theorem d_PairValue_write_31 : decode b_PairValue_write 31 = .ok (.pop, 1) := by decide +kernel
theorem d_PairValue_write_32 : decode b_PairValue_write 32 = .ok (.aload_n 0, 1) := by decide +kernel
theorem d_PairValue_write_33 : decode b_PairValue_write 33 = .ok (.getfield 15, 3) := by decide +kernel
theorem d_PairValue_write_36 : decode b_PairValue_write 36 = .ok (.aload_n 1, 1) := by decide +kernel
theorem d_PairValue_write_37 : decode b_PairValue_write 37 = .ok (.invokevirtual 28, 3) := by decide +kernel
theorem d_PairValue_write_40 : decode b_PairValue_write 40 = .ok (.aload_n 1, 1) := by decide +kernel
theorem d_PairValue_write_41 : decode b_PairValue_write 41 = .ok (.bipush 41, 2) := by decide +kernel
theorem d_PairValue_write_43 : decode b_PairValue_write 43 = .ok (.invokevirtual 24, 3) := by decide +kernel
theorem d_PairValue_write_46 : decode b_PairValue_write 46 = .ok (.pop, 1) := by decide +kernel
theorem d_PairValue_write_47 : decode b_PairValue_write 47 = .ok (.return_, 1) := by decide +kernel
theorem ki_PairValue_write : Cond.instanceMethod y_PairValue_write ∈ lw_g := lw_in (List.mem_append_right _ (List.mem_of_getElem? (i := 870) (by decide +kernel))) rfl
def T_Reader : u_T := fun k => match k with
  | 0 => ("ContinuationCore$Reader", "expressions", "[LContinuationCore$Expression;", true)
  | 1 => ("ContinuationCore$Reader", "open", "[LContinuationCore$Expression;", true)
  | 2 => ("ContinuationCore$Reader", "openCount", "I", false)
  | 3 => ("ContinuationCore$Reader", "phase", "I", false)
  | 4 => ("ContinuationCore$Reader", "digits", "I", false)
  | _ => ("ContinuationCore$Reader", "used", "I", false)
def ty_Reader : Nat → FieldType := fun k => match k with
  | 0 => .array (.object "ContinuationCore$Expression")
  | 1 => .array (.object "ContinuationCore$Expression")
  | 2 => .int
  | 3 => .int
  | 4 => .int
  | _ => .int
theorem nm_Reader : ∀ a, a < 6 → ∀ b, b < 6 → a ≠ b → (T_Reader a).2.1 ≠ (T_Reader b).2.1 := by decide +kernel
theorem ty_Reader_ok : ∀ k, k < 6 → parseFieldDescriptor (T_Reader k).2.2.1 = some (ty_Reader k) := by decide +kernel
theorem in_Reader_l : u_ws R_Reader T_Reader 6 = ([91, 93, 95, 97, 99, 101] : List Nat).filterMap (fun i => tables_1[i]?) := by decide +kernel
theorem in_Reader : ∀ w ∈ u_ws R_Reader T_Reader 6, w ∈ lw_g := fun w h => by
  have hg : (u_ws R_Reader T_Reader 6).all goodWord = true := by decide +kernel
  refine lw_in ?_ (List.all_eq_true.mp hg w h)
  rw [in_Reader_l] at h
  obtain ⟨i, -, hi⟩ := List.mem_filterMap.mp h
  exact List.mem_append_right _ (List.mem_of_getElem? hi)
theorem k_Reader_inst : Cond.instantiable R_Reader 6 ∈ lw_g := lw_in (List.mem_append_right _ (List.mem_of_getElem? (i := 43) (by decide +kernel))) rfl
theorem k_Reader_ini : Cond.initialized R_Reader ∈ lw_g := lw_in (List.mem_append_right _ (List.mem_of_getElem? (i := 2) (by decide +kernel))) rfl
-- Reader_init: maxLocals 2, ret none
theorem kc_Reader_init : Cond.code y_Reader_init b_Reader_init 2 none ∈ lw_g := lw_in (List.mem_append_right _ (List.mem_of_getElem? (i := 46) (by decide +kernel))) rfl
theorem d_Reader_init_0 : decode b_Reader_init 0 = .ok (.aload_n 0, 1) := by decide +kernel
theorem d_Reader_init_1 : decode b_Reader_init 1 = .ok (.invokespecial 3, 3) := by decide +kernel
theorem k_Reader_m3 : Cond.methodLink R_Reader 3 objectInit ∈ lw_g := lw_in (List.mem_append_right _ (List.mem_of_getElem? (i := 47) (by decide +kernel))) rfl
theorem d_Reader_init_4 : decode b_Reader_init 4 = .ok (.aload_n 0, 1) := by decide +kernel
theorem d_Reader_init_5 : decode b_Reader_init 5 = .ok (.bipush 120, 2) := by decide +kernel
theorem d_Reader_init_7 : decode b_Reader_init 7 = .ok (.anewarray 9, 3) := by decide +kernel
theorem k_Reader_c9 : Cond.classLink R_Reader 9 "ContinuationCore$Expression" ∈ lw_g := lw_in (List.mem_append_right _ (List.mem_of_getElem? (i := 48) (by decide +kernel))) rfl
theorem d_Reader_init_10 : decode b_Reader_init 10 = .ok (.putfield 11, 3) := by decide +kernel
theorem k_Reader_f11 : Cond.fieldLink R_Reader 11 "ContinuationCore$Reader" "expressions" "[LContinuationCore$Expression;" ∈ lw_g := lw_in (List.mem_append_right _ (List.mem_of_getElem? (i := 84) (by decide +kernel))) rfl
theorem d_Reader_init_13 : decode b_Reader_init 13 = .ok (.aload_n 0, 1) := by decide +kernel
theorem d_Reader_init_14 : decode b_Reader_init 14 = .ok (.bipush 12, 2) := by decide +kernel
theorem d_Reader_init_16 : decode b_Reader_init 16 = .ok (.anewarray 9, 3) := by decide +kernel
theorem d_Reader_init_19 : decode b_Reader_init 19 = .ok (.putfield 17, 3) := by decide +kernel
theorem k_Reader_f17 : Cond.fieldLink R_Reader 17 "ContinuationCore$Reader" "open" "[LContinuationCore$Expression;" ∈ lw_g := lw_in (List.mem_append_right _ (List.mem_of_getElem? (i := 85) (by decide +kernel))) rfl
theorem d_Reader_init_22 : decode b_Reader_init 22 = .ok (.iconst 0, 1) := by decide +kernel
theorem d_Reader_init_23 : decode b_Reader_init 23 = .ok (.istore_n 1, 1) := by decide +kernel
theorem d_Reader_init_24 : decode b_Reader_init 24 = .ok (.iload_n 1, 1) := by decide +kernel
theorem d_Reader_init_25 : decode b_Reader_init 25 = .ok (.bipush 120, 2) := by decide +kernel
theorem d_Reader_init_27 : decode b_Reader_init 27 = .ok (.if_icmp .ge 22, 3) := by decide +kernel
theorem d_Reader_init_30 : decode b_Reader_init 30 = .ok (.aload_n 0, 1) := by decide +kernel
theorem d_Reader_init_31 : decode b_Reader_init 31 = .ok (.getfield 11, 3) := by decide +kernel
theorem d_Reader_init_34 : decode b_Reader_init 34 = .ok (.iload_n 1, 1) := by decide +kernel
theorem d_Reader_init_35 : decode b_Reader_init 35 = .ok (.new 9, 3) := by decide +kernel
theorem d_Reader_init_38 : decode b_Reader_init 38 = .ok (.dup, 1) := by decide +kernel
theorem d_Reader_init_39 : decode b_Reader_init 39 = .ok (.invokespecial 20, 3) := by decide +kernel
theorem k_Reader_mn20 : Cond.methodLinkNest R_Reader 20 y_Expression_init "ContinuationCore" ∈ lw_tbl := List.mem_append_right _ (List.mem_of_getElem? (i := 51) (by decide +kernel))
theorem d_Reader_init_42 : decode b_Reader_init 42 = .ok (.aastore, 1) := by decide +kernel
theorem d_Reader_init_43 : decode b_Reader_init 43 = .ok (.iinc 1 1, 3) := by decide +kernel
theorem d_Reader_init_46 : decode b_Reader_init 46 = .ok (.goto (-22), 3) := by decide +kernel
theorem d_Reader_init_49 : decode b_Reader_init 49 = .ok (.return_, 1) := by decide +kernel
theorem ki_Reader_init : Cond.instanceMethod y_Reader_init ∈ lw_g := lw_in (List.mem_append_right _ (List.mem_of_getElem? (i := 45) (by decide +kernel))) rfl
-- Reader_read: maxLocals 4, ret (some .boolean)
theorem kc_Reader_read : Cond.code y_Reader_read b_Reader_read 4 (some .boolean) ∈ lw_g := lw_in (List.mem_append_right _ (List.mem_of_getElem? (i := 350) (by decide +kernel))) rfl
theorem d_Reader_read_0 : decode b_Reader_read 0 = .ok (.aload_n 0, 1) := by decide +kernel
theorem d_Reader_read_1 : decode b_Reader_read 1 = .ok (.iconst 0, 1) := by decide +kernel
theorem d_Reader_read_2 : decode b_Reader_read 2 = .ok (.putfield 21, 3) := by decide +kernel
theorem k_Reader_f21 : Cond.fieldLink R_Reader 21 "ContinuationCore$Reader" "used" "I" ∈ lw_g := lw_in (List.mem_append_right _ (List.mem_of_getElem? (i := 89) (by decide +kernel))) rfl
theorem d_Reader_read_5 : decode b_Reader_read 5 = .ok (.aload_n 0, 1) := by decide +kernel
theorem d_Reader_read_6 : decode b_Reader_read 6 = .ok (.iconst 0, 1) := by decide +kernel
theorem d_Reader_read_7 : decode b_Reader_read 7 = .ok (.putfield 25, 3) := by decide +kernel
theorem k_Reader_f25 : Cond.fieldLink R_Reader 25 "ContinuationCore$Reader" "openCount" "I" ∈ lw_g := lw_in (List.mem_append_right _ (List.mem_of_getElem? (i := 86) (by decide +kernel))) rfl
theorem d_Reader_read_10 : decode b_Reader_read 10 = .ok (.aload_n 0, 1) := by decide +kernel
theorem d_Reader_read_11 : decode b_Reader_read 11 = .ok (.iconst 3, 1) := by decide +kernel
theorem d_Reader_read_12 : decode b_Reader_read 12 = .ok (.putfield 28, 3) := by decide +kernel
theorem k_Reader_f28 : Cond.fieldLink R_Reader 28 "ContinuationCore$Reader" "phase" "I" ∈ lw_g := lw_in (List.mem_append_right _ (List.mem_of_getElem? (i := 87) (by decide +kernel))) rfl
theorem d_Reader_read_15 : decode b_Reader_read 15 = .ok (.aload_n 0, 1) := by decide +kernel
theorem d_Reader_read_16 : decode b_Reader_read 16 = .ok (.iconst 0, 1) := by decide +kernel
theorem d_Reader_read_17 : decode b_Reader_read 17 = .ok (.putfield 31, 3) := by decide +kernel
theorem k_Reader_f31 : Cond.fieldLink R_Reader 31 "ContinuationCore$Reader" "digits" "I" ∈ lw_g := lw_in (List.mem_append_right _ (List.mem_of_getElem? (i := 88) (by decide +kernel))) rfl
theorem d_Reader_read_20 : decode b_Reader_read 20 = .ok (.iload_n 2, 1) := by decide +kernel
theorem d_Reader_read_21 : decode b_Reader_read 21 = .ok (.bipush 120, 2) := by decide +kernel
theorem d_Reader_read_23 : decode b_Reader_read 23 = .ok (.if_icmp .gt 9, 3) := by decide +kernel
theorem d_Reader_read_26 : decode b_Reader_read 26 = .ok (.iload_n 2, 1) := by decide +kernel
theorem d_Reader_read_27 : decode b_Reader_read 27 = .ok (.aload_n 1, 1) := by decide +kernel
theorem d_Reader_read_28 : decode b_Reader_read 28 = .ok (.arraylength, 1) := by decide +kernel
theorem d_Reader_read_29 : decode b_Reader_read 29 = .ok (.if_icmp .le 5, 3) := by decide +kernel
theorem d_Reader_read_32 : decode b_Reader_read 32 = .ok (.iconst 0, 1) := by decide +kernel
theorem d_Reader_read_33 : decode b_Reader_read 33 = .ok (.ireturn, 1) := by decide +kernel
theorem d_Reader_read_34 : decode b_Reader_read 34 = .ok (.iconst 0, 1) := by decide +kernel
theorem d_Reader_read_35 : decode b_Reader_read 35 = .ok (.istore_n 3, 1) := by decide +kernel
theorem d_Reader_read_36 : decode b_Reader_read 36 = .ok (.iload_n 3, 1) := by decide +kernel
theorem d_Reader_read_37 : decode b_Reader_read 37 = .ok (.iload_n 2, 1) := by decide +kernel
theorem d_Reader_read_38 : decode b_Reader_read 38 = .ok (.if_icmp .ge 21, 3) := by decide +kernel
theorem d_Reader_read_41 : decode b_Reader_read 41 = .ok (.aload_n 0, 1) := by decide +kernel
theorem d_Reader_read_42 : decode b_Reader_read 42 = .ok (.aload_n 1, 1) := by decide +kernel
theorem d_Reader_read_43 : decode b_Reader_read 43 = .ok (.iload_n 3, 1) := by decide +kernel
theorem d_Reader_read_44 : decode b_Reader_read 44 = .ok (.caload, 1) := by decide +kernel
theorem d_Reader_read_45 : decode b_Reader_read 45 = .ok (.invokevirtual 34, 3) := by decide +kernel
theorem k_Reader_m34 : Cond.methodLink R_Reader 34 y_Reader_take ∈ lw_g := lw_in (List.mem_append_right _ (List.mem_of_getElem? (i := 351) (by decide +kernel))) rfl
theorem d_Reader_read_48 : decode b_Reader_read 48 = .ok (.ifCond .ne 5, 3) := by decide +kernel
theorem d_Reader_read_51 : decode b_Reader_read 51 = .ok (.iconst 0, 1) := by decide +kernel
theorem d_Reader_read_52 : decode b_Reader_read 52 = .ok (.ireturn, 1) := by decide +kernel
theorem d_Reader_read_53 : decode b_Reader_read 53 = .ok (.iinc 3 1, 3) := by decide +kernel
theorem d_Reader_read_56 : decode b_Reader_read 56 = .ok (.goto (-20), 3) := by decide +kernel
theorem d_Reader_read_59 : decode b_Reader_read 59 = .ok (.iconst 1, 1) := by decide +kernel
theorem d_Reader_read_60 : decode b_Reader_read 60 = .ok (.ireturn, 1) := by decide +kernel
theorem ki_Reader_read : Cond.instanceMethod y_Reader_read ∈ lw_g := lw_in (List.mem_append_right _ (List.mem_of_getElem? (i := 348) (by decide +kernel))) rfl
theorem ke_Reader_read : Cond.selects R_Reader y_Reader_read y_Reader_read ∈ lw_g := lw_in (List.mem_append_right _ (List.mem_of_getElem? (i := 349) (by decide +kernel))) rfl
-- Reader_isWhole: maxLocals 1, ret (some .boolean)
theorem kc_Reader_isWhole : Cond.code y_Reader_isWhole b_Reader_isWhole 1 (some .boolean) ∈ lw_g := lw_in (List.mem_append_right _ (List.mem_of_getElem? (i := 248) (by decide +kernel))) rfl
theorem d_Reader_isWhole_0 : decode b_Reader_isWhole 0 = .ok (.aload_n 0, 1) := by decide +kernel
theorem d_Reader_isWhole_1 : decode b_Reader_isWhole 1 = .ok (.getfield 21, 3) := by decide +kernel
theorem d_Reader_isWhole_4 : decode b_Reader_isWhole 4 = .ok (.ifCond .le 14, 3) := by decide +kernel
theorem d_Reader_isWhole_7 : decode b_Reader_isWhole 7 = .ok (.aload_n 0, 1) := by decide +kernel
theorem d_Reader_isWhole_8 : decode b_Reader_isWhole 8 = .ok (.getfield 25, 3) := by decide +kernel
theorem d_Reader_isWhole_11 : decode b_Reader_isWhole 11 = .ok (.ifCond .ne 7, 3) := by decide +kernel
theorem d_Reader_isWhole_14 : decode b_Reader_isWhole 14 = .ok (.iconst 1, 1) := by decide +kernel
theorem d_Reader_isWhole_15 : decode b_Reader_isWhole 15 = .ok (.goto 4, 3) := by decide +kernel
theorem d_Reader_isWhole_18 : decode b_Reader_isWhole 18 = .ok (.iconst 0, 1) := by decide +kernel
theorem d_Reader_isWhole_19 : decode b_Reader_isWhole 19 = .ok (.ireturn, 1) := by decide +kernel
theorem ki_Reader_isWhole : Cond.instanceMethod y_Reader_isWhole ∈ lw_g := lw_in (List.mem_append_right _ (List.mem_of_getElem? (i := 246) (by decide +kernel))) rfl
theorem ke_Reader_isWhole : Cond.selects R_Reader y_Reader_isWhole y_Reader_isWhole ∈ lw_g := lw_in (List.mem_append_right _ (List.mem_of_getElem? (i := 247) (by decide +kernel))) rfl
-- Reader_outermost: maxLocals 1, ret (some (.object "ContinuationCore$Expression"))
theorem kc_Reader_outermost : Cond.code y_Reader_outermost b_Reader_outermost 1 (some (.object "ContinuationCore$Expression")) ∈ lw_g := lw_in (List.mem_append_right _ (List.mem_of_getElem? (i := 536) (by decide +kernel))) rfl
theorem d_Reader_outermost_0 : decode b_Reader_outermost 0 = .ok (.aload_n 0, 1) := by decide +kernel
theorem d_Reader_outermost_1 : decode b_Reader_outermost 1 = .ok (.getfield 11, 3) := by decide +kernel
theorem d_Reader_outermost_4 : decode b_Reader_outermost 4 = .ok (.iconst 0, 1) := by decide +kernel
theorem d_Reader_outermost_5 : decode b_Reader_outermost 5 = .ok (.aaload, 1) := by decide +kernel
theorem d_Reader_outermost_6 : decode b_Reader_outermost 6 = .ok (.areturn, 1) := by decide +kernel
theorem ki_Reader_outermost : Cond.instanceMethod y_Reader_outermost ∈ lw_g := lw_in (List.mem_append_right _ (List.mem_of_getElem? (i := 534) (by decide +kernel))) rfl
theorem ke_Reader_outermost : Cond.selects R_Reader y_Reader_outermost y_Reader_outermost ∈ lw_g := lw_in (List.mem_append_right _ (List.mem_of_getElem? (i := 535) (by decide +kernel))) rfl
-- Reader_take: maxLocals 3, ret (some .boolean)
theorem kc_Reader_take : Cond.code y_Reader_take b_Reader_take 3 (some .boolean) ∈ lw_g := lw_in (List.mem_append_right _ (List.mem_of_getElem? (i := 354) (by decide +kernel))) rfl
theorem d_Reader_take_0 : decode b_Reader_take 0 = .ok (.aload_n 0, 1) := by decide +kernel
theorem d_Reader_take_1 : decode b_Reader_take 1 = .ok (.getfield 31, 3) := by decide +kernel
theorem d_Reader_take_4 : decode b_Reader_take 4 = .ok (.ifCond .le 16, 3) := by decide +kernel
theorem d_Reader_take_7 : decode b_Reader_take 7 = .ok (.iload_n 1, 1) := by decide +kernel
theorem d_Reader_take_8 : decode b_Reader_take 8 = .ok (.invokestatic 38, 3) := by decide +kernel
theorem k_Reader_m38 : Cond.methodLink R_Reader 38 y_Reader_isDigit ∈ lw_g := lw_in (List.mem_append_right _ (List.mem_of_getElem? (i := 355) (by decide +kernel))) rfl
theorem d_Reader_take_11 : decode b_Reader_take 11 = .ok (.ifCond .eq 9, 3) := by decide +kernel
theorem d_Reader_take_14 : decode b_Reader_take 14 = .ok (.aload_n 0, 1) := by decide +kernel
theorem d_Reader_take_15 : decode b_Reader_take 15 = .ok (.iload_n 1, 1) := by decide +kernel
theorem d_Reader_take_16 : decode b_Reader_take 16 = .ok (.invokevirtual 41, 3) := by decide +kernel
theorem k_Reader_m41 : Cond.methodLink R_Reader 41 y_Reader_takeDigit ∈ lw_g := lw_in (List.mem_append_right _ (List.mem_of_getElem? (i := 358) (by decide +kernel))) rfl
theorem d_Reader_take_19 : decode b_Reader_take 19 = .ok (.ireturn, 1) := by decide +kernel
theorem d_Reader_take_20 : decode b_Reader_take 20 = .ok (.aload_n 0, 1) := by decide +kernel
theorem d_Reader_take_21 : decode b_Reader_take 21 = .ok (.iconst 0, 1) := by decide +kernel
theorem d_Reader_take_22 : decode b_Reader_take 22 = .ok (.putfield 31, 3) := by decide +kernel
theorem d_Reader_take_25 : decode b_Reader_take 25 = .ok (.aload_n 0, 1) := by decide +kernel
theorem d_Reader_take_26 : decode b_Reader_take 26 = .ok (.getfield 25, 3) := by decide +kernel
theorem d_Reader_take_29 : decode b_Reader_take 29 = .ok (.ifCond .ne 24, 3) := by decide +kernel
theorem d_Reader_take_32 : decode b_Reader_take 32 = .ok (.aload_n 0, 1) := by decide +kernel
theorem d_Reader_take_33 : decode b_Reader_take 33 = .ok (.getfield 21, 3) := by decide +kernel
theorem d_Reader_take_36 : decode b_Reader_take 36 = .ok (.ifCond .ne 15, 3) := by decide +kernel
theorem d_Reader_take_39 : decode b_Reader_take 39 = .ok (.aload_n 0, 1) := by decide +kernel
theorem d_Reader_take_40 : decode b_Reader_take 40 = .ok (.iload_n 1, 1) := by decide +kernel
theorem d_Reader_take_41 : decode b_Reader_take 41 = .ok (.invokevirtual 44, 3) := by decide +kernel
theorem k_Reader_m44 : Cond.methodLink R_Reader 44 y_Reader_takeExpression ∈ lw_g := lw_in (List.mem_append_right _ (List.mem_of_getElem? (i := 362) (by decide +kernel))) rfl
theorem d_Reader_take_44 : decode b_Reader_take 44 = .ok (.ifCond .eq 7, 3) := by decide +kernel
theorem d_Reader_take_47 : decode b_Reader_take 47 = .ok (.iconst 1, 1) := by decide +kernel
theorem d_Reader_take_48 : decode b_Reader_take 48 = .ok (.goto 4, 3) := by decide +kernel
theorem d_Reader_take_51 : decode b_Reader_take 51 = .ok (.iconst 0, 1) := by decide +kernel
theorem d_Reader_take_52 : decode b_Reader_take 52 = .ok (.ireturn, 1) := by decide +kernel
theorem d_Reader_take_53 : decode b_Reader_take 53 = .ok (.aload_n 0, 1) := by decide +kernel
theorem d_Reader_take_54 : decode b_Reader_take 54 = .ok (.getfield 17, 3) := by decide +kernel
theorem d_Reader_take_57 : decode b_Reader_take 57 = .ok (.aload_n 0, 1) := by decide +kernel
theorem d_Reader_take_58 : decode b_Reader_take 58 = .ok (.getfield 25, 3) := by decide +kernel
theorem d_Reader_take_61 : decode b_Reader_take 61 = .ok (.iconst 1, 1) := by decide +kernel
theorem d_Reader_take_62 : decode b_Reader_take 62 = .ok (.isub, 1) := by decide +kernel
theorem d_Reader_take_63 : decode b_Reader_take 63 = .ok (.aaload, 1) := by decide +kernel
theorem d_Reader_take_64 : decode b_Reader_take 64 = .ok (.astore_n 2, 1) := by decide +kernel
theorem d_Reader_take_65 : decode b_Reader_take 65 = .ok (.aload_n 0, 1) := by decide +kernel
theorem d_Reader_take_66 : decode b_Reader_take 66 = .ok (.getfield 28, 3) := by decide +kernel
theorem d_Reader_take_69 : decode b_Reader_take 69 = .ok (.tableswitch 48 0 2 #[27, 34, 41], 27) := by decide +kernel
theorem d_Reader_take_96 : decode b_Reader_take 96 = .ok (.aload_n 0, 1) := by decide +kernel
theorem d_Reader_take_97 : decode b_Reader_take 97 = .ok (.aload_n 2, 1) := by decide +kernel
theorem d_Reader_take_98 : decode b_Reader_take 98 = .ok (.iload_n 1, 1) := by decide +kernel
theorem d_Reader_take_99 : decode b_Reader_take 99 = .ok (.invokevirtual 47, 3) := by decide +kernel
theorem k_Reader_m47 : Cond.methodLink R_Reader 47 y_Reader_takeHead ∈ lw_g := lw_in (List.mem_append_right _ (List.mem_of_getElem? (i := 377) (by decide +kernel))) rfl
theorem d_Reader_take_102 : decode b_Reader_take 102 = .ok (.ireturn, 1) := by decide +kernel
theorem d_Reader_take_103 : decode b_Reader_take 103 = .ok (.aload_n 0, 1) := by decide +kernel
theorem d_Reader_take_104 : decode b_Reader_take 104 = .ok (.aload_n 2, 1) := by decide +kernel
theorem d_Reader_take_105 : decode b_Reader_take 105 = .ok (.iload_n 1, 1) := by decide +kernel
theorem d_Reader_take_106 : decode b_Reader_take 106 = .ok (.invokevirtual 51, 3) := by decide +kernel
theorem k_Reader_m51 : Cond.methodLink R_Reader 51 y_Reader_takeOneName ∈ lw_g := lw_in (List.mem_append_right _ (List.mem_of_getElem? (i := 483) (by decide +kernel))) rfl
theorem d_Reader_take_109 : decode b_Reader_take 109 = .ok (.ireturn, 1) := by decide +kernel
theorem d_Reader_take_110 : decode b_Reader_take 110 = .ok (.aload_n 0, 1) := by decide +kernel
theorem d_Reader_take_111 : decode b_Reader_take 111 = .ok (.aload_n 2, 1) := by decide +kernel
theorem d_Reader_take_112 : decode b_Reader_take 112 = .ok (.iload_n 1, 1) := by decide +kernel
theorem d_Reader_take_113 : decode b_Reader_take 113 = .ok (.invokevirtual 54, 3) := by decide +kernel
theorem k_Reader_m54 : Cond.methodLink R_Reader 54 y_Reader_takeNameOrDot ∈ lw_g := lw_in (List.mem_append_right _ (List.mem_of_getElem? (i := 487) (by decide +kernel))) rfl
theorem d_Reader_take_116 : decode b_Reader_take 116 = .ok (.ireturn, 1) := by decide +kernel
theorem d_Reader_take_117 : decode b_Reader_take 117 = .ok (.aload_n 0, 1) := by decide +kernel
theorem d_Reader_take_118 : decode b_Reader_take 118 = .ok (.aload_n 2, 1) := by decide +kernel
theorem d_Reader_take_119 : decode b_Reader_take 119 = .ok (.iload_n 1, 1) := by decide +kernel
theorem d_Reader_take_120 : decode b_Reader_take 120 = .ok (.invokevirtual 57, 3) := by decide +kernel
theorem k_Reader_m57 : Cond.methodLink R_Reader 57 y_Reader_takePart ∈ lw_g := lw_in (List.mem_append_right _ (List.mem_of_getElem? (i := 467) (by decide +kernel))) rfl
theorem d_Reader_take_123 : decode b_Reader_take 123 = .ok (.ireturn, 1) := by decide +kernel
theorem ki_Reader_take : Cond.instanceMethod y_Reader_take ∈ lw_g := lw_in (List.mem_append_right _ (List.mem_of_getElem? (i := 353) (by decide +kernel))) rfl
theorem ke_Reader_take : Cond.selects R_Reader y_Reader_take y_Reader_take ∈ lw_g := lw_in (List.mem_append_left _ (List.mem_map.mpr ⟨(y_Reader_take, 6), by decide +kernel, rfl⟩)) rfl
-- Reader_takeDigit: maxLocals 3, ret (some .boolean)
theorem kc_Reader_takeDigit : Cond.code y_Reader_takeDigit b_Reader_takeDigit 3 (some .boolean) ∈ lw_g := lw_in (List.mem_append_right _ (List.mem_of_getElem? (i := 361) (by decide +kernel))) rfl
theorem d_Reader_takeDigit_0 : decode b_Reader_takeDigit 0 = .ok (.aload_n 0, 1) := by decide +kernel
theorem d_Reader_takeDigit_1 : decode b_Reader_takeDigit 1 = .ok (.getfield 31, 3) := by decide +kernel
theorem d_Reader_takeDigit_4 : decode b_Reader_takeDigit 4 = .ok (.iconst 4, 1) := by decide +kernel
theorem d_Reader_takeDigit_5 : decode b_Reader_takeDigit 5 = .ok (.if_icmp .ge 10, 3) := by decide +kernel
theorem d_Reader_takeDigit_8 : decode b_Reader_takeDigit 8 = .ok (.aload_n 0, 1) := by decide +kernel
theorem d_Reader_takeDigit_9 : decode b_Reader_takeDigit 9 = .ok (.getfield 21, 3) := by decide +kernel
theorem d_Reader_takeDigit_12 : decode b_Reader_takeDigit 12 = .ok (.ifCond .ne 5, 3) := by decide +kernel
theorem d_Reader_takeDigit_15 : decode b_Reader_takeDigit 15 = .ok (.iconst 0, 1) := by decide +kernel
theorem d_Reader_takeDigit_16 : decode b_Reader_takeDigit 16 = .ok (.ireturn, 1) := by decide +kernel
theorem d_Reader_takeDigit_17 : decode b_Reader_takeDigit 17 = .ok (.aload_n 0, 1) := by decide +kernel
theorem d_Reader_takeDigit_18 : decode b_Reader_takeDigit 18 = .ok (.getfield 11, 3) := by decide +kernel
theorem d_Reader_takeDigit_21 : decode b_Reader_takeDigit 21 = .ok (.aload_n 0, 1) := by decide +kernel
theorem d_Reader_takeDigit_22 : decode b_Reader_takeDigit 22 = .ok (.getfield 21, 3) := by decide +kernel
theorem d_Reader_takeDigit_25 : decode b_Reader_takeDigit 25 = .ok (.iconst 1, 1) := by decide +kernel
theorem d_Reader_takeDigit_26 : decode b_Reader_takeDigit 26 = .ok (.isub, 1) := by decide +kernel
theorem d_Reader_takeDigit_27 : decode b_Reader_takeDigit 27 = .ok (.aaload, 1) := by decide +kernel
theorem d_Reader_takeDigit_28 : decode b_Reader_takeDigit 28 = .ok (.astore_n 2, 1) := by decide +kernel
theorem d_Reader_takeDigit_29 : decode b_Reader_takeDigit 29 = .ok (.aload_n 2, 1) := by decide +kernel
theorem d_Reader_takeDigit_30 : decode b_Reader_takeDigit 30 = .ok (.bipush 10, 2) := by decide +kernel
theorem d_Reader_takeDigit_32 : decode b_Reader_takeDigit 32 = .ok (.aload_n 2, 1) := by decide +kernel
theorem d_Reader_takeDigit_33 : decode b_Reader_takeDigit 33 = .ok (.getfield 60, 3) := by decide +kernel
theorem k_Reader_f60 : Cond.fieldLink R_Reader 60 "ContinuationCore$Expression" "number" "I" ∈ lw_g := lw_in (List.mem_append_right _ (List.mem_of_getElem? (i := 59) (by decide +kernel))) rfl
theorem d_Reader_takeDigit_36 : decode b_Reader_takeDigit 36 = .ok (.imul, 1) := by decide +kernel
theorem d_Reader_takeDigit_37 : decode b_Reader_takeDigit 37 = .ok (.iload_n 1, 1) := by decide +kernel
theorem d_Reader_takeDigit_38 : decode b_Reader_takeDigit 38 = .ok (.bipush 48, 2) := by decide +kernel
theorem d_Reader_takeDigit_40 : decode b_Reader_takeDigit 40 = .ok (.isub, 1) := by decide +kernel
theorem d_Reader_takeDigit_41 : decode b_Reader_takeDigit 41 = .ok (.iadd, 1) := by decide +kernel
theorem d_Reader_takeDigit_42 : decode b_Reader_takeDigit 42 = .ok (.putfield 60, 3) := by decide +kernel
theorem d_Reader_takeDigit_45 : decode b_Reader_takeDigit 45 = .ok (.aload_n 0, 1) := by decide +kernel
theorem d_Reader_takeDigit_46 : decode b_Reader_takeDigit 46 = .ok (.dup, 1) := by decide +kernel
theorem d_Reader_takeDigit_47 : decode b_Reader_takeDigit 47 = .ok (.getfield 31, 3) := by decide +kernel
theorem d_Reader_takeDigit_50 : decode b_Reader_takeDigit 50 = .ok (.iconst 1, 1) := by decide +kernel
theorem d_Reader_takeDigit_51 : decode b_Reader_takeDigit 51 = .ok (.iadd, 1) := by decide +kernel
theorem d_Reader_takeDigit_52 : decode b_Reader_takeDigit 52 = .ok (.putfield 31, 3) := by decide +kernel
theorem d_Reader_takeDigit_55 : decode b_Reader_takeDigit 55 = .ok (.iconst 1, 1) := by decide +kernel
theorem d_Reader_takeDigit_56 : decode b_Reader_takeDigit 56 = .ok (.ireturn, 1) := by decide +kernel
theorem ki_Reader_takeDigit : Cond.instanceMethod y_Reader_takeDigit ∈ lw_g := lw_in (List.mem_append_right _ (List.mem_of_getElem? (i := 360) (by decide +kernel))) rfl
theorem ke_Reader_takeDigit : Cond.selects R_Reader y_Reader_takeDigit y_Reader_takeDigit ∈ lw_g := lw_in (List.mem_append_left _ (List.mem_map.mpr ⟨(y_Reader_takeDigit, 6), by decide +kernel, rfl⟩)) rfl
-- Reader_takeHead: maxLocals 3, ret (some .boolean)
theorem kc_Reader_takeHead : Cond.code y_Reader_takeHead b_Reader_takeHead 3 (some .boolean) ∈ lw_g := lw_in (List.mem_append_right _ (List.mem_of_getElem? (i := 380) (by decide +kernel))) rfl
theorem d_Reader_takeHead_0 : decode b_Reader_takeHead 0 = .ok (.aload_n 0, 1) := by decide +kernel
theorem d_Reader_takeHead_1 : decode b_Reader_takeHead 1 = .ok (.iconst 3, 1) := by decide +kernel
theorem d_Reader_takeHead_2 : decode b_Reader_takeHead 2 = .ok (.putfield 28, 3) := by decide +kernel
theorem d_Reader_takeHead_5 : decode b_Reader_takeHead 5 = .ok (.ldc 63, 2) := by decide +kernel
theorem k_Reader_s63 : Cond.stringRef R_Reader 63 "+-*/<=:ADP^?&!@%\\" ∈ lw_tbl := List.mem_append_right _ (List.mem_of_getElem? (i := 381) (by decide +kernel))
theorem d_Reader_takeHead_7 : decode b_Reader_takeHead 7 = .ok (.iload_n 2, 1) := by decide +kernel
theorem d_Reader_takeHead_8 : decode b_Reader_takeHead 8 = .ok (.invokevirtual 65, 3) := by decide +kernel
theorem k_Reader_m65 : Cond.methodLink R_Reader 65 ⟨"java/lang/String", "indexOf", "(I)I"⟩ ∈ lw_g := lw_in (List.mem_append_right _ (List.mem_of_getElem? (i := 382) (by decide +kernel))) rfl
theorem d_Reader_takeHead_11 : decode b_Reader_takeHead 11 = .ok (.ifCond .ge 10, 3) := by decide +kernel
theorem d_Reader_takeHead_14 : decode b_Reader_takeHead 14 = .ok (.aload_n 0, 1) := by decide +kernel
theorem d_Reader_takeHead_15 : decode b_Reader_takeHead 15 = .ok (.aload_n 1, 1) := by decide +kernel
theorem d_Reader_takeHead_16 : decode b_Reader_takeHead 16 = .ok (.iload_n 2, 1) := by decide +kernel
theorem d_Reader_takeHead_17 : decode b_Reader_takeHead 17 = .ok (.invokevirtual 57, 3) := by decide +kernel
theorem d_Reader_takeHead_20 : decode b_Reader_takeHead 20 = .ok (.ireturn, 1) := by decide +kernel
theorem d_Reader_takeHead_21 : decode b_Reader_takeHead 21 = .ok (.aload_n 1, 1) := by decide +kernel
theorem d_Reader_takeHead_22 : decode b_Reader_takeHead 22 = .ok (.iload_n 2, 1) := by decide +kernel
theorem d_Reader_takeHead_23 : decode b_Reader_takeHead 23 = .ok (.iconst 0, 1) := by decide +kernel
theorem d_Reader_takeHead_24 : decode b_Reader_takeHead 24 = .ok (.invokevirtual 71, 3) := by decide +kernel
theorem k_Reader_m71 : Cond.methodLink R_Reader 71 y_Expression_become ∈ lw_g := lw_in (List.mem_append_right _ (List.mem_of_getElem? (i := 366) (by decide +kernel))) rfl
theorem d_Reader_takeHead_27 : decode b_Reader_takeHead 27 = .ok (.iload_n 2, 1) := by decide +kernel
theorem d_Reader_takeHead_28 : decode b_Reader_takeHead 28 = .ok (.bipush 33, 2) := by decide +kernel
theorem d_Reader_takeHead_30 : decode b_Reader_takeHead 30 = .ok (.if_icmp .eq 15, 3) := by decide +kernel
theorem d_Reader_takeHead_33 : decode b_Reader_takeHead 33 = .ok (.iload_n 2, 1) := by decide +kernel
theorem d_Reader_takeHead_34 : decode b_Reader_takeHead 34 = .ok (.bipush 64, 2) := by decide +kernel
theorem d_Reader_takeHead_36 : decode b_Reader_takeHead 36 = .ok (.if_icmp .eq 9, 3) := by decide +kernel
theorem d_Reader_takeHead_39 : decode b_Reader_takeHead 39 = .ok (.iload_n 2, 1) := by decide +kernel
theorem d_Reader_takeHead_40 : decode b_Reader_takeHead 40 = .ok (.bipush 37, 2) := by decide +kernel
theorem d_Reader_takeHead_42 : decode b_Reader_takeHead 42 = .ok (.if_icmp .ne 11, 3) := by decide +kernel
theorem d_Reader_takeHead_45 : decode b_Reader_takeHead 45 = .ok (.aload_n 0, 1) := by decide +kernel
theorem d_Reader_takeHead_46 : decode b_Reader_takeHead 46 = .ok (.iconst 1, 1) := by decide +kernel
theorem d_Reader_takeHead_47 : decode b_Reader_takeHead 47 = .ok (.putfield 28, 3) := by decide +kernel
theorem d_Reader_takeHead_50 : decode b_Reader_takeHead 50 = .ok (.goto 14, 3) := by decide +kernel
theorem d_Reader_takeHead_53 : decode b_Reader_takeHead 53 = .ok (.iload_n 2, 1) := by decide +kernel
theorem d_Reader_takeHead_54 : decode b_Reader_takeHead 54 = .ok (.bipush 92, 2) := by decide +kernel
theorem d_Reader_takeHead_56 : decode b_Reader_takeHead 56 = .ok (.if_icmp .ne 8, 3) := by decide +kernel
theorem d_Reader_takeHead_59 : decode b_Reader_takeHead 59 = .ok (.aload_n 0, 1) := by decide +kernel
theorem d_Reader_takeHead_60 : decode b_Reader_takeHead 60 = .ok (.iconst 2, 1) := by decide +kernel
theorem d_Reader_takeHead_61 : decode b_Reader_takeHead 61 = .ok (.putfield 28, 3) := by decide +kernel
theorem d_Reader_takeHead_64 : decode b_Reader_takeHead 64 = .ok (.iconst 1, 1) := by decide +kernel
theorem d_Reader_takeHead_65 : decode b_Reader_takeHead 65 = .ok (.ireturn, 1) := by decide +kernel
theorem ki_Reader_takeHead : Cond.instanceMethod y_Reader_takeHead ∈ lw_g := lw_in (List.mem_append_right _ (List.mem_of_getElem? (i := 379) (by decide +kernel))) rfl
theorem ke_Reader_takeHead : Cond.selects R_Reader y_Reader_takeHead y_Reader_takeHead ∈ lw_g := lw_in (List.mem_append_left _ (List.mem_map.mpr ⟨(y_Reader_takeHead, 6), by decide +kernel, rfl⟩)) rfl
-- Reader_takeOneName: maxLocals 3, ret (some .boolean)
theorem kc_Reader_takeOneName : Cond.code y_Reader_takeOneName b_Reader_takeOneName 3 (some .boolean) ∈ lw_g := lw_in (List.mem_append_right _ (List.mem_of_getElem? (i := 486) (by decide +kernel))) rfl
theorem d_Reader_takeOneName_0 : decode b_Reader_takeOneName 0 = .ok (.aload_n 1, 1) := by decide +kernel
theorem d_Reader_takeOneName_1 : decode b_Reader_takeOneName 1 = .ok (.iload_n 2, 1) := by decide +kernel
theorem d_Reader_takeOneName_2 : decode b_Reader_takeOneName 2 = .ok (.bipush 97, 2) := by decide +kernel
theorem d_Reader_takeOneName_4 : decode b_Reader_takeOneName 4 = .ok (.isub, 1) := by decide +kernel
theorem d_Reader_takeOneName_5 : decode b_Reader_takeOneName 5 = .ok (.putfield 60, 3) := by decide +kernel
theorem d_Reader_takeOneName_8 : decode b_Reader_takeOneName 8 = .ok (.aload_n 0, 1) := by decide +kernel
theorem d_Reader_takeOneName_9 : decode b_Reader_takeOneName 9 = .ok (.iconst 3, 1) := by decide +kernel
theorem d_Reader_takeOneName_10 : decode b_Reader_takeOneName 10 = .ok (.putfield 28, 3) := by decide +kernel
theorem d_Reader_takeOneName_13 : decode b_Reader_takeOneName 13 = .ok (.iload_n 2, 1) := by decide +kernel
theorem d_Reader_takeOneName_14 : decode b_Reader_takeOneName 14 = .ok (.invokestatic 75, 3) := by decide +kernel
theorem k_Reader_m75 : Cond.methodLink R_Reader 75 y_Reader_isName ∈ lw_g := lw_in (List.mem_append_right _ (List.mem_of_getElem? (i := 370) (by decide +kernel))) rfl
theorem d_Reader_takeOneName_17 : decode b_Reader_takeOneName 17 = .ok (.ireturn, 1) := by decide +kernel
theorem ki_Reader_takeOneName : Cond.instanceMethod y_Reader_takeOneName ∈ lw_g := lw_in (List.mem_append_right _ (List.mem_of_getElem? (i := 485) (by decide +kernel))) rfl
theorem ke_Reader_takeOneName : Cond.selects R_Reader y_Reader_takeOneName y_Reader_takeOneName ∈ lw_g := lw_in (List.mem_append_left _ (List.mem_map.mpr ⟨(y_Reader_takeOneName, 6), by decide +kernel, rfl⟩)) rfl
-- Reader_takeNameOrDot: maxLocals 3, ret (some .boolean)
theorem kc_Reader_takeNameOrDot : Cond.code y_Reader_takeNameOrDot b_Reader_takeNameOrDot 3 (some .boolean) ∈ lw_g := lw_in (List.mem_append_right _ (List.mem_of_getElem? (i := 490) (by decide +kernel))) rfl
theorem d_Reader_takeNameOrDot_0 : decode b_Reader_takeNameOrDot 0 = .ok (.iload_n 2, 1) := by decide +kernel
theorem d_Reader_takeNameOrDot_1 : decode b_Reader_takeNameOrDot 1 = .ok (.bipush 46, 2) := by decide +kernel
theorem d_Reader_takeNameOrDot_3 : decode b_Reader_takeNameOrDot 3 = .ok (.if_icmp .ne 10, 3) := by decide +kernel
theorem d_Reader_takeNameOrDot_6 : decode b_Reader_takeNameOrDot 6 = .ok (.aload_n 0, 1) := by decide +kernel
theorem d_Reader_takeNameOrDot_7 : decode b_Reader_takeNameOrDot 7 = .ok (.iconst 3, 1) := by decide +kernel
theorem d_Reader_takeNameOrDot_8 : decode b_Reader_takeNameOrDot 8 = .ok (.putfield 28, 3) := by decide +kernel
theorem d_Reader_takeNameOrDot_11 : decode b_Reader_takeNameOrDot 11 = .ok (.iconst 1, 1) := by decide +kernel
theorem d_Reader_takeNameOrDot_12 : decode b_Reader_takeNameOrDot 12 = .ok (.ireturn, 1) := by decide +kernel
theorem d_Reader_takeNameOrDot_13 : decode b_Reader_takeNameOrDot 13 = .ok (.iload_n 2, 1) := by decide +kernel
theorem d_Reader_takeNameOrDot_14 : decode b_Reader_takeNameOrDot 14 = .ok (.invokestatic 75, 3) := by decide +kernel
theorem d_Reader_takeNameOrDot_17 : decode b_Reader_takeNameOrDot 17 = .ok (.ifCond .eq 18, 3) := by decide +kernel
theorem d_Reader_takeNameOrDot_20 : decode b_Reader_takeNameOrDot 20 = .ok (.aload_n 1, 1) := by decide +kernel
theorem d_Reader_takeNameOrDot_21 : decode b_Reader_takeNameOrDot 21 = .ok (.iload_n 2, 1) := by decide +kernel
theorem d_Reader_takeNameOrDot_22 : decode b_Reader_takeNameOrDot 22 = .ok (.bipush 97, 2) := by decide +kernel
theorem d_Reader_takeNameOrDot_24 : decode b_Reader_takeNameOrDot 24 = .ok (.isub, 1) := by decide +kernel
theorem d_Reader_takeNameOrDot_25 : decode b_Reader_takeNameOrDot 25 = .ok (.invokevirtual 78, 3) := by decide +kernel
theorem k_Reader_m78 : Cond.methodLink R_Reader 78 y_Expression_addName ∈ lw_g := lw_in (List.mem_append_right _ (List.mem_of_getElem? (i := 491) (by decide +kernel))) rfl
theorem d_Reader_takeNameOrDot_28 : decode b_Reader_takeNameOrDot 28 = .ok (.ifCond .eq 7, 3) := by decide +kernel
theorem d_Reader_takeNameOrDot_31 : decode b_Reader_takeNameOrDot 31 = .ok (.iconst 1, 1) := by decide +kernel
theorem d_Reader_takeNameOrDot_32 : decode b_Reader_takeNameOrDot 32 = .ok (.goto 4, 3) := by decide +kernel
theorem d_Reader_takeNameOrDot_35 : decode b_Reader_takeNameOrDot 35 = .ok (.iconst 0, 1) := by decide +kernel
theorem d_Reader_takeNameOrDot_36 : decode b_Reader_takeNameOrDot 36 = .ok (.ireturn, 1) := by decide +kernel
theorem ki_Reader_takeNameOrDot : Cond.instanceMethod y_Reader_takeNameOrDot ∈ lw_g := lw_in (List.mem_append_right _ (List.mem_of_getElem? (i := 489) (by decide +kernel))) rfl
theorem ke_Reader_takeNameOrDot : Cond.selects R_Reader y_Reader_takeNameOrDot y_Reader_takeNameOrDot ∈ lw_g := lw_in (List.mem_append_left _ (List.mem_map.mpr ⟨(y_Reader_takeNameOrDot, 6), by decide +kernel, rfl⟩)) rfl
-- Reader_takePart: maxLocals 3, ret (some .boolean)
theorem kc_Reader_takePart : Cond.code y_Reader_takePart b_Reader_takePart 3 (some .boolean) ∈ lw_g := lw_in (List.mem_append_right _ (List.mem_of_getElem? (i := 470) (by decide +kernel))) rfl
theorem d_Reader_takePart_0 : decode b_Reader_takePart 0 = .ok (.iload_n 2, 1) := by decide +kernel
theorem d_Reader_takePart_1 : decode b_Reader_takePart 1 = .ok (.bipush 32, 2) := by decide +kernel
theorem d_Reader_takePart_3 : decode b_Reader_takePart 3 = .ok (.if_icmp .ne 5, 3) := by decide +kernel
theorem d_Reader_takePart_6 : decode b_Reader_takePart 6 = .ok (.iconst 1, 1) := by decide +kernel
theorem d_Reader_takePart_7 : decode b_Reader_takePart 7 = .ok (.ireturn, 1) := by decide +kernel
theorem d_Reader_takePart_8 : decode b_Reader_takePart 8 = .ok (.iload_n 2, 1) := by decide +kernel
theorem d_Reader_takePart_9 : decode b_Reader_takePart 9 = .ok (.bipush 41, 2) := by decide +kernel
theorem d_Reader_takePart_11 : decode b_Reader_takePart 11 = .ok (.if_icmp .ne 18, 3) := by decide +kernel
theorem d_Reader_takePart_14 : decode b_Reader_takePart 14 = .ok (.aload_n 0, 1) := by decide +kernel
theorem d_Reader_takePart_15 : decode b_Reader_takePart 15 = .ok (.dup, 1) := by decide +kernel
theorem d_Reader_takePart_16 : decode b_Reader_takePart 16 = .ok (.getfield 25, 3) := by decide +kernel
theorem d_Reader_takePart_19 : decode b_Reader_takePart 19 = .ok (.iconst 1, 1) := by decide +kernel
theorem d_Reader_takePart_20 : decode b_Reader_takePart 20 = .ok (.isub, 1) := by decide +kernel
theorem d_Reader_takePart_21 : decode b_Reader_takePart 21 = .ok (.putfield 25, 3) := by decide +kernel
theorem d_Reader_takePart_24 : decode b_Reader_takePart 24 = .ok (.aload_n 1, 1) := by decide +kernel
theorem d_Reader_takePart_25 : decode b_Reader_takePart 25 = .ok (.invokevirtual 82, 3) := by decide +kernel
theorem k_Reader_m82 : Cond.methodLink R_Reader 82 y_Expression_mayClose ∈ lw_g := lw_in (List.mem_append_right _ (List.mem_of_getElem? (i := 471) (by decide +kernel))) rfl
theorem d_Reader_takePart_28 : decode b_Reader_takePart 28 = .ok (.ireturn, 1) := by decide +kernel
theorem d_Reader_takePart_29 : decode b_Reader_takePart 29 = .ok (.aload_n 0, 1) := by decide +kernel
theorem d_Reader_takePart_30 : decode b_Reader_takePart 30 = .ok (.getfield 21, 3) := by decide +kernel
theorem d_Reader_takePart_33 : decode b_Reader_takePart 33 = .ok (.bipush 120, 2) := by decide +kernel
theorem d_Reader_takePart_35 : decode b_Reader_takePart 35 = .ok (.if_icmp .ge 31, 3) := by decide +kernel
theorem d_Reader_takePart_38 : decode b_Reader_takePart 38 = .ok (.aload_n 1, 1) := by decide +kernel
theorem d_Reader_takePart_39 : decode b_Reader_takePart 39 = .ok (.aload_n 0, 1) := by decide +kernel
theorem d_Reader_takePart_40 : decode b_Reader_takePart 40 = .ok (.getfield 11, 3) := by decide +kernel
theorem d_Reader_takePart_43 : decode b_Reader_takePart 43 = .ok (.aload_n 0, 1) := by decide +kernel
theorem d_Reader_takePart_44 : decode b_Reader_takePart 44 = .ok (.getfield 21, 3) := by decide +kernel
theorem d_Reader_takePart_47 : decode b_Reader_takePart 47 = .ok (.aaload, 1) := by decide +kernel
theorem d_Reader_takePart_48 : decode b_Reader_takePart 48 = .ok (.invokevirtual 86, 3) := by decide +kernel
theorem k_Reader_m86 : Cond.methodLink R_Reader 86 y_Expression_addPart ∈ lw_g := lw_in (List.mem_append_right _ (List.mem_of_getElem? (i := 479) (by decide +kernel))) rfl
theorem d_Reader_takePart_51 : decode b_Reader_takePart 51 = .ok (.ifCond .eq 15, 3) := by decide +kernel
theorem d_Reader_takePart_54 : decode b_Reader_takePart 54 = .ok (.aload_n 0, 1) := by decide +kernel
theorem d_Reader_takePart_55 : decode b_Reader_takePart 55 = .ok (.iload_n 2, 1) := by decide +kernel
theorem d_Reader_takePart_56 : decode b_Reader_takePart 56 = .ok (.invokevirtual 44, 3) := by decide +kernel
theorem d_Reader_takePart_59 : decode b_Reader_takePart 59 = .ok (.ifCond .eq 7, 3) := by decide +kernel
theorem d_Reader_takePart_62 : decode b_Reader_takePart 62 = .ok (.iconst 1, 1) := by decide +kernel
theorem d_Reader_takePart_63 : decode b_Reader_takePart 63 = .ok (.goto 4, 3) := by decide +kernel
theorem d_Reader_takePart_66 : decode b_Reader_takePart 66 = .ok (.iconst 0, 1) := by decide +kernel
theorem d_Reader_takePart_67 : decode b_Reader_takePart 67 = .ok (.ireturn, 1) := by decide +kernel
theorem ki_Reader_takePart : Cond.instanceMethod y_Reader_takePart ∈ lw_g := lw_in (List.mem_append_right _ (List.mem_of_getElem? (i := 469) (by decide +kernel))) rfl
theorem ke_Reader_takePart : Cond.selects R_Reader y_Reader_takePart y_Reader_takePart ∈ lw_g := lw_in (List.mem_append_left _ (List.mem_map.mpr ⟨(y_Reader_takePart, 6), by decide +kernel, rfl⟩)) rfl
-- Reader_takeExpression: maxLocals 3, ret (some .boolean)
theorem kc_Reader_takeExpression : Cond.code y_Reader_takeExpression b_Reader_takeExpression 3 (some .boolean) ∈ lw_g := lw_in (List.mem_append_right _ (List.mem_of_getElem? (i := 365) (by decide +kernel))) rfl
theorem d_Reader_takeExpression_0 : decode b_Reader_takeExpression 0 = .ok (.aload_n 0, 1) := by decide +kernel
theorem d_Reader_takeExpression_1 : decode b_Reader_takeExpression 1 = .ok (.getfield 21, 3) := by decide +kernel
theorem d_Reader_takeExpression_4 : decode b_Reader_takeExpression 4 = .ok (.bipush 120, 2) := by decide +kernel
theorem d_Reader_takeExpression_6 : decode b_Reader_takeExpression 6 = .ok (.if_icmp .lt 5, 3) := by decide +kernel
theorem d_Reader_takeExpression_9 : decode b_Reader_takeExpression 9 = .ok (.iconst 0, 1) := by decide +kernel
theorem d_Reader_takeExpression_10 : decode b_Reader_takeExpression 10 = .ok (.ireturn, 1) := by decide +kernel
theorem d_Reader_takeExpression_11 : decode b_Reader_takeExpression 11 = .ok (.aload_n 0, 1) := by decide +kernel
theorem d_Reader_takeExpression_12 : decode b_Reader_takeExpression 12 = .ok (.getfield 11, 3) := by decide +kernel
theorem d_Reader_takeExpression_15 : decode b_Reader_takeExpression 15 = .ok (.aload_n 0, 1) := by decide +kernel
theorem d_Reader_takeExpression_16 : decode b_Reader_takeExpression 16 = .ok (.getfield 21, 3) := by decide +kernel
theorem d_Reader_takeExpression_19 : decode b_Reader_takeExpression 19 = .ok (.aaload, 1) := by decide +kernel
theorem d_Reader_takeExpression_20 : decode b_Reader_takeExpression 20 = .ok (.astore_n 2, 1) := by decide +kernel
theorem d_Reader_takeExpression_21 : decode b_Reader_takeExpression 21 = .ok (.aload_n 0, 1) := by decide +kernel
theorem d_Reader_takeExpression_22 : decode b_Reader_takeExpression 22 = .ok (.dup, 1) := by decide +kernel
theorem d_Reader_takeExpression_23 : decode b_Reader_takeExpression 23 = .ok (.getfield 21, 3) := by decide +kernel
theorem d_Reader_takeExpression_26 : decode b_Reader_takeExpression 26 = .ok (.iconst 1, 1) := by decide +kernel
theorem d_Reader_takeExpression_27 : decode b_Reader_takeExpression 27 = .ok (.iadd, 1) := by decide +kernel
theorem d_Reader_takeExpression_28 : decode b_Reader_takeExpression 28 = .ok (.putfield 21, 3) := by decide +kernel
theorem d_Reader_takeExpression_31 : decode b_Reader_takeExpression 31 = .ok (.iload_n 1, 1) := by decide +kernel
theorem d_Reader_takeExpression_32 : decode b_Reader_takeExpression 32 = .ok (.invokestatic 38, 3) := by decide +kernel
theorem d_Reader_takeExpression_35 : decode b_Reader_takeExpression 35 = .ok (.ifCond .eq 20, 3) := by decide +kernel
theorem d_Reader_takeExpression_38 : decode b_Reader_takeExpression 38 = .ok (.aload_n 2, 1) := by decide +kernel
theorem d_Reader_takeExpression_39 : decode b_Reader_takeExpression 39 = .ok (.bipush 48, 2) := by decide +kernel
theorem d_Reader_takeExpression_41 : decode b_Reader_takeExpression 41 = .ok (.iload_n 1, 1) := by decide +kernel
theorem d_Reader_takeExpression_42 : decode b_Reader_takeExpression 42 = .ok (.bipush 48, 2) := by decide +kernel
theorem d_Reader_takeExpression_44 : decode b_Reader_takeExpression 44 = .ok (.isub, 1) := by decide +kernel
theorem d_Reader_takeExpression_45 : decode b_Reader_takeExpression 45 = .ok (.invokevirtual 71, 3) := by decide +kernel
theorem d_Reader_takeExpression_48 : decode b_Reader_takeExpression 48 = .ok (.aload_n 0, 1) := by decide +kernel
theorem d_Reader_takeExpression_49 : decode b_Reader_takeExpression 49 = .ok (.iconst 1, 1) := by decide +kernel
theorem d_Reader_takeExpression_50 : decode b_Reader_takeExpression 50 = .ok (.putfield 31, 3) := by decide +kernel
theorem d_Reader_takeExpression_53 : decode b_Reader_takeExpression 53 = .ok (.iconst 1, 1) := by decide +kernel
theorem d_Reader_takeExpression_54 : decode b_Reader_takeExpression 54 = .ok (.ireturn, 1) := by decide +kernel
theorem d_Reader_takeExpression_55 : decode b_Reader_takeExpression 55 = .ok (.iload_n 1, 1) := by decide +kernel
theorem d_Reader_takeExpression_56 : decode b_Reader_takeExpression 56 = .ok (.invokestatic 75, 3) := by decide +kernel
theorem d_Reader_takeExpression_59 : decode b_Reader_takeExpression 59 = .ok (.ifCond .eq 15, 3) := by decide +kernel
theorem d_Reader_takeExpression_62 : decode b_Reader_takeExpression 62 = .ok (.aload_n 2, 1) := by decide +kernel
theorem d_Reader_takeExpression_63 : decode b_Reader_takeExpression 63 = .ok (.bipush 97, 2) := by decide +kernel
theorem d_Reader_takeExpression_65 : decode b_Reader_takeExpression 65 = .ok (.iload_n 1, 1) := by decide +kernel
theorem d_Reader_takeExpression_66 : decode b_Reader_takeExpression 66 = .ok (.bipush 97, 2) := by decide +kernel
theorem d_Reader_takeExpression_68 : decode b_Reader_takeExpression 68 = .ok (.isub, 1) := by decide +kernel
theorem d_Reader_takeExpression_69 : decode b_Reader_takeExpression 69 = .ok (.invokevirtual 71, 3) := by decide +kernel
theorem d_Reader_takeExpression_72 : decode b_Reader_takeExpression 72 = .ok (.iconst 1, 1) := by decide +kernel
theorem d_Reader_takeExpression_73 : decode b_Reader_takeExpression 73 = .ok (.ireturn, 1) := by decide +kernel
theorem d_Reader_takeExpression_74 : decode b_Reader_takeExpression 74 = .ok (.aload_n 2, 1) := by decide +kernel
theorem d_Reader_takeExpression_75 : decode b_Reader_takeExpression 75 = .ok (.iload_n 1, 1) := by decide +kernel
theorem d_Reader_takeExpression_76 : decode b_Reader_takeExpression 76 = .ok (.iconst 0, 1) := by decide +kernel
theorem d_Reader_takeExpression_77 : decode b_Reader_takeExpression 77 = .ok (.invokevirtual 71, 3) := by decide +kernel
theorem d_Reader_takeExpression_80 : decode b_Reader_takeExpression 80 = .ok (.iload_n 1, 1) := by decide +kernel
theorem d_Reader_takeExpression_81 : decode b_Reader_takeExpression 81 = .ok (.bipush 95, 2) := by decide +kernel
theorem d_Reader_takeExpression_83 : decode b_Reader_takeExpression 83 = .ok (.if_icmp .eq 17, 3) := by decide +kernel
theorem d_Reader_takeExpression_86 : decode b_Reader_takeExpression 86 = .ok (.iload_n 1, 1) := by decide +kernel
theorem d_Reader_takeExpression_87 : decode b_Reader_takeExpression 87 = .ok (.bipush 40, 2) := by decide +kernel
theorem d_Reader_takeExpression_89 : decode b_Reader_takeExpression 89 = .ok (.if_icmp .ne 15, 3) := by decide +kernel
theorem d_Reader_takeExpression_92 : decode b_Reader_takeExpression 92 = .ok (.aload_n 0, 1) := by decide +kernel
theorem d_Reader_takeExpression_93 : decode b_Reader_takeExpression 93 = .ok (.aload_n 2, 1) := by decide +kernel
theorem d_Reader_takeExpression_94 : decode b_Reader_takeExpression 94 = .ok (.invokevirtual 90, 3) := by decide +kernel
theorem k_Reader_m90 : Cond.methodLink R_Reader 90 y_Reader_openForm ∈ lw_g := lw_in (List.mem_append_right _ (List.mem_of_getElem? (i := 373) (by decide +kernel))) rfl
theorem d_Reader_takeExpression_97 : decode b_Reader_takeExpression 97 = .ok (.ifCond .eq 7, 3) := by decide +kernel
theorem d_Reader_takeExpression_100 : decode b_Reader_takeExpression 100 = .ok (.iconst 1, 1) := by decide +kernel
theorem d_Reader_takeExpression_101 : decode b_Reader_takeExpression 101 = .ok (.goto 4, 3) := by decide +kernel
theorem d_Reader_takeExpression_104 : decode b_Reader_takeExpression 104 = .ok (.iconst 0, 1) := by decide +kernel
theorem d_Reader_takeExpression_105 : decode b_Reader_takeExpression 105 = .ok (.ireturn, 1) := by decide +kernel
theorem ki_Reader_takeExpression : Cond.instanceMethod y_Reader_takeExpression ∈ lw_g := lw_in (List.mem_append_right _ (List.mem_of_getElem? (i := 364) (by decide +kernel))) rfl
theorem ke_Reader_takeExpression : Cond.selects R_Reader y_Reader_takeExpression y_Reader_takeExpression ∈ lw_g := lw_in (List.mem_append_left _ (List.mem_map.mpr ⟨(y_Reader_takeExpression, 6), by decide +kernel, rfl⟩)) rfl
-- Reader_openForm: maxLocals 2, ret (some .boolean)
theorem kc_Reader_openForm : Cond.code y_Reader_openForm b_Reader_openForm 2 (some .boolean) ∈ lw_g := lw_in (List.mem_append_right _ (List.mem_of_getElem? (i := 376) (by decide +kernel))) rfl
theorem d_Reader_openForm_0 : decode b_Reader_openForm 0 = .ok (.aload_n 0, 1) := by decide +kernel
theorem d_Reader_openForm_1 : decode b_Reader_openForm 1 = .ok (.getfield 25, 3) := by decide +kernel
theorem d_Reader_openForm_4 : decode b_Reader_openForm 4 = .ok (.bipush 12, 2) := by decide +kernel
theorem d_Reader_openForm_6 : decode b_Reader_openForm 6 = .ok (.if_icmp .lt 5, 3) := by decide +kernel
theorem d_Reader_openForm_9 : decode b_Reader_openForm 9 = .ok (.iconst 0, 1) := by decide +kernel
theorem d_Reader_openForm_10 : decode b_Reader_openForm 10 = .ok (.ireturn, 1) := by decide +kernel
theorem d_Reader_openForm_11 : decode b_Reader_openForm 11 = .ok (.aload_n 0, 1) := by decide +kernel
theorem d_Reader_openForm_12 : decode b_Reader_openForm 12 = .ok (.getfield 17, 3) := by decide +kernel
theorem d_Reader_openForm_15 : decode b_Reader_openForm 15 = .ok (.aload_n 0, 1) := by decide +kernel
theorem d_Reader_openForm_16 : decode b_Reader_openForm 16 = .ok (.getfield 25, 3) := by decide +kernel
theorem d_Reader_openForm_19 : decode b_Reader_openForm 19 = .ok (.aload_n 1, 1) := by decide +kernel
theorem d_Reader_openForm_20 : decode b_Reader_openForm 20 = .ok (.aastore, 1) := by decide +kernel
theorem d_Reader_openForm_21 : decode b_Reader_openForm 21 = .ok (.aload_n 0, 1) := by decide +kernel
theorem d_Reader_openForm_22 : decode b_Reader_openForm 22 = .ok (.dup, 1) := by decide +kernel
theorem d_Reader_openForm_23 : decode b_Reader_openForm 23 = .ok (.getfield 25, 3) := by decide +kernel
theorem d_Reader_openForm_26 : decode b_Reader_openForm 26 = .ok (.iconst 1, 1) := by decide +kernel
theorem d_Reader_openForm_27 : decode b_Reader_openForm 27 = .ok (.iadd, 1) := by decide +kernel
theorem d_Reader_openForm_28 : decode b_Reader_openForm 28 = .ok (.putfield 25, 3) := by decide +kernel
theorem d_Reader_openForm_31 : decode b_Reader_openForm 31 = .ok (.aload_n 0, 1) := by decide +kernel
theorem d_Reader_openForm_32 : decode b_Reader_openForm 32 = .ok (.iconst 0, 1) := by decide +kernel
theorem d_Reader_openForm_33 : decode b_Reader_openForm 33 = .ok (.putfield 28, 3) := by decide +kernel
theorem d_Reader_openForm_36 : decode b_Reader_openForm 36 = .ok (.iconst 1, 1) := by decide +kernel
theorem d_Reader_openForm_37 : decode b_Reader_openForm 37 = .ok (.ireturn, 1) := by decide +kernel
theorem ki_Reader_openForm : Cond.instanceMethod y_Reader_openForm ∈ lw_g := lw_in (List.mem_append_right _ (List.mem_of_getElem? (i := 375) (by decide +kernel))) rfl
theorem ke_Reader_openForm : Cond.selects R_Reader y_Reader_openForm y_Reader_openForm ∈ lw_g := lw_in (List.mem_append_left _ (List.mem_map.mpr ⟨(y_Reader_openForm, 6), by decide +kernel, rfl⟩)) rfl
-- Reader_isDigit: maxLocals 1, ret (some .boolean)
theorem kc_Reader_isDigit : Cond.code y_Reader_isDigit b_Reader_isDigit 1 (some .boolean) ∈ lw_g := lw_in (List.mem_append_right _ (List.mem_of_getElem? (i := 357) (by decide +kernel))) rfl
theorem d_Reader_isDigit_0 : decode b_Reader_isDigit 0 = .ok (.iload_n 0, 1) := by decide +kernel
theorem d_Reader_isDigit_1 : decode b_Reader_isDigit 1 = .ok (.bipush 48, 2) := by decide +kernel
theorem d_Reader_isDigit_3 : decode b_Reader_isDigit 3 = .ok (.if_icmp .lt 13, 3) := by decide +kernel
theorem d_Reader_isDigit_6 : decode b_Reader_isDigit 6 = .ok (.iload_n 0, 1) := by decide +kernel
theorem d_Reader_isDigit_7 : decode b_Reader_isDigit 7 = .ok (.bipush 57, 2) := by decide +kernel
theorem d_Reader_isDigit_9 : decode b_Reader_isDigit 9 = .ok (.if_icmp .gt 7, 3) := by decide +kernel
theorem d_Reader_isDigit_12 : decode b_Reader_isDigit 12 = .ok (.iconst 1, 1) := by decide +kernel
theorem d_Reader_isDigit_13 : decode b_Reader_isDigit 13 = .ok (.goto 4, 3) := by decide +kernel
theorem d_Reader_isDigit_16 : decode b_Reader_isDigit 16 = .ok (.iconst 0, 1) := by decide +kernel
theorem d_Reader_isDigit_17 : decode b_Reader_isDigit 17 = .ok (.ireturn, 1) := by decide +kernel
theorem ks_Reader_isDigit : Cond.static y_Reader_isDigit ∈ lw_g := lw_in (List.mem_append_right _ (List.mem_of_getElem? (i := 356) (by decide +kernel))) rfl
-- Reader_isName: maxLocals 1, ret (some .boolean)
theorem kc_Reader_isName : Cond.code y_Reader_isName b_Reader_isName 1 (some .boolean) ∈ lw_g := lw_in (List.mem_append_right _ (List.mem_of_getElem? (i := 372) (by decide +kernel))) rfl
theorem d_Reader_isName_0 : decode b_Reader_isName 0 = .ok (.iload_n 0, 1) := by decide +kernel
theorem d_Reader_isName_1 : decode b_Reader_isName 1 = .ok (.bipush 97, 2) := by decide +kernel
theorem d_Reader_isName_3 : decode b_Reader_isName 3 = .ok (.if_icmp .lt 13, 3) := by decide +kernel
theorem d_Reader_isName_6 : decode b_Reader_isName 6 = .ok (.iload_n 0, 1) := by decide +kernel
theorem d_Reader_isName_7 : decode b_Reader_isName 7 = .ok (.bipush 122, 2) := by decide +kernel
theorem d_Reader_isName_9 : decode b_Reader_isName 9 = .ok (.if_icmp .gt 7, 3) := by decide +kernel
theorem d_Reader_isName_12 : decode b_Reader_isName 12 = .ok (.iconst 1, 1) := by decide +kernel
theorem d_Reader_isName_13 : decode b_Reader_isName 13 = .ok (.goto 4, 3) := by decide +kernel
theorem d_Reader_isName_16 : decode b_Reader_isName 16 = .ok (.iconst 0, 1) := by decide +kernel
theorem d_Reader_isName_17 : decode b_Reader_isName 17 = .ok (.ireturn, 1) := by decide +kernel
theorem ks_Reader_isName : Cond.static y_Reader_isName ∈ lw_g := lw_in (List.mem_append_right _ (List.mem_of_getElem? (i := 371) (by decide +kernel))) rfl
def T_Value : u_T := fun k => match k with
  | _ => ("", "", "", false)
def ty_Value : Nat → FieldType := fun k => match k with
  | _ => .int
theorem nm_Value : ∀ a, a < 0 → ∀ b, b < 0 → a ≠ b → (T_Value a).2.1 ≠ (T_Value b).2.1 := by decide +kernel
theorem ty_Value_ok : ∀ k, k < 0 → parseFieldDescriptor (T_Value k).2.2.1 = some (ty_Value k) := by decide +kernel
theorem in_Value_l : u_ws R_Value T_Value 0 = ([] : List Nat).filterMap (fun i => tables_1[i]?) := by decide +kernel
theorem in_Value : ∀ w ∈ u_ws R_Value T_Value 0, w ∈ lw_g := fun w h => by
  have hg : (u_ws R_Value T_Value 0).all goodWord = true := by decide +kernel
  refine lw_in ?_ (List.all_eq_true.mp hg w h)
  rw [in_Value_l] at h
  obtain ⟨i, -, hi⟩ := List.mem_filterMap.mp h
  exact List.mem_append_right _ (List.mem_of_getElem? hi)
theorem k_Value_ini : Cond.initialized R_Value ∈ lw_g := lw_in (List.mem_append_right _ (List.mem_of_getElem? (i := 9) (by decide +kernel))) rfl
-- Value_init: maxLocals 1, ret none
theorem kc_Value_init : Cond.code y_Value_init b_Value_init 1 none ∈ lw_g := lw_in (List.mem_append_right _ (List.mem_of_getElem? (i := 152) (by decide +kernel))) rfl
theorem d_Value_init_0 : decode b_Value_init 0 = .ok (.aload_n 0, 1) := by decide +kernel
theorem d_Value_init_1 : decode b_Value_init 1 = .ok (.invokespecial 1, 3) := by decide +kernel
theorem k_Value_m1 : Cond.methodLink R_Value 1 objectInit ∈ lw_g := lw_in (List.mem_append_right _ (List.mem_of_getElem? (i := 153) (by decide +kernel))) rfl
theorem d_Value_init_4 : decode b_Value_init 4 = .ok (.return_, 1) := by decide +kernel
theorem ki_Value_init : Cond.instanceMethod y_Value_init ∈ lw_g := lw_in (List.mem_append_right _ (List.mem_of_getElem? (i := 151) (by decide +kernel))) rfl
-- Value_isSame: maxLocals 2, ret (some .boolean)
theorem kc_Value_isSame : Cond.code y_Value_isSame b_Value_isSame 2 (some .boolean) ∈ lw_g := lw_in (List.mem_append_right _ (List.mem_of_getElem? (i := 946) (by decide +kernel))) rfl
theorem d_Value_isSame_0 : decode b_Value_isSame 0 = .ok (.aload_n 0, 1) := by decide +kernel
theorem d_Value_isSame_1 : decode b_Value_isSame 1 = .ok (.aload_n 1, 1) := by decide +kernel
theorem d_Value_isSame_2 : decode b_Value_isSame 2 = .ok (.if_acmp .ne 7, 3) := by decide +kernel
theorem d_Value_isSame_5 : decode b_Value_isSame 5 = .ok (.iconst 1, 1) := by decide +kernel
theorem d_Value_isSame_6 : decode b_Value_isSame 6 = .ok (.goto 4, 3) := by decide +kernel
theorem d_Value_isSame_9 : decode b_Value_isSame 9 = .ok (.iconst 0, 1) := by decide +kernel
theorem d_Value_isSame_10 : decode b_Value_isSame 10 = .ok (.ireturn, 1) := by decide +kernel
theorem ki_Value_isSame : Cond.instanceMethod y_Value_isSame ∈ lw_g := lw_in (List.mem_append_right _ (List.mem_of_getElem? (i := 933) (by decide +kernel))) rfl
def T_Waiting : u_T := fun k => match k with
  | 0 => ("ContinuationCore$Waiting", "form", "LContinuationCore$Expression;", true)
  | 1 => ("ContinuationCore$Waiting", "scope", "LContinuationCore$Binding;", true)
  | 2 => ("ContinuationCore$Waiting", "done", "[LContinuationCore$Value;", true)
  | 3 => ("ContinuationCore$Waiting", "behind", "LContinuationCore$Waiting;", true)
  | _ => ("ContinuationCore$Waiting", "depth", "I", true)
def ty_Waiting : Nat → FieldType := fun k => match k with
  | 0 => .object "ContinuationCore$Expression"
  | 1 => .object "ContinuationCore$Binding"
  | 2 => .array (.object "ContinuationCore$Value")
  | 3 => .object "ContinuationCore$Waiting"
  | _ => .int
theorem nm_Waiting : ∀ a, a < 5 → ∀ b, b < 5 → a ≠ b → (T_Waiting a).2.1 ≠ (T_Waiting b).2.1 := by decide +kernel
theorem ty_Waiting_ok : ∀ k, k < 5 → parseFieldDescriptor (T_Waiting k).2.2.1 = some (ty_Waiting k) := by decide +kernel
theorem in_Waiting_l : u_ws R_Waiting T_Waiting 5 = ([619, 621, 623, 625, 627] : List Nat).filterMap (fun i => tables_1[i]?) := by decide +kernel
theorem in_Waiting : ∀ w ∈ u_ws R_Waiting T_Waiting 5, w ∈ lw_g := fun w h => by
  have hg : (u_ws R_Waiting T_Waiting 5).all goodWord = true := by decide +kernel
  refine lw_in ?_ (List.all_eq_true.mp hg w h)
  rw [in_Waiting_l] at h
  obtain ⟨i, -, hi⟩ := List.mem_filterMap.mp h
  exact List.mem_append_right _ (List.mem_of_getElem? hi)
theorem k_Waiting_inst : Cond.instantiable R_Waiting 5 ∈ lw_g := lw_in (List.mem_append_right _ (List.mem_of_getElem? (i := 605) (by decide +kernel))) rfl
theorem k_Waiting_ini : Cond.initialized R_Waiting ∈ lw_g := lw_in (List.mem_append_right _ (List.mem_of_getElem? (i := 24) (by decide +kernel))) rfl
-- Waiting_init: maxLocals 5, ret none
theorem kc_Waiting_init : Cond.code y_Waiting_init b_Waiting_init 5 none ∈ lw_g := lw_in (List.mem_append_right _ (List.mem_of_getElem? (i := 608) (by decide +kernel))) rfl
theorem d_Waiting_init_0 : decode b_Waiting_init 0 = .ok (.aload_n 0, 1) := by decide +kernel
theorem d_Waiting_init_1 : decode b_Waiting_init 1 = .ok (.invokespecial 1, 3) := by decide +kernel
theorem k_Waiting_m1 : Cond.methodLink R_Waiting 1 objectInit ∈ lw_g := lw_in (List.mem_append_right _ (List.mem_of_getElem? (i := 609) (by decide +kernel))) rfl
theorem d_Waiting_init_4 : decode b_Waiting_init 4 = .ok (.aload_n 0, 1) := by decide +kernel
theorem d_Waiting_init_5 : decode b_Waiting_init 5 = .ok (.aload_n 1, 1) := by decide +kernel
theorem d_Waiting_init_6 : decode b_Waiting_init 6 = .ok (.putfield 7, 3) := by decide +kernel
theorem k_Waiting_f7 : Cond.fieldLink R_Waiting 7 "ContinuationCore$Waiting" "form" "LContinuationCore$Expression;" ∈ lw_g := lw_in (List.mem_append_right _ (List.mem_of_getElem? (i := 610) (by decide +kernel))) rfl
theorem d_Waiting_init_9 : decode b_Waiting_init 9 = .ok (.aload_n 0, 1) := by decide +kernel
theorem d_Waiting_init_10 : decode b_Waiting_init 10 = .ok (.aload_n 2, 1) := by decide +kernel
theorem d_Waiting_init_11 : decode b_Waiting_init 11 = .ok (.putfield 13, 3) := by decide +kernel
theorem k_Waiting_f13 : Cond.fieldLink R_Waiting 13 "ContinuationCore$Waiting" "scope" "LContinuationCore$Binding;" ∈ lw_g := lw_in (List.mem_append_right _ (List.mem_of_getElem? (i := 612) (by decide +kernel))) rfl
theorem d_Waiting_init_14 : decode b_Waiting_init 14 = .ok (.aload_n 0, 1) := by decide +kernel
theorem d_Waiting_init_15 : decode b_Waiting_init 15 = .ok (.aload_n 3, 1) := by decide +kernel
theorem d_Waiting_init_16 : decode b_Waiting_init 16 = .ok (.putfield 17, 3) := by decide +kernel
theorem k_Waiting_f17 : Cond.fieldLink R_Waiting 17 "ContinuationCore$Waiting" "done" "[LContinuationCore$Value;" ∈ lw_g := lw_in (List.mem_append_right _ (List.mem_of_getElem? (i := 614) (by decide +kernel))) rfl
theorem d_Waiting_init_19 : decode b_Waiting_init 19 = .ok (.aload_n 0, 1) := by decide +kernel
theorem d_Waiting_init_20 : decode b_Waiting_init 20 = .ok (.aload 4, 2) := by decide +kernel
theorem d_Waiting_init_22 : decode b_Waiting_init 22 = .ok (.putfield 21, 3) := by decide +kernel
theorem k_Waiting_f21 : Cond.fieldLink R_Waiting 21 "ContinuationCore$Waiting" "behind" "LContinuationCore$Waiting;" ∈ lw_g := lw_in (List.mem_append_right _ (List.mem_of_getElem? (i := 615) (by decide +kernel))) rfl
theorem d_Waiting_init_25 : decode b_Waiting_init 25 = .ok (.aload_n 0, 1) := by decide +kernel
theorem d_Waiting_init_26 : decode b_Waiting_init 26 = .ok (.aload 4, 2) := by decide +kernel
theorem d_Waiting_init_28 : decode b_Waiting_init 28 = .ok (.ifnonnull 7, 3) := by decide +kernel
theorem d_Waiting_init_31 : decode b_Waiting_init 31 = .ok (.iconst 1, 1) := by decide +kernel
theorem d_Waiting_init_32 : decode b_Waiting_init 32 = .ok (.goto 10, 3) := by decide +kernel
theorem d_Waiting_init_35 : decode b_Waiting_init 35 = .ok (.aload 4, 2) := by decide +kernel
theorem d_Waiting_init_37 : decode b_Waiting_init 37 = .ok (.getfield 25, 3) := by decide +kernel
theorem k_Waiting_f25 : Cond.fieldLink R_Waiting 25 "ContinuationCore$Waiting" "depth" "I" ∈ lw_g := lw_in (List.mem_append_right _ (List.mem_of_getElem? (i := 617) (by decide +kernel))) rfl
theorem d_Waiting_init_40 : decode b_Waiting_init 40 = .ok (.iconst 1, 1) := by decide +kernel
theorem d_Waiting_init_41 : decode b_Waiting_init 41 = .ok (.iadd, 1) := by decide +kernel
theorem d_Waiting_init_42 : decode b_Waiting_init 42 = .ok (.putfield 25, 3) := by decide +kernel
theorem d_Waiting_init_45 : decode b_Waiting_init 45 = .ok (.return_, 1) := by decide +kernel
theorem ki_Waiting_init : Cond.instanceMethod y_Waiting_init ∈ lw_g := lw_in (List.mem_append_right _ (List.mem_of_getElem? (i := 607) (by decide +kernel))) rfl
-- Waiting_doneWith: maxLocals 4, ret (some (.array (.object "ContinuationCore$Value")))
theorem kc_Waiting_doneWith : Cond.code y_Waiting_doneWith b_Waiting_doneWith 4 (some (.array (.object "ContinuationCore$Value"))) ∈ lw_g := lw_in (List.mem_append_right _ (List.mem_of_getElem? (i := 885) (by decide +kernel))) rfl
theorem d_Waiting_doneWith_0 : decode b_Waiting_doneWith 0 = .ok (.aload_n 0, 1) := by decide +kernel
theorem d_Waiting_doneWith_1 : decode b_Waiting_doneWith 1 = .ok (.getfield 17, 3) := by decide +kernel
theorem d_Waiting_doneWith_4 : decode b_Waiting_doneWith 4 = .ok (.arraylength, 1) := by decide +kernel
theorem d_Waiting_doneWith_5 : decode b_Waiting_doneWith 5 = .ok (.iconst 1, 1) := by decide +kernel
theorem d_Waiting_doneWith_6 : decode b_Waiting_doneWith 6 = .ok (.iadd, 1) := by decide +kernel
theorem d_Waiting_doneWith_7 : decode b_Waiting_doneWith 7 = .ok (.anewarray 29, 3) := by decide +kernel
theorem k_Waiting_c29 : Cond.classLink R_Waiting 29 "ContinuationCore$Value" ∈ lw_g := lw_in (List.mem_append_right _ (List.mem_of_getElem? (i := 886) (by decide +kernel))) rfl
theorem d_Waiting_doneWith_10 : decode b_Waiting_doneWith 10 = .ok (.astore_n 2, 1) := by decide +kernel
theorem d_Waiting_doneWith_11 : decode b_Waiting_doneWith 11 = .ok (.iconst 0, 1) := by decide +kernel
theorem d_Waiting_doneWith_12 : decode b_Waiting_doneWith 12 = .ok (.istore_n 3, 1) := by decide +kernel
theorem d_Waiting_doneWith_13 : decode b_Waiting_doneWith 13 = .ok (.iload_n 3, 1) := by decide +kernel
theorem d_Waiting_doneWith_14 : decode b_Waiting_doneWith 14 = .ok (.aload_n 0, 1) := by decide +kernel
theorem d_Waiting_doneWith_15 : decode b_Waiting_doneWith 15 = .ok (.getfield 17, 3) := by decide +kernel
theorem d_Waiting_doneWith_18 : decode b_Waiting_doneWith 18 = .ok (.arraylength, 1) := by decide +kernel
theorem d_Waiting_doneWith_19 : decode b_Waiting_doneWith 19 = .ok (.if_icmp .ge 18, 3) := by decide +kernel
theorem d_Waiting_doneWith_22 : decode b_Waiting_doneWith 22 = .ok (.aload_n 2, 1) := by decide +kernel
theorem d_Waiting_doneWith_23 : decode b_Waiting_doneWith 23 = .ok (.iload_n 3, 1) := by decide +kernel
theorem d_Waiting_doneWith_24 : decode b_Waiting_doneWith 24 = .ok (.aload_n 0, 1) := by decide +kernel
theorem d_Waiting_doneWith_25 : decode b_Waiting_doneWith 25 = .ok (.getfield 17, 3) := by decide +kernel
theorem d_Waiting_doneWith_28 : decode b_Waiting_doneWith 28 = .ok (.iload_n 3, 1) := by decide +kernel
theorem d_Waiting_doneWith_29 : decode b_Waiting_doneWith 29 = .ok (.aaload, 1) := by decide +kernel
theorem d_Waiting_doneWith_30 : decode b_Waiting_doneWith 30 = .ok (.aastore, 1) := by decide +kernel
theorem d_Waiting_doneWith_31 : decode b_Waiting_doneWith 31 = .ok (.iinc 3 1, 3) := by decide +kernel
theorem d_Waiting_doneWith_34 : decode b_Waiting_doneWith 34 = .ok (.goto (-21), 3) := by decide +kernel
theorem d_Waiting_doneWith_37 : decode b_Waiting_doneWith 37 = .ok (.aload_n 2, 1) := by decide +kernel
theorem d_Waiting_doneWith_38 : decode b_Waiting_doneWith 38 = .ok (.aload_n 0, 1) := by decide +kernel
theorem d_Waiting_doneWith_39 : decode b_Waiting_doneWith 39 = .ok (.getfield 17, 3) := by decide +kernel
theorem d_Waiting_doneWith_42 : decode b_Waiting_doneWith 42 = .ok (.arraylength, 1) := by decide +kernel
theorem d_Waiting_doneWith_43 : decode b_Waiting_doneWith 43 = .ok (.aload_n 1, 1) := by decide +kernel
theorem d_Waiting_doneWith_44 : decode b_Waiting_doneWith 44 = .ok (.aastore, 1) := by decide +kernel
theorem d_Waiting_doneWith_45 : decode b_Waiting_doneWith 45 = .ok (.aload_n 2, 1) := by decide +kernel
theorem d_Waiting_doneWith_46 : decode b_Waiting_doneWith 46 = .ok (.areturn, 1) := by decide +kernel
theorem ki_Waiting_doneWith : Cond.instanceMethod y_Waiting_doneWith ∈ lw_g := lw_in (List.mem_append_right _ (List.mem_of_getElem? (i := 883) (by decide +kernel))) rfl
theorem ke_Waiting_doneWith : Cond.selects R_Waiting y_Waiting_doneWith y_Waiting_doneWith ∈ lw_g := lw_in (List.mem_append_right _ (List.mem_of_getElem? (i := 884) (by decide +kernel))) rfl
-- Law_text: maxLocals 5, ret (some .int), table [(0, 9, 12, 13), (0, 9, 16, 15)]
theorem kc_Law_text : Cond.codeWith y_Law_text b_Law_text 5 (some .int) [(0, 9, 12, 13), (0, 9, 16, 15)] ∈ lw_g := lw_in (List.mem_append_right _ (List.mem_of_getElem? (i := 251) (by decide +kernel))) rfl
theorem d_Law_text_0 : decode b_Law_text 0 = .ok (.aload_n 3, 1) := by decide +kernel
theorem d_Law_text_1 : decode b_Law_text 1 = .ok (.iconst 0, 1) := by decide +kernel
theorem d_Law_text_2 : decode b_Law_text 2 = .ok (.aload_n 0, 1) := by decide +kernel
theorem d_Law_text_3 : decode b_Law_text 3 = .ok (.lload_n 1, 1) := by decide +kernel
theorem d_Law_text_4 : decode b_Law_text 4 = .ok (.invokevirtual 7, 3) := by decide +kernel
theorem k_Law_m7 : Cond.methodLink R_Law 7 y_C_text ∈ lw_g := lw_in (List.mem_append_right _ (List.mem_of_getElem? (i := 254) (by decide +kernel))) rfl
theorem d_Law_text_7 : decode b_Law_text 7 = .ok (.i2l, 1) := by decide +kernel
theorem d_Law_text_8 : decode b_Law_text 8 = .ok (.lastore, 1) := by decide +kernel
theorem d_Law_text_9 : decode b_Law_text 9 = .ok (.goto 11, 3) := by decide +kernel
theorem d_Law_text_12 : decode b_Law_text 12 = .ok (.astore 4, 2) := by decide +kernel
theorem d_Law_text_14 : decode b_Law_text 14 = .ok (.iconst 1, 1) := by decide +kernel
theorem d_Law_text_15 : decode b_Law_text 15 = .ok (.ireturn, 1) := by decide +kernel
theorem d_Law_text_16 : decode b_Law_text 16 = .ok (.astore 4, 2) := by decide +kernel
theorem d_Law_text_18 : decode b_Law_text 18 = .ok (.iconst 2, 1) := by decide +kernel
theorem d_Law_text_19 : decode b_Law_text 19 = .ok (.ireturn, 1) := by decide +kernel
theorem d_Law_text_20 : decode b_Law_text 20 = .ok (.iconst 0, 1) := by decide +kernel
theorem d_Law_text_21 : decode b_Law_text 21 = .ok (.ireturn, 1) := by decide +kernel
theorem ks_Law_text : Cond.static y_Law_text ∈ lw_g := lw_in (List.mem_append_right _ (List.mem_of_getElem? (i := 250) (by decide +kernel))) rfl
-- Law_clear: maxLocals 3, ret (some .int), table [(0, 8, 11, 13)]
theorem kc_Law_clear : Cond.codeWith y_Law_clear b_Law_clear 3 (some .int) [(0, 8, 11, 13)] ∈ lw_g := lw_in (List.mem_append_right _ (List.mem_of_getElem? (i := 498) (by decide +kernel))) rfl
theorem d_Law_clear_0 : decode b_Law_clear 0 = .ok (.aload_n 1, 1) := by decide +kernel
theorem d_Law_clear_1 : decode b_Law_clear 1 = .ok (.iconst 0, 1) := by decide +kernel
theorem d_Law_clear_2 : decode b_Law_clear 2 = .ok (.aload_n 0, 1) := by decide +kernel
theorem d_Law_clear_3 : decode b_Law_clear 3 = .ok (.invokevirtual 17, 3) := by decide +kernel
theorem k_Law_m17 : Cond.methodLink R_Law 17 y_C_clear ∈ lw_g := lw_in (List.mem_append_right _ (List.mem_of_getElem? (i := 499) (by decide +kernel))) rfl
theorem d_Law_clear_6 : decode b_Law_clear 6 = .ok (.i2l, 1) := by decide +kernel
theorem d_Law_clear_7 : decode b_Law_clear 7 = .ok (.lastore, 1) := by decide +kernel
theorem d_Law_clear_8 : decode b_Law_clear 8 = .ok (.goto 6, 3) := by decide +kernel
theorem d_Law_clear_11 : decode b_Law_clear 11 = .ok (.astore_n 2, 1) := by decide +kernel
theorem d_Law_clear_12 : decode b_Law_clear 12 = .ok (.iconst 1, 1) := by decide +kernel
theorem d_Law_clear_13 : decode b_Law_clear 13 = .ok (.ireturn, 1) := by decide +kernel
theorem d_Law_clear_14 : decode b_Law_clear 14 = .ok (.iconst 0, 1) := by decide +kernel
theorem d_Law_clear_15 : decode b_Law_clear 15 = .ok (.ireturn, 1) := by decide +kernel
theorem ks_Law_clear : Cond.static y_Law_clear ∈ lw_g := lw_in (List.mem_append_right _ (List.mem_of_getElem? (i := 497) (by decide +kernel))) rfl
-- Law_given: maxLocals 5, ret (some .int), table [(0, 10, 13, 13), (0, 10, 17, 15)]
theorem kc_Law_given : Cond.codeWith y_Law_given b_Law_given 5 (some .int) [(0, 10, 13, 13), (0, 10, 17, 15)] ∈ lw_g := lw_in (List.mem_append_right _ (List.mem_of_getElem? (i := 505) (by decide +kernel))) rfl
theorem d_Law_given_0 : decode b_Law_given 0 = .ok (.aload_n 3, 1) := by decide +kernel
theorem d_Law_given_1 : decode b_Law_given 1 = .ok (.iconst 0, 1) := by decide +kernel
theorem d_Law_given_2 : decode b_Law_given 2 = .ok (.aload_n 0, 1) := by decide +kernel
theorem d_Law_given_3 : decode b_Law_given 3 = .ok (.iload_n 1, 1) := by decide +kernel
theorem d_Law_given_4 : decode b_Law_given 4 = .ok (.iload_n 2, 1) := by decide +kernel
theorem d_Law_given_5 : decode b_Law_given 5 = .ok (.invokevirtual 21, 3) := by decide +kernel
theorem k_Law_m21 : Cond.methodLink R_Law 21 y_C_given ∈ lw_g := lw_in (List.mem_append_right _ (List.mem_of_getElem? (i := 506) (by decide +kernel))) rfl
theorem d_Law_given_8 : decode b_Law_given 8 = .ok (.i2l, 1) := by decide +kernel
theorem d_Law_given_9 : decode b_Law_given 9 = .ok (.lastore, 1) := by decide +kernel
theorem d_Law_given_10 : decode b_Law_given 10 = .ok (.goto 11, 3) := by decide +kernel
theorem d_Law_given_13 : decode b_Law_given 13 = .ok (.astore 4, 2) := by decide +kernel
theorem d_Law_given_15 : decode b_Law_given 15 = .ok (.iconst 1, 1) := by decide +kernel
theorem d_Law_given_16 : decode b_Law_given 16 = .ok (.ireturn, 1) := by decide +kernel
theorem d_Law_given_17 : decode b_Law_given 17 = .ok (.astore 4, 2) := by decide +kernel
theorem d_Law_given_19 : decode b_Law_given 19 = .ok (.iconst 2, 1) := by decide +kernel
theorem d_Law_given_20 : decode b_Law_given 20 = .ok (.ireturn, 1) := by decide +kernel
theorem d_Law_given_21 : decode b_Law_given 21 = .ok (.iconst 0, 1) := by decide +kernel
theorem d_Law_given_22 : decode b_Law_given 22 = .ok (.ireturn, 1) := by decide +kernel
theorem ks_Law_given : Cond.static y_Law_given ∈ lw_g := lw_in (List.mem_append_right _ (List.mem_of_getElem? (i := 504) (by decide +kernel))) rfl
-- Law_start: maxLocals 3, ret (some .int), table [(0, 8, 11, 13)]
theorem kc_Law_start : Cond.codeWith y_Law_start b_Law_start 3 (some .int) [(0, 8, 11, 13)] ∈ lw_g := lw_in (List.mem_append_right _ (List.mem_of_getElem? (i := 527) (by decide +kernel))) rfl
theorem d_Law_start_0 : decode b_Law_start 0 = .ok (.aload_n 1, 1) := by decide +kernel
theorem d_Law_start_1 : decode b_Law_start 1 = .ok (.iconst 0, 1) := by decide +kernel
theorem d_Law_start_2 : decode b_Law_start 2 = .ok (.aload_n 0, 1) := by decide +kernel
theorem d_Law_start_3 : decode b_Law_start 3 = .ok (.invokevirtual 25, 3) := by decide +kernel
theorem k_Law_m25 : Cond.methodLink R_Law 25 y_C_start ∈ lw_g := lw_in (List.mem_append_right _ (List.mem_of_getElem? (i := 528) (by decide +kernel))) rfl
theorem d_Law_start_6 : decode b_Law_start 6 = .ok (.i2l, 1) := by decide +kernel
theorem d_Law_start_7 : decode b_Law_start 7 = .ok (.lastore, 1) := by decide +kernel
theorem d_Law_start_8 : decode b_Law_start 8 = .ok (.goto 6, 3) := by decide +kernel
theorem d_Law_start_11 : decode b_Law_start 11 = .ok (.astore_n 2, 1) := by decide +kernel
theorem d_Law_start_12 : decode b_Law_start 12 = .ok (.iconst 1, 1) := by decide +kernel
theorem d_Law_start_13 : decode b_Law_start 13 = .ok (.ireturn, 1) := by decide +kernel
theorem d_Law_start_14 : decode b_Law_start 14 = .ok (.iconst 0, 1) := by decide +kernel
theorem d_Law_start_15 : decode b_Law_start 15 = .ok (.ireturn, 1) := by decide +kernel
theorem ks_Law_start : Cond.static y_Law_start ∈ lw_g := lw_in (List.mem_append_right _ (List.mem_of_getElem? (i := 526) (by decide +kernel))) rfl
-- Law_run: maxLocals 4, ret (some .int), table [(0, 9, 12, 13), (0, 9, 15, 15), (0, 9, 18, 32), (0, 9, 21, 34)]
theorem kc_Law_run : Cond.codeWith y_Law_run b_Law_run 4 (some .int) [(0, 9, 12, 13), (0, 9, 15, 15), (0, 9, 18, 32), (0, 9, 21, 34)] ∈ lw_g := lw_in (List.mem_append_right _ (List.mem_of_getElem? (i := 547) (by decide +kernel))) rfl
theorem d_Law_run_0 : decode b_Law_run 0 = .ok (.aload_n 2, 1) := by decide +kernel
theorem d_Law_run_1 : decode b_Law_run 1 = .ok (.iconst 0, 1) := by decide +kernel
theorem d_Law_run_2 : decode b_Law_run 2 = .ok (.aload_n 0, 1) := by decide +kernel
theorem d_Law_run_3 : decode b_Law_run 3 = .ok (.iload_n 1, 1) := by decide +kernel
theorem d_Law_run_4 : decode b_Law_run 4 = .ok (.invokevirtual 28, 3) := by decide +kernel
theorem k_Law_m28 : Cond.methodLink R_Law 28 y_C_run ∈ lw_g := lw_in (List.mem_append_right _ (List.mem_of_getElem? (i := 550) (by decide +kernel))) rfl
theorem d_Law_run_7 : decode b_Law_run 7 = .ok (.i2l, 1) := by decide +kernel
theorem d_Law_run_8 : decode b_Law_run 8 = .ok (.lastore, 1) := by decide +kernel
theorem d_Law_run_9 : decode b_Law_run 9 = .ok (.goto 15, 3) := by decide +kernel
theorem d_Law_run_12 : decode b_Law_run 12 = .ok (.astore_n 3, 1) := by decide +kernel
theorem d_Law_run_13 : decode b_Law_run 13 = .ok (.iconst 1, 1) := by decide +kernel
theorem d_Law_run_14 : decode b_Law_run 14 = .ok (.ireturn, 1) := by decide +kernel
theorem d_Law_run_15 : decode b_Law_run 15 = .ok (.astore_n 3, 1) := by decide +kernel
theorem d_Law_run_16 : decode b_Law_run 16 = .ok (.iconst 2, 1) := by decide +kernel
theorem d_Law_run_17 : decode b_Law_run 17 = .ok (.ireturn, 1) := by decide +kernel
theorem d_Law_run_18 : decode b_Law_run 18 = .ok (.astore_n 3, 1) := by decide +kernel
theorem d_Law_run_19 : decode b_Law_run 19 = .ok (.iconst 3, 1) := by decide +kernel
theorem d_Law_run_20 : decode b_Law_run 20 = .ok (.ireturn, 1) := by decide +kernel
theorem d_Law_run_21 : decode b_Law_run 21 = .ok (.astore_n 3, 1) := by decide +kernel
theorem d_Law_run_22 : decode b_Law_run 22 = .ok (.iconst 4, 1) := by decide +kernel
theorem d_Law_run_23 : decode b_Law_run 23 = .ok (.ireturn, 1) := by decide +kernel
theorem d_Law_run_24 : decode b_Law_run 24 = .ok (.iconst 0, 1) := by decide +kernel
theorem d_Law_run_25 : decode b_Law_run 25 = .ok (.ireturn, 1) := by decide +kernel
theorem ks_Law_run : Cond.static y_Law_run ∈ lw_g := lw_in (List.mem_append_right _ (List.mem_of_getElem? (i := 546) (by decide +kernel))) rfl
-- Law_stop: maxLocals 3, ret (some .int), table [(0, 8, 11, 13)]
theorem kc_Law_stop : Cond.codeWith y_Law_stop b_Law_stop 3 (some .int) [(0, 8, 11, 13)] ∈ lw_g := lw_in (List.mem_append_right _ (List.mem_of_getElem? (i := 995) (by decide +kernel))) rfl
theorem d_Law_stop_0 : decode b_Law_stop 0 = .ok (.aload_n 1, 1) := by decide +kernel
theorem d_Law_stop_1 : decode b_Law_stop 1 = .ok (.iconst 0, 1) := by decide +kernel
theorem d_Law_stop_2 : decode b_Law_stop 2 = .ok (.aload_n 0, 1) := by decide +kernel
theorem d_Law_stop_3 : decode b_Law_stop 3 = .ok (.invokevirtual 36, 3) := by decide +kernel
theorem k_Law_m36 : Cond.methodLink R_Law 36 y_C_stop ∈ lw_g := lw_in (List.mem_append_right _ (List.mem_of_getElem? (i := 996) (by decide +kernel))) rfl
theorem d_Law_stop_6 : decode b_Law_stop 6 = .ok (.i2l, 1) := by decide +kernel
theorem d_Law_stop_7 : decode b_Law_stop 7 = .ok (.lastore, 1) := by decide +kernel
theorem d_Law_stop_8 : decode b_Law_stop 8 = .ok (.goto 6, 3) := by decide +kernel
theorem d_Law_stop_11 : decode b_Law_stop 11 = .ok (.astore_n 2, 1) := by decide +kernel
theorem d_Law_stop_12 : decode b_Law_stop 12 = .ok (.iconst 1, 1) := by decide +kernel
theorem d_Law_stop_13 : decode b_Law_stop 13 = .ok (.ireturn, 1) := by decide +kernel
theorem d_Law_stop_14 : decode b_Law_stop 14 = .ok (.iconst 0, 1) := by decide +kernel
theorem d_Law_stop_15 : decode b_Law_stop 15 = .ok (.ireturn, 1) := by decide +kernel
theorem ks_Law_stop : Cond.static y_Law_stop ∈ lw_g := lw_in (List.mem_append_right _ (List.mem_of_getElem? (i := 994) (by decide +kernel))) rfl
-- Law_state: maxLocals 4, ret (some .int), table [(0, 9, 12, 15)]
theorem kc_Law_state : Cond.codeWith y_Law_state b_Law_state 4 (some .int) [(0, 9, 12, 15)] ∈ lw_g := lw_in (List.mem_append_right _ (List.mem_of_getElem? (i := 1002) (by decide +kernel))) rfl
theorem d_Law_state_0 : decode b_Law_state 0 = .ok (.aload_n 2, 1) := by decide +kernel
theorem d_Law_state_1 : decode b_Law_state 1 = .ok (.iconst 0, 1) := by decide +kernel
theorem d_Law_state_2 : decode b_Law_state 2 = .ok (.aload_n 0, 1) := by decide +kernel
theorem d_Law_state_3 : decode b_Law_state 3 = .ok (.iload_n 1, 1) := by decide +kernel
theorem d_Law_state_4 : decode b_Law_state 4 = .ok (.invokevirtual 39, 3) := by decide +kernel
theorem k_Law_m39 : Cond.methodLink R_Law 39 y_C_state ∈ lw_g := lw_in (List.mem_append_right _ (List.mem_of_getElem? (i := 1003) (by decide +kernel))) rfl
theorem d_Law_state_7 : decode b_Law_state 7 = .ok (.i2l, 1) := by decide +kernel
theorem d_Law_state_8 : decode b_Law_state 8 = .ok (.lastore, 1) := by decide +kernel
theorem d_Law_state_9 : decode b_Law_state 9 = .ok (.goto 6, 3) := by decide +kernel
theorem d_Law_state_12 : decode b_Law_state 12 = .ok (.astore_n 3, 1) := by decide +kernel
theorem d_Law_state_13 : decode b_Law_state 13 = .ok (.iconst 1, 1) := by decide +kernel
theorem d_Law_state_14 : decode b_Law_state 14 = .ok (.ireturn, 1) := by decide +kernel
theorem d_Law_state_15 : decode b_Law_state 15 = .ok (.iconst 0, 1) := by decide +kernel
theorem d_Law_state_16 : decode b_Law_state 16 = .ok (.ireturn, 1) := by decide +kernel
theorem ks_Law_state : Cond.static y_Law_state ∈ lw_g := lw_in (List.mem_append_right _ (List.mem_of_getElem? (i := 1001) (by decide +kernel))) rfl
-- Law_sign: maxLocals 4, ret (some .int), table [(0, 9, 12, 13), (0, 9, 15, 15)]
theorem kc_Law_sign : Cond.codeWith y_Law_sign b_Law_sign 4 (some .int) [(0, 9, 12, 13), (0, 9, 15, 15)] ∈ lw_g := lw_in (List.mem_append_right _ (List.mem_of_getElem? (i := 1011) (by decide +kernel))) rfl
theorem d_Law_sign_0 : decode b_Law_sign 0 = .ok (.aload_n 2, 1) := by decide +kernel
theorem d_Law_sign_1 : decode b_Law_sign 1 = .ok (.iconst 0, 1) := by decide +kernel
theorem d_Law_sign_2 : decode b_Law_sign 2 = .ok (.aload_n 0, 1) := by decide +kernel
theorem d_Law_sign_3 : decode b_Law_sign 3 = .ok (.iload_n 1, 1) := by decide +kernel
theorem d_Law_sign_4 : decode b_Law_sign 4 = .ok (.invokevirtual 42, 3) := by decide +kernel
theorem k_Law_m42 : Cond.methodLink R_Law 42 y_C_sign ∈ lw_g := lw_in (List.mem_append_right _ (List.mem_of_getElem? (i := 1012) (by decide +kernel))) rfl
theorem d_Law_sign_7 : decode b_Law_sign 7 = .ok (.i2l, 1) := by decide +kernel
theorem d_Law_sign_8 : decode b_Law_sign 8 = .ok (.lastore, 1) := by decide +kernel
theorem d_Law_sign_9 : decode b_Law_sign 9 = .ok (.goto 9, 3) := by decide +kernel
theorem d_Law_sign_12 : decode b_Law_sign 12 = .ok (.astore_n 3, 1) := by decide +kernel
theorem d_Law_sign_13 : decode b_Law_sign 13 = .ok (.iconst 1, 1) := by decide +kernel
theorem d_Law_sign_14 : decode b_Law_sign 14 = .ok (.ireturn, 1) := by decide +kernel
theorem d_Law_sign_15 : decode b_Law_sign 15 = .ok (.astore_n 3, 1) := by decide +kernel
theorem d_Law_sign_16 : decode b_Law_sign 16 = .ok (.iconst 2, 1) := by decide +kernel
theorem d_Law_sign_17 : decode b_Law_sign 17 = .ok (.ireturn, 1) := by decide +kernel
theorem d_Law_sign_18 : decode b_Law_sign 18 = .ok (.iconst 0, 1) := by decide +kernel
theorem d_Law_sign_19 : decode b_Law_sign 19 = .ok (.ireturn, 1) := by decide +kernel
theorem ks_Law_sign : Cond.static y_Law_sign ∈ lw_g := lw_in (List.mem_append_right _ (List.mem_of_getElem? (i := 1010) (by decide +kernel))) rfl
-- Law_global: maxLocals 4, ret (some .int), table [(0, 9, 12, 15), (0, 9, 15, 48)]
theorem kc_Law_global : Cond.codeWith y_Law_global b_Law_global 4 (some .int) [(0, 9, 12, 15), (0, 9, 15, 48)] ∈ lw_g := lw_in (List.mem_append_right _ (List.mem_of_getElem? (i := 1031) (by decide +kernel))) rfl
theorem d_Law_global_0 : decode b_Law_global 0 = .ok (.aload_n 2, 1) := by decide +kernel
theorem d_Law_global_1 : decode b_Law_global 1 = .ok (.iconst 0, 1) := by decide +kernel
theorem d_Law_global_2 : decode b_Law_global 2 = .ok (.aload_n 0, 1) := by decide +kernel
theorem d_Law_global_3 : decode b_Law_global 3 = .ok (.iload_n 1, 1) := by decide +kernel
theorem d_Law_global_4 : decode b_Law_global 4 = .ok (.invokevirtual 45, 3) := by decide +kernel
theorem k_Law_m45 : Cond.methodLink R_Law 45 y_C_global ∈ lw_g := lw_in (List.mem_append_right _ (List.mem_of_getElem? (i := 1033) (by decide +kernel))) rfl
theorem d_Law_global_7 : decode b_Law_global 7 = .ok (.i2l, 1) := by decide +kernel
theorem d_Law_global_8 : decode b_Law_global 8 = .ok (.lastore, 1) := by decide +kernel
theorem d_Law_global_9 : decode b_Law_global 9 = .ok (.goto 9, 3) := by decide +kernel
theorem d_Law_global_12 : decode b_Law_global 12 = .ok (.astore_n 3, 1) := by decide +kernel
theorem d_Law_global_13 : decode b_Law_global 13 = .ok (.iconst 1, 1) := by decide +kernel
theorem d_Law_global_14 : decode b_Law_global 14 = .ok (.ireturn, 1) := by decide +kernel
theorem d_Law_global_15 : decode b_Law_global 15 = .ok (.astore_n 3, 1) := by decide +kernel
theorem d_Law_global_16 : decode b_Law_global 16 = .ok (.iconst 2, 1) := by decide +kernel
theorem d_Law_global_17 : decode b_Law_global 17 = .ok (.ireturn, 1) := by decide +kernel
theorem d_Law_global_18 : decode b_Law_global 18 = .ok (.iconst 0, 1) := by decide +kernel
theorem d_Law_global_19 : decode b_Law_global 19 = .ok (.ireturn, 1) := by decide +kernel
theorem ks_Law_global : Cond.static y_Law_global ∈ lw_g := lw_in (List.mem_append_right _ (List.mem_of_getElem? (i := 1030) (by decide +kernel))) rfl
theorem d_Law_law_0 : decode b_Law_law 0 = .ok (.new 8, 3) := by decide +kernel
theorem k_Law_c8 : Cond.classLink R_Law 8 "ContinuationCore" ∈ lw_g := lw_in (List.mem_append_right _ (List.mem_of_getElem? (i := 34) (by decide +kernel))) rfl
theorem d_Law_law_3 : decode b_Law_law 3 = .ok (.dup, 1) := by decide +kernel
theorem d_Law_law_4 : decode b_Law_law 4 = .ok (.invokespecial 50, 3) := by decide +kernel
theorem k_Law_m50 : Cond.methodLink R_Law 50 y_C_init ∈ lw_g := lw_in (List.mem_append_right _ (List.mem_of_getElem? (i := 36) (by decide +kernel))) rfl
theorem d_Law_law_7 : decode b_Law_law 7 = .ok (.astore_n 1, 1) := by decide +kernel
theorem d_Law_law_8 : decode b_Law_law 8 = .ok (.new 51, 3) := by decide +kernel
theorem k_Law_c51 : Cond.classLink R_Law 51 "ContinuationCoreModel" ∈ lw_g := lw_in (List.mem_append_right _ (List.mem_of_getElem? (i := 1053) (by decide +kernel))) rfl
theorem d_Law_law_11 : decode b_Law_law 11 = .ok (.dup, 1) := by decide +kernel
theorem d_Law_law_12 : decode b_Law_law 12 = .ok (.invokespecial 53, 3) := by decide +kernel
theorem k_Law_m53 : Cond.methodLink R_Law 53 ⟨"ContinuationCoreModel", "<init>", "()V"⟩ ∈ lw_g := lw_in (List.mem_append_right _ (List.mem_of_getElem? (i := 1055) (by decide +kernel))) rfl
theorem d_Law_law_15 : decode b_Law_law 15 = .ok (.astore_n 2, 1) := by decide +kernel
theorem d_Law_law_16 : decode b_Law_law 16 = .ok (.iconst 1, 1) := by decide +kernel
theorem d_Law_law_17 : decode b_Law_law 17 = .ok (.newarray .long, 2) := by decide +kernel
theorem d_Law_law_19 : decode b_Law_law 19 = .ok (.astore_n 3, 1) := by decide +kernel
theorem d_Law_law_20 : decode b_Law_law 20 = .ok (.iconst 0, 1) := by decide +kernel
theorem d_Law_law_21 : decode b_Law_law 21 = .ok (.istore 4, 2) := by decide +kernel
theorem d_Law_law_23 : decode b_Law_law 23 = .ok (.iload 4, 2) := by decide +kernel
theorem d_Law_law_25 : decode b_Law_law 25 = .ok (.aload_n 0, 1) := by decide +kernel
theorem d_Law_law_26 : decode b_Law_law 26 = .ok (.arraylength, 1) := by decide +kernel
theorem d_Law_law_27 : decode b_Law_law 27 = .ok (.iconst 3, 1) := by decide +kernel
theorem d_Law_law_28 : decode b_Law_law 28 = .ok (.isub, 1) := by decide +kernel
theorem d_Law_law_29 : decode b_Law_law 29 = .ok (.if_icmp .gt 594, 3) := by decide +kernel
theorem d_Law_law_32 : decode b_Law_law 32 = .ok (.aload_n 0, 1) := by decide +kernel
theorem d_Law_law_33 : decode b_Law_law 33 = .ok (.iload 4, 2) := by decide +kernel
theorem d_Law_law_35 : decode b_Law_law 35 = .ok (.iaload, 1) := by decide +kernel
theorem d_Law_law_36 : decode b_Law_law 36 = .ok (.bipush 15, 2) := by decide +kernel
theorem d_Law_law_38 : decode b_Law_law 38 = .ok (.iand, 1) := by decide +kernel
theorem d_Law_law_39 : decode b_Law_law 39 = .ok (.tableswitch 578 0 9 #[53, 141, 185, 198, 266, 310, 366, 410, 466, 522], 53) := by decide +kernel
theorem d_Law_law_92 : decode b_Law_law 92 = .ok (.aload_n 1, 1) := by decide +kernel
theorem d_Law_law_93 : decode b_Law_law 93 = .ok (.aload_n 0, 1) := by decide +kernel
theorem d_Law_law_94 : decode b_Law_law 94 = .ok (.iload 4, 2) := by decide +kernel
theorem d_Law_law_96 : decode b_Law_law 96 = .ok (.iconst 1, 1) := by decide +kernel
theorem d_Law_law_97 : decode b_Law_law 97 = .ok (.iadd, 1) := by decide +kernel
theorem d_Law_law_98 : decode b_Law_law 98 = .ok (.iaload, 1) := by decide +kernel
theorem d_Law_law_99 : decode b_Law_law 99 = .ok (.i2l, 1) := by decide +kernel
theorem d_Law_law_100 : decode b_Law_law 100 = .ok (.bipush 32, 2) := by decide +kernel
theorem d_Law_law_102 : decode b_Law_law 102 = .ok (.lshl, 1) := by decide +kernel
theorem d_Law_law_103 : decode b_Law_law 103 = .ok (.aload_n 0, 1) := by decide +kernel
theorem d_Law_law_104 : decode b_Law_law 104 = .ok (.iload 4, 2) := by decide +kernel
theorem d_Law_law_106 : decode b_Law_law 106 = .ok (.iconst 2, 1) := by decide +kernel
theorem d_Law_law_107 : decode b_Law_law 107 = .ok (.iadd, 1) := by decide +kernel
theorem d_Law_law_108 : decode b_Law_law 108 = .ok (.iaload, 1) := by decide +kernel
theorem d_Law_law_109 : decode b_Law_law 109 = .ok (.i2l, 1) := by decide +kernel
theorem d_Law_law_110 : decode b_Law_law 110 = .ok (.ldc2_w 54, 3) := by decide +kernel
theorem d_Law_law_113 : decode b_Law_law 113 = .ok (.land, 1) := by decide +kernel
theorem d_Law_law_114 : decode b_Law_law 114 = .ok (.lor, 1) := by decide +kernel
theorem d_Law_law_115 : decode b_Law_law 115 = .ok (.aload_n 3, 1) := by decide +kernel
theorem d_Law_law_116 : decode b_Law_law 116 = .ok (.invokestatic 56, 3) := by decide +kernel
theorem k_Law_m56 : Cond.methodLink R_Law 56 y_Law_text ∈ lw_g := lw_in (List.mem_append_right _ (List.mem_of_getElem? (i := 249) (by decide +kernel))) rfl
theorem d_Law_law_119 : decode b_Law_law 119 = .ok (.istore 5, 2) := by decide +kernel
theorem d_Law_law_121 : decode b_Law_law 121 = .ok (.aload_n 2, 1) := by decide +kernel
theorem d_Law_law_122 : decode b_Law_law 122 = .ok (.aload_n 0, 1) := by decide +kernel
theorem d_Law_law_123 : decode b_Law_law 123 = .ok (.iload 4, 2) := by decide +kernel
theorem d_Law_law_125 : decode b_Law_law 125 = .ok (.iconst 1, 1) := by decide +kernel
theorem d_Law_law_126 : decode b_Law_law 126 = .ok (.iadd, 1) := by decide +kernel
theorem d_Law_law_127 : decode b_Law_law 127 = .ok (.iaload, 1) := by decide +kernel
theorem d_Law_law_128 : decode b_Law_law 128 = .ok (.i2l, 1) := by decide +kernel
theorem d_Law_law_129 : decode b_Law_law 129 = .ok (.bipush 32, 2) := by decide +kernel
theorem d_Law_law_131 : decode b_Law_law 131 = .ok (.lshl, 1) := by decide +kernel
theorem d_Law_law_132 : decode b_Law_law 132 = .ok (.aload_n 0, 1) := by decide +kernel
theorem d_Law_law_133 : decode b_Law_law 133 = .ok (.iload 4, 2) := by decide +kernel
theorem d_Law_law_135 : decode b_Law_law 135 = .ok (.iconst 2, 1) := by decide +kernel
theorem d_Law_law_136 : decode b_Law_law 136 = .ok (.iadd, 1) := by decide +kernel
theorem d_Law_law_137 : decode b_Law_law 137 = .ok (.iaload, 1) := by decide +kernel
theorem d_Law_law_138 : decode b_Law_law 138 = .ok (.i2l, 1) := by decide +kernel
theorem d_Law_law_139 : decode b_Law_law 139 = .ok (.ldc2_w 54, 3) := by decide +kernel
theorem d_Law_law_142 : decode b_Law_law 142 = .ok (.land, 1) := by decide +kernel
theorem d_Law_law_143 : decode b_Law_law 143 = .ok (.lor, 1) := by decide +kernel
theorem d_Law_law_144 : decode b_Law_law 144 = .ok (.invokevirtual 61, 3) := by decide +kernel
theorem k_Law_m61 : Cond.methodLink R_Law 61 ⟨"ContinuationCoreModel", "text", "(J)I"⟩ ∈ lw_g := lw_in (List.mem_append_right _ (List.mem_of_getElem? (i := 1185) (by decide +kernel))) rfl
theorem d_Law_law_147 : decode b_Law_law 147 = .ok (.istore 6, 2) := by decide +kernel
theorem d_Law_law_149 : decode b_Law_law 149 = .ok (.aload_n 2, 1) := by decide +kernel
theorem d_Law_law_150 : decode b_Law_law 150 = .ok (.invokevirtual 62, 3) := by decide +kernel
theorem k_Law_m62 : Cond.methodLink R_Law 62 ⟨"ContinuationCoreModel", "thrown", "()I"⟩ ∈ lw_g := lw_in (List.mem_append_right _ (List.mem_of_getElem? (i := 1181) (by decide +kernel))) rfl
theorem d_Law_law_153 : decode b_Law_law 153 = .ok (.iload 5, 2) := by decide +kernel
theorem d_Law_law_155 : decode b_Law_law 155 = .ok (.if_icmp .eq 5, 3) := by decide +kernel
theorem d_Law_law_158 : decode b_Law_law 158 = .ok (.iconst 0, 1) := by decide +kernel
theorem d_Law_law_159 : decode b_Law_law 159 = .ok (.ireturn, 1) := by decide +kernel
theorem d_Law_law_160 : decode b_Law_law 160 = .ok (.iload 5, 2) := by decide +kernel
theorem d_Law_law_162 : decode b_Law_law 162 = .ok (.ifCond .ne 15, 3) := by decide +kernel
theorem d_Law_law_165 : decode b_Law_law 165 = .ok (.aload_n 3, 1) := by decide +kernel
theorem d_Law_law_166 : decode b_Law_law 166 = .ok (.iconst 0, 1) := by decide +kernel
theorem d_Law_law_167 : decode b_Law_law 167 = .ok (.laload, 1) := by decide +kernel
theorem d_Law_law_168 : decode b_Law_law 168 = .ok (.iload 6, 2) := by decide +kernel
theorem d_Law_law_170 : decode b_Law_law 170 = .ok (.i2l, 1) := by decide +kernel
theorem d_Law_law_171 : decode b_Law_law 171 = .ok (.lcmp, 1) := by decide +kernel
theorem d_Law_law_172 : decode b_Law_law 172 = .ok (.ifCond .eq 5, 3) := by decide +kernel
theorem d_Law_law_175 : decode b_Law_law 175 = .ok (.iconst 0, 1) := by decide +kernel
theorem d_Law_law_176 : decode b_Law_law 176 = .ok (.ireturn, 1) := by decide +kernel
theorem d_Law_law_177 : decode b_Law_law 177 = .ok (.goto 440, 3) := by decide +kernel
theorem d_Law_law_180 : decode b_Law_law 180 = .ok (.aload_n 1, 1) := by decide +kernel
theorem d_Law_law_181 : decode b_Law_law 181 = .ok (.aload_n 3, 1) := by decide +kernel
theorem d_Law_law_182 : decode b_Law_law 182 = .ok (.invokestatic 65, 3) := by decide +kernel
theorem k_Law_m65 : Cond.methodLink R_Law 65 y_Law_clear ∈ lw_g := lw_in (List.mem_append_right _ (List.mem_of_getElem? (i := 496) (by decide +kernel))) rfl
theorem d_Law_law_185 : decode b_Law_law 185 = .ok (.istore 5, 2) := by decide +kernel
theorem d_Law_law_187 : decode b_Law_law 187 = .ok (.aload_n 2, 1) := by decide +kernel
theorem d_Law_law_188 : decode b_Law_law 188 = .ok (.invokevirtual 68, 3) := by decide +kernel
theorem k_Law_m68 : Cond.methodLink R_Law 68 ⟨"ContinuationCoreModel", "clear", "()I"⟩ ∈ lw_g := lw_in (List.mem_append_right _ (List.mem_of_getElem? (i := 1226) (by decide +kernel))) rfl
theorem d_Law_law_191 : decode b_Law_law 191 = .ok (.istore 6, 2) := by decide +kernel
theorem d_Law_law_193 : decode b_Law_law 193 = .ok (.aload_n 2, 1) := by decide +kernel
theorem d_Law_law_194 : decode b_Law_law 194 = .ok (.invokevirtual 62, 3) := by decide +kernel
theorem d_Law_law_197 : decode b_Law_law 197 = .ok (.iload 5, 2) := by decide +kernel
theorem d_Law_law_199 : decode b_Law_law 199 = .ok (.if_icmp .eq 5, 3) := by decide +kernel
theorem d_Law_law_202 : decode b_Law_law 202 = .ok (.iconst 0, 1) := by decide +kernel
theorem d_Law_law_203 : decode b_Law_law 203 = .ok (.ireturn, 1) := by decide +kernel
theorem d_Law_law_204 : decode b_Law_law 204 = .ok (.iload 5, 2) := by decide +kernel
theorem d_Law_law_206 : decode b_Law_law 206 = .ok (.ifCond .ne 15, 3) := by decide +kernel
theorem d_Law_law_209 : decode b_Law_law 209 = .ok (.aload_n 3, 1) := by decide +kernel
theorem d_Law_law_210 : decode b_Law_law 210 = .ok (.iconst 0, 1) := by decide +kernel
theorem d_Law_law_211 : decode b_Law_law 211 = .ok (.laload, 1) := by decide +kernel
theorem d_Law_law_212 : decode b_Law_law 212 = .ok (.iload 6, 2) := by decide +kernel
theorem d_Law_law_214 : decode b_Law_law 214 = .ok (.i2l, 1) := by decide +kernel
theorem d_Law_law_215 : decode b_Law_law 215 = .ok (.lcmp, 1) := by decide +kernel
theorem d_Law_law_216 : decode b_Law_law 216 = .ok (.ifCond .eq 5, 3) := by decide +kernel
theorem d_Law_law_219 : decode b_Law_law 219 = .ok (.iconst 0, 1) := by decide +kernel
theorem d_Law_law_220 : decode b_Law_law 220 = .ok (.ireturn, 1) := by decide +kernel
theorem d_Law_law_221 : decode b_Law_law 221 = .ok (.goto 396, 3) := by decide +kernel
theorem d_Law_law_224 : decode b_Law_law 224 = .ok (.aload_n 1, 1) := by decide +kernel
theorem d_Law_law_225 : decode b_Law_law 225 = .ok (.invokevirtual 69, 3) := by decide +kernel
theorem k_Law_m69 : Cond.methodLink R_Law 69 y_C_whole ∈ lw_g := lw_in (List.mem_append_right _ (List.mem_of_getElem? (i := 241) (by decide +kernel))) rfl
theorem d_Law_law_228 : decode b_Law_law 228 = .ok (.aload_n 2, 1) := by decide +kernel
theorem d_Law_law_229 : decode b_Law_law 229 = .ok (.invokevirtual 72, 3) := by decide +kernel
theorem k_Law_m72 : Cond.methodLink R_Law 72 ⟨"ContinuationCoreModel", "whole", "()I"⟩ ∈ lw_g := lw_in (List.mem_append_right _ (List.mem_of_getElem? (i := 1230) (by decide +kernel))) rfl
theorem d_Law_law_232 : decode b_Law_law 232 = .ok (.if_icmp .eq 385, 3) := by decide +kernel
theorem d_Law_law_235 : decode b_Law_law 235 = .ok (.iconst 0, 1) := by decide +kernel
theorem d_Law_law_236 : decode b_Law_law 236 = .ok (.ireturn, 1) := by decide +kernel
theorem d_Law_law_237 : decode b_Law_law 237 = .ok (.aload_n 1, 1) := by decide +kernel
theorem d_Law_law_238 : decode b_Law_law 238 = .ok (.aload_n 0, 1) := by decide +kernel
theorem d_Law_law_239 : decode b_Law_law 239 = .ok (.iload 4, 2) := by decide +kernel
theorem d_Law_law_241 : decode b_Law_law 241 = .ok (.iconst 1, 1) := by decide +kernel
theorem d_Law_law_242 : decode b_Law_law 242 = .ok (.iadd, 1) := by decide +kernel
theorem d_Law_law_243 : decode b_Law_law 243 = .ok (.iaload, 1) := by decide +kernel
theorem d_Law_law_244 : decode b_Law_law 244 = .ok (.aload_n 0, 1) := by decide +kernel
theorem d_Law_law_245 : decode b_Law_law 245 = .ok (.iload 4, 2) := by decide +kernel
theorem d_Law_law_247 : decode b_Law_law 247 = .ok (.iconst 2, 1) := by decide +kernel
theorem d_Law_law_248 : decode b_Law_law 248 = .ok (.iadd, 1) := by decide +kernel
theorem d_Law_law_249 : decode b_Law_law 249 = .ok (.iaload, 1) := by decide +kernel
theorem d_Law_law_250 : decode b_Law_law 250 = .ok (.aload_n 3, 1) := by decide +kernel
theorem d_Law_law_251 : decode b_Law_law 251 = .ok (.invokestatic 73, 3) := by decide +kernel
theorem k_Law_m73 : Cond.methodLink R_Law 73 y_Law_given ∈ lw_g := lw_in (List.mem_append_right _ (List.mem_of_getElem? (i := 503) (by decide +kernel))) rfl
theorem d_Law_law_254 : decode b_Law_law 254 = .ok (.istore 5, 2) := by decide +kernel
theorem d_Law_law_256 : decode b_Law_law 256 = .ok (.aload_n 2, 1) := by decide +kernel
theorem d_Law_law_257 : decode b_Law_law 257 = .ok (.aload_n 0, 1) := by decide +kernel
theorem d_Law_law_258 : decode b_Law_law 258 = .ok (.iload 4, 2) := by decide +kernel
theorem d_Law_law_260 : decode b_Law_law 260 = .ok (.iconst 1, 1) := by decide +kernel
theorem d_Law_law_261 : decode b_Law_law 261 = .ok (.iadd, 1) := by decide +kernel
theorem d_Law_law_262 : decode b_Law_law 262 = .ok (.iaload, 1) := by decide +kernel
theorem d_Law_law_263 : decode b_Law_law 263 = .ok (.aload_n 0, 1) := by decide +kernel
theorem d_Law_law_264 : decode b_Law_law 264 = .ok (.iload 4, 2) := by decide +kernel
theorem d_Law_law_266 : decode b_Law_law 266 = .ok (.iconst 2, 1) := by decide +kernel
theorem d_Law_law_267 : decode b_Law_law 267 = .ok (.iadd, 1) := by decide +kernel
theorem d_Law_law_268 : decode b_Law_law 268 = .ok (.iaload, 1) := by decide +kernel
theorem d_Law_law_269 : decode b_Law_law 269 = .ok (.invokevirtual 76, 3) := by decide +kernel
theorem k_Law_m76 : Cond.methodLink R_Law 76 ⟨"ContinuationCoreModel", "given", "(II)I"⟩ ∈ lw_g := lw_in (List.mem_append_right _ (List.mem_of_getElem? (i := 1238) (by decide +kernel))) rfl
theorem d_Law_law_272 : decode b_Law_law 272 = .ok (.istore 6, 2) := by decide +kernel
theorem d_Law_law_274 : decode b_Law_law 274 = .ok (.aload_n 2, 1) := by decide +kernel
theorem d_Law_law_275 : decode b_Law_law 275 = .ok (.invokevirtual 62, 3) := by decide +kernel
theorem d_Law_law_278 : decode b_Law_law 278 = .ok (.iload 5, 2) := by decide +kernel
theorem d_Law_law_280 : decode b_Law_law 280 = .ok (.if_icmp .eq 5, 3) := by decide +kernel
theorem d_Law_law_283 : decode b_Law_law 283 = .ok (.iconst 0, 1) := by decide +kernel
theorem d_Law_law_284 : decode b_Law_law 284 = .ok (.ireturn, 1) := by decide +kernel
theorem d_Law_law_285 : decode b_Law_law 285 = .ok (.iload 5, 2) := by decide +kernel
theorem d_Law_law_287 : decode b_Law_law 287 = .ok (.ifCond .ne 15, 3) := by decide +kernel
theorem d_Law_law_290 : decode b_Law_law 290 = .ok (.aload_n 3, 1) := by decide +kernel
theorem d_Law_law_291 : decode b_Law_law 291 = .ok (.iconst 0, 1) := by decide +kernel
theorem d_Law_law_292 : decode b_Law_law 292 = .ok (.laload, 1) := by decide +kernel
theorem d_Law_law_293 : decode b_Law_law 293 = .ok (.iload 6, 2) := by decide +kernel
theorem d_Law_law_295 : decode b_Law_law 295 = .ok (.i2l, 1) := by decide +kernel
theorem d_Law_law_296 : decode b_Law_law 296 = .ok (.lcmp, 1) := by decide +kernel
theorem d_Law_law_297 : decode b_Law_law 297 = .ok (.ifCond .eq 5, 3) := by decide +kernel
theorem d_Law_law_300 : decode b_Law_law 300 = .ok (.iconst 0, 1) := by decide +kernel
theorem d_Law_law_301 : decode b_Law_law 301 = .ok (.ireturn, 1) := by decide +kernel
theorem d_Law_law_302 : decode b_Law_law 302 = .ok (.goto 315, 3) := by decide +kernel
theorem d_Law_law_305 : decode b_Law_law 305 = .ok (.aload_n 1, 1) := by decide +kernel
theorem d_Law_law_306 : decode b_Law_law 306 = .ok (.aload_n 3, 1) := by decide +kernel
theorem d_Law_law_307 : decode b_Law_law 307 = .ok (.invokestatic 77, 3) := by decide +kernel
theorem k_Law_m77 : Cond.methodLink R_Law 77 y_Law_start ∈ lw_g := lw_in (List.mem_append_right _ (List.mem_of_getElem? (i := 525) (by decide +kernel))) rfl
theorem d_Law_law_310 : decode b_Law_law 310 = .ok (.istore 5, 2) := by decide +kernel
theorem d_Law_law_312 : decode b_Law_law 312 = .ok (.aload_n 2, 1) := by decide +kernel
theorem d_Law_law_313 : decode b_Law_law 313 = .ok (.invokevirtual 79, 3) := by decide +kernel
theorem k_Law_m79 : Cond.methodLink R_Law 79 ⟨"ContinuationCoreModel", "start", "()I"⟩ ∈ lw_g := lw_in (List.mem_append_right _ (List.mem_of_getElem? (i := 1242) (by decide +kernel))) rfl
theorem d_Law_law_316 : decode b_Law_law 316 = .ok (.istore 6, 2) := by decide +kernel
theorem d_Law_law_318 : decode b_Law_law 318 = .ok (.aload_n 2, 1) := by decide +kernel
theorem d_Law_law_319 : decode b_Law_law 319 = .ok (.invokevirtual 62, 3) := by decide +kernel
theorem d_Law_law_322 : decode b_Law_law 322 = .ok (.iload 5, 2) := by decide +kernel
theorem d_Law_law_324 : decode b_Law_law 324 = .ok (.if_icmp .eq 5, 3) := by decide +kernel
theorem d_Law_law_327 : decode b_Law_law 327 = .ok (.iconst 0, 1) := by decide +kernel
theorem d_Law_law_328 : decode b_Law_law 328 = .ok (.ireturn, 1) := by decide +kernel
theorem d_Law_law_329 : decode b_Law_law 329 = .ok (.iload 5, 2) := by decide +kernel
theorem d_Law_law_331 : decode b_Law_law 331 = .ok (.ifCond .ne 15, 3) := by decide +kernel
theorem d_Law_law_334 : decode b_Law_law 334 = .ok (.aload_n 3, 1) := by decide +kernel
theorem d_Law_law_335 : decode b_Law_law 335 = .ok (.iconst 0, 1) := by decide +kernel
theorem d_Law_law_336 : decode b_Law_law 336 = .ok (.laload, 1) := by decide +kernel
theorem d_Law_law_337 : decode b_Law_law 337 = .ok (.iload 6, 2) := by decide +kernel
theorem d_Law_law_339 : decode b_Law_law 339 = .ok (.i2l, 1) := by decide +kernel
theorem d_Law_law_340 : decode b_Law_law 340 = .ok (.lcmp, 1) := by decide +kernel
theorem d_Law_law_341 : decode b_Law_law 341 = .ok (.ifCond .eq 5, 3) := by decide +kernel
theorem d_Law_law_344 : decode b_Law_law 344 = .ok (.iconst 0, 1) := by decide +kernel
theorem d_Law_law_345 : decode b_Law_law 345 = .ok (.ireturn, 1) := by decide +kernel
theorem d_Law_law_346 : decode b_Law_law 346 = .ok (.goto 271, 3) := by decide +kernel
theorem d_Law_law_349 : decode b_Law_law 349 = .ok (.aload_n 1, 1) := by decide +kernel
theorem d_Law_law_350 : decode b_Law_law 350 = .ok (.aload_n 0, 1) := by decide +kernel
theorem d_Law_law_351 : decode b_Law_law 351 = .ok (.iload 4, 2) := by decide +kernel
theorem d_Law_law_353 : decode b_Law_law 353 = .ok (.iconst 1, 1) := by decide +kernel
theorem d_Law_law_354 : decode b_Law_law 354 = .ok (.iadd, 1) := by decide +kernel
theorem d_Law_law_355 : decode b_Law_law 355 = .ok (.iaload, 1) := by decide +kernel
theorem d_Law_law_356 : decode b_Law_law 356 = .ok (.aload_n 3, 1) := by decide +kernel
theorem d_Law_law_357 : decode b_Law_law 357 = .ok (.invokestatic 80, 3) := by decide +kernel
theorem k_Law_m80 : Cond.methodLink R_Law 80 y_Law_run ∈ lw_g := lw_in (List.mem_append_right _ (List.mem_of_getElem? (i := 545) (by decide +kernel))) rfl
theorem d_Law_law_360 : decode b_Law_law 360 = .ok (.istore 5, 2) := by decide +kernel
theorem d_Law_law_362 : decode b_Law_law 362 = .ok (.aload_n 2, 1) := by decide +kernel
theorem d_Law_law_363 : decode b_Law_law 363 = .ok (.aload_n 0, 1) := by decide +kernel
theorem d_Law_law_364 : decode b_Law_law 364 = .ok (.iload 4, 2) := by decide +kernel
theorem d_Law_law_366 : decode b_Law_law 366 = .ok (.iconst 1, 1) := by decide +kernel
theorem d_Law_law_367 : decode b_Law_law 367 = .ok (.iadd, 1) := by decide +kernel
theorem d_Law_law_368 : decode b_Law_law 368 = .ok (.iaload, 1) := by decide +kernel
theorem d_Law_law_369 : decode b_Law_law 369 = .ok (.invokevirtual 83, 3) := by decide +kernel
theorem k_Law_m83 : Cond.methodLink R_Law 83 ⟨"ContinuationCoreModel", "run", "(I)I"⟩ ∈ lw_g := lw_in (List.mem_append_right _ (List.mem_of_getElem? (i := 1250) (by decide +kernel))) rfl
theorem d_Law_law_372 : decode b_Law_law 372 = .ok (.istore 6, 2) := by decide +kernel
theorem d_Law_law_374 : decode b_Law_law 374 = .ok (.aload_n 2, 1) := by decide +kernel
theorem d_Law_law_375 : decode b_Law_law 375 = .ok (.invokevirtual 62, 3) := by decide +kernel
theorem d_Law_law_378 : decode b_Law_law 378 = .ok (.iload 5, 2) := by decide +kernel
theorem d_Law_law_380 : decode b_Law_law 380 = .ok (.if_icmp .eq 5, 3) := by decide +kernel
theorem d_Law_law_383 : decode b_Law_law 383 = .ok (.iconst 0, 1) := by decide +kernel
theorem d_Law_law_384 : decode b_Law_law 384 = .ok (.ireturn, 1) := by decide +kernel
theorem d_Law_law_385 : decode b_Law_law 385 = .ok (.iload 5, 2) := by decide +kernel
theorem d_Law_law_387 : decode b_Law_law 387 = .ok (.ifCond .ne 15, 3) := by decide +kernel
theorem d_Law_law_390 : decode b_Law_law 390 = .ok (.aload_n 3, 1) := by decide +kernel
theorem d_Law_law_391 : decode b_Law_law 391 = .ok (.iconst 0, 1) := by decide +kernel
theorem d_Law_law_392 : decode b_Law_law 392 = .ok (.laload, 1) := by decide +kernel
theorem d_Law_law_393 : decode b_Law_law 393 = .ok (.iload 6, 2) := by decide +kernel
theorem d_Law_law_395 : decode b_Law_law 395 = .ok (.i2l, 1) := by decide +kernel
theorem d_Law_law_396 : decode b_Law_law 396 = .ok (.lcmp, 1) := by decide +kernel
theorem d_Law_law_397 : decode b_Law_law 397 = .ok (.ifCond .eq 5, 3) := by decide +kernel
theorem d_Law_law_400 : decode b_Law_law 400 = .ok (.iconst 0, 1) := by decide +kernel
theorem d_Law_law_401 : decode b_Law_law 401 = .ok (.ireturn, 1) := by decide +kernel
theorem d_Law_law_402 : decode b_Law_law 402 = .ok (.goto 215, 3) := by decide +kernel
theorem d_Law_law_405 : decode b_Law_law 405 = .ok (.aload_n 1, 1) := by decide +kernel
theorem d_Law_law_406 : decode b_Law_law 406 = .ok (.aload_n 3, 1) := by decide +kernel
theorem d_Law_law_407 : decode b_Law_law 407 = .ok (.invokestatic 84, 3) := by decide +kernel
theorem k_Law_m84 : Cond.methodLink R_Law 84 y_Law_stop ∈ lw_g := lw_in (List.mem_append_right _ (List.mem_of_getElem? (i := 993) (by decide +kernel))) rfl
theorem d_Law_law_410 : decode b_Law_law 410 = .ok (.istore 5, 2) := by decide +kernel
theorem d_Law_law_412 : decode b_Law_law 412 = .ok (.aload_n 2, 1) := by decide +kernel
theorem d_Law_law_413 : decode b_Law_law 413 = .ok (.invokevirtual 86, 3) := by decide +kernel
theorem k_Law_m86 : Cond.methodLink R_Law 86 ⟨"ContinuationCoreModel", "stop", "()I"⟩ ∈ lw_g := lw_in (List.mem_append_right _ (List.mem_of_getElem? (i := 1318) (by decide +kernel))) rfl
theorem d_Law_law_416 : decode b_Law_law 416 = .ok (.istore 6, 2) := by decide +kernel
theorem d_Law_law_418 : decode b_Law_law 418 = .ok (.aload_n 2, 1) := by decide +kernel
theorem d_Law_law_419 : decode b_Law_law 419 = .ok (.invokevirtual 62, 3) := by decide +kernel
theorem d_Law_law_422 : decode b_Law_law 422 = .ok (.iload 5, 2) := by decide +kernel
theorem d_Law_law_424 : decode b_Law_law 424 = .ok (.if_icmp .eq 5, 3) := by decide +kernel
theorem d_Law_law_427 : decode b_Law_law 427 = .ok (.iconst 0, 1) := by decide +kernel
theorem d_Law_law_428 : decode b_Law_law 428 = .ok (.ireturn, 1) := by decide +kernel
theorem d_Law_law_429 : decode b_Law_law 429 = .ok (.iload 5, 2) := by decide +kernel
theorem d_Law_law_431 : decode b_Law_law 431 = .ok (.ifCond .ne 15, 3) := by decide +kernel
theorem d_Law_law_434 : decode b_Law_law 434 = .ok (.aload_n 3, 1) := by decide +kernel
theorem d_Law_law_435 : decode b_Law_law 435 = .ok (.iconst 0, 1) := by decide +kernel
theorem d_Law_law_436 : decode b_Law_law 436 = .ok (.laload, 1) := by decide +kernel
theorem d_Law_law_437 : decode b_Law_law 437 = .ok (.iload 6, 2) := by decide +kernel
theorem d_Law_law_439 : decode b_Law_law 439 = .ok (.i2l, 1) := by decide +kernel
theorem d_Law_law_440 : decode b_Law_law 440 = .ok (.lcmp, 1) := by decide +kernel
theorem d_Law_law_441 : decode b_Law_law 441 = .ok (.ifCond .eq 5, 3) := by decide +kernel
theorem d_Law_law_444 : decode b_Law_law 444 = .ok (.iconst 0, 1) := by decide +kernel
theorem d_Law_law_445 : decode b_Law_law 445 = .ok (.ireturn, 1) := by decide +kernel
theorem d_Law_law_446 : decode b_Law_law 446 = .ok (.goto 171, 3) := by decide +kernel
theorem d_Law_law_449 : decode b_Law_law 449 = .ok (.aload_n 1, 1) := by decide +kernel
theorem d_Law_law_450 : decode b_Law_law 450 = .ok (.aload_n 0, 1) := by decide +kernel
theorem d_Law_law_451 : decode b_Law_law 451 = .ok (.iload 4, 2) := by decide +kernel
theorem d_Law_law_453 : decode b_Law_law 453 = .ok (.iconst 1, 1) := by decide +kernel
theorem d_Law_law_454 : decode b_Law_law 454 = .ok (.iadd, 1) := by decide +kernel
theorem d_Law_law_455 : decode b_Law_law 455 = .ok (.iaload, 1) := by decide +kernel
theorem d_Law_law_456 : decode b_Law_law 456 = .ok (.aload_n 3, 1) := by decide +kernel
theorem d_Law_law_457 : decode b_Law_law 457 = .ok (.invokestatic 87, 3) := by decide +kernel
theorem k_Law_m87 : Cond.methodLink R_Law 87 y_Law_state ∈ lw_g := lw_in (List.mem_append_right _ (List.mem_of_getElem? (i := 1000) (by decide +kernel))) rfl
theorem d_Law_law_460 : decode b_Law_law 460 = .ok (.istore 5, 2) := by decide +kernel
theorem d_Law_law_462 : decode b_Law_law 462 = .ok (.aload_n 2, 1) := by decide +kernel
theorem d_Law_law_463 : decode b_Law_law 463 = .ok (.aload_n 0, 1) := by decide +kernel
theorem d_Law_law_464 : decode b_Law_law 464 = .ok (.iload 4, 2) := by decide +kernel
theorem d_Law_law_466 : decode b_Law_law 466 = .ok (.iconst 1, 1) := by decide +kernel
theorem d_Law_law_467 : decode b_Law_law 467 = .ok (.iadd, 1) := by decide +kernel
theorem d_Law_law_468 : decode b_Law_law 468 = .ok (.iaload, 1) := by decide +kernel
theorem d_Law_law_469 : decode b_Law_law 469 = .ok (.invokevirtual 89, 3) := by decide +kernel
theorem k_Law_m89 : Cond.methodLink R_Law 89 ⟨"ContinuationCoreModel", "state", "(I)I"⟩ ∈ lw_g := lw_in (List.mem_append_right _ (List.mem_of_getElem? (i := 1322) (by decide +kernel))) rfl
theorem d_Law_law_472 : decode b_Law_law 472 = .ok (.istore 6, 2) := by decide +kernel
theorem d_Law_law_474 : decode b_Law_law 474 = .ok (.aload_n 2, 1) := by decide +kernel
theorem d_Law_law_475 : decode b_Law_law 475 = .ok (.invokevirtual 62, 3) := by decide +kernel
theorem d_Law_law_478 : decode b_Law_law 478 = .ok (.iload 5, 2) := by decide +kernel
theorem d_Law_law_480 : decode b_Law_law 480 = .ok (.if_icmp .eq 5, 3) := by decide +kernel
theorem d_Law_law_483 : decode b_Law_law 483 = .ok (.iconst 0, 1) := by decide +kernel
theorem d_Law_law_484 : decode b_Law_law 484 = .ok (.ireturn, 1) := by decide +kernel
theorem d_Law_law_485 : decode b_Law_law 485 = .ok (.iload 5, 2) := by decide +kernel
theorem d_Law_law_487 : decode b_Law_law 487 = .ok (.ifCond .ne 15, 3) := by decide +kernel
theorem d_Law_law_490 : decode b_Law_law 490 = .ok (.aload_n 3, 1) := by decide +kernel
theorem d_Law_law_491 : decode b_Law_law 491 = .ok (.iconst 0, 1) := by decide +kernel
theorem d_Law_law_492 : decode b_Law_law 492 = .ok (.laload, 1) := by decide +kernel
theorem d_Law_law_493 : decode b_Law_law 493 = .ok (.iload 6, 2) := by decide +kernel
theorem d_Law_law_495 : decode b_Law_law 495 = .ok (.i2l, 1) := by decide +kernel
theorem d_Law_law_496 : decode b_Law_law 496 = .ok (.lcmp, 1) := by decide +kernel
theorem d_Law_law_497 : decode b_Law_law 497 = .ok (.ifCond .eq 5, 3) := by decide +kernel
theorem d_Law_law_500 : decode b_Law_law 500 = .ok (.iconst 0, 1) := by decide +kernel
theorem d_Law_law_501 : decode b_Law_law 501 = .ok (.ireturn, 1) := by decide +kernel
theorem d_Law_law_502 : decode b_Law_law 502 = .ok (.goto 115, 3) := by decide +kernel
theorem d_Law_law_505 : decode b_Law_law 505 = .ok (.aload_n 1, 1) := by decide +kernel
theorem d_Law_law_506 : decode b_Law_law 506 = .ok (.aload_n 0, 1) := by decide +kernel
theorem d_Law_law_507 : decode b_Law_law 507 = .ok (.iload 4, 2) := by decide +kernel
theorem d_Law_law_509 : decode b_Law_law 509 = .ok (.iconst 1, 1) := by decide +kernel
theorem d_Law_law_510 : decode b_Law_law 510 = .ok (.iadd, 1) := by decide +kernel
theorem d_Law_law_511 : decode b_Law_law 511 = .ok (.iaload, 1) := by decide +kernel
theorem d_Law_law_512 : decode b_Law_law 512 = .ok (.aload_n 3, 1) := by decide +kernel
theorem d_Law_law_513 : decode b_Law_law 513 = .ok (.invokestatic 90, 3) := by decide +kernel
theorem k_Law_m90 : Cond.methodLink R_Law 90 y_Law_sign ∈ lw_g := lw_in (List.mem_append_right _ (List.mem_of_getElem? (i := 1009) (by decide +kernel))) rfl
theorem d_Law_law_516 : decode b_Law_law 516 = .ok (.istore 5, 2) := by decide +kernel
theorem d_Law_law_518 : decode b_Law_law 518 = .ok (.aload_n 2, 1) := by decide +kernel
theorem d_Law_law_519 : decode b_Law_law 519 = .ok (.aload_n 0, 1) := by decide +kernel
theorem d_Law_law_520 : decode b_Law_law 520 = .ok (.iload 4, 2) := by decide +kernel
theorem d_Law_law_522 : decode b_Law_law 522 = .ok (.iconst 1, 1) := by decide +kernel
theorem d_Law_law_523 : decode b_Law_law 523 = .ok (.iadd, 1) := by decide +kernel
theorem d_Law_law_524 : decode b_Law_law 524 = .ok (.iaload, 1) := by decide +kernel
theorem d_Law_law_525 : decode b_Law_law 525 = .ok (.invokevirtual 92, 3) := by decide +kernel
theorem k_Law_m92 : Cond.methodLink R_Law 92 ⟨"ContinuationCoreModel", "sign", "(I)I"⟩ ∈ lw_g := lw_in (List.mem_append_right _ (List.mem_of_getElem? (i := 1326) (by decide +kernel))) rfl
theorem d_Law_law_528 : decode b_Law_law 528 = .ok (.istore 6, 2) := by decide +kernel
theorem d_Law_law_530 : decode b_Law_law 530 = .ok (.aload_n 2, 1) := by decide +kernel
theorem d_Law_law_531 : decode b_Law_law 531 = .ok (.invokevirtual 62, 3) := by decide +kernel
theorem d_Law_law_534 : decode b_Law_law 534 = .ok (.iload 5, 2) := by decide +kernel
theorem d_Law_law_536 : decode b_Law_law 536 = .ok (.if_icmp .eq 5, 3) := by decide +kernel
theorem d_Law_law_539 : decode b_Law_law 539 = .ok (.iconst 0, 1) := by decide +kernel
theorem d_Law_law_540 : decode b_Law_law 540 = .ok (.ireturn, 1) := by decide +kernel
theorem d_Law_law_541 : decode b_Law_law 541 = .ok (.iload 5, 2) := by decide +kernel
theorem d_Law_law_543 : decode b_Law_law 543 = .ok (.ifCond .ne 15, 3) := by decide +kernel
theorem d_Law_law_546 : decode b_Law_law 546 = .ok (.aload_n 3, 1) := by decide +kernel
theorem d_Law_law_547 : decode b_Law_law 547 = .ok (.iconst 0, 1) := by decide +kernel
theorem d_Law_law_548 : decode b_Law_law 548 = .ok (.laload, 1) := by decide +kernel
theorem d_Law_law_549 : decode b_Law_law 549 = .ok (.iload 6, 2) := by decide +kernel
theorem d_Law_law_551 : decode b_Law_law 551 = .ok (.i2l, 1) := by decide +kernel
theorem d_Law_law_552 : decode b_Law_law 552 = .ok (.lcmp, 1) := by decide +kernel
theorem d_Law_law_553 : decode b_Law_law 553 = .ok (.ifCond .eq 5, 3) := by decide +kernel
theorem d_Law_law_556 : decode b_Law_law 556 = .ok (.iconst 0, 1) := by decide +kernel
theorem d_Law_law_557 : decode b_Law_law 557 = .ok (.ireturn, 1) := by decide +kernel
theorem d_Law_law_558 : decode b_Law_law 558 = .ok (.goto 59, 3) := by decide +kernel
theorem d_Law_law_561 : decode b_Law_law 561 = .ok (.aload_n 1, 1) := by decide +kernel
theorem d_Law_law_562 : decode b_Law_law 562 = .ok (.aload_n 0, 1) := by decide +kernel
theorem d_Law_law_563 : decode b_Law_law 563 = .ok (.iload 4, 2) := by decide +kernel
theorem d_Law_law_565 : decode b_Law_law 565 = .ok (.iconst 1, 1) := by decide +kernel
theorem d_Law_law_566 : decode b_Law_law 566 = .ok (.iadd, 1) := by decide +kernel
theorem d_Law_law_567 : decode b_Law_law 567 = .ok (.iaload, 1) := by decide +kernel
theorem d_Law_law_568 : decode b_Law_law 568 = .ok (.aload_n 3, 1) := by decide +kernel
theorem d_Law_law_569 : decode b_Law_law 569 = .ok (.invokestatic 93, 3) := by decide +kernel
theorem k_Law_m93 : Cond.methodLink R_Law 93 y_Law_global ∈ lw_g := lw_in (List.mem_append_right _ (List.mem_of_getElem? (i := 1029) (by decide +kernel))) rfl
theorem d_Law_law_572 : decode b_Law_law 572 = .ok (.istore 5, 2) := by decide +kernel
theorem d_Law_law_574 : decode b_Law_law 574 = .ok (.aload_n 2, 1) := by decide +kernel
theorem d_Law_law_575 : decode b_Law_law 575 = .ok (.aload_n 0, 1) := by decide +kernel
theorem d_Law_law_576 : decode b_Law_law 576 = .ok (.iload 4, 2) := by decide +kernel
theorem d_Law_law_578 : decode b_Law_law 578 = .ok (.iconst 1, 1) := by decide +kernel
theorem d_Law_law_579 : decode b_Law_law 579 = .ok (.iadd, 1) := by decide +kernel
theorem d_Law_law_580 : decode b_Law_law 580 = .ok (.iaload, 1) := by decide +kernel
theorem d_Law_law_581 : decode b_Law_law 581 = .ok (.invokevirtual 95, 3) := by decide +kernel
theorem k_Law_m95 : Cond.methodLink R_Law 95 ⟨"ContinuationCoreModel", "global", "(I)I"⟩ ∈ lw_g := lw_in (List.mem_append_right _ (List.mem_of_getElem? (i := 1340) (by decide +kernel))) rfl
theorem d_Law_law_584 : decode b_Law_law 584 = .ok (.istore 6, 2) := by decide +kernel
theorem d_Law_law_586 : decode b_Law_law 586 = .ok (.aload_n 2, 1) := by decide +kernel
theorem d_Law_law_587 : decode b_Law_law 587 = .ok (.invokevirtual 62, 3) := by decide +kernel
theorem d_Law_law_590 : decode b_Law_law 590 = .ok (.iload 5, 2) := by decide +kernel
theorem d_Law_law_592 : decode b_Law_law 592 = .ok (.if_icmp .eq 5, 3) := by decide +kernel
theorem d_Law_law_595 : decode b_Law_law 595 = .ok (.iconst 0, 1) := by decide +kernel
theorem d_Law_law_596 : decode b_Law_law 596 = .ok (.ireturn, 1) := by decide +kernel
theorem d_Law_law_597 : decode b_Law_law 597 = .ok (.iload 5, 2) := by decide +kernel
theorem d_Law_law_599 : decode b_Law_law 599 = .ok (.ifCond .ne 15, 3) := by decide +kernel
theorem d_Law_law_602 : decode b_Law_law 602 = .ok (.aload_n 3, 1) := by decide +kernel
theorem d_Law_law_603 : decode b_Law_law 603 = .ok (.iconst 0, 1) := by decide +kernel
theorem d_Law_law_604 : decode b_Law_law 604 = .ok (.laload, 1) := by decide +kernel
theorem d_Law_law_605 : decode b_Law_law 605 = .ok (.iload 6, 2) := by decide +kernel
theorem d_Law_law_607 : decode b_Law_law 607 = .ok (.i2l, 1) := by decide +kernel
theorem d_Law_law_608 : decode b_Law_law 608 = .ok (.lcmp, 1) := by decide +kernel
theorem d_Law_law_609 : decode b_Law_law 609 = .ok (.ifCond .eq 5, 3) := by decide +kernel
theorem d_Law_law_612 : decode b_Law_law 612 = .ok (.iconst 0, 1) := by decide +kernel
theorem d_Law_law_613 : decode b_Law_law 613 = .ok (.ireturn, 1) := by decide +kernel
theorem d_Law_law_614 : decode b_Law_law 614 = .ok (.goto 3, 3) := by decide +kernel
theorem d_Law_law_617 : decode b_Law_law 617 = .ok (.iinc 4 3, 3) := by decide +kernel
theorem d_Law_law_620 : decode b_Law_law 620 = .ok (.goto (-597), 3) := by decide +kernel
theorem d_Law_law_623 : decode b_Law_law 623 = .ok (.iconst 1, 1) := by decide +kernel
theorem d_Law_law_624 : decode b_Law_law 624 = .ok (.ireturn, 1) := by decide +kernel
