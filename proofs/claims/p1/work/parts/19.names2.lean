def R_C : String := "ContinuationCore"
def R_Binding : String := "ContinuationCore$Binding"
def R_Closure : String := "ContinuationCore$Closure"
def R_Expression : String := "ContinuationCore$Expression"
def R_Machine : String := "ContinuationCore$Machine"
def R_Pair : String := "ContinuationCore$Pair"
def R_Place : String := "ContinuationCore$Place"
def R_Reader : String := "ContinuationCore$Reader"
def R_Waiting : String := "ContinuationCore$Waiting"
def R_Law : String := "ContinuationCoreLaw"
def y_C_init : MethodName := ⟨R_C, "<init>", "()V"⟩
abbrev b_C_init : ByteArray := prog_1_method_1_code
def y_C_text : MethodName := ⟨R_C, "text", "(J)I"⟩
abbrev b_C_text : ByteArray := prog_1_method_2_code
def y_C_clear : MethodName := ⟨R_C, "clear", "()I"⟩
abbrev b_C_clear : ByteArray := prog_1_method_3_code
def y_C_whole : MethodName := ⟨R_C, "whole", "()I"⟩
abbrev b_C_whole : ByteArray := prog_1_method_4_code
def y_C_given : MethodName := ⟨R_C, "given", "(II)I"⟩
abbrev b_C_given : ByteArray := prog_1_method_5_code
def y_C_start : MethodName := ⟨R_C, "start", "()I"⟩
abbrev b_C_start : ByteArray := prog_1_method_6_code
def y_C_run : MethodName := ⟨R_C, "run", "(I)I"⟩
abbrev b_C_run : ByteArray := prog_1_method_7_code
def y_C_stop : MethodName := ⟨R_C, "stop", "()I"⟩
abbrev b_C_stop : ByteArray := prog_1_method_8_code
def y_C_state : MethodName := ⟨R_C, "state", "(I)I"⟩
abbrev b_C_state : ByteArray := prog_1_method_9_code
def y_C_sign : MethodName := ⟨R_C, "sign", "(I)I"⟩
abbrev b_C_sign : ByteArray := prog_1_method_10_code
def y_C_global : MethodName := ⟨R_C, "global", "(I)I"⟩
abbrev b_C_global : ByteArray := prog_1_method_11_code
def y_C_isLetter : MethodName := ⟨R_C, "isLetter", "(I)Z"⟩
abbrev b_C_isLetter : ByteArray := prog_1_method_12_code
def y_C_putBehind : MethodName := ⟨R_C, "putBehind", "(J)I"⟩
abbrev b_C_putBehind : ByteArray := prog_1_method_13_code
def y_C_throwFault : MethodName := ⟨R_C, "throwFault", "(I)V"⟩
abbrev b_C_throwFault : ByteArray := prog_1_method_14_code
def y_Binding_init : MethodName := ⟨R_Binding, "<init>", "()V"⟩
abbrev b_Binding_init : ByteArray := prog_2_method_1_code
def y_Binding_become : MethodName := ⟨R_Binding, "become", "(ILContinuationCore$Binding;)V"⟩
abbrev b_Binding_become : ByteArray := prog_2_method_2_code
def y_Closure_init : MethodName := ⟨R_Closure, "<init>", "(LContinuationCore$Expression;LContinuationCore$Binding;)V"⟩
abbrev b_Closure_init : ByteArray := prog_3_method_1_code
def y_Expression_init : MethodName := ⟨R_Expression, "<init>", "()V"⟩
abbrev b_Expression_init : ByteArray := prog_4_method_1_code
def y_Expression_become : MethodName := ⟨R_Expression, "become", "(CI)V"⟩
abbrev b_Expression_become : ByteArray := prog_4_method_2_code
def y_Expression_addName : MethodName := ⟨R_Expression, "addName", "(I)Z"⟩
abbrev b_Expression_addName : ByteArray := prog_4_method_3_code
def y_Expression_addPart : MethodName := ⟨R_Expression, "addPart", "(LContinuationCore$Expression;)Z"⟩
abbrev b_Expression_addPart : ByteArray := prog_4_method_4_code
def y_Expression_mayClose : MethodName := ⟨R_Expression, "mayClose", "()Z"⟩
abbrev b_Expression_mayClose : ByteArray := prog_4_method_5_code
def y_Expression_mostParts : MethodName := ⟨R_Expression, "mostParts", "()I"⟩
abbrev b_Expression_mostParts : ByteArray := prog_4_method_6_code
def y_Machine_init : MethodName := ⟨R_Machine, "<init>", "()V"⟩
abbrev b_Machine_init : ByteArray := prog_5_method_1_code
def y_Machine_prepare : MethodName := ⟨R_Machine, "prepare", "(LContinuationCore$Expression;[LContinuationCore$Place;)V"⟩
abbrev b_Machine_prepare : ByteArray := prog_5_method_2_code
def y_Machine_depth : MethodName := ⟨R_Machine, "depth", "()I"⟩
abbrev b_Machine_depth : ByteArray := prog_5_method_3_code
def y_Machine_step : MethodName := ⟨R_Machine, "step", "()V"⟩
abbrev b_Machine_step : ByteArray := prog_5_method_4_code
def y_Machine_end : MethodName := ⟨R_Machine, "end", "()V"⟩
abbrev b_Machine_end : ByteArray := prog_5_method_5_code
def y_Machine_fail : MethodName := ⟨R_Machine, "fail", "(I)Z"⟩
abbrev b_Machine_fail : ByteArray := prog_5_method_6_code
def y_Machine_answer : MethodName := ⟨R_Machine, "answer", "(LContinuationCore$Place;)Z"⟩
abbrev b_Machine_answer : ByteArray := prog_5_method_7_code
def y_Machine_answerInt : MethodName := ⟨R_Machine, "answerInt", "(I)Z"⟩
abbrev b_Machine_answerInt : ByteArray := prog_5_method_8_code
def y_Machine_begin : MethodName := ⟨R_Machine, "begin", "(LContinuationCore$Expression;LContinuationCore$Binding;)Z"⟩
abbrev b_Machine_begin : ByteArray := prog_5_method_9_code
def y_Machine_goOn : MethodName := ⟨R_Machine, "goOn", "(LContinuationCore$Waiting;)Z"⟩
abbrev b_Machine_goOn : ByteArray := prog_5_method_10_code
def y_Machine_gather : MethodName := ⟨R_Machine, "gather", "([LContinuationCore$Place;)I"⟩
abbrev b_Machine_gather : ByteArray := prog_5_method_11_code
def y_Machine_goLast : MethodName := ⟨R_Machine, "goLast", "(LContinuationCore$Expression;LContinuationCore$Binding;)Z"⟩
abbrev b_Machine_goLast : ByteArray := prog_5_method_12_code
def y_Machine_await : MethodName := ⟨R_Machine, "await", "(LContinuationCore$Expression;LContinuationCore$Binding;I)Z"⟩
abbrev b_Machine_await : ByteArray := prog_5_method_13_code
def y_Machine_complete : MethodName := ⟨R_Machine, "complete", "(LContinuationCore$Expression;LContinuationCore$Binding;I)Z"⟩
abbrev b_Machine_complete : ByteArray := prog_5_method_14_code
def y_Machine_call : MethodName := ⟨R_Machine, "call", "(I)Z"⟩
abbrev b_Machine_call : ByteArray := prog_5_method_15_code
def y_Machine_bind : MethodName := ⟨R_Machine, "bind", "(ILContinuationCore$Place;LContinuationCore$Binding;)LContinuationCore$Binding;"⟩
abbrev b_Machine_bind : ByteArray := prog_5_method_16_code
def y_Machine_makePair : MethodName := ⟨R_Machine, "makePair", "()Z"⟩
abbrev b_Machine_makePair : ByteArray := prog_5_method_17_code
def y_Machine_find : MethodName := ⟨R_Machine, "find", "(ILContinuationCore$Binding;)LContinuationCore$Binding;"⟩
abbrev b_Machine_find : ByteArray := prog_5_method_18_code
def y_Machine_reckon : MethodName := ⟨R_Machine, "reckon", "(C)Z"⟩
abbrev b_Machine_reckon : ByteArray := prog_5_method_19_code
def y_Pair_init : MethodName := ⟨R_Pair, "<init>", "()V"⟩
abbrev b_Pair_init : ByteArray := prog_6_method_1_code
def y_Place_init : MethodName := ⟨R_Place, "<init>", "()V"⟩
abbrev b_Place_init : ByteArray := prog_7_method_1_code
def y_Place_copy : MethodName := ⟨R_Place, "copy", "(LContinuationCore$Place;)V"⟩
abbrev b_Place_copy : ByteArray := prog_7_method_2_code
def y_Place_hold : MethodName := ⟨R_Place, "hold", "(CI)V"⟩
abbrev b_Place_hold : ByteArray := prog_7_method_3_code
def y_Place_holdPair : MethodName := ⟨R_Place, "holdPair", "(ILContinuationCore$Pair;)V"⟩
abbrev b_Place_holdPair : ByteArray := prog_7_method_4_code
def y_Place_holdClosure : MethodName := ⟨R_Place, "holdClosure", "(ILContinuationCore$Closure;)V"⟩
abbrev b_Place_holdClosure : ByteArray := prog_7_method_5_code
def y_Place_holdContinuation : MethodName := ⟨R_Place, "holdContinuation", "(ILContinuationCore$Waiting;)V"⟩
abbrev b_Place_holdContinuation : ByteArray := prog_7_method_6_code
def y_Place_isSame : MethodName := ⟨R_Place, "isSame", "(LContinuationCore$Place;)Z"⟩
abbrev b_Place_isSame : ByteArray := prog_7_method_7_code
def y_Place_isZero : MethodName := ⟨R_Place, "isZero", "()Z"⟩
abbrev b_Place_isZero : ByteArray := prog_7_method_8_code
def y_Place_write : MethodName := ⟨R_Place, "write", "(Ljava/lang/StringBuilder;)V"⟩
abbrev b_Place_write : ByteArray := prog_7_method_9_code
def y_Reader_init : MethodName := ⟨R_Reader, "<init>", "()V"⟩
abbrev b_Reader_init : ByteArray := prog_8_method_1_code
def y_Reader_read : MethodName := ⟨R_Reader, "read", "([CI)Z"⟩
abbrev b_Reader_read : ByteArray := prog_8_method_2_code
def y_Reader_isWhole : MethodName := ⟨R_Reader, "isWhole", "()Z"⟩
abbrev b_Reader_isWhole : ByteArray := prog_8_method_3_code
def y_Reader_outermost : MethodName := ⟨R_Reader, "outermost", "()LContinuationCore$Expression;"⟩
abbrev b_Reader_outermost : ByteArray := prog_8_method_4_code
def y_Reader_take : MethodName := ⟨R_Reader, "take", "(C)Z"⟩
abbrev b_Reader_take : ByteArray := prog_8_method_5_code
def y_Reader_takeDigit : MethodName := ⟨R_Reader, "takeDigit", "(C)Z"⟩
abbrev b_Reader_takeDigit : ByteArray := prog_8_method_6_code
def y_Reader_takeHead : MethodName := ⟨R_Reader, "takeHead", "(LContinuationCore$Expression;C)Z"⟩
abbrev b_Reader_takeHead : ByteArray := prog_8_method_7_code
def y_Reader_takeOneName : MethodName := ⟨R_Reader, "takeOneName", "(LContinuationCore$Expression;C)Z"⟩
abbrev b_Reader_takeOneName : ByteArray := prog_8_method_8_code
def y_Reader_takeNameOrDot : MethodName := ⟨R_Reader, "takeNameOrDot", "(LContinuationCore$Expression;C)Z"⟩
abbrev b_Reader_takeNameOrDot : ByteArray := prog_8_method_9_code
def y_Reader_takePart : MethodName := ⟨R_Reader, "takePart", "(LContinuationCore$Expression;C)Z"⟩
abbrev b_Reader_takePart : ByteArray := prog_8_method_10_code
def y_Reader_takeExpression : MethodName := ⟨R_Reader, "takeExpression", "(C)Z"⟩
abbrev b_Reader_takeExpression : ByteArray := prog_8_method_11_code
def y_Reader_openForm : MethodName := ⟨R_Reader, "openForm", "(LContinuationCore$Expression;)Z"⟩
abbrev b_Reader_openForm : ByteArray := prog_8_method_12_code
def y_Reader_isDigit : MethodName := ⟨R_Reader, "isDigit", "(C)Z"⟩
abbrev b_Reader_isDigit : ByteArray := prog_8_method_13_code
def y_Reader_isName : MethodName := ⟨R_Reader, "isName", "(C)Z"⟩
abbrev b_Reader_isName : ByteArray := prog_8_method_14_code
def y_Waiting_init : MethodName := ⟨R_Waiting, "<init>", "(LContinuationCore$Expression;LContinuationCore$Binding;[LContinuationCore$Place;ILContinuationCore$Waiting;)V"⟩
abbrev b_Waiting_init : ByteArray := prog_9_method_1_code
def y_Law_text : MethodName := ⟨R_Law, "text", "(LContinuationCore;J[J)I"⟩
abbrev b_Law_text : ByteArray := method_3_code
def y_Law_clear : MethodName := ⟨R_Law, "clear", "(LContinuationCore;[J)I"⟩
abbrev b_Law_clear : ByteArray := method_4_code
def y_Law_given : MethodName := ⟨R_Law, "given", "(LContinuationCore;II[J)I"⟩
abbrev b_Law_given : ByteArray := method_5_code
def y_Law_start : MethodName := ⟨R_Law, "start", "(LContinuationCore;[J)I"⟩
abbrev b_Law_start : ByteArray := method_6_code
def y_Law_run : MethodName := ⟨R_Law, "run", "(LContinuationCore;I[J)I"⟩
abbrev b_Law_run : ByteArray := method_7_code
def y_Law_stop : MethodName := ⟨R_Law, "stop", "(LContinuationCore;[J)I"⟩
abbrev b_Law_stop : ByteArray := method_8_code
def y_Law_state : MethodName := ⟨R_Law, "state", "(LContinuationCore;I[J)I"⟩
abbrev b_Law_state : ByteArray := method_9_code
def y_Law_sign : MethodName := ⟨R_Law, "sign", "(LContinuationCore;I[J)I"⟩
abbrev b_Law_sign : ByteArray := method_10_code
def y_Law_global : MethodName := ⟨R_Law, "global", "(LContinuationCore;I[J)I"⟩
abbrev b_Law_global : ByteArray := method_11_code
def y_Law_law : MethodName := ⟨R_Law, "law", "([I)Z"⟩
abbrev b_Law_law : ByteArray := code
def T_C : u_T := fun k => match k with
  | 0 => ("ContinuationCore", "signRow", "[C", true)
  | 1 => ("ContinuationCore", "reader", "LContinuationCore$Reader;", true)
  | 2 => ("ContinuationCore", "machine", "LContinuationCore$Machine;", true)
  | 3 => ("ContinuationCore", "givens", "[LContinuationCore$Place;", true)
  | 4 => ("ContinuationCore", "length", "I", false)
  | _ => ("ContinuationCore", "givenCount", "I", false)
def ty_C : Nat → FieldType := fun k => match k with
  | 0 => .array .char
  | 1 => .object "ContinuationCore$Reader"
  | 2 => .object "ContinuationCore$Machine"
  | 3 => .array (.object "ContinuationCore$Place")
  | 4 => .int
  | _ => .int
theorem nm_C : ∀ a, a < 6 → ∀ b, b < 6 → a ≠ b → (T_C a).2.1 ≠ (T_C b).2.1 := by decide +kernel
theorem ty_C_ok : ∀ k, k < 6 → parseFieldDescriptor (T_C k).2.2.1 = some (ty_C k) := by decide +kernel
theorem in_C_l : u_ws R_C T_C 6 = ([281, 283, 285, 287, 289, 291] : List Nat).filterMap (fun i => tables_1[i]?) := by decide +kernel
theorem in_C : ∀ w ∈ u_ws R_C T_C 6, w ∈ lw_g := fun w h => by
  have hg : (u_ws R_C T_C 6).all goodWord = true := by decide +kernel
  refine lw_in ?_ (List.all_eq_true.mp hg w h)
  rw [in_C_l] at h
  obtain ⟨i, -, hi⟩ := List.mem_filterMap.mp h
  exact List.mem_append_right _ (List.mem_of_getElem? hi)
theorem k_C_inst : Cond.instantiable R_C 6 ∈ lw_g := lw_in (List.mem_append_right _ (List.mem_of_getElem? (i := 32) (by decide +kernel))) rfl
theorem k_C_ini : Cond.initialized R_C ∈ lw_g := lw_in (List.mem_append_right _ (List.mem_of_getElem? (i := 1) (by decide +kernel))) rfl
-- C_init: maxLocals 2, ret none
theorem kc_C_init : Cond.code y_C_init b_C_init 2 none ∈ lw_g := lw_in (List.mem_append_right _ (List.mem_of_getElem? (i := 35) (by decide +kernel))) rfl
theorem d_C_init_0 : decode b_C_init 0 = .ok (.aload_n 0, 1) := by decide +kernel
theorem d_C_init_1 : decode b_C_init 1 = .ok (.invokespecial 1, 3) := by decide +kernel
theorem k_C_m1 : Cond.methodLink R_C 1 objectInit ∈ lw_g := lw_in (List.mem_append_right _ (List.mem_of_getElem? (i := 36) (by decide +kernel))) rfl
theorem d_C_init_4 : decode b_C_init 4 = .ok (.aload_n 0, 1) := by decide +kernel
theorem d_C_init_5 : decode b_C_init 5 = .ok (.sipush 128, 3) := by decide +kernel
theorem d_C_init_8 : decode b_C_init 8 = .ok (.newarray .char, 2) := by decide +kernel
theorem d_C_init_10 : decode b_C_init 10 = .ok (.putfield 9, 3) := by decide +kernel
theorem k_C_f9 : Cond.fieldLink R_C 9 "ContinuationCore" "signRow" "[C" ∈ lw_g := lw_in (List.mem_append_right _ (List.mem_of_getElem? (i := 275) (by decide +kernel))) rfl
theorem d_C_init_13 : decode b_C_init 13 = .ok (.aload_n 0, 1) := by decide +kernel
theorem d_C_init_14 : decode b_C_init 14 = .ok (.new 13, 3) := by decide +kernel
theorem k_C_c13 : Cond.classLink R_C 13 "ContinuationCore$Reader" ∈ lw_g := lw_in (List.mem_append_right _ (List.mem_of_getElem? (i := 39) (by decide +kernel))) rfl
theorem d_C_init_17 : decode b_C_init 17 = .ok (.dup, 1) := by decide +kernel
theorem d_C_init_18 : decode b_C_init 18 = .ok (.invokespecial 15, 3) := by decide +kernel
theorem k_C_m15 : Cond.methodLink R_C 15 y_Reader_init ∈ lw_g := lw_in (List.mem_append_right _ (List.mem_of_getElem? (i := 41) (by decide +kernel))) rfl
theorem d_C_init_21 : decode b_C_init 21 = .ok (.putfield 16, 3) := by decide +kernel
theorem k_C_f16 : Cond.fieldLink R_C 16 "ContinuationCore" "reader" "LContinuationCore$Reader;" ∈ lw_g := lw_in (List.mem_append_right _ (List.mem_of_getElem? (i := 276) (by decide +kernel))) rfl
theorem d_C_init_24 : decode b_C_init 24 = .ok (.aload_n 0, 1) := by decide +kernel
theorem d_C_init_25 : decode b_C_init 25 = .ok (.new 20, 3) := by decide +kernel
theorem k_C_c20 : Cond.classLink R_C 20 "ContinuationCore$Machine" ∈ lw_g := lw_in (List.mem_append_right _ (List.mem_of_getElem? (i := 101) (by decide +kernel))) rfl
theorem d_C_init_28 : decode b_C_init 28 = .ok (.dup, 1) := by decide +kernel
theorem d_C_init_29 : decode b_C_init 29 = .ok (.invokespecial 22, 3) := by decide +kernel
theorem k_C_m22 : Cond.methodLink R_C 22 y_Machine_init ∈ lw_g := lw_in (List.mem_append_right _ (List.mem_of_getElem? (i := 103) (by decide +kernel))) rfl
theorem d_C_init_32 : decode b_C_init 32 = .ok (.putfield 23, 3) := by decide +kernel
theorem k_C_f23 : Cond.fieldLink R_C 23 "ContinuationCore" "machine" "LContinuationCore$Machine;" ∈ lw_g := lw_in (List.mem_append_right _ (List.mem_of_getElem? (i := 277) (by decide +kernel))) rfl
theorem d_C_init_35 : decode b_C_init 35 = .ok (.aload_n 0, 1) := by decide +kernel
theorem d_C_init_36 : decode b_C_init 36 = .ok (.bipush 26, 2) := by decide +kernel
theorem d_C_init_38 : decode b_C_init 38 = .ok (.anewarray 27, 3) := by decide +kernel
theorem k_C_c27 : Cond.classLink R_C 27 "ContinuationCore$Place" ∈ lw_g := lw_in (List.mem_append_right _ (List.mem_of_getElem? (i := 273) (by decide +kernel))) rfl
theorem d_C_init_41 : decode b_C_init 41 = .ok (.putfield 29, 3) := by decide +kernel
theorem k_C_f29 : Cond.fieldLink R_C 29 "ContinuationCore" "givens" "[LContinuationCore$Place;" ∈ lw_g := lw_in (List.mem_append_right _ (List.mem_of_getElem? (i := 278) (by decide +kernel))) rfl
theorem d_C_init_44 : decode b_C_init 44 = .ok (.iconst 0, 1) := by decide +kernel
theorem d_C_init_45 : decode b_C_init 45 = .ok (.istore_n 1, 1) := by decide +kernel
theorem d_C_init_46 : decode b_C_init 46 = .ok (.iload_n 1, 1) := by decide +kernel
theorem d_C_init_47 : decode b_C_init 47 = .ok (.bipush 26, 2) := by decide +kernel
theorem d_C_init_49 : decode b_C_init 49 = .ok (.if_icmp .ge 22, 3) := by decide +kernel
theorem d_C_init_52 : decode b_C_init 52 = .ok (.aload_n 0, 1) := by decide +kernel
theorem d_C_init_53 : decode b_C_init 53 = .ok (.getfield 29, 3) := by decide +kernel
theorem d_C_init_56 : decode b_C_init 56 = .ok (.iload_n 1, 1) := by decide +kernel
theorem d_C_init_57 : decode b_C_init 57 = .ok (.new 27, 3) := by decide +kernel
theorem d_C_init_60 : decode b_C_init 60 = .ok (.dup, 1) := by decide +kernel
theorem d_C_init_61 : decode b_C_init 61 = .ok (.invokespecial 33, 3) := by decide +kernel
theorem k_C_mn33 : Cond.methodLinkNest R_C 33 y_Place_init "ContinuationCore" ∈ lw_tbl := List.mem_append_right _ (List.mem_of_getElem? (i := 274) (by decide +kernel))
theorem d_C_init_64 : decode b_C_init 64 = .ok (.aastore, 1) := by decide +kernel
theorem d_C_init_65 : decode b_C_init 65 = .ok (.iinc 1 1, 3) := by decide +kernel
theorem d_C_init_68 : decode b_C_init 68 = .ok (.goto (-22), 3) := by decide +kernel
theorem d_C_init_71 : decode b_C_init 71 = .ok (.return_, 1) := by decide +kernel
theorem ki_C_init : Cond.instanceMethod y_C_init ∈ lw_g := lw_in (List.mem_append_right _ (List.mem_of_getElem? (i := 34) (by decide +kernel))) rfl
-- C_text: maxLocals 4, ret (some .int)
theorem kc_C_text : Cond.code y_C_text b_C_text 4 (some .int) ∈ lw_g := lw_in (List.mem_append_right _ (List.mem_of_getElem? (i := 310) (by decide +kernel))) rfl
theorem d_C_text_0 : decode b_C_text 0 = .ok (.aload_n 0, 1) := by decide +kernel
theorem d_C_text_1 : decode b_C_text 1 = .ok (.getfield 23, 3) := by decide +kernel
theorem d_C_text_4 : decode b_C_text 4 = .ok (.getfield 34, 3) := by decide +kernel
theorem k_C_f34 : Cond.fieldLink R_C 34 "ContinuationCore$Machine" "status" "I" ∈ lw_g := lw_in (List.mem_append_right _ (List.mem_of_getElem? (i := 226) (by decide +kernel))) rfl
theorem d_C_text_7 : decode b_C_text 7 = .ok (.iconst 1, 1) := by decide +kernel
theorem d_C_text_8 : decode b_C_text 8 = .ok (.if_icmp .ne 13, 3) := by decide +kernel
theorem d_C_text_11 : decode b_C_text 11 = .ok (.new 38, 3) := by decide +kernel
theorem k_C_c38 : Cond.classLink R_C 38 "java/lang/IllegalStateException" ∈ lw_g := lw_in (List.mem_append_right _ (List.mem_of_getElem? (i := 311) (by decide +kernel))) rfl
theorem d_C_text_14 : decode b_C_text 14 = .ok (.dup, 1) := by decide +kernel
theorem d_C_text_15 : decode b_C_text 15 = .ok (.ldc 40, 2) := by decide +kernel
theorem k_C_s40 : Cond.stringRef R_C 40 "a run is going on" ∈ lw_tbl := List.mem_append_right _ (List.mem_of_getElem? (i := 354) (by decide +kernel))
theorem d_C_text_17 : decode b_C_text 17 = .ok (.invokespecial 42, 3) := by decide +kernel
theorem k_C_m42 : Cond.methodLink R_C 42 ⟨"java/lang/IllegalStateException", "<init>", "(Ljava/lang/String;)V"⟩ ∈ lw_g := lw_in (List.mem_append_right _ (List.mem_of_getElem? (i := 355) (by decide +kernel))) rfl
theorem d_C_text_20 : decode b_C_text 20 = .ok (.athrow, 1) := by decide +kernel
theorem d_C_text_21 : decode b_C_text 21 = .ok (.aload_n 0, 1) := by decide +kernel
theorem d_C_text_22 : decode b_C_text 22 = .ok (.lload_n 1, 1) := by decide +kernel
theorem d_C_text_23 : decode b_C_text 23 = .ok (.invokevirtual 45, 3) := by decide +kernel
theorem k_C_m45 : Cond.methodLink R_C 45 y_C_putBehind ∈ lw_g := lw_in (List.mem_append_right _ (List.mem_of_getElem? (i := 380) (by decide +kernel))) rfl
theorem d_C_text_26 : decode b_C_text 26 = .ok (.istore_n 3, 1) := by decide +kernel
theorem d_C_text_27 : decode b_C_text 27 = .ok (.iload_n 3, 1) := by decide +kernel
theorem d_C_text_28 : decode b_C_text 28 = .ok (.iconst (-1), 1) := by decide +kernel
theorem d_C_text_29 : decode b_C_text 29 = .ok (.if_icmp .ne 13, 3) := by decide +kernel
theorem d_C_text_32 : decode b_C_text 32 = .ok (.new 49, 3) := by decide +kernel
theorem k_C_c49 : Cond.classLink R_C 49 "java/lang/IllegalArgumentException" ∈ lw_g := lw_in (List.mem_append_right _ (List.mem_of_getElem? (i := 384) (by decide +kernel))) rfl
theorem d_C_text_35 : decode b_C_text 35 = .ok (.dup, 1) := by decide +kernel
theorem d_C_text_36 : decode b_C_text 36 = .ok (.ldc 51, 2) := by decide +kernel
theorem k_C_s51 : Cond.stringRef R_C 51 "a byte is no sign" ∈ lw_tbl := List.mem_append_right _ (List.mem_of_getElem? (i := 393) (by decide +kernel))
theorem d_C_text_38 : decode b_C_text 38 = .ok (.invokespecial 53, 3) := by decide +kernel
theorem k_C_m53 : Cond.methodLink R_C 53 ⟨"java/lang/IllegalArgumentException", "<init>", "(Ljava/lang/String;)V"⟩ ∈ lw_g := lw_in (List.mem_append_right _ (List.mem_of_getElem? (i := 394) (by decide +kernel))) rfl
theorem d_C_text_41 : decode b_C_text 41 = .ok (.athrow, 1) := by decide +kernel
theorem d_C_text_42 : decode b_C_text 42 = .ok (.aload_n 0, 1) := by decide +kernel
theorem d_C_text_43 : decode b_C_text 43 = .ok (.getfield 16, 3) := by decide +kernel
theorem d_C_text_46 : decode b_C_text 46 = .ok (.aload_n 0, 1) := by decide +kernel
theorem d_C_text_47 : decode b_C_text 47 = .ok (.getfield 9, 3) := by decide +kernel
theorem d_C_text_50 : decode b_C_text 50 = .ok (.iload_n 3, 1) := by decide +kernel
theorem d_C_text_51 : decode b_C_text 51 = .ok (.invokevirtual 54, 3) := by decide +kernel
theorem k_C_m54 : Cond.methodLink R_C 54 y_Reader_read ∈ lw_g := lw_in (List.mem_append_right _ (List.mem_of_getElem? (i := 400) (by decide +kernel))) rfl
theorem d_C_text_54 : decode b_C_text 54 = .ok (.ifCond .ne 29, 3) := by decide +kernel
theorem d_C_text_57 : decode b_C_text 57 = .ok (.aload_n 0, 1) := by decide +kernel
theorem d_C_text_58 : decode b_C_text 58 = .ok (.getfield 16, 3) := by decide +kernel
theorem d_C_text_61 : decode b_C_text 61 = .ok (.aload_n 0, 1) := by decide +kernel
theorem d_C_text_62 : decode b_C_text 62 = .ok (.getfield 9, 3) := by decide +kernel
theorem d_C_text_65 : decode b_C_text 65 = .ok (.aload_n 0, 1) := by decide +kernel
theorem d_C_text_66 : decode b_C_text 66 = .ok (.getfield 58, 3) := by decide +kernel
theorem k_C_f58 : Cond.fieldLink R_C 58 "ContinuationCore" "length" "I" ∈ lw_g := lw_in (List.mem_append_right _ (List.mem_of_getElem? (i := 279) (by decide +kernel))) rfl
theorem d_C_text_69 : decode b_C_text 69 = .ok (.invokevirtual 54, 3) := by decide +kernel
theorem d_C_text_72 : decode b_C_text 72 = .ok (.pop, 1) := by decide +kernel
theorem d_C_text_73 : decode b_C_text 73 = .ok (.new 49, 3) := by decide +kernel
theorem d_C_text_76 : decode b_C_text 76 = .ok (.dup, 1) := by decide +kernel
theorem d_C_text_77 : decode b_C_text 77 = .ok (.ldc 61, 2) := by decide +kernel
theorem k_C_s61 : Cond.stringRef R_C 61 "no expression begins so" ∈ lw_tbl := List.mem_append_right _ (List.mem_of_getElem? (i := 548) (by decide +kernel))
theorem d_C_text_79 : decode b_C_text 79 = .ok (.invokespecial 53, 3) := by decide +kernel
theorem d_C_text_82 : decode b_C_text 82 = .ok (.athrow, 1) := by decide +kernel
theorem d_C_text_83 : decode b_C_text 83 = .ok (.aload_n 0, 1) := by decide +kernel
theorem d_C_text_84 : decode b_C_text 84 = .ok (.iload_n 3, 1) := by decide +kernel
theorem d_C_text_85 : decode b_C_text 85 = .ok (.putfield 58, 3) := by decide +kernel
theorem d_C_text_88 : decode b_C_text 88 = .ok (.aload_n 0, 1) := by decide +kernel
theorem d_C_text_89 : decode b_C_text 89 = .ok (.getfield 58, 3) := by decide +kernel
theorem d_C_text_92 : decode b_C_text 92 = .ok (.ireturn, 1) := by decide +kernel
theorem ki_C_text : Cond.instanceMethod y_C_text ∈ lw_g := lw_in (List.mem_append_right _ (List.mem_of_getElem? (i := 308) (by decide +kernel))) rfl
theorem ke_C_text : Cond.selects R_C y_C_text y_C_text ∈ lw_g := lw_in (List.mem_append_right _ (List.mem_of_getElem? (i := 309) (by decide +kernel))) rfl
-- C_clear: maxLocals 2, ret (some .int)
theorem kc_C_clear : Cond.code y_C_clear b_C_clear 2 (some .int) ∈ lw_g := lw_in (List.mem_append_right _ (List.mem_of_getElem? (i := 555) (by decide +kernel))) rfl
theorem d_C_clear_0 : decode b_C_clear 0 = .ok (.aload_n 0, 1) := by decide +kernel
theorem d_C_clear_1 : decode b_C_clear 1 = .ok (.getfield 23, 3) := by decide +kernel
theorem d_C_clear_4 : decode b_C_clear 4 = .ok (.getfield 34, 3) := by decide +kernel
theorem d_C_clear_7 : decode b_C_clear 7 = .ok (.iconst 1, 1) := by decide +kernel
theorem d_C_clear_8 : decode b_C_clear 8 = .ok (.if_icmp .ne 13, 3) := by decide +kernel
theorem d_C_clear_11 : decode b_C_clear 11 = .ok (.new 38, 3) := by decide +kernel
theorem d_C_clear_14 : decode b_C_clear 14 = .ok (.dup, 1) := by decide +kernel
theorem d_C_clear_15 : decode b_C_clear 15 = .ok (.ldc 40, 2) := by decide +kernel
theorem d_C_clear_17 : decode b_C_clear 17 = .ok (.invokespecial 42, 3) := by decide +kernel
theorem d_C_clear_20 : decode b_C_clear 20 = .ok (.athrow, 1) := by decide +kernel
theorem d_C_clear_21 : decode b_C_clear 21 = .ok (.aload_n 0, 1) := by decide +kernel
theorem d_C_clear_22 : decode b_C_clear 22 = .ok (.getfield 58, 3) := by decide +kernel
theorem d_C_clear_25 : decode b_C_clear 25 = .ok (.istore_n 1, 1) := by decide +kernel
theorem d_C_clear_26 : decode b_C_clear 26 = .ok (.aload_n 0, 1) := by decide +kernel
theorem d_C_clear_27 : decode b_C_clear 27 = .ok (.iconst 0, 1) := by decide +kernel
theorem d_C_clear_28 : decode b_C_clear 28 = .ok (.putfield 58, 3) := by decide +kernel
theorem d_C_clear_31 : decode b_C_clear 31 = .ok (.aload_n 0, 1) := by decide +kernel
theorem d_C_clear_32 : decode b_C_clear 32 = .ok (.getfield 16, 3) := by decide +kernel
theorem d_C_clear_35 : decode b_C_clear 35 = .ok (.aload_n 0, 1) := by decide +kernel
theorem d_C_clear_36 : decode b_C_clear 36 = .ok (.getfield 9, 3) := by decide +kernel
theorem d_C_clear_39 : decode b_C_clear 39 = .ok (.iconst 0, 1) := by decide +kernel
theorem d_C_clear_40 : decode b_C_clear 40 = .ok (.invokevirtual 54, 3) := by decide +kernel
theorem d_C_clear_43 : decode b_C_clear 43 = .ok (.pop, 1) := by decide +kernel
theorem d_C_clear_44 : decode b_C_clear 44 = .ok (.iload_n 1, 1) := by decide +kernel
theorem d_C_clear_45 : decode b_C_clear 45 = .ok (.ireturn, 1) := by decide +kernel
theorem ki_C_clear : Cond.instanceMethod y_C_clear ∈ lw_g := lw_in (List.mem_append_right _ (List.mem_of_getElem? (i := 553) (by decide +kernel))) rfl
theorem ke_C_clear : Cond.selects R_C y_C_clear y_C_clear ∈ lw_g := lw_in (List.mem_append_right _ (List.mem_of_getElem? (i := 554) (by decide +kernel))) rfl
-- C_whole: maxLocals 1, ret (some .int)
theorem kc_C_whole : Cond.code y_C_whole b_C_whole 1 (some .int) ∈ lw_g := lw_in (List.mem_append_right _ (List.mem_of_getElem? (i := 297) (by decide +kernel))) rfl
theorem d_C_whole_0 : decode b_C_whole 0 = .ok (.aload_n 0, 1) := by decide +kernel
theorem d_C_whole_1 : decode b_C_whole 1 = .ok (.getfield 16, 3) := by decide +kernel
theorem d_C_whole_4 : decode b_C_whole 4 = .ok (.invokevirtual 63, 3) := by decide +kernel
theorem k_C_m63 : Cond.methodLink R_C 63 y_Reader_isWhole ∈ lw_g := lw_in (List.mem_append_right _ (List.mem_of_getElem? (i := 298) (by decide +kernel))) rfl
theorem d_C_whole_7 : decode b_C_whole 7 = .ok (.ifCond .eq 7, 3) := by decide +kernel
theorem d_C_whole_10 : decode b_C_whole 10 = .ok (.iconst 1, 1) := by decide +kernel
theorem d_C_whole_11 : decode b_C_whole 11 = .ok (.goto 4, 3) := by decide +kernel
theorem d_C_whole_14 : decode b_C_whole 14 = .ok (.iconst 0, 1) := by decide +kernel
theorem d_C_whole_15 : decode b_C_whole 15 = .ok (.ireturn, 1) := by decide +kernel
theorem ki_C_whole : Cond.instanceMethod y_C_whole ∈ lw_g := lw_in (List.mem_append_right _ (List.mem_of_getElem? (i := 295) (by decide +kernel))) rfl
theorem ke_C_whole : Cond.selects R_C y_C_whole y_C_whole ∈ lw_g := lw_in (List.mem_append_right _ (List.mem_of_getElem? (i := 296) (by decide +kernel))) rfl
-- C_given: maxLocals 3, ret (some .int)
theorem kc_C_given : Cond.code y_C_given b_C_given 3 (some .int) ∈ lw_g := lw_in (List.mem_append_right _ (List.mem_of_getElem? (i := 562) (by decide +kernel))) rfl
theorem d_C_given_0 : decode b_C_given 0 = .ok (.iload_n 1, 1) := by decide +kernel
theorem d_C_given_1 : decode b_C_given 1 = .ok (.invokestatic 67, 3) := by decide +kernel
theorem k_C_m67 : Cond.methodLink R_C 67 y_C_isLetter ∈ lw_g := lw_in (List.mem_append_right _ (List.mem_of_getElem? (i := 563) (by decide +kernel))) rfl
theorem d_C_given_4 : decode b_C_given 4 = .ok (.ifCond .ne 13, 3) := by decide +kernel
theorem d_C_given_7 : decode b_C_given 7 = .ok (.new 49, 3) := by decide +kernel
theorem d_C_given_10 : decode b_C_given 10 = .ok (.dup, 1) := by decide +kernel
theorem d_C_given_11 : decode b_C_given 11 = .ok (.ldc 71, 2) := by decide +kernel
theorem k_C_s71 : Cond.stringRef R_C 71 "the name is not 0 .. 25" ∈ lw_tbl := List.mem_append_right _ (List.mem_of_getElem? (i := 566) (by decide +kernel))
theorem d_C_given_13 : decode b_C_given 13 = .ok (.invokespecial 53, 3) := by decide +kernel
theorem d_C_given_16 : decode b_C_given 16 = .ok (.athrow, 1) := by decide +kernel
theorem d_C_given_17 : decode b_C_given 17 = .ok (.aload_n 0, 1) := by decide +kernel
theorem d_C_given_18 : decode b_C_given 18 = .ok (.getfield 23, 3) := by decide +kernel
theorem d_C_given_21 : decode b_C_given 21 = .ok (.getfield 34, 3) := by decide +kernel
theorem d_C_given_24 : decode b_C_given 24 = .ok (.iconst 1, 1) := by decide +kernel
theorem d_C_given_25 : decode b_C_given 25 = .ok (.if_icmp .ne 13, 3) := by decide +kernel
theorem d_C_given_28 : decode b_C_given 28 = .ok (.new 38, 3) := by decide +kernel
theorem d_C_given_31 : decode b_C_given 31 = .ok (.dup, 1) := by decide +kernel
theorem d_C_given_32 : decode b_C_given 32 = .ok (.ldc 40, 2) := by decide +kernel
theorem d_C_given_34 : decode b_C_given 34 = .ok (.invokespecial 42, 3) := by decide +kernel
theorem d_C_given_37 : decode b_C_given 37 = .ok (.athrow, 1) := by decide +kernel
theorem d_C_given_38 : decode b_C_given 38 = .ok (.aload_n 0, 1) := by decide +kernel
theorem d_C_given_39 : decode b_C_given 39 = .ok (.getfield 29, 3) := by decide +kernel
theorem d_C_given_42 : decode b_C_given 42 = .ok (.iload_n 1, 1) := by decide +kernel
theorem d_C_given_43 : decode b_C_given 43 = .ok (.aaload, 1) := by decide +kernel
theorem d_C_given_44 : decode b_C_given 44 = .ok (.getfield 73, 3) := by decide +kernel
theorem k_C_f73 : Cond.fieldLink R_C 73 "ContinuationCore$Place" "kind" "C" ∈ lw_g := lw_in (List.mem_append_right _ (List.mem_of_getElem? (i := 151) (by decide +kernel))) rfl
theorem d_C_given_47 : decode b_C_given 47 = .ok (.bipush 32, 2) := by decide +kernel
theorem d_C_given_49 : decode b_C_given 49 = .ok (.if_icmp .ne 13, 3) := by decide +kernel
theorem d_C_given_52 : decode b_C_given 52 = .ok (.aload_n 0, 1) := by decide +kernel
theorem d_C_given_53 : decode b_C_given 53 = .ok (.dup, 1) := by decide +kernel
theorem d_C_given_54 : decode b_C_given 54 = .ok (.getfield 77, 3) := by decide +kernel
theorem k_C_f77 : Cond.fieldLink R_C 77 "ContinuationCore" "givenCount" "I" ∈ lw_g := lw_in (List.mem_append_right _ (List.mem_of_getElem? (i := 280) (by decide +kernel))) rfl
theorem d_C_given_57 : decode b_C_given 57 = .ok (.iconst 1, 1) := by decide +kernel
theorem d_C_given_58 : decode b_C_given 58 = .ok (.iadd, 1) := by decide +kernel
theorem d_C_given_59 : decode b_C_given 59 = .ok (.putfield 77, 3) := by decide +kernel
theorem d_C_given_62 : decode b_C_given 62 = .ok (.aload_n 0, 1) := by decide +kernel
theorem d_C_given_63 : decode b_C_given 63 = .ok (.getfield 29, 3) := by decide +kernel
theorem d_C_given_66 : decode b_C_given 66 = .ok (.iload_n 1, 1) := by decide +kernel
theorem d_C_given_67 : decode b_C_given 67 = .ok (.aaload, 1) := by decide +kernel
theorem d_C_given_68 : decode b_C_given 68 = .ok (.bipush 48, 2) := by decide +kernel
theorem d_C_given_70 : decode b_C_given 70 = .ok (.iload_n 2, 1) := by decide +kernel
theorem d_C_given_71 : decode b_C_given 71 = .ok (.invokevirtual 80, 3) := by decide +kernel
theorem k_C_m80 : Cond.methodLink R_C 80 y_Place_hold ∈ lw_g := lw_in (List.mem_append_right _ (List.mem_of_getElem? (i := 567) (by decide +kernel))) rfl
theorem d_C_given_74 : decode b_C_given 74 = .ok (.aload_n 0, 1) := by decide +kernel
theorem d_C_given_75 : decode b_C_given 75 = .ok (.getfield 77, 3) := by decide +kernel
theorem d_C_given_78 : decode b_C_given 78 = .ok (.ireturn, 1) := by decide +kernel
theorem ki_C_given : Cond.instanceMethod y_C_given ∈ lw_g := lw_in (List.mem_append_right _ (List.mem_of_getElem? (i := 560) (by decide +kernel))) rfl
theorem ke_C_given : Cond.selects R_C y_C_given y_C_given ∈ lw_g := lw_in (List.mem_append_right _ (List.mem_of_getElem? (i := 561) (by decide +kernel))) rfl
-- C_start: maxLocals 1, ret (some .int)
theorem kc_C_start : Cond.code y_C_start b_C_start 1 (some .int) ∈ lw_g := lw_in (List.mem_append_right _ (List.mem_of_getElem? (i := 577) (by decide +kernel))) rfl
theorem d_C_start_0 : decode b_C_start 0 = .ok (.aload_n 0, 1) := by decide +kernel
theorem d_C_start_1 : decode b_C_start 1 = .ok (.getfield 23, 3) := by decide +kernel
theorem d_C_start_4 : decode b_C_start 4 = .ok (.getfield 34, 3) := by decide +kernel
theorem d_C_start_7 : decode b_C_start 7 = .ok (.iconst 1, 1) := by decide +kernel
theorem d_C_start_8 : decode b_C_start 8 = .ok (.if_icmp .ne 13, 3) := by decide +kernel
theorem d_C_start_11 : decode b_C_start 11 = .ok (.new 38, 3) := by decide +kernel
theorem d_C_start_14 : decode b_C_start 14 = .ok (.dup, 1) := by decide +kernel
theorem d_C_start_15 : decode b_C_start 15 = .ok (.ldc 40, 2) := by decide +kernel
theorem d_C_start_17 : decode b_C_start 17 = .ok (.invokespecial 42, 3) := by decide +kernel
theorem d_C_start_20 : decode b_C_start 20 = .ok (.athrow, 1) := by decide +kernel
theorem d_C_start_21 : decode b_C_start 21 = .ok (.aload_n 0, 1) := by decide +kernel
theorem d_C_start_22 : decode b_C_start 22 = .ok (.getfield 16, 3) := by decide +kernel
theorem d_C_start_25 : decode b_C_start 25 = .ok (.invokevirtual 63, 3) := by decide +kernel
theorem d_C_start_28 : decode b_C_start 28 = .ok (.ifCond .ne 13, 3) := by decide +kernel
theorem d_C_start_31 : decode b_C_start 31 = .ok (.new 38, 3) := by decide +kernel
theorem d_C_start_34 : decode b_C_start 34 = .ok (.dup, 1) := by decide +kernel
theorem d_C_start_35 : decode b_C_start 35 = .ok (.ldc 84, 2) := by decide +kernel
theorem k_C_s84 : Cond.stringRef R_C 84 "the text is not whole" ∈ lw_tbl := List.mem_append_right _ (List.mem_of_getElem? (i := 578) (by decide +kernel))
theorem d_C_start_37 : decode b_C_start 37 = .ok (.invokespecial 42, 3) := by decide +kernel
theorem d_C_start_40 : decode b_C_start 40 = .ok (.athrow, 1) := by decide +kernel
theorem d_C_start_41 : decode b_C_start 41 = .ok (.aload_n 0, 1) := by decide +kernel
theorem d_C_start_42 : decode b_C_start 42 = .ok (.getfield 23, 3) := by decide +kernel
theorem d_C_start_45 : decode b_C_start 45 = .ok (.aload_n 0, 1) := by decide +kernel
theorem d_C_start_46 : decode b_C_start 46 = .ok (.getfield 16, 3) := by decide +kernel
theorem d_C_start_49 : decode b_C_start 49 = .ok (.invokevirtual 86, 3) := by decide +kernel
theorem k_C_m86 : Cond.methodLink R_C 86 y_Reader_outermost ∈ lw_g := lw_in (List.mem_append_right _ (List.mem_of_getElem? (i := 579) (by decide +kernel))) rfl
theorem d_C_start_52 : decode b_C_start 52 = .ok (.aload_n 0, 1) := by decide +kernel
theorem d_C_start_53 : decode b_C_start 53 = .ok (.getfield 29, 3) := by decide +kernel
theorem d_C_start_56 : decode b_C_start 56 = .ok (.invokevirtual 90, 3) := by decide +kernel
theorem k_C_m90 : Cond.methodLink R_C 90 y_Machine_prepare ∈ lw_g := lw_in (List.mem_append_right _ (List.mem_of_getElem? (i := 583) (by decide +kernel))) rfl
theorem d_C_start_59 : decode b_C_start 59 = .ok (.aload_n 0, 1) := by decide +kernel
theorem d_C_start_60 : decode b_C_start 60 = .ok (.getfield 16, 3) := by decide +kernel
theorem d_C_start_63 : decode b_C_start 63 = .ok (.getfield 94, 3) := by decide +kernel
theorem k_C_f94 : Cond.fieldLink R_C 94 "ContinuationCore$Reader" "used" "I" ∈ lw_g := lw_in (List.mem_append_right _ (List.mem_of_getElem? (i := 87) (by decide +kernel))) rfl
theorem d_C_start_66 : decode b_C_start 66 = .ok (.ireturn, 1) := by decide +kernel
theorem ki_C_start : Cond.instanceMethod y_C_start ∈ lw_g := lw_in (List.mem_append_right _ (List.mem_of_getElem? (i := 575) (by decide +kernel))) rfl
theorem ke_C_start : Cond.selects R_C y_C_start y_C_start ∈ lw_g := lw_in (List.mem_append_right _ (List.mem_of_getElem? (i := 576) (by decide +kernel))) rfl
-- C_run: maxLocals 3, ret (some .int)
theorem kc_C_run : Cond.code y_C_run b_C_run 3 (some .int) ∈ lw_g := lw_in (List.mem_append_right _ (List.mem_of_getElem? (i := 603) (by decide +kernel))) rfl
theorem d_C_run_0 : decode b_C_run 0 = .ok (.iload_n 1, 1) := by decide +kernel
theorem d_C_run_1 : decode b_C_run 1 = .ok (.iconst 1, 1) := by decide +kernel
theorem d_C_run_2 : decode b_C_run 2 = .ok (.if_icmp .lt 9, 3) := by decide +kernel
theorem d_C_run_5 : decode b_C_run 5 = .ok (.iload_n 1, 1) := by decide +kernel
theorem d_C_run_6 : decode b_C_run 6 = .ok (.bipush 10, 2) := by decide +kernel
theorem d_C_run_8 : decode b_C_run 8 = .ok (.if_icmp .le 13, 3) := by decide +kernel
theorem d_C_run_11 : decode b_C_run 11 = .ok (.new 49, 3) := by decide +kernel
theorem d_C_run_14 : decode b_C_run 14 = .ok (.dup, 1) := by decide +kernel
theorem d_C_run_15 : decode b_C_run 15 = .ok (.ldc 97, 2) := by decide +kernel
theorem k_C_s97 : Cond.stringRef R_C 97 "the steps are not 1 .. 10" ∈ lw_tbl := List.mem_append_right _ (List.mem_of_getElem? (i := 604) (by decide +kernel))
theorem d_C_run_17 : decode b_C_run 17 = .ok (.invokespecial 53, 3) := by decide +kernel
theorem d_C_run_20 : decode b_C_run 20 = .ok (.athrow, 1) := by decide +kernel
theorem d_C_run_21 : decode b_C_run 21 = .ok (.aload_n 0, 1) := by decide +kernel
theorem d_C_run_22 : decode b_C_run 22 = .ok (.getfield 23, 3) := by decide +kernel
theorem d_C_run_25 : decode b_C_run 25 = .ok (.getfield 34, 3) := by decide +kernel
theorem d_C_run_28 : decode b_C_run 28 = .ok (.iconst 1, 1) := by decide +kernel
theorem d_C_run_29 : decode b_C_run 29 = .ok (.if_icmp .eq 13, 3) := by decide +kernel
theorem d_C_run_32 : decode b_C_run 32 = .ok (.new 38, 3) := by decide +kernel
theorem d_C_run_35 : decode b_C_run 35 = .ok (.dup, 1) := by decide +kernel
theorem d_C_run_36 : decode b_C_run 36 = .ok (.ldc 99, 2) := by decide +kernel
theorem k_C_s99 : Cond.stringRef R_C 99 "no run is going on" ∈ lw_tbl := List.mem_append_right _ (List.mem_of_getElem? (i := 605) (by decide +kernel))
theorem d_C_run_38 : decode b_C_run 38 = .ok (.invokespecial 42, 3) := by decide +kernel
theorem d_C_run_41 : decode b_C_run 41 = .ok (.athrow, 1) := by decide +kernel
theorem d_C_run_42 : decode b_C_run 42 = .ok (.iconst 0, 1) := by decide +kernel
theorem d_C_run_43 : decode b_C_run 43 = .ok (.istore_n 2, 1) := by decide +kernel
theorem d_C_run_44 : decode b_C_run 44 = .ok (.iload_n 2, 1) := by decide +kernel
theorem d_C_run_45 : decode b_C_run 45 = .ok (.iload_n 1, 1) := by decide +kernel
theorem d_C_run_46 : decode b_C_run 46 = .ok (.if_icmp .ge 27, 3) := by decide +kernel
theorem d_C_run_49 : decode b_C_run 49 = .ok (.aload_n 0, 1) := by decide +kernel
theorem d_C_run_50 : decode b_C_run 50 = .ok (.getfield 23, 3) := by decide +kernel
theorem d_C_run_53 : decode b_C_run 53 = .ok (.getfield 34, 3) := by decide +kernel
theorem d_C_run_56 : decode b_C_run 56 = .ok (.iconst 1, 1) := by decide +kernel
theorem d_C_run_57 : decode b_C_run 57 = .ok (.if_icmp .ne 16, 3) := by decide +kernel
theorem d_C_run_60 : decode b_C_run 60 = .ok (.aload_n 0, 1) := by decide +kernel
theorem d_C_run_61 : decode b_C_run 61 = .ok (.getfield 23, 3) := by decide +kernel
theorem d_C_run_64 : decode b_C_run 64 = .ok (.invokevirtual 101, 3) := by decide +kernel
theorem k_C_m101 : Cond.methodLink R_C 101 y_Machine_step ∈ lw_g := lw_in (List.mem_append_right _ (List.mem_of_getElem? (i := 606) (by decide +kernel))) rfl
theorem d_C_run_67 : decode b_C_run 67 = .ok (.iinc 2 1, 3) := by decide +kernel
theorem d_C_run_70 : decode b_C_run 70 = .ok (.goto (-26), 3) := by decide +kernel
theorem d_C_run_73 : decode b_C_run 73 = .ok (.aload_n 0, 1) := by decide +kernel
theorem d_C_run_74 : decode b_C_run 74 = .ok (.getfield 23, 3) := by decide +kernel
theorem d_C_run_77 : decode b_C_run 77 = .ok (.getfield 34, 3) := by decide +kernel
theorem d_C_run_80 : decode b_C_run 80 = .ok (.iconst 3, 1) := by decide +kernel
theorem d_C_run_81 : decode b_C_run 81 = .ok (.if_icmp .ne 13, 3) := by decide +kernel
theorem d_C_run_84 : decode b_C_run 84 = .ok (.aload_n 0, 1) := by decide +kernel
theorem d_C_run_85 : decode b_C_run 85 = .ok (.getfield 23, 3) := by decide +kernel
theorem d_C_run_88 : decode b_C_run 88 = .ok (.getfield 104, 3) := by decide +kernel
theorem k_C_f104 : Cond.fieldLink R_C 104 "ContinuationCore$Machine" "fault" "I" ∈ lw_g := lw_in (List.mem_append_right _ (List.mem_of_getElem? (i := 235) (by decide +kernel))) rfl
theorem d_C_run_91 : decode b_C_run 91 = .ok (.invokestatic 107, 3) := by decide +kernel
theorem k_C_m107 : Cond.methodLink R_C 107 y_C_throwFault ∈ lw_g := lw_in (List.mem_append_right _ (List.mem_of_getElem? (i := 964) (by decide +kernel))) rfl
theorem d_C_run_94 : decode b_C_run 94 = .ok (.iload_n 2, 1) := by decide +kernel
theorem d_C_run_95 : decode b_C_run 95 = .ok (.ireturn, 1) := by decide +kernel
theorem ki_C_run : Cond.instanceMethod y_C_run ∈ lw_g := lw_in (List.mem_append_right _ (List.mem_of_getElem? (i := 601) (by decide +kernel))) rfl
theorem ke_C_run : Cond.selects R_C y_C_run y_C_run ∈ lw_g := lw_in (List.mem_append_right _ (List.mem_of_getElem? (i := 602) (by decide +kernel))) rfl
-- C_stop: maxLocals 1, ret (some .int)
theorem kc_C_stop : Cond.code y_C_stop b_C_stop 1 (some .int) ∈ lw_g := lw_in (List.mem_append_right _ (List.mem_of_getElem? (i := 1008) (by decide +kernel))) rfl
theorem d_C_stop_0 : decode b_C_stop 0 = .ok (.aload_n 0, 1) := by decide +kernel
theorem d_C_stop_1 : decode b_C_stop 1 = .ok (.getfield 23, 3) := by decide +kernel
theorem d_C_stop_4 : decode b_C_stop 4 = .ok (.getfield 34, 3) := by decide +kernel
theorem d_C_stop_7 : decode b_C_stop 7 = .ok (.iconst 1, 1) := by decide +kernel
theorem d_C_stop_8 : decode b_C_stop 8 = .ok (.if_icmp .eq 13, 3) := by decide +kernel
theorem d_C_stop_11 : decode b_C_stop 11 = .ok (.new 38, 3) := by decide +kernel
theorem d_C_stop_14 : decode b_C_stop 14 = .ok (.dup, 1) := by decide +kernel
theorem d_C_stop_15 : decode b_C_stop 15 = .ok (.ldc 99, 2) := by decide +kernel
theorem d_C_stop_17 : decode b_C_stop 17 = .ok (.invokespecial 42, 3) := by decide +kernel
theorem d_C_stop_20 : decode b_C_stop 20 = .ok (.athrow, 1) := by decide +kernel
theorem d_C_stop_21 : decode b_C_stop 21 = .ok (.aload_n 0, 1) := by decide +kernel
theorem d_C_stop_22 : decode b_C_stop 22 = .ok (.getfield 23, 3) := by decide +kernel
theorem d_C_stop_25 : decode b_C_stop 25 = .ok (.iconst 0, 1) := by decide +kernel
theorem d_C_stop_26 : decode b_C_stop 26 = .ok (.putfield 34, 3) := by decide +kernel
theorem d_C_stop_29 : decode b_C_stop 29 = .ok (.aload_n 0, 1) := by decide +kernel
theorem d_C_stop_30 : decode b_C_stop 30 = .ok (.getfield 23, 3) := by decide +kernel
theorem d_C_stop_33 : decode b_C_stop 33 = .ok (.getfield 111, 3) := by decide +kernel
theorem k_C_f111 : Cond.fieldLink R_C 111 "ContinuationCore$Machine" "steps" "I" ∈ lw_g := lw_in (List.mem_append_right _ (List.mem_of_getElem? (i := 229) (by decide +kernel))) rfl
theorem d_C_stop_36 : decode b_C_stop 36 = .ok (.ireturn, 1) := by decide +kernel
theorem ki_C_stop : Cond.instanceMethod y_C_stop ∈ lw_g := lw_in (List.mem_append_right _ (List.mem_of_getElem? (i := 1006) (by decide +kernel))) rfl
theorem ke_C_stop : Cond.selects R_C y_C_stop y_C_stop ∈ lw_g := lw_in (List.mem_append_right _ (List.mem_of_getElem? (i := 1007) (by decide +kernel))) rfl
-- C_state: maxLocals 2, ret (some .int)
theorem kc_C_state : Cond.code y_C_state b_C_state 2 (some .int) ∈ lw_g := lw_in (List.mem_append_right _ (List.mem_of_getElem? (i := 1015) (by decide +kernel))) rfl
theorem d_C_state_0 : decode b_C_state 0 = .ok (.iload_n 1, 1) := by decide +kernel
theorem d_C_state_1 : decode b_C_state 1 = .ok (.tableswitch 87 0 5 #[39, 47, 55, 63, 71, 79], 39) := by decide +kernel
theorem d_C_state_40 : decode b_C_state 40 = .ok (.aload_n 0, 1) := by decide +kernel
theorem d_C_state_41 : decode b_C_state 41 = .ok (.getfield 23, 3) := by decide +kernel
theorem d_C_state_44 : decode b_C_state 44 = .ok (.getfield 34, 3) := by decide +kernel
theorem d_C_state_47 : decode b_C_state 47 = .ok (.ireturn, 1) := by decide +kernel
theorem d_C_state_48 : decode b_C_state 48 = .ok (.aload_n 0, 1) := by decide +kernel
theorem d_C_state_49 : decode b_C_state 49 = .ok (.getfield 23, 3) := by decide +kernel
theorem d_C_state_52 : decode b_C_state 52 = .ok (.getfield 111, 3) := by decide +kernel
theorem d_C_state_55 : decode b_C_state 55 = .ok (.ireturn, 1) := by decide +kernel
theorem d_C_state_56 : decode b_C_state 56 = .ok (.aload_n 0, 1) := by decide +kernel
theorem d_C_state_57 : decode b_C_state 57 = .ok (.getfield 23, 3) := by decide +kernel
theorem d_C_state_60 : decode b_C_state 60 = .ok (.getfield 114, 3) := by decide +kernel
theorem k_C_f114 : Cond.fieldLink R_C 114 "ContinuationCore$Machine" "pairs" "I" ∈ lw_g := lw_in (List.mem_append_right _ (List.mem_of_getElem? (i := 231) (by decide +kernel))) rfl
theorem d_C_state_63 : decode b_C_state 63 = .ok (.ireturn, 1) := by decide +kernel
theorem d_C_state_64 : decode b_C_state 64 = .ok (.aload_n 0, 1) := by decide +kernel
theorem d_C_state_65 : decode b_C_state 65 = .ok (.getfield 23, 3) := by decide +kernel
theorem d_C_state_68 : decode b_C_state 68 = .ok (.getfield 117, 3) := by decide +kernel
theorem k_C_f117 : Cond.fieldLink R_C 117 "ContinuationCore$Machine" "bindings" "I" ∈ lw_g := lw_in (List.mem_append_right _ (List.mem_of_getElem? (i := 233) (by decide +kernel))) rfl
theorem d_C_state_71 : decode b_C_state 71 = .ok (.ireturn, 1) := by decide +kernel
theorem d_C_state_72 : decode b_C_state 72 = .ok (.aload_n 0, 1) := by decide +kernel
theorem d_C_state_73 : decode b_C_state 73 = .ok (.getfield 23, 3) := by decide +kernel
theorem d_C_state_76 : decode b_C_state 76 = .ok (.invokevirtual 120, 3) := by decide +kernel
theorem k_C_m120 : Cond.methodLink R_C 120 y_Machine_depth ∈ lw_g := lw_in (List.mem_append_right _ (List.mem_of_getElem? (i := 1016) (by decide +kernel))) rfl
theorem d_C_state_79 : decode b_C_state 79 = .ok (.ireturn, 1) := by decide +kernel
theorem d_C_state_80 : decode b_C_state 80 = .ok (.aload_n 0, 1) := by decide +kernel
theorem d_C_state_81 : decode b_C_state 81 = .ok (.getfield 23, 3) := by decide +kernel
theorem d_C_state_84 : decode b_C_state 84 = .ok (.getfield 104, 3) := by decide +kernel
theorem d_C_state_87 : decode b_C_state 87 = .ok (.ireturn, 1) := by decide +kernel
theorem d_C_state_88 : decode b_C_state 88 = .ok (.new 49, 3) := by decide +kernel
theorem d_C_state_91 : decode b_C_state 91 = .ok (.dup, 1) := by decide +kernel
theorem d_C_state_92 : decode b_C_state 92 = .ok (.ldc 124, 2) := by decide +kernel
theorem k_C_s124 : Cond.stringRef R_C 124 "what is not 0 .. 5" ∈ lw_tbl := List.mem_append_right _ (List.mem_of_getElem? (i := 1017) (by decide +kernel))
theorem d_C_state_94 : decode b_C_state 94 = .ok (.invokespecial 53, 3) := by decide +kernel
theorem d_C_state_97 : decode b_C_state 97 = .ok (.athrow, 1) := by decide +kernel
theorem ki_C_state : Cond.instanceMethod y_C_state ∈ lw_g := lw_in (List.mem_append_right _ (List.mem_of_getElem? (i := 1013) (by decide +kernel))) rfl
theorem ke_C_state : Cond.selects R_C y_C_state y_C_state ∈ lw_g := lw_in (List.mem_append_right _ (List.mem_of_getElem? (i := 1014) (by decide +kernel))) rfl
-- C_sign: maxLocals 2, ret (some .int)
theorem kc_C_sign : Cond.code y_C_sign b_C_sign 2 (some .int) ∈ lw_g := lw_in (List.mem_append_right _ (List.mem_of_getElem? (i := 1024) (by decide +kernel))) rfl
theorem d_C_sign_0 : decode b_C_sign 0 = .ok (.iload_n 1, 1) := by decide +kernel
theorem d_C_sign_1 : decode b_C_sign 1 = .ok (.ifCond .lt 9, 3) := by decide +kernel
theorem d_C_sign_4 : decode b_C_sign 4 = .ok (.iload_n 1, 1) := by decide +kernel
theorem d_C_sign_5 : decode b_C_sign 5 = .ok (.bipush 60, 2) := by decide +kernel
theorem d_C_sign_7 : decode b_C_sign 7 = .ok (.if_icmp .lt 13, 3) := by decide +kernel
theorem d_C_sign_10 : decode b_C_sign 10 = .ok (.new 49, 3) := by decide +kernel
theorem d_C_sign_13 : decode b_C_sign 13 = .ok (.dup, 1) := by decide +kernel
theorem d_C_sign_14 : decode b_C_sign 14 = .ok (.ldc 126, 2) := by decide +kernel
theorem k_C_s126 : Cond.stringRef R_C 126 "the place is not 0 .. 59" ∈ lw_tbl := List.mem_append_right _ (List.mem_of_getElem? (i := 1025) (by decide +kernel))
theorem d_C_sign_16 : decode b_C_sign 16 = .ok (.invokespecial 53, 3) := by decide +kernel
theorem d_C_sign_19 : decode b_C_sign 19 = .ok (.athrow, 1) := by decide +kernel
theorem d_C_sign_20 : decode b_C_sign 20 = .ok (.aload_n 0, 1) := by decide +kernel
theorem d_C_sign_21 : decode b_C_sign 21 = .ok (.getfield 23, 3) := by decide +kernel
theorem d_C_sign_24 : decode b_C_sign 24 = .ok (.getfield 34, 3) := by decide +kernel
theorem d_C_sign_27 : decode b_C_sign 27 = .ok (.iconst 2, 1) := by decide +kernel
theorem d_C_sign_28 : decode b_C_sign 28 = .ok (.if_icmp .eq 13, 3) := by decide +kernel
theorem d_C_sign_31 : decode b_C_sign 31 = .ok (.new 38, 3) := by decide +kernel
theorem d_C_sign_34 : decode b_C_sign 34 = .ok (.dup, 1) := by decide +kernel
theorem d_C_sign_35 : decode b_C_sign 35 = .ok (.ldc 128, 2) := by decide +kernel
theorem k_C_s128 : Cond.stringRef R_C 128 "the run has no value" ∈ lw_tbl := List.mem_append_right _ (List.mem_of_getElem? (i := 1026) (by decide +kernel))
theorem d_C_sign_37 : decode b_C_sign 37 = .ok (.invokespecial 42, 3) := by decide +kernel
theorem d_C_sign_40 : decode b_C_sign 40 = .ok (.athrow, 1) := by decide +kernel
theorem d_C_sign_41 : decode b_C_sign 41 = .ok (.iload_n 1, 1) := by decide +kernel
theorem d_C_sign_42 : decode b_C_sign 42 = .ok (.aload_n 0, 1) := by decide +kernel
theorem d_C_sign_43 : decode b_C_sign 43 = .ok (.getfield 23, 3) := by decide +kernel
theorem d_C_sign_46 : decode b_C_sign 46 = .ok (.getfield 130, 3) := by decide +kernel
theorem k_C_f130 : Cond.fieldLink R_C 130 "ContinuationCore$Machine" "shown" "Ljava/lang/StringBuilder;" ∈ lw_g := lw_in (List.mem_append_right _ (List.mem_of_getElem? (i := 220) (by decide +kernel))) rfl
theorem d_C_sign_49 : decode b_C_sign 49 = .ok (.invokevirtual 134, 3) := by decide +kernel
theorem k_C_m134 : Cond.methodLink R_C 134 ⟨"java/lang/StringBuilder", "length", "()I"⟩ ∈ lw_g := lw_in (List.mem_append_right _ (List.mem_of_getElem? (i := 1027) (by decide +kernel))) rfl
theorem d_C_sign_52 : decode b_C_sign 52 = .ok (.if_icmp .ge 17, 3) := by decide +kernel
theorem d_C_sign_55 : decode b_C_sign 55 = .ok (.aload_n 0, 1) := by decide +kernel
theorem d_C_sign_56 : decode b_C_sign 56 = .ok (.getfield 23, 3) := by decide +kernel
theorem d_C_sign_59 : decode b_C_sign 59 = .ok (.getfield 130, 3) := by decide +kernel
theorem d_C_sign_62 : decode b_C_sign 62 = .ok (.iload_n 1, 1) := by decide +kernel
theorem d_C_sign_63 : decode b_C_sign 63 = .ok (.invokevirtual 138, 3) := by decide +kernel
theorem k_C_m138 : Cond.methodLink R_C 138 ⟨"java/lang/StringBuilder", "charAt", "(I)C"⟩ ∈ lw_g := lw_in (List.mem_append_right _ (List.mem_of_getElem? (i := 1028) (by decide +kernel))) rfl
theorem d_C_sign_66 : decode b_C_sign 66 = .ok (.goto 4, 3) := by decide +kernel
theorem d_C_sign_69 : decode b_C_sign 69 = .ok (.iconst (-1), 1) := by decide +kernel
theorem d_C_sign_70 : decode b_C_sign 70 = .ok (.ireturn, 1) := by decide +kernel
theorem ki_C_sign : Cond.instanceMethod y_C_sign ∈ lw_g := lw_in (List.mem_append_right _ (List.mem_of_getElem? (i := 1022) (by decide +kernel))) rfl
theorem ke_C_sign : Cond.selects R_C y_C_sign y_C_sign ∈ lw_g := lw_in (List.mem_append_right _ (List.mem_of_getElem? (i := 1023) (by decide +kernel))) rfl
-- C_global: maxLocals 3, ret (some .int)
theorem kc_C_global : Cond.code y_C_global b_C_global 3 (some .int) ∈ lw_g := lw_in (List.mem_append_right _ (List.mem_of_getElem? (i := 1045) (by decide +kernel))) rfl
theorem d_C_global_0 : decode b_C_global 0 = .ok (.iload_n 1, 1) := by decide +kernel
theorem d_C_global_1 : decode b_C_global 1 = .ok (.invokestatic 67, 3) := by decide +kernel
theorem d_C_global_4 : decode b_C_global 4 = .ok (.ifCond .ne 13, 3) := by decide +kernel
theorem d_C_global_7 : decode b_C_global 7 = .ok (.new 49, 3) := by decide +kernel
theorem d_C_global_10 : decode b_C_global 10 = .ok (.dup, 1) := by decide +kernel
theorem d_C_global_11 : decode b_C_global 11 = .ok (.ldc 71, 2) := by decide +kernel
theorem d_C_global_13 : decode b_C_global 13 = .ok (.invokespecial 53, 3) := by decide +kernel
theorem d_C_global_16 : decode b_C_global 16 = .ok (.athrow, 1) := by decide +kernel
theorem d_C_global_17 : decode b_C_global 17 = .ok (.aload_n 0, 1) := by decide +kernel
theorem d_C_global_18 : decode b_C_global 18 = .ok (.getfield 23, 3) := by decide +kernel
theorem d_C_global_21 : decode b_C_global 21 = .ok (.getfield 142, 3) := by decide +kernel
theorem k_C_f142 : Cond.fieldLink R_C 142 "ContinuationCore$Machine" "globals" "[LContinuationCore$Binding;" ∈ lw_g := lw_in (List.mem_append_right _ (List.mem_of_getElem? (i := 218) (by decide +kernel))) rfl
theorem d_C_global_24 : decode b_C_global 24 = .ok (.iload_n 1, 1) := by decide +kernel
theorem d_C_global_25 : decode b_C_global 25 = .ok (.aaload, 1) := by decide +kernel
theorem d_C_global_26 : decode b_C_global 26 = .ok (.getfield 146, 3) := by decide +kernel
theorem k_C_f146 : Cond.fieldLink R_C 146 "ContinuationCore$Binding" "held" "LContinuationCore$Place;" ∈ lw_g := lw_in (List.mem_append_right _ (List.mem_of_getElem? (i := 183) (by decide +kernel))) rfl
theorem d_C_global_29 : decode b_C_global 29 = .ok (.astore_n 2, 1) := by decide +kernel
theorem d_C_global_30 : decode b_C_global 30 = .ok (.aload_n 2, 1) := by decide +kernel
theorem d_C_global_31 : decode b_C_global 31 = .ok (.getfield 73, 3) := by decide +kernel
theorem d_C_global_34 : decode b_C_global 34 = .ok (.bipush 48, 2) := by decide +kernel
theorem d_C_global_36 : decode b_C_global 36 = .ok (.if_icmp .eq 13, 3) := by decide +kernel
theorem d_C_global_39 : decode b_C_global 39 = .ok (.new 152, 3) := by decide +kernel
theorem k_C_c152 : Cond.classLink R_C 152 "java/util/NoSuchElementException" ∈ lw_g := lw_in (List.mem_append_right _ (List.mem_of_getElem? (i := 1046) (by decide +kernel))) rfl
theorem d_C_global_42 : decode b_C_global 42 = .ok (.dup, 1) := by decide +kernel
theorem d_C_global_43 : decode b_C_global 43 = .ok (.ldc 154, 2) := by decide +kernel
theorem k_C_s154 : Cond.stringRef R_C 154 "the name has no int" ∈ lw_tbl := List.mem_append_right _ (List.mem_of_getElem? (i := 1055) (by decide +kernel))
theorem d_C_global_45 : decode b_C_global 45 = .ok (.invokespecial 156, 3) := by decide +kernel
theorem k_C_m156 : Cond.methodLink R_C 156 ⟨"java/util/NoSuchElementException", "<init>", "(Ljava/lang/String;)V"⟩ ∈ lw_g := lw_in (List.mem_append_right _ (List.mem_of_getElem? (i := 1056) (by decide +kernel))) rfl
theorem d_C_global_48 : decode b_C_global 48 = .ok (.athrow, 1) := by decide +kernel
theorem d_C_global_49 : decode b_C_global 49 = .ok (.aload_n 2, 1) := by decide +kernel
theorem d_C_global_50 : decode b_C_global 50 = .ok (.getfield 157, 3) := by decide +kernel
theorem k_C_f157 : Cond.fieldLink R_C 157 "ContinuationCore$Place" "number" "I" ∈ lw_g := lw_in (List.mem_append_right _ (List.mem_of_getElem? (i := 154) (by decide +kernel))) rfl
theorem d_C_global_53 : decode b_C_global 53 = .ok (.ireturn, 1) := by decide +kernel
theorem ki_C_global : Cond.instanceMethod y_C_global ∈ lw_g := lw_in (List.mem_append_right _ (List.mem_of_getElem? (i := 1043) (by decide +kernel))) rfl
theorem ke_C_global : Cond.selects R_C y_C_global y_C_global ∈ lw_g := lw_in (List.mem_append_right _ (List.mem_of_getElem? (i := 1044) (by decide +kernel))) rfl
-- C_isLetter: maxLocals 1, ret (some .boolean)
theorem kc_C_isLetter : Cond.code y_C_isLetter b_C_isLetter 1 (some .boolean) ∈ lw_g := lw_in (List.mem_append_right _ (List.mem_of_getElem? (i := 565) (by decide +kernel))) rfl
theorem d_C_isLetter_0 : decode b_C_isLetter 0 = .ok (.iload_n 0, 1) := by decide +kernel
theorem d_C_isLetter_1 : decode b_C_isLetter 1 = .ok (.ifCond .lt 13, 3) := by decide +kernel
theorem d_C_isLetter_4 : decode b_C_isLetter 4 = .ok (.iload_n 0, 1) := by decide +kernel
theorem d_C_isLetter_5 : decode b_C_isLetter 5 = .ok (.bipush 26, 2) := by decide +kernel
theorem d_C_isLetter_7 : decode b_C_isLetter 7 = .ok (.if_icmp .ge 7, 3) := by decide +kernel
theorem d_C_isLetter_10 : decode b_C_isLetter 10 = .ok (.iconst 1, 1) := by decide +kernel
theorem d_C_isLetter_11 : decode b_C_isLetter 11 = .ok (.goto 4, 3) := by decide +kernel
theorem d_C_isLetter_14 : decode b_C_isLetter 14 = .ok (.iconst 0, 1) := by decide +kernel
theorem d_C_isLetter_15 : decode b_C_isLetter 15 = .ok (.ireturn, 1) := by decide +kernel
theorem ks_C_isLetter : Cond.static y_C_isLetter ∈ lw_g := lw_in (List.mem_append_right _ (List.mem_of_getElem? (i := 564) (by decide +kernel))) rfl
-- C_putBehind: maxLocals 6, ret (some .int)
theorem kc_C_putBehind : Cond.code y_C_putBehind b_C_putBehind 6 (some .int) ∈ lw_g := lw_in (List.mem_append_right _ (List.mem_of_getElem? (i := 383) (by decide +kernel))) rfl
theorem d_C_putBehind_0 : decode b_C_putBehind 0 = .ok (.aload_n 0, 1) := by decide +kernel
theorem d_C_putBehind_1 : decode b_C_putBehind 1 = .ok (.getfield 58, 3) := by decide +kernel
theorem d_C_putBehind_4 : decode b_C_putBehind 4 = .ok (.istore_n 3, 1) := by decide +kernel
theorem d_C_putBehind_5 : decode b_C_putBehind 5 = .ok (.bipush 7, 2) := by decide +kernel
theorem d_C_putBehind_7 : decode b_C_putBehind 7 = .ok (.istore 4, 2) := by decide +kernel
theorem d_C_putBehind_9 : decode b_C_putBehind 9 = .ok (.iload 4, 2) := by decide +kernel
theorem d_C_putBehind_11 : decode b_C_putBehind 11 = .ok (.ifCond .lt 56, 3) := by decide +kernel
theorem d_C_putBehind_14 : decode b_C_putBehind 14 = .ok (.lload_n 1, 1) := by decide +kernel
theorem d_C_putBehind_15 : decode b_C_putBehind 15 = .ok (.bipush 8, 2) := by decide +kernel
theorem d_C_putBehind_17 : decode b_C_putBehind 17 = .ok (.iload 4, 2) := by decide +kernel
theorem d_C_putBehind_19 : decode b_C_putBehind 19 = .ok (.imul, 1) := by decide +kernel
theorem d_C_putBehind_20 : decode b_C_putBehind 20 = .ok (.lushr, 1) := by decide +kernel
theorem d_C_putBehind_21 : decode b_C_putBehind 21 = .ok (.l2i, 1) := by decide +kernel
theorem d_C_putBehind_22 : decode b_C_putBehind 22 = .ok (.sipush 255, 3) := by decide +kernel
theorem d_C_putBehind_25 : decode b_C_putBehind 25 = .ok (.iand, 1) := by decide +kernel
theorem d_C_putBehind_26 : decode b_C_putBehind 26 = .ok (.istore 5, 2) := by decide +kernel
theorem d_C_putBehind_28 : decode b_C_putBehind 28 = .ok (.iload 5, 2) := by decide +kernel
theorem d_C_putBehind_30 : decode b_C_putBehind 30 = .ok (.ifCond .eq 31, 3) := by decide +kernel
theorem d_C_putBehind_33 : decode b_C_putBehind 33 = .ok (.iload 5, 2) := by decide +kernel
theorem d_C_putBehind_35 : decode b_C_putBehind 35 = .ok (.bipush 32, 2) := by decide +kernel
theorem d_C_putBehind_37 : decode b_C_putBehind 37 = .ok (.if_icmp .lt 10, 3) := by decide +kernel
theorem d_C_putBehind_40 : decode b_C_putBehind 40 = .ok (.iload 5, 2) := by decide +kernel
theorem d_C_putBehind_42 : decode b_C_putBehind 42 = .ok (.bipush 126, 2) := by decide +kernel
theorem d_C_putBehind_44 : decode b_C_putBehind 44 = .ok (.if_icmp .le 5, 3) := by decide +kernel
theorem d_C_putBehind_47 : decode b_C_putBehind 47 = .ok (.iconst (-1), 1) := by decide +kernel
theorem d_C_putBehind_48 : decode b_C_putBehind 48 = .ok (.ireturn, 1) := by decide +kernel
theorem d_C_putBehind_49 : decode b_C_putBehind 49 = .ok (.aload_n 0, 1) := by decide +kernel
theorem d_C_putBehind_50 : decode b_C_putBehind 50 = .ok (.getfield 9, 3) := by decide +kernel
theorem d_C_putBehind_53 : decode b_C_putBehind 53 = .ok (.iload_n 3, 1) := by decide +kernel
theorem d_C_putBehind_54 : decode b_C_putBehind 54 = .ok (.iload 5, 2) := by decide +kernel
theorem d_C_putBehind_56 : decode b_C_putBehind 56 = .ok (.i2c, 1) := by decide +kernel
theorem d_C_putBehind_57 : decode b_C_putBehind 57 = .ok (.castore, 1) := by decide +kernel
theorem d_C_putBehind_58 : decode b_C_putBehind 58 = .ok (.iinc 3 1, 3) := by decide +kernel
theorem d_C_putBehind_61 : decode b_C_putBehind 61 = .ok (.iinc 4 (-1), 3) := by decide +kernel
theorem d_C_putBehind_64 : decode b_C_putBehind 64 = .ok (.goto (-55), 3) := by decide +kernel
theorem d_C_putBehind_67 : decode b_C_putBehind 67 = .ok (.iload_n 3, 1) := by decide +kernel
theorem d_C_putBehind_68 : decode b_C_putBehind 68 = .ok (.ireturn, 1) := by decide +kernel
theorem ki_C_putBehind : Cond.instanceMethod y_C_putBehind ∈ lw_g := lw_in (List.mem_append_right _ (List.mem_of_getElem? (i := 382) (by decide +kernel))) rfl
theorem ke_C_putBehind : Cond.selects R_C y_C_putBehind y_C_putBehind ∈ lw_g := lw_in (List.mem_append_left _ (List.mem_map.mpr ⟨(y_C_putBehind, 6), by decide +kernel, rfl⟩)) rfl
-- C_throwFault: maxLocals 1, ret none
theorem kc_C_throwFault : Cond.code y_C_throwFault b_C_throwFault 1 none ∈ lw_g := lw_in (List.mem_append_right _ (List.mem_of_getElem? (i := 966) (by decide +kernel))) rfl
theorem d_C_throwFault_0 : decode b_C_throwFault 0 = .ok (.iload_n 0, 1) := by decide +kernel
theorem d_C_throwFault_1 : decode b_C_throwFault 1 = .ok (.tableswitch 71 1 4 #[31, 41, 51, 61], 31) := by decide +kernel
theorem d_C_throwFault_32 : decode b_C_throwFault 32 = .ok (.new 38, 3) := by decide +kernel
theorem d_C_throwFault_35 : decode b_C_throwFault 35 = .ok (.dup, 1) := by decide +kernel
theorem d_C_throwFault_36 : decode b_C_throwFault 36 = .ok (.ldc 160, 2) := by decide +kernel
theorem k_C_s160 : Cond.stringRef R_C 160 "a name has no value" ∈ lw_tbl := List.mem_append_right _ (List.mem_of_getElem? (i := 967) (by decide +kernel))
theorem d_C_throwFault_38 : decode b_C_throwFault 38 = .ok (.invokespecial 42, 3) := by decide +kernel
theorem d_C_throwFault_41 : decode b_C_throwFault 41 = .ok (.athrow, 1) := by decide +kernel
theorem d_C_throwFault_42 : decode b_C_throwFault 42 = .ok (.new 162, 3) := by decide +kernel
theorem k_C_c162 : Cond.classLink R_C 162 "java/lang/UnsupportedOperationException" ∈ lw_g := lw_in (List.mem_append_right _ (List.mem_of_getElem? (i := 968) (by decide +kernel))) rfl
theorem d_C_throwFault_45 : decode b_C_throwFault 45 = .ok (.dup, 1) := by decide +kernel
theorem d_C_throwFault_46 : decode b_C_throwFault 46 = .ok (.ldc 164, 2) := by decide +kernel
theorem k_C_s164 : Cond.stringRef R_C 164 "a value is of another kind" ∈ lw_tbl := List.mem_append_right _ (List.mem_of_getElem? (i := 977) (by decide +kernel))
theorem d_C_throwFault_48 : decode b_C_throwFault 48 = .ok (.invokespecial 166, 3) := by decide +kernel
theorem k_C_m166 : Cond.methodLink R_C 166 ⟨"java/lang/UnsupportedOperationException", "<init>", "(Ljava/lang/String;)V"⟩ ∈ lw_g := lw_in (List.mem_append_right _ (List.mem_of_getElem? (i := 978) (by decide +kernel))) rfl
theorem d_C_throwFault_51 : decode b_C_throwFault 51 = .ok (.athrow, 1) := by decide +kernel
theorem d_C_throwFault_52 : decode b_C_throwFault 52 = .ok (.new 167, 3) := by decide +kernel
theorem k_C_c167 : Cond.classLink R_C 167 "java/lang/ArithmeticException" ∈ lw_g := lw_in (List.mem_append_right _ (List.mem_of_getElem? (i := 984) (by decide +kernel))) rfl
theorem d_C_throwFault_55 : decode b_C_throwFault 55 = .ok (.dup, 1) := by decide +kernel
theorem d_C_throwFault_56 : decode b_C_throwFault 56 = .ok (.ldc 169, 2) := by decide +kernel
theorem k_C_s169 : Cond.stringRef R_C 169 "division by 0" ∈ lw_tbl := List.mem_append_right _ (List.mem_of_getElem? (i := 993) (by decide +kernel))
theorem d_C_throwFault_58 : decode b_C_throwFault 58 = .ok (.invokespecial 171, 3) := by decide +kernel
theorem k_C_m171 : Cond.methodLink R_C 171 ⟨"java/lang/ArithmeticException", "<init>", "(Ljava/lang/String;)V"⟩ ∈ lw_g := lw_in (List.mem_append_right _ (List.mem_of_getElem? (i := 994) (by decide +kernel))) rfl
theorem d_C_throwFault_61 : decode b_C_throwFault 61 = .ok (.athrow, 1) := by decide +kernel
theorem d_C_throwFault_62 : decode b_C_throwFault 62 = .ok (.new 49, 3) := by decide +kernel
theorem d_C_throwFault_65 : decode b_C_throwFault 65 = .ok (.dup, 1) := by decide +kernel
theorem d_C_throwFault_66 : decode b_C_throwFault 66 = .ok (.ldc 172, 2) := by decide +kernel
theorem k_C_s172 : Cond.stringRef R_C 172 "not as many arguments as names" ∈ lw_tbl := List.mem_append_right _ (List.mem_of_getElem? (i := 1000) (by decide +kernel))
theorem d_C_throwFault_68 : decode b_C_throwFault 68 = .ok (.invokespecial 53, 3) := by decide +kernel
theorem d_C_throwFault_71 : decode b_C_throwFault 71 = .ok (.athrow, 1) := by decide +kernel
theorem d_C_throwFault_72 : decode b_C_throwFault 72 = .ok (.new 49, 3) := by decide +kernel
theorem d_C_throwFault_75 : decode b_C_throwFault 75 = .ok (.dup, 1) := by decide +kernel
theorem d_C_throwFault_76 : decode b_C_throwFault 76 = .ok (.ldc 174, 2) := by decide +kernel
theorem k_C_s174 : Cond.stringRef R_C 174 "no room" ∈ lw_tbl := List.mem_append_right _ (List.mem_of_getElem? (i := 1001) (by decide +kernel))
theorem d_C_throwFault_78 : decode b_C_throwFault 78 = .ok (.invokespecial 53, 3) := by decide +kernel
theorem d_C_throwFault_81 : decode b_C_throwFault 81 = .ok (.athrow, 1) := by decide +kernel
theorem ks_C_throwFault : Cond.static y_C_throwFault ∈ lw_g := lw_in (List.mem_append_right _ (List.mem_of_getElem? (i := 965) (by decide +kernel))) rfl
def T_Binding : u_T := fun k => match k with
  | 0 => ("ContinuationCore$Binding", "held", "LContinuationCore$Place;", true)
  | 1 => ("ContinuationCore$Binding", "name", "I", false)
  | _ => ("ContinuationCore$Binding", "behind", "LContinuationCore$Binding;", false)
def ty_Binding : Nat → FieldType := fun k => match k with
  | 0 => .object "ContinuationCore$Place"
  | 1 => .int
  | _ => .object "ContinuationCore$Binding"
theorem nm_Binding : ∀ a, a < 3 → ∀ b, b < 3 → a ≠ b → (T_Binding a).2.1 ≠ (T_Binding b).2.1 := by decide +kernel
theorem ty_Binding_ok : ∀ k, k < 3 → parseFieldDescriptor (T_Binding k).2.2.1 = some (ty_Binding k) := by decide +kernel
theorem in_Binding_l : u_ws R_Binding T_Binding 3 = ([188, 190, 192] : List Nat).filterMap (fun i => tables_1[i]?) := by decide +kernel
theorem in_Binding : ∀ w ∈ u_ws R_Binding T_Binding 3, w ∈ lw_g := fun w h => by
  have hg : (u_ws R_Binding T_Binding 3).all goodWord = true := by decide +kernel
  refine lw_in ?_ (List.all_eq_true.mp hg w h)
  rw [in_Binding_l] at h
  obtain ⟨i, -, hi⟩ := List.mem_filterMap.mp h
  exact List.mem_append_right _ (List.mem_of_getElem? hi)
theorem k_Binding_inst : Cond.instantiable R_Binding 3 ∈ lw_g := lw_in (List.mem_append_right _ (List.mem_of_getElem? (i := 174) (by decide +kernel))) rfl
theorem k_Binding_ini : Cond.initialized R_Binding ∈ lw_g := lw_in (List.mem_append_right _ (List.mem_of_getElem? (i := 10) (by decide +kernel))) rfl
-- Binding_init: maxLocals 1, ret none
theorem kc_Binding_init : Cond.code y_Binding_init b_Binding_init 1 none ∈ lw_g := lw_in (List.mem_append_right _ (List.mem_of_getElem? (i := 177) (by decide +kernel))) rfl
theorem d_Binding_init_0 : decode b_Binding_init 0 = .ok (.aload_n 0, 1) := by decide +kernel
theorem d_Binding_init_1 : decode b_Binding_init 1 = .ok (.invokespecial 1, 3) := by decide +kernel
theorem k_Binding_m1 : Cond.methodLink R_Binding 1 objectInit ∈ lw_g := lw_in (List.mem_append_right _ (List.mem_of_getElem? (i := 178) (by decide +kernel))) rfl
theorem d_Binding_init_4 : decode b_Binding_init 4 = .ok (.aload_n 0, 1) := by decide +kernel
theorem d_Binding_init_5 : decode b_Binding_init 5 = .ok (.new 7, 3) := by decide +kernel
theorem k_Binding_c7 : Cond.classLink R_Binding 7 "ContinuationCore$Place" ∈ lw_g := lw_in (List.mem_append_right _ (List.mem_of_getElem? (i := 179) (by decide +kernel))) rfl
theorem d_Binding_init_8 : decode b_Binding_init 8 = .ok (.dup, 1) := by decide +kernel
theorem d_Binding_init_9 : decode b_Binding_init 9 = .ok (.invokespecial 9, 3) := by decide +kernel
theorem k_Binding_mn9 : Cond.methodLinkNest R_Binding 9 y_Place_init "ContinuationCore" ∈ lw_tbl := List.mem_append_right _ (List.mem_of_getElem? (i := 180) (by decide +kernel))
theorem d_Binding_init_12 : decode b_Binding_init 12 = .ok (.putfield 10, 3) := by decide +kernel
theorem k_Binding_f10 : Cond.fieldLink R_Binding 10 "ContinuationCore$Binding" "held" "LContinuationCore$Place;" ∈ lw_g := lw_in (List.mem_append_right _ (List.mem_of_getElem? (i := 181) (by decide +kernel))) rfl
theorem d_Binding_init_15 : decode b_Binding_init 15 = .ok (.return_, 1) := by decide +kernel
theorem ki_Binding_init : Cond.instanceMethod y_Binding_init ∈ lw_g := lw_in (List.mem_append_right _ (List.mem_of_getElem? (i := 176) (by decide +kernel))) rfl
-- Binding_become: maxLocals 3, ret none
theorem kc_Binding_become : Cond.code y_Binding_become b_Binding_become 3 none ∈ lw_g := lw_in (List.mem_append_right _ (List.mem_of_getElem? (i := 198) (by decide +kernel))) rfl
theorem d_Binding_become_0 : decode b_Binding_become 0 = .ok (.aload_n 0, 1) := by decide +kernel
theorem d_Binding_become_1 : decode b_Binding_become 1 = .ok (.iload_n 1, 1) := by decide +kernel
theorem d_Binding_become_2 : decode b_Binding_become 2 = .ok (.putfield 16, 3) := by decide +kernel
theorem k_Binding_f16 : Cond.fieldLink R_Binding 16 "ContinuationCore$Binding" "name" "I" ∈ lw_g := lw_in (List.mem_append_right _ (List.mem_of_getElem? (i := 184) (by decide +kernel))) rfl
theorem d_Binding_become_5 : decode b_Binding_become 5 = .ok (.aload_n 0, 1) := by decide +kernel
theorem d_Binding_become_6 : decode b_Binding_become 6 = .ok (.aload_n 2, 1) := by decide +kernel
theorem d_Binding_become_7 : decode b_Binding_become 7 = .ok (.putfield 20, 3) := by decide +kernel
theorem k_Binding_f20 : Cond.fieldLink R_Binding 20 "ContinuationCore$Binding" "behind" "LContinuationCore$Binding;" ∈ lw_g := lw_in (List.mem_append_right _ (List.mem_of_getElem? (i := 186) (by decide +kernel))) rfl
theorem d_Binding_become_10 : decode b_Binding_become 10 = .ok (.return_, 1) := by decide +kernel
theorem ki_Binding_become : Cond.instanceMethod y_Binding_become ∈ lw_g := lw_in (List.mem_append_right _ (List.mem_of_getElem? (i := 196) (by decide +kernel))) rfl
theorem ke_Binding_become : Cond.selects R_Binding y_Binding_become y_Binding_become ∈ lw_g := lw_in (List.mem_append_right _ (List.mem_of_getElem? (i := 197) (by decide +kernel))) rfl
def T_Closure : u_T := fun k => match k with
  | 0 => ("ContinuationCore$Closure", "code", "LContinuationCore$Expression;", true)
  | _ => ("ContinuationCore$Closure", "scope", "LContinuationCore$Binding;", true)
def ty_Closure : Nat → FieldType := fun k => match k with
  | 0 => .object "ContinuationCore$Expression"
  | _ => .object "ContinuationCore$Binding"
theorem nm_Closure : ∀ a, a < 2 → ∀ b, b < 2 → a ≠ b → (T_Closure a).2.1 ≠ (T_Closure b).2.1 := by decide +kernel
theorem ty_Closure_ok : ∀ k, k < 2 → parseFieldDescriptor (T_Closure k).2.2.1 = some (ty_Closure k) := by decide +kernel
theorem in_Closure_l : u_ws R_Closure T_Closure 2 = ([640, 642] : List Nat).filterMap (fun i => tables_1[i]?) := by decide +kernel
theorem in_Closure : ∀ w ∈ u_ws R_Closure T_Closure 2, w ∈ lw_g := fun w h => by
  have hg : (u_ws R_Closure T_Closure 2).all goodWord = true := by decide +kernel
  refine lw_in ?_ (List.all_eq_true.mp hg w h)
  rw [in_Closure_l] at h
  obtain ⟨i, -, hi⟩ := List.mem_filterMap.mp h
  exact List.mem_append_right _ (List.mem_of_getElem? hi)
theorem k_Closure_inst : Cond.instantiable R_Closure 2 ∈ lw_g := lw_in (List.mem_append_right _ (List.mem_of_getElem? (i := 631) (by decide +kernel))) rfl
theorem k_Closure_ini : Cond.initialized R_Closure ∈ lw_g := lw_in (List.mem_append_right _ (List.mem_of_getElem? (i := 22) (by decide +kernel))) rfl
-- Closure_init: maxLocals 3, ret none
theorem kc_Closure_init : Cond.code y_Closure_init b_Closure_init 3 none ∈ lw_g := lw_in (List.mem_append_right _ (List.mem_of_getElem? (i := 634) (by decide +kernel))) rfl
theorem d_Closure_init_0 : decode b_Closure_init 0 = .ok (.aload_n 0, 1) := by decide +kernel
theorem d_Closure_init_1 : decode b_Closure_init 1 = .ok (.invokespecial 1, 3) := by decide +kernel
theorem k_Closure_m1 : Cond.methodLink R_Closure 1 objectInit ∈ lw_g := lw_in (List.mem_append_right _ (List.mem_of_getElem? (i := 635) (by decide +kernel))) rfl
theorem d_Closure_init_4 : decode b_Closure_init 4 = .ok (.aload_n 0, 1) := by decide +kernel
theorem d_Closure_init_5 : decode b_Closure_init 5 = .ok (.aload_n 1, 1) := by decide +kernel
theorem d_Closure_init_6 : decode b_Closure_init 6 = .ok (.putfield 7, 3) := by decide +kernel
theorem k_Closure_f7 : Cond.fieldLink R_Closure 7 "ContinuationCore$Closure" "code" "LContinuationCore$Expression;" ∈ lw_g := lw_in (List.mem_append_right _ (List.mem_of_getElem? (i := 636) (by decide +kernel))) rfl
theorem d_Closure_init_9 : decode b_Closure_init 9 = .ok (.aload_n 0, 1) := by decide +kernel
theorem d_Closure_init_10 : decode b_Closure_init 10 = .ok (.aload_n 2, 1) := by decide +kernel
theorem d_Closure_init_11 : decode b_Closure_init 11 = .ok (.putfield 13, 3) := by decide +kernel
theorem k_Closure_f13 : Cond.fieldLink R_Closure 13 "ContinuationCore$Closure" "scope" "LContinuationCore$Binding;" ∈ lw_g := lw_in (List.mem_append_right _ (List.mem_of_getElem? (i := 638) (by decide +kernel))) rfl
theorem d_Closure_init_14 : decode b_Closure_init 14 = .ok (.return_, 1) := by decide +kernel
theorem ki_Closure_init : Cond.instanceMethod y_Closure_init ∈ lw_g := lw_in (List.mem_append_right _ (List.mem_of_getElem? (i := 633) (by decide +kernel))) rfl
def T_Expression : u_T := fun k => match k with
  | 0 => ("ContinuationCore$Expression", "kind", "C", false)
  | 1 => ("ContinuationCore$Expression", "number", "I", false)
  | 2 => ("ContinuationCore$Expression", "nameCount", "I", false)
  | 3 => ("ContinuationCore$Expression", "partCount", "I", false)
  | 4 => ("ContinuationCore$Expression", "names", "[I", true)
  | _ => ("ContinuationCore$Expression", "parts", "[LContinuationCore$Expression;", true)
def ty_Expression : Nat → FieldType := fun k => match k with
  | 0 => .char
  | 1 => .int
  | 2 => .int
  | 3 => .int
  | 4 => .array .int
  | _ => .array (.object "ContinuationCore$Expression")
theorem nm_Expression : ∀ a, a < 6 → ∀ b, b < 6 → a ≠ b → (T_Expression a).2.1 ≠ (T_Expression b).2.1 := by decide +kernel
theorem ty_Expression_ok : ∀ k, k < 6 → parseFieldDescriptor (T_Expression k).2.2.1 = some (ty_Expression k) := by decide +kernel
theorem in_Expression_l : u_ws R_Expression T_Expression 6 = ([66, 68, 70, 72, 74, 76] : List Nat).filterMap (fun i => tables_1[i]?) := by decide +kernel
theorem in_Expression : ∀ w ∈ u_ws R_Expression T_Expression 6, w ∈ lw_g := fun w h => by
  have hg : (u_ws R_Expression T_Expression 6).all goodWord = true := by decide +kernel
  refine lw_in ?_ (List.all_eq_true.mp hg w h)
  rw [in_Expression_l] at h
  obtain ⟨i, -, hi⟩ := List.mem_filterMap.mp h
  exact List.mem_append_right _ (List.mem_of_getElem? hi)
theorem k_Expression_inst : Cond.instantiable R_Expression 6 ∈ lw_g := lw_in (List.mem_append_right _ (List.mem_of_getElem? (i := 47) (by decide +kernel))) rfl
theorem k_Expression_ini : Cond.initialized R_Expression ∈ lw_g := lw_in (List.mem_append_right _ (List.mem_of_getElem? (i := 3) (by decide +kernel))) rfl
-- Expression_init: maxLocals 1, ret none
theorem kc_Expression_init : Cond.code y_Expression_init b_Expression_init 1 none ∈ lw_g := lw_in (List.mem_append_right _ (List.mem_of_getElem? (i := 50) (by decide +kernel))) rfl
theorem d_Expression_init_0 : decode b_Expression_init 0 = .ok (.aload_n 0, 1) := by decide +kernel
theorem d_Expression_init_1 : decode b_Expression_init 1 = .ok (.invokespecial 1, 3) := by decide +kernel
theorem k_Expression_m1 : Cond.methodLink R_Expression 1 objectInit ∈ lw_g := lw_in (List.mem_append_right _ (List.mem_of_getElem? (i := 51) (by decide +kernel))) rfl
theorem d_Expression_init_4 : decode b_Expression_init 4 = .ok (.aload_n 0, 1) := by decide +kernel
theorem d_Expression_init_5 : decode b_Expression_init 5 = .ok (.iconst 3, 1) := by decide +kernel
theorem d_Expression_init_6 : decode b_Expression_init 6 = .ok (.newarray .int, 2) := by decide +kernel
theorem d_Expression_init_8 : decode b_Expression_init 8 = .ok (.putfield 9, 3) := by decide +kernel
theorem k_Expression_f9 : Cond.fieldLink R_Expression 9 "ContinuationCore$Expression" "names" "[I" ∈ lw_g := lw_in (List.mem_append_right _ (List.mem_of_getElem? (i := 62) (by decide +kernel))) rfl
theorem d_Expression_init_11 : decode b_Expression_init 11 = .ok (.aload_n 0, 1) := by decide +kernel
theorem d_Expression_init_12 : decode b_Expression_init 12 = .ok (.iconst 4, 1) := by decide +kernel
theorem d_Expression_init_13 : decode b_Expression_init 13 = .ok (.anewarray 7, 3) := by decide +kernel
theorem k_Expression_c7 : Cond.classLink R_Expression 7 "ContinuationCore$Expression" ∈ lw_g := lw_in (List.mem_append_right _ (List.mem_of_getElem? (i := 52) (by decide +kernel))) rfl
theorem d_Expression_init_16 : decode b_Expression_init 16 = .ok (.putfield 13, 3) := by decide +kernel
theorem k_Expression_f13 : Cond.fieldLink R_Expression 13 "ContinuationCore$Expression" "parts" "[LContinuationCore$Expression;" ∈ lw_g := lw_in (List.mem_append_right _ (List.mem_of_getElem? (i := 64) (by decide +kernel))) rfl
theorem d_Expression_init_19 : decode b_Expression_init 19 = .ok (.return_, 1) := by decide +kernel
theorem ki_Expression_init : Cond.instanceMethod y_Expression_init ∈ lw_g := lw_in (List.mem_append_right _ (List.mem_of_getElem? (i := 49) (by decide +kernel))) rfl
-- Expression_become: maxLocals 3, ret none
theorem kc_Expression_become : Cond.code y_Expression_become b_Expression_become 3 none ∈ lw_g := lw_in (List.mem_append_right _ (List.mem_of_getElem? (i := 422) (by decide +kernel))) rfl
theorem d_Expression_become_0 : decode b_Expression_become 0 = .ok (.aload_n 0, 1) := by decide +kernel
theorem d_Expression_become_1 : decode b_Expression_become 1 = .ok (.iload_n 1, 1) := by decide +kernel
theorem d_Expression_become_2 : decode b_Expression_become 2 = .ok (.putfield 17, 3) := by decide +kernel
theorem k_Expression_f17 : Cond.fieldLink R_Expression 17 "ContinuationCore$Expression" "kind" "C" ∈ lw_g := lw_in (List.mem_append_right _ (List.mem_of_getElem? (i := 53) (by decide +kernel))) rfl
theorem d_Expression_become_5 : decode b_Expression_become 5 = .ok (.aload_n 0, 1) := by decide +kernel
theorem d_Expression_become_6 : decode b_Expression_become 6 = .ok (.iload_n 2, 1) := by decide +kernel
theorem d_Expression_become_7 : decode b_Expression_become 7 = .ok (.putfield 21, 3) := by decide +kernel
theorem k_Expression_f21 : Cond.fieldLink R_Expression 21 "ContinuationCore$Expression" "number" "I" ∈ lw_g := lw_in (List.mem_append_right _ (List.mem_of_getElem? (i := 55) (by decide +kernel))) rfl
theorem d_Expression_become_10 : decode b_Expression_become 10 = .ok (.aload_n 0, 1) := by decide +kernel
theorem d_Expression_become_11 : decode b_Expression_become 11 = .ok (.iconst 0, 1) := by decide +kernel
theorem d_Expression_become_12 : decode b_Expression_become 12 = .ok (.putfield 25, 3) := by decide +kernel
theorem k_Expression_f25 : Cond.fieldLink R_Expression 25 "ContinuationCore$Expression" "nameCount" "I" ∈ lw_g := lw_in (List.mem_append_right _ (List.mem_of_getElem? (i := 58) (by decide +kernel))) rfl
theorem d_Expression_become_15 : decode b_Expression_become 15 = .ok (.aload_n 0, 1) := by decide +kernel
theorem d_Expression_become_16 : decode b_Expression_become 16 = .ok (.iconst 0, 1) := by decide +kernel
theorem d_Expression_become_17 : decode b_Expression_become 17 = .ok (.putfield 28, 3) := by decide +kernel
theorem k_Expression_f28 : Cond.fieldLink R_Expression 28 "ContinuationCore$Expression" "partCount" "I" ∈ lw_g := lw_in (List.mem_append_right _ (List.mem_of_getElem? (i := 60) (by decide +kernel))) rfl
theorem d_Expression_become_20 : decode b_Expression_become 20 = .ok (.return_, 1) := by decide +kernel
theorem ki_Expression_become : Cond.instanceMethod y_Expression_become ∈ lw_g := lw_in (List.mem_append_right _ (List.mem_of_getElem? (i := 420) (by decide +kernel))) rfl
theorem ke_Expression_become : Cond.selects R_Expression y_Expression_become y_Expression_become ∈ lw_g := lw_in (List.mem_append_right _ (List.mem_of_getElem? (i := 421) (by decide +kernel))) rfl
-- Expression_addName: maxLocals 3, ret (some .boolean)
theorem kc_Expression_addName : Cond.code y_Expression_addName b_Expression_addName 3 (some .boolean) ∈ lw_g := lw_in (List.mem_append_right _ (List.mem_of_getElem? (i := 547) (by decide +kernel))) rfl
theorem d_Expression_addName_0 : decode b_Expression_addName 0 = .ok (.aload_n 0, 1) := by decide +kernel
theorem d_Expression_addName_1 : decode b_Expression_addName 1 = .ok (.getfield 25, 3) := by decide +kernel
theorem d_Expression_addName_4 : decode b_Expression_addName 4 = .ok (.iconst 3, 1) := by decide +kernel
theorem d_Expression_addName_5 : decode b_Expression_addName 5 = .ok (.if_icmp .lt 5, 3) := by decide +kernel
theorem d_Expression_addName_8 : decode b_Expression_addName 8 = .ok (.iconst 0, 1) := by decide +kernel
theorem d_Expression_addName_9 : decode b_Expression_addName 9 = .ok (.ireturn, 1) := by decide +kernel
theorem d_Expression_addName_10 : decode b_Expression_addName 10 = .ok (.iconst 0, 1) := by decide +kernel
theorem d_Expression_addName_11 : decode b_Expression_addName 11 = .ok (.istore_n 2, 1) := by decide +kernel
theorem d_Expression_addName_12 : decode b_Expression_addName 12 = .ok (.iload_n 2, 1) := by decide +kernel
theorem d_Expression_addName_13 : decode b_Expression_addName 13 = .ok (.aload_n 0, 1) := by decide +kernel
theorem d_Expression_addName_14 : decode b_Expression_addName 14 = .ok (.getfield 25, 3) := by decide +kernel
theorem d_Expression_addName_17 : decode b_Expression_addName 17 = .ok (.if_icmp .ge 21, 3) := by decide +kernel
theorem d_Expression_addName_20 : decode b_Expression_addName 20 = .ok (.aload_n 0, 1) := by decide +kernel
theorem d_Expression_addName_21 : decode b_Expression_addName 21 = .ok (.getfield 9, 3) := by decide +kernel
theorem d_Expression_addName_24 : decode b_Expression_addName 24 = .ok (.iload_n 2, 1) := by decide +kernel
theorem d_Expression_addName_25 : decode b_Expression_addName 25 = .ok (.iaload, 1) := by decide +kernel
theorem d_Expression_addName_26 : decode b_Expression_addName 26 = .ok (.iload_n 1, 1) := by decide +kernel
theorem d_Expression_addName_27 : decode b_Expression_addName 27 = .ok (.if_icmp .ne 5, 3) := by decide +kernel
theorem d_Expression_addName_30 : decode b_Expression_addName 30 = .ok (.iconst 0, 1) := by decide +kernel
theorem d_Expression_addName_31 : decode b_Expression_addName 31 = .ok (.ireturn, 1) := by decide +kernel
theorem d_Expression_addName_32 : decode b_Expression_addName 32 = .ok (.iinc 2 1, 3) := by decide +kernel
theorem d_Expression_addName_35 : decode b_Expression_addName 35 = .ok (.goto (-23), 3) := by decide +kernel
theorem d_Expression_addName_38 : decode b_Expression_addName 38 = .ok (.aload_n 0, 1) := by decide +kernel
theorem d_Expression_addName_39 : decode b_Expression_addName 39 = .ok (.getfield 9, 3) := by decide +kernel
theorem d_Expression_addName_42 : decode b_Expression_addName 42 = .ok (.aload_n 0, 1) := by decide +kernel
theorem d_Expression_addName_43 : decode b_Expression_addName 43 = .ok (.getfield 25, 3) := by decide +kernel
theorem d_Expression_addName_46 : decode b_Expression_addName 46 = .ok (.iload_n 1, 1) := by decide +kernel
theorem d_Expression_addName_47 : decode b_Expression_addName 47 = .ok (.iastore, 1) := by decide +kernel
theorem d_Expression_addName_48 : decode b_Expression_addName 48 = .ok (.aload_n 0, 1) := by decide +kernel
theorem d_Expression_addName_49 : decode b_Expression_addName 49 = .ok (.dup, 1) := by decide +kernel
theorem d_Expression_addName_50 : decode b_Expression_addName 50 = .ok (.getfield 25, 3) := by decide +kernel
theorem d_Expression_addName_53 : decode b_Expression_addName 53 = .ok (.iconst 1, 1) := by decide +kernel
theorem d_Expression_addName_54 : decode b_Expression_addName 54 = .ok (.iadd, 1) := by decide +kernel
theorem d_Expression_addName_55 : decode b_Expression_addName 55 = .ok (.putfield 25, 3) := by decide +kernel
theorem d_Expression_addName_58 : decode b_Expression_addName 58 = .ok (.iconst 1, 1) := by decide +kernel
theorem d_Expression_addName_59 : decode b_Expression_addName 59 = .ok (.ireturn, 1) := by decide +kernel
theorem ki_Expression_addName : Cond.instanceMethod y_Expression_addName ∈ lw_g := lw_in (List.mem_append_right _ (List.mem_of_getElem? (i := 545) (by decide +kernel))) rfl
theorem ke_Expression_addName : Cond.selects R_Expression y_Expression_addName y_Expression_addName ∈ lw_g := lw_in (List.mem_append_right _ (List.mem_of_getElem? (i := 546) (by decide +kernel))) rfl
-- Expression_addPart: maxLocals 2, ret (some .boolean)
theorem kc_Expression_addPart : Cond.code y_Expression_addPart b_Expression_addPart 2 (some .boolean) ∈ lw_g := lw_in (List.mem_append_right _ (List.mem_of_getElem? (i := 535) (by decide +kernel))) rfl
theorem d_Expression_addPart_0 : decode b_Expression_addPart 0 = .ok (.aload_n 0, 1) := by decide +kernel
theorem d_Expression_addPart_1 : decode b_Expression_addPart 1 = .ok (.getfield 28, 3) := by decide +kernel
theorem d_Expression_addPart_4 : decode b_Expression_addPart 4 = .ok (.aload_n 0, 1) := by decide +kernel
theorem d_Expression_addPart_5 : decode b_Expression_addPart 5 = .ok (.invokevirtual 31, 3) := by decide +kernel
theorem k_Expression_m31 : Cond.methodLink R_Expression 31 y_Expression_mostParts ∈ lw_g := lw_in (List.mem_append_right _ (List.mem_of_getElem? (i := 528) (by decide +kernel))) rfl
theorem d_Expression_addPart_8 : decode b_Expression_addPart 8 = .ok (.if_icmp .lt 5, 3) := by decide +kernel
theorem d_Expression_addPart_11 : decode b_Expression_addPart 11 = .ok (.iconst 0, 1) := by decide +kernel
theorem d_Expression_addPart_12 : decode b_Expression_addPart 12 = .ok (.ireturn, 1) := by decide +kernel
theorem d_Expression_addPart_13 : decode b_Expression_addPart 13 = .ok (.aload_n 0, 1) := by decide +kernel
theorem d_Expression_addPart_14 : decode b_Expression_addPart 14 = .ok (.getfield 13, 3) := by decide +kernel
theorem d_Expression_addPart_17 : decode b_Expression_addPart 17 = .ok (.aload_n 0, 1) := by decide +kernel
theorem d_Expression_addPart_18 : decode b_Expression_addPart 18 = .ok (.getfield 28, 3) := by decide +kernel
theorem d_Expression_addPart_21 : decode b_Expression_addPart 21 = .ok (.aload_n 1, 1) := by decide +kernel
theorem d_Expression_addPart_22 : decode b_Expression_addPart 22 = .ok (.aastore, 1) := by decide +kernel
theorem d_Expression_addPart_23 : decode b_Expression_addPart 23 = .ok (.aload_n 0, 1) := by decide +kernel
theorem d_Expression_addPart_24 : decode b_Expression_addPart 24 = .ok (.dup, 1) := by decide +kernel
theorem d_Expression_addPart_25 : decode b_Expression_addPart 25 = .ok (.getfield 28, 3) := by decide +kernel
theorem d_Expression_addPart_28 : decode b_Expression_addPart 28 = .ok (.iconst 1, 1) := by decide +kernel
theorem d_Expression_addPart_29 : decode b_Expression_addPart 29 = .ok (.iadd, 1) := by decide +kernel
theorem d_Expression_addPart_30 : decode b_Expression_addPart 30 = .ok (.putfield 28, 3) := by decide +kernel
theorem d_Expression_addPart_33 : decode b_Expression_addPart 33 = .ok (.iconst 1, 1) := by decide +kernel
theorem d_Expression_addPart_34 : decode b_Expression_addPart 34 = .ok (.ireturn, 1) := by decide +kernel
theorem ki_Expression_addPart : Cond.instanceMethod y_Expression_addPart ∈ lw_g := lw_in (List.mem_append_right _ (List.mem_of_getElem? (i := 533) (by decide +kernel))) rfl
theorem ke_Expression_addPart : Cond.selects R_Expression y_Expression_addPart y_Expression_addPart ∈ lw_g := lw_in (List.mem_append_right _ (List.mem_of_getElem? (i := 534) (by decide +kernel))) rfl
-- Expression_mayClose: maxLocals 1, ret (some .boolean)
theorem kc_Expression_mayClose : Cond.code y_Expression_mayClose b_Expression_mayClose 1 (some .boolean) ∈ lw_g := lw_in (List.mem_append_right _ (List.mem_of_getElem? (i := 527) (by decide +kernel))) rfl
theorem d_Expression_mayClose_0 : decode b_Expression_mayClose 0 = .ok (.aload_n 0, 1) := by decide +kernel
theorem d_Expression_mayClose_1 : decode b_Expression_mayClose 1 = .ok (.getfield 28, 3) := by decide +kernel
theorem d_Expression_mayClose_4 : decode b_Expression_mayClose 4 = .ok (.aload_n 0, 1) := by decide +kernel
theorem d_Expression_mayClose_5 : decode b_Expression_mayClose 5 = .ok (.getfield 17, 3) := by decide +kernel
theorem d_Expression_mayClose_8 : decode b_Expression_mayClose 8 = .ok (.bipush 40, 2) := by decide +kernel
theorem d_Expression_mayClose_10 : decode b_Expression_mayClose 10 = .ok (.if_icmp .ne 7, 3) := by decide +kernel
theorem d_Expression_mayClose_13 : decode b_Expression_mayClose 13 = .ok (.iconst 1, 1) := by decide +kernel
theorem d_Expression_mayClose_14 : decode b_Expression_mayClose 14 = .ok (.goto 7, 3) := by decide +kernel
theorem d_Expression_mayClose_17 : decode b_Expression_mayClose 17 = .ok (.aload_n 0, 1) := by decide +kernel
theorem d_Expression_mayClose_18 : decode b_Expression_mayClose 18 = .ok (.invokevirtual 31, 3) := by decide +kernel
theorem d_Expression_mayClose_21 : decode b_Expression_mayClose 21 = .ok (.if_icmp .lt 7, 3) := by decide +kernel
theorem d_Expression_mayClose_24 : decode b_Expression_mayClose 24 = .ok (.iconst 1, 1) := by decide +kernel
theorem d_Expression_mayClose_25 : decode b_Expression_mayClose 25 = .ok (.goto 4, 3) := by decide +kernel
theorem d_Expression_mayClose_28 : decode b_Expression_mayClose 28 = .ok (.iconst 0, 1) := by decide +kernel
theorem d_Expression_mayClose_29 : decode b_Expression_mayClose 29 = .ok (.ireturn, 1) := by decide +kernel
theorem ki_Expression_mayClose : Cond.instanceMethod y_Expression_mayClose ∈ lw_g := lw_in (List.mem_append_right _ (List.mem_of_getElem? (i := 525) (by decide +kernel))) rfl
theorem ke_Expression_mayClose : Cond.selects R_Expression y_Expression_mayClose y_Expression_mayClose ∈ lw_g := lw_in (List.mem_append_right _ (List.mem_of_getElem? (i := 526) (by decide +kernel))) rfl
-- Expression_mostParts: maxLocals 1, ret (some .int)
theorem kc_Expression_mostParts : Cond.code y_Expression_mostParts b_Expression_mostParts 1 (some .int) ∈ lw_g := lw_in (List.mem_append_right _ (List.mem_of_getElem? (i := 531) (by decide +kernel))) rfl
theorem d_Expression_mostParts_0 : decode b_Expression_mostParts 0 = .ok (.aload_n 0, 1) := by decide +kernel
theorem d_Expression_mostParts_1 : decode b_Expression_mostParts 1 = .ok (.getfield 17, 3) := by decide +kernel
theorem d_Expression_mostParts_4 : decode b_Expression_mostParts 4 = .ok (.lookupswitch 108 #[(33, 102), (40, 106), (48, 100), (63, 104), (65, 102), (68, 102), (80, 102), (92, 102), (94, 102), (95, 100), (97, 100)], 100) := by decide +kernel
theorem d_Expression_mostParts_104 : decode b_Expression_mostParts 104 = .ok (.iconst 0, 1) := by decide +kernel
theorem d_Expression_mostParts_105 : decode b_Expression_mostParts 105 = .ok (.ireturn, 1) := by decide +kernel
theorem d_Expression_mostParts_106 : decode b_Expression_mostParts 106 = .ok (.iconst 1, 1) := by decide +kernel
theorem d_Expression_mostParts_107 : decode b_Expression_mostParts 107 = .ok (.ireturn, 1) := by decide +kernel
theorem d_Expression_mostParts_108 : decode b_Expression_mostParts 108 = .ok (.iconst 3, 1) := by decide +kernel
theorem d_Expression_mostParts_109 : decode b_Expression_mostParts 109 = .ok (.ireturn, 1) := by decide +kernel
theorem d_Expression_mostParts_110 : decode b_Expression_mostParts 110 = .ok (.iconst 4, 1) := by decide +kernel
theorem d_Expression_mostParts_111 : decode b_Expression_mostParts 111 = .ok (.ireturn, 1) := by decide +kernel
theorem d_Expression_mostParts_112 : decode b_Expression_mostParts 112 = .ok (.iconst 2, 1) := by decide +kernel
theorem d_Expression_mostParts_113 : decode b_Expression_mostParts 113 = .ok (.ireturn, 1) := by decide +kernel
theorem ki_Expression_mostParts : Cond.instanceMethod y_Expression_mostParts ∈ lw_g := lw_in (List.mem_append_right _ (List.mem_of_getElem? (i := 530) (by decide +kernel))) rfl
theorem ke_Expression_mostParts : Cond.selects R_Expression y_Expression_mostParts y_Expression_mostParts ∈ lw_g := lw_in (List.mem_append_left _ (List.mem_map.mpr ⟨(y_Expression_mostParts, 6), by decide +kernel, rfl⟩)) rfl
def T_Machine : u_T := fun k => match k with
  | 0 => ("ContinuationCore$Machine", "globals", "[LContinuationCore$Binding;", true)
  | 1 => ("ContinuationCore$Machine", "shown", "Ljava/lang/StringBuilder;", true)
  | 2 => ("ContinuationCore$Machine", "bindingRow", "[LContinuationCore$Binding;", true)
  | 3 => ("ContinuationCore$Machine", "pairRow", "[LContinuationCore$Pair;", true)
  | 4 => ("ContinuationCore$Machine", "nothing", "LContinuationCore$Place;", true)
  | 5 => ("ContinuationCore$Machine", "value", "LContinuationCore$Place;", true)
  | 6 => ("ContinuationCore$Machine", "values", "[LContinuationCore$Place;", true)
  | 7 => ("ContinuationCore$Machine", "status", "I", false)
  | 8 => ("ContinuationCore$Machine", "steps", "I", false)
  | 9 => ("ContinuationCore$Machine", "pairs", "I", false)
  | 10 => ("ContinuationCore$Machine", "bindings", "I", false)
  | 11 => ("ContinuationCore$Machine", "fault", "I", false)
  | 12 => ("ContinuationCore$Machine", "made", "I", false)
  | 13 => ("ContinuationCore$Machine", "next", "LContinuationCore$Expression;", false)
  | 14 => ("ContinuationCore$Machine", "nextScope", "LContinuationCore$Binding;", false)
  | _ => ("ContinuationCore$Machine", "chain", "LContinuationCore$Waiting;", false)
def ty_Machine : Nat → FieldType := fun k => match k with
  | 0 => .array (.object "ContinuationCore$Binding")
  | 1 => .object "java/lang/StringBuilder"
  | 2 => .array (.object "ContinuationCore$Binding")
  | 3 => .array (.object "ContinuationCore$Pair")
  | 4 => .object "ContinuationCore$Place"
  | 5 => .object "ContinuationCore$Place"
  | 6 => .array (.object "ContinuationCore$Place")
  | 7 => .int
  | 8 => .int
  | 9 => .int
  | 10 => .int
  | 11 => .int
  | 12 => .int
  | 13 => .object "ContinuationCore$Expression"
  | 14 => .object "ContinuationCore$Binding"
  | _ => .object "ContinuationCore$Waiting"
theorem nm_Machine : ∀ a, a < 16 → ∀ b, b < 16 → a ≠ b → (T_Machine a).2.1 ≠ (T_Machine b).2.1 := by decide +kernel
theorem ty_Machine_ok : ∀ k, k < 16 → parseFieldDescriptor (T_Machine k).2.2.1 = some (ty_Machine k) := by decide +kernel
theorem in_Machine_l : u_ws R_Machine T_Machine 16 = ([240, 242, 244, 246, 248, 250, 252, 254, 256, 258, 260, 262, 264, 266, 268, 270] : List Nat).filterMap (fun i => tables_1[i]?) := by decide +kernel
theorem in_Machine : ∀ w ∈ u_ws R_Machine T_Machine 16, w ∈ lw_g := fun w h => by
  have hg : (u_ws R_Machine T_Machine 16).all goodWord = true := by decide +kernel
  refine lw_in ?_ (List.all_eq_true.mp hg w h)
  rw [in_Machine_l] at h
  obtain ⟨i, -, hi⟩ := List.mem_filterMap.mp h
  exact List.mem_append_right _ (List.mem_of_getElem? hi)
theorem k_Machine_inst : Cond.instantiable R_Machine 16 ∈ lw_g := lw_in (List.mem_append_right _ (List.mem_of_getElem? (i := 102) (by decide +kernel))) rfl
theorem k_Machine_ini : Cond.initialized R_Machine ∈ lw_g := lw_in (List.mem_append_right _ (List.mem_of_getElem? (i := 4) (by decide +kernel))) rfl
-- Machine_init: maxLocals 3, ret none
theorem kc_Machine_init : Cond.code y_Machine_init b_Machine_init 3 none ∈ lw_g := lw_in (List.mem_append_right _ (List.mem_of_getElem? (i := 105) (by decide +kernel))) rfl
theorem d_Machine_init_0 : decode b_Machine_init 0 = .ok (.aload_n 0, 1) := by decide +kernel
theorem d_Machine_init_1 : decode b_Machine_init 1 = .ok (.invokespecial 3, 3) := by decide +kernel
theorem k_Machine_m3 : Cond.methodLink R_Machine 3 objectInit ∈ lw_g := lw_in (List.mem_append_right _ (List.mem_of_getElem? (i := 106) (by decide +kernel))) rfl
theorem d_Machine_init_4 : decode b_Machine_init 4 = .ok (.aload_n 0, 1) := by decide +kernel
theorem d_Machine_init_5 : decode b_Machine_init 5 = .ok (.bipush 26, 2) := by decide +kernel
theorem d_Machine_init_7 : decode b_Machine_init 7 = .ok (.anewarray 9, 3) := by decide +kernel
theorem k_Machine_c9 : Cond.classLink R_Machine 9 "ContinuationCore$Binding" ∈ lw_g := lw_in (List.mem_append_right _ (List.mem_of_getElem? (i := 107) (by decide +kernel))) rfl
theorem d_Machine_init_10 : decode b_Machine_init 10 = .ok (.putfield 11, 3) := by decide +kernel
theorem k_Machine_f11 : Cond.fieldLink R_Machine 11 "ContinuationCore$Machine" "globals" "[LContinuationCore$Binding;" ∈ lw_g := lw_in (List.mem_append_right _ (List.mem_of_getElem? (i := 217) (by decide +kernel))) rfl
theorem d_Machine_init_13 : decode b_Machine_init 13 = .ok (.aload_n 0, 1) := by decide +kernel
theorem d_Machine_init_14 : decode b_Machine_init 14 = .ok (.new 17, 3) := by decide +kernel
theorem k_Machine_c17 : Cond.classLink R_Machine 17 "java/lang/StringBuilder" ∈ lw_g := lw_in (List.mem_append_right _ (List.mem_of_getElem? (i := 109) (by decide +kernel))) rfl
theorem d_Machine_init_17 : decode b_Machine_init 17 = .ok (.dup, 1) := by decide +kernel
theorem d_Machine_init_18 : decode b_Machine_init 18 = .ok (.invokespecial 19, 3) := by decide +kernel
theorem k_Machine_m19 : Cond.methodLink R_Machine 19 ⟨"java/lang/StringBuilder", "<init>", "()V"⟩ ∈ lw_g := lw_in (List.mem_append_right _ (List.mem_of_getElem? (i := 111) (by decide +kernel))) rfl
theorem d_Machine_init_21 : decode b_Machine_init 21 = .ok (.putfield 20, 3) := by decide +kernel
theorem k_Machine_f20 : Cond.fieldLink R_Machine 20 "ContinuationCore$Machine" "shown" "Ljava/lang/StringBuilder;" ∈ lw_g := lw_in (List.mem_append_right _ (List.mem_of_getElem? (i := 219) (by decide +kernel))) rfl
theorem d_Machine_init_24 : decode b_Machine_init 24 = .ok (.aload_n 0, 1) := by decide +kernel
theorem d_Machine_init_25 : decode b_Machine_init 25 = .ok (.bipush 120, 2) := by decide +kernel
theorem d_Machine_init_27 : decode b_Machine_init 27 = .ok (.anewarray 9, 3) := by decide +kernel
theorem d_Machine_init_30 : decode b_Machine_init 30 = .ok (.putfield 24, 3) := by decide +kernel
theorem k_Machine_f24 : Cond.fieldLink R_Machine 24 "ContinuationCore$Machine" "bindingRow" "[LContinuationCore$Binding;" ∈ lw_g := lw_in (List.mem_append_right _ (List.mem_of_getElem? (i := 221) (by decide +kernel))) rfl
theorem d_Machine_init_33 : decode b_Machine_init 33 = .ok (.aload_n 0, 1) := by decide +kernel
theorem d_Machine_init_34 : decode b_Machine_init 34 = .ok (.bipush 60, 2) := by decide +kernel
theorem d_Machine_init_36 : decode b_Machine_init 36 = .ok (.anewarray 27, 3) := by decide +kernel
theorem k_Machine_c27 : Cond.classLink R_Machine 27 "ContinuationCore$Pair" ∈ lw_g := lw_in (List.mem_append_right _ (List.mem_of_getElem? (i := 142) (by decide +kernel))) rfl
theorem d_Machine_init_39 : decode b_Machine_init 39 = .ok (.putfield 29, 3) := by decide +kernel
theorem k_Machine_f29 : Cond.fieldLink R_Machine 29 "ContinuationCore$Machine" "pairRow" "[LContinuationCore$Pair;" ∈ lw_g := lw_in (List.mem_append_right _ (List.mem_of_getElem? (i := 222) (by decide +kernel))) rfl
theorem d_Machine_init_42 : decode b_Machine_init 42 = .ok (.aload_n 0, 1) := by decide +kernel
theorem d_Machine_init_43 : decode b_Machine_init 43 = .ok (.new 33, 3) := by decide +kernel
theorem k_Machine_c33 : Cond.classLink R_Machine 33 "ContinuationCore$Place" ∈ lw_g := lw_in (List.mem_append_right _ (List.mem_of_getElem? (i := 144) (by decide +kernel))) rfl
theorem d_Machine_init_46 : decode b_Machine_init 46 = .ok (.dup, 1) := by decide +kernel
theorem d_Machine_init_47 : decode b_Machine_init 47 = .ok (.invokespecial 35, 3) := by decide +kernel
theorem k_Machine_mn35 : Cond.methodLinkNest R_Machine 35 y_Place_init "ContinuationCore" ∈ lw_tbl := List.mem_append_right _ (List.mem_of_getElem? (i := 146) (by decide +kernel))
theorem d_Machine_init_50 : decode b_Machine_init 50 = .ok (.putfield 36, 3) := by decide +kernel
theorem k_Machine_f36 : Cond.fieldLink R_Machine 36 "ContinuationCore$Machine" "nothing" "LContinuationCore$Place;" ∈ lw_g := lw_in (List.mem_append_right _ (List.mem_of_getElem? (i := 223) (by decide +kernel))) rfl
theorem d_Machine_init_53 : decode b_Machine_init 53 = .ok (.aload_n 0, 1) := by decide +kernel
theorem d_Machine_init_54 : decode b_Machine_init 54 = .ok (.new 33, 3) := by decide +kernel
theorem d_Machine_init_57 : decode b_Machine_init 57 = .ok (.dup, 1) := by decide +kernel
theorem d_Machine_init_58 : decode b_Machine_init 58 = .ok (.invokespecial 35, 3) := by decide +kernel
theorem d_Machine_init_61 : decode b_Machine_init 61 = .ok (.putfield 40, 3) := by decide +kernel
theorem k_Machine_f40 : Cond.fieldLink R_Machine 40 "ContinuationCore$Machine" "value" "LContinuationCore$Place;" ∈ lw_g := lw_in (List.mem_append_right _ (List.mem_of_getElem? (i := 224) (by decide +kernel))) rfl
theorem d_Machine_init_64 : decode b_Machine_init 64 = .ok (.aload_n 0, 1) := by decide +kernel
theorem d_Machine_init_65 : decode b_Machine_init 65 = .ok (.iconst 4, 1) := by decide +kernel
theorem d_Machine_init_66 : decode b_Machine_init 66 = .ok (.anewarray 33, 3) := by decide +kernel
theorem d_Machine_init_69 : decode b_Machine_init 69 = .ok (.putfield 45, 3) := by decide +kernel
theorem k_Machine_f45 : Cond.fieldLink R_Machine 45 "ContinuationCore$Machine" "values" "[LContinuationCore$Place;" ∈ lw_g := lw_in (List.mem_append_right _ (List.mem_of_getElem? (i := 225) (by decide +kernel))) rfl
theorem d_Machine_init_72 : decode b_Machine_init 72 = .ok (.aconst_null, 1) := by decide +kernel
theorem d_Machine_init_73 : decode b_Machine_init 73 = .ok (.astore_n 1, 1) := by decide +kernel
theorem d_Machine_init_74 : decode b_Machine_init 74 = .ok (.iconst 0, 1) := by decide +kernel
theorem d_Machine_init_75 : decode b_Machine_init 75 = .ok (.istore_n 2, 1) := by decide +kernel
theorem d_Machine_init_76 : decode b_Machine_init 76 = .ok (.iload_n 2, 1) := by decide +kernel
theorem d_Machine_init_77 : decode b_Machine_init 77 = .ok (.bipush 26, 2) := by decide +kernel
theorem d_Machine_init_79 : decode b_Machine_init 79 = .ok (.if_icmp .ge 40, 3) := by decide +kernel
theorem d_Machine_init_82 : decode b_Machine_init 82 = .ok (.aload_n 0, 1) := by decide +kernel
theorem d_Machine_init_83 : decode b_Machine_init 83 = .ok (.getfield 11, 3) := by decide +kernel
theorem d_Machine_init_86 : decode b_Machine_init 86 = .ok (.iload_n 2, 1) := by decide +kernel
theorem d_Machine_init_87 : decode b_Machine_init 87 = .ok (.new 9, 3) := by decide +kernel
theorem d_Machine_init_90 : decode b_Machine_init 90 = .ok (.dup, 1) := by decide +kernel
theorem d_Machine_init_91 : decode b_Machine_init 91 = .ok (.invokespecial 49, 3) := by decide +kernel
theorem k_Machine_mn49 : Cond.methodLinkNest R_Machine 49 y_Binding_init "ContinuationCore" ∈ lw_tbl := List.mem_append_right _ (List.mem_of_getElem? (i := 175) (by decide +kernel))
theorem d_Machine_init_94 : decode b_Machine_init 94 = .ok (.aastore, 1) := by decide +kernel
theorem d_Machine_init_95 : decode b_Machine_init 95 = .ok (.aload_n 0, 1) := by decide +kernel
theorem d_Machine_init_96 : decode b_Machine_init 96 = .ok (.getfield 11, 3) := by decide +kernel
theorem d_Machine_init_99 : decode b_Machine_init 99 = .ok (.iload_n 2, 1) := by decide +kernel
theorem d_Machine_init_100 : decode b_Machine_init 100 = .ok (.aaload, 1) := by decide +kernel
theorem d_Machine_init_101 : decode b_Machine_init 101 = .ok (.iload_n 2, 1) := by decide +kernel
theorem d_Machine_init_102 : decode b_Machine_init 102 = .ok (.aload_n 1, 1) := by decide +kernel
theorem d_Machine_init_103 : decode b_Machine_init 103 = .ok (.invokevirtual 50, 3) := by decide +kernel
theorem k_Machine_m50 : Cond.methodLink R_Machine 50 y_Binding_become ∈ lw_g := lw_in (List.mem_append_right _ (List.mem_of_getElem? (i := 195) (by decide +kernel))) rfl
theorem d_Machine_init_106 : decode b_Machine_init 106 = .ok (.aload_n 0, 1) := by decide +kernel
theorem d_Machine_init_107 : decode b_Machine_init 107 = .ok (.getfield 11, 3) := by decide +kernel
theorem d_Machine_init_110 : decode b_Machine_init 110 = .ok (.iload_n 2, 1) := by decide +kernel
theorem d_Machine_init_111 : decode b_Machine_init 111 = .ok (.aaload, 1) := by decide +kernel
theorem d_Machine_init_112 : decode b_Machine_init 112 = .ok (.astore_n 1, 1) := by decide +kernel
theorem d_Machine_init_113 : decode b_Machine_init 113 = .ok (.iinc 2 1, 3) := by decide +kernel
theorem d_Machine_init_116 : decode b_Machine_init 116 = .ok (.goto (-40), 3) := by decide +kernel
theorem d_Machine_init_119 : decode b_Machine_init 119 = .ok (.iconst 0, 1) := by decide +kernel
theorem d_Machine_init_120 : decode b_Machine_init 120 = .ok (.istore_n 2, 1) := by decide +kernel
theorem d_Machine_init_121 : decode b_Machine_init 121 = .ok (.iload_n 2, 1) := by decide +kernel
theorem d_Machine_init_122 : decode b_Machine_init 122 = .ok (.bipush 120, 2) := by decide +kernel
theorem d_Machine_init_124 : decode b_Machine_init 124 = .ok (.if_icmp .ge 22, 3) := by decide +kernel
theorem d_Machine_init_127 : decode b_Machine_init 127 = .ok (.aload_n 0, 1) := by decide +kernel
theorem d_Machine_init_128 : decode b_Machine_init 128 = .ok (.getfield 24, 3) := by decide +kernel
theorem d_Machine_init_131 : decode b_Machine_init 131 = .ok (.iload_n 2, 1) := by decide +kernel
theorem d_Machine_init_132 : decode b_Machine_init 132 = .ok (.new 9, 3) := by decide +kernel
theorem d_Machine_init_135 : decode b_Machine_init 135 = .ok (.dup, 1) := by decide +kernel
theorem d_Machine_init_136 : decode b_Machine_init 136 = .ok (.invokespecial 49, 3) := by decide +kernel
theorem d_Machine_init_139 : decode b_Machine_init 139 = .ok (.aastore, 1) := by decide +kernel
theorem d_Machine_init_140 : decode b_Machine_init 140 = .ok (.iinc 2 1, 3) := by decide +kernel
theorem d_Machine_init_143 : decode b_Machine_init 143 = .ok (.goto (-22), 3) := by decide +kernel
theorem d_Machine_init_146 : decode b_Machine_init 146 = .ok (.iconst 0, 1) := by decide +kernel
theorem d_Machine_init_147 : decode b_Machine_init 147 = .ok (.istore_n 2, 1) := by decide +kernel
theorem d_Machine_init_148 : decode b_Machine_init 148 = .ok (.iload_n 2, 1) := by decide +kernel
theorem d_Machine_init_149 : decode b_Machine_init 149 = .ok (.bipush 60, 2) := by decide +kernel
theorem d_Machine_init_151 : decode b_Machine_init 151 = .ok (.if_icmp .ge 22, 3) := by decide +kernel
theorem d_Machine_init_154 : decode b_Machine_init 154 = .ok (.aload_n 0, 1) := by decide +kernel
theorem d_Machine_init_155 : decode b_Machine_init 155 = .ok (.getfield 29, 3) := by decide +kernel
theorem d_Machine_init_158 : decode b_Machine_init 158 = .ok (.iload_n 2, 1) := by decide +kernel
theorem d_Machine_init_159 : decode b_Machine_init 159 = .ok (.new 27, 3) := by decide +kernel
theorem d_Machine_init_162 : decode b_Machine_init 162 = .ok (.dup, 1) := by decide +kernel
theorem d_Machine_init_163 : decode b_Machine_init 163 = .ok (.invokespecial 54, 3) := by decide +kernel
theorem k_Machine_mn54 : Cond.methodLinkNest R_Machine 54 y_Pair_init "ContinuationCore" ∈ lw_tbl := List.mem_append_right _ (List.mem_of_getElem? (i := 200) (by decide +kernel))
theorem d_Machine_init_166 : decode b_Machine_init 166 = .ok (.aastore, 1) := by decide +kernel
theorem d_Machine_init_167 : decode b_Machine_init 167 = .ok (.iinc 2 1, 3) := by decide +kernel
theorem d_Machine_init_170 : decode b_Machine_init 170 = .ok (.goto (-22), 3) := by decide +kernel
theorem d_Machine_init_173 : decode b_Machine_init 173 = .ok (.iconst 0, 1) := by decide +kernel
theorem d_Machine_init_174 : decode b_Machine_init 174 = .ok (.istore_n 2, 1) := by decide +kernel
theorem d_Machine_init_175 : decode b_Machine_init 175 = .ok (.iload_n 2, 1) := by decide +kernel
theorem d_Machine_init_176 : decode b_Machine_init 176 = .ok (.iconst 4, 1) := by decide +kernel
theorem d_Machine_init_177 : decode b_Machine_init 177 = .ok (.if_icmp .ge 22, 3) := by decide +kernel
theorem d_Machine_init_180 : decode b_Machine_init 180 = .ok (.aload_n 0, 1) := by decide +kernel
theorem d_Machine_init_181 : decode b_Machine_init 181 = .ok (.getfield 45, 3) := by decide +kernel
theorem d_Machine_init_184 : decode b_Machine_init 184 = .ok (.iload_n 2, 1) := by decide +kernel
theorem d_Machine_init_185 : decode b_Machine_init 185 = .ok (.new 33, 3) := by decide +kernel
theorem d_Machine_init_188 : decode b_Machine_init 188 = .ok (.dup, 1) := by decide +kernel
theorem d_Machine_init_189 : decode b_Machine_init 189 = .ok (.invokespecial 35, 3) := by decide +kernel
theorem d_Machine_init_192 : decode b_Machine_init 192 = .ok (.aastore, 1) := by decide +kernel
theorem d_Machine_init_193 : decode b_Machine_init 193 = .ok (.iinc 2 1, 3) := by decide +kernel
theorem d_Machine_init_196 : decode b_Machine_init 196 = .ok (.goto (-21), 3) := by decide +kernel
theorem d_Machine_init_199 : decode b_Machine_init 199 = .ok (.return_, 1) := by decide +kernel
theorem ki_Machine_init : Cond.instanceMethod y_Machine_init ∈ lw_g := lw_in (List.mem_append_right _ (List.mem_of_getElem? (i := 104) (by decide +kernel))) rfl
-- Machine_prepare: maxLocals 4, ret none
theorem kc_Machine_prepare : Cond.code y_Machine_prepare b_Machine_prepare 4 none ∈ lw_g := lw_in (List.mem_append_right _ (List.mem_of_getElem? (i := 586) (by decide +kernel))) rfl
theorem d_Machine_prepare_0 : decode b_Machine_prepare 0 = .ok (.iconst 0, 1) := by decide +kernel
theorem d_Machine_prepare_1 : decode b_Machine_prepare 1 = .ok (.istore_n 3, 1) := by decide +kernel
theorem d_Machine_prepare_2 : decode b_Machine_prepare 2 = .ok (.iload_n 3, 1) := by decide +kernel
theorem d_Machine_prepare_3 : decode b_Machine_prepare 3 = .ok (.bipush 26, 2) := by decide +kernel
theorem d_Machine_prepare_5 : decode b_Machine_prepare 5 = .ok (.if_icmp .ge 30, 3) := by decide +kernel
theorem d_Machine_prepare_8 : decode b_Machine_prepare 8 = .ok (.iload_n 3, 1) := by decide +kernel
theorem d_Machine_prepare_9 : decode b_Machine_prepare 9 = .ok (.aload_n 2, 1) := by decide +kernel
theorem d_Machine_prepare_10 : decode b_Machine_prepare 10 = .ok (.arraylength, 1) := by decide +kernel
theorem d_Machine_prepare_11 : decode b_Machine_prepare 11 = .ok (.if_icmp .ge 24, 3) := by decide +kernel
theorem d_Machine_prepare_14 : decode b_Machine_prepare 14 = .ok (.aload_n 0, 1) := by decide +kernel
theorem d_Machine_prepare_15 : decode b_Machine_prepare 15 = .ok (.getfield 11, 3) := by decide +kernel
theorem d_Machine_prepare_18 : decode b_Machine_prepare 18 = .ok (.iload_n 3, 1) := by decide +kernel
theorem d_Machine_prepare_19 : decode b_Machine_prepare 19 = .ok (.aaload, 1) := by decide +kernel
theorem d_Machine_prepare_20 : decode b_Machine_prepare 20 = .ok (.getfield 55, 3) := by decide +kernel
theorem k_Machine_f55 : Cond.fieldLink R_Machine 55 "ContinuationCore$Binding" "held" "LContinuationCore$Place;" ∈ lw_g := lw_in (List.mem_append_right _ (List.mem_of_getElem? (i := 182) (by decide +kernel))) rfl
theorem d_Machine_prepare_23 : decode b_Machine_prepare 23 = .ok (.aload_n 2, 1) := by decide +kernel
theorem d_Machine_prepare_24 : decode b_Machine_prepare 24 = .ok (.iload_n 3, 1) := by decide +kernel
theorem d_Machine_prepare_25 : decode b_Machine_prepare 25 = .ok (.aaload, 1) := by decide +kernel
theorem d_Machine_prepare_26 : decode b_Machine_prepare 26 = .ok (.invokevirtual 58, 3) := by decide +kernel
theorem k_Machine_m58 : Cond.methodLink R_Machine 58 y_Place_copy ∈ lw_g := lw_in (List.mem_append_right _ (List.mem_of_getElem? (i := 587) (by decide +kernel))) rfl
theorem d_Machine_prepare_29 : decode b_Machine_prepare 29 = .ok (.iinc 3 1, 3) := by decide +kernel
theorem d_Machine_prepare_32 : decode b_Machine_prepare 32 = .ok (.goto (-30), 3) := by decide +kernel
theorem d_Machine_prepare_35 : decode b_Machine_prepare 35 = .ok (.aload_n 0, 1) := by decide +kernel
theorem d_Machine_prepare_36 : decode b_Machine_prepare 36 = .ok (.iconst 1, 1) := by decide +kernel
theorem d_Machine_prepare_37 : decode b_Machine_prepare 37 = .ok (.putfield 62, 3) := by decide +kernel
theorem k_Machine_f62 : Cond.fieldLink R_Machine 62 "ContinuationCore$Machine" "status" "I" ∈ lw_g := lw_in (List.mem_append_right _ (List.mem_of_getElem? (i := 227) (by decide +kernel))) rfl
theorem d_Machine_prepare_40 : decode b_Machine_prepare 40 = .ok (.aload_n 0, 1) := by decide +kernel
theorem d_Machine_prepare_41 : decode b_Machine_prepare 41 = .ok (.iconst 0, 1) := by decide +kernel
theorem d_Machine_prepare_42 : decode b_Machine_prepare 42 = .ok (.putfield 66, 3) := by decide +kernel
theorem k_Machine_f66 : Cond.fieldLink R_Machine 66 "ContinuationCore$Machine" "steps" "I" ∈ lw_g := lw_in (List.mem_append_right _ (List.mem_of_getElem? (i := 228) (by decide +kernel))) rfl
theorem d_Machine_prepare_45 : decode b_Machine_prepare 45 = .ok (.aload_n 0, 1) := by decide +kernel
theorem d_Machine_prepare_46 : decode b_Machine_prepare 46 = .ok (.iconst 0, 1) := by decide +kernel
theorem d_Machine_prepare_47 : decode b_Machine_prepare 47 = .ok (.putfield 69, 3) := by decide +kernel
theorem k_Machine_f69 : Cond.fieldLink R_Machine 69 "ContinuationCore$Machine" "pairs" "I" ∈ lw_g := lw_in (List.mem_append_right _ (List.mem_of_getElem? (i := 230) (by decide +kernel))) rfl
theorem d_Machine_prepare_50 : decode b_Machine_prepare 50 = .ok (.aload_n 0, 1) := by decide +kernel
theorem d_Machine_prepare_51 : decode b_Machine_prepare 51 = .ok (.iconst 0, 1) := by decide +kernel
theorem d_Machine_prepare_52 : decode b_Machine_prepare 52 = .ok (.putfield 72, 3) := by decide +kernel
theorem k_Machine_f72 : Cond.fieldLink R_Machine 72 "ContinuationCore$Machine" "bindings" "I" ∈ lw_g := lw_in (List.mem_append_right _ (List.mem_of_getElem? (i := 232) (by decide +kernel))) rfl
theorem d_Machine_prepare_55 : decode b_Machine_prepare 55 = .ok (.aload_n 0, 1) := by decide +kernel
theorem d_Machine_prepare_56 : decode b_Machine_prepare 56 = .ok (.iconst 0, 1) := by decide +kernel
theorem d_Machine_prepare_57 : decode b_Machine_prepare 57 = .ok (.putfield 75, 3) := by decide +kernel
theorem k_Machine_f75 : Cond.fieldLink R_Machine 75 "ContinuationCore$Machine" "fault" "I" ∈ lw_g := lw_in (List.mem_append_right _ (List.mem_of_getElem? (i := 234) (by decide +kernel))) rfl
theorem d_Machine_prepare_60 : decode b_Machine_prepare 60 = .ok (.aload_n 0, 1) := by decide +kernel
theorem d_Machine_prepare_61 : decode b_Machine_prepare 61 = .ok (.iconst 0, 1) := by decide +kernel
theorem d_Machine_prepare_62 : decode b_Machine_prepare 62 = .ok (.putfield 78, 3) := by decide +kernel
theorem k_Machine_f78 : Cond.fieldLink R_Machine 78 "ContinuationCore$Machine" "made" "I" ∈ lw_g := lw_in (List.mem_append_right _ (List.mem_of_getElem? (i := 236) (by decide +kernel))) rfl
theorem d_Machine_prepare_65 : decode b_Machine_prepare 65 = .ok (.aload_n 0, 1) := by decide +kernel
theorem d_Machine_prepare_66 : decode b_Machine_prepare 66 = .ok (.aconst_null, 1) := by decide +kernel
theorem d_Machine_prepare_67 : decode b_Machine_prepare 67 = .ok (.putfield 81, 3) := by decide +kernel
theorem k_Machine_f81 : Cond.fieldLink R_Machine 81 "ContinuationCore$Machine" "chain" "LContinuationCore$Waiting;" ∈ lw_g := lw_in (List.mem_append_right _ (List.mem_of_getElem? (i := 239) (by decide +kernel))) rfl
theorem d_Machine_prepare_70 : decode b_Machine_prepare 70 = .ok (.aload_n 0, 1) := by decide +kernel
theorem d_Machine_prepare_71 : decode b_Machine_prepare 71 = .ok (.aload_n 1, 1) := by decide +kernel
theorem d_Machine_prepare_72 : decode b_Machine_prepare 72 = .ok (.aload_n 0, 1) := by decide +kernel
theorem d_Machine_prepare_73 : decode b_Machine_prepare 73 = .ok (.getfield 11, 3) := by decide +kernel
theorem d_Machine_prepare_76 : decode b_Machine_prepare 76 = .ok (.bipush 25, 2) := by decide +kernel
theorem d_Machine_prepare_78 : decode b_Machine_prepare 78 = .ok (.aaload, 1) := by decide +kernel
theorem d_Machine_prepare_79 : decode b_Machine_prepare 79 = .ok (.invokevirtual 85, 3) := by decide +kernel
theorem k_Machine_m85 : Cond.methodLink R_Machine 85 y_Machine_goLast ∈ lw_g := lw_in (List.mem_append_right _ (List.mem_of_getElem? (i := 591) (by decide +kernel))) rfl
theorem d_Machine_prepare_82 : decode b_Machine_prepare 82 = .ok (.pop, 1) := by decide +kernel
theorem d_Machine_prepare_83 : decode b_Machine_prepare 83 = .ok (.return_, 1) := by decide +kernel
theorem ki_Machine_prepare : Cond.instanceMethod y_Machine_prepare ∈ lw_g := lw_in (List.mem_append_right _ (List.mem_of_getElem? (i := 584) (by decide +kernel))) rfl
theorem ke_Machine_prepare : Cond.selects R_Machine y_Machine_prepare y_Machine_prepare ∈ lw_g := lw_in (List.mem_append_right _ (List.mem_of_getElem? (i := 585) (by decide +kernel))) rfl
-- Machine_depth: maxLocals 1, ret (some .int)
theorem kc_Machine_depth : Cond.code y_Machine_depth b_Machine_depth 1 (some .int) ∈ lw_g := lw_in (List.mem_append_right _ (List.mem_of_getElem? (i := 661) (by decide +kernel))) rfl
theorem d_Machine_depth_0 : decode b_Machine_depth 0 = .ok (.aload_n 0, 1) := by decide +kernel
theorem d_Machine_depth_1 : decode b_Machine_depth 1 = .ok (.getfield 62, 3) := by decide +kernel
theorem d_Machine_depth_4 : decode b_Machine_depth 4 = .ok (.iconst 1, 1) := by decide +kernel
theorem d_Machine_depth_5 : decode b_Machine_depth 5 = .ok (.if_icmp .ne 10, 3) := by decide +kernel
theorem d_Machine_depth_8 : decode b_Machine_depth 8 = .ok (.aload_n 0, 1) := by decide +kernel
theorem d_Machine_depth_9 : decode b_Machine_depth 9 = .ok (.getfield 81, 3) := by decide +kernel
theorem d_Machine_depth_12 : decode b_Machine_depth 12 = .ok (.ifnonnull 7, 3) := by decide +kernel
theorem d_Machine_depth_15 : decode b_Machine_depth 15 = .ok (.iconst 0, 1) := by decide +kernel
theorem d_Machine_depth_16 : decode b_Machine_depth 16 = .ok (.goto 10, 3) := by decide +kernel
theorem d_Machine_depth_19 : decode b_Machine_depth 19 = .ok (.aload_n 0, 1) := by decide +kernel
theorem d_Machine_depth_20 : decode b_Machine_depth 20 = .ok (.getfield 81, 3) := by decide +kernel
theorem d_Machine_depth_23 : decode b_Machine_depth 23 = .ok (.getfield 89, 3) := by decide +kernel
theorem k_Machine_f89 : Cond.fieldLink R_Machine 89 "ContinuationCore$Waiting" "depth" "I" ∈ lw_g := lw_in (List.mem_append_right _ (List.mem_of_getElem? (i := 680) (by decide +kernel))) rfl
theorem d_Machine_depth_26 : decode b_Machine_depth 26 = .ok (.ireturn, 1) := by decide +kernel
theorem ki_Machine_depth : Cond.instanceMethod y_Machine_depth ∈ lw_g := lw_in (List.mem_append_right _ (List.mem_of_getElem? (i := 659) (by decide +kernel))) rfl
theorem ke_Machine_depth : Cond.selects R_Machine y_Machine_depth y_Machine_depth ∈ lw_g := lw_in (List.mem_append_right _ (List.mem_of_getElem? (i := 660) (by decide +kernel))) rfl
-- Machine_step: maxLocals 4, ret none
theorem kc_Machine_step : Cond.code y_Machine_step b_Machine_step 4 none ∈ lw_g := lw_in (List.mem_append_right _ (List.mem_of_getElem? (i := 609) (by decide +kernel))) rfl
theorem d_Machine_step_0 : decode b_Machine_step 0 = .ok (.aload_n 0, 1) := by decide +kernel
theorem d_Machine_step_1 : decode b_Machine_step 1 = .ok (.dup, 1) := by decide +kernel
theorem d_Machine_step_2 : decode b_Machine_step 2 = .ok (.getfield 66, 3) := by decide +kernel
theorem d_Machine_step_5 : decode b_Machine_step 5 = .ok (.iconst 1, 1) := by decide +kernel
theorem d_Machine_step_6 : decode b_Machine_step 6 = .ok (.iadd, 1) := by decide +kernel
theorem d_Machine_step_7 : decode b_Machine_step 7 = .ok (.putfield 66, 3) := by decide +kernel
theorem d_Machine_step_10 : decode b_Machine_step 10 = .ok (.aload_n 0, 1) := by decide +kernel
theorem d_Machine_step_11 : decode b_Machine_step 11 = .ok (.aload_n 0, 1) := by decide +kernel
theorem d_Machine_step_12 : decode b_Machine_step 12 = .ok (.getfield 94, 3) := by decide +kernel
theorem k_Machine_f94 : Cond.fieldLink R_Machine 94 "ContinuationCore$Machine" "next" "LContinuationCore$Expression;" ∈ lw_g := lw_in (List.mem_append_right _ (List.mem_of_getElem? (i := 237) (by decide +kernel))) rfl
theorem d_Machine_step_15 : decode b_Machine_step 15 = .ok (.aload_n 0, 1) := by decide +kernel
theorem d_Machine_step_16 : decode b_Machine_step 16 = .ok (.getfield 98, 3) := by decide +kernel
theorem k_Machine_f98 : Cond.fieldLink R_Machine 98 "ContinuationCore$Machine" "nextScope" "LContinuationCore$Binding;" ∈ lw_g := lw_in (List.mem_append_right _ (List.mem_of_getElem? (i := 238) (by decide +kernel))) rfl
theorem d_Machine_step_19 : decode b_Machine_step 19 = .ok (.invokevirtual 102, 3) := by decide +kernel
theorem k_Machine_m102 : Cond.methodLink R_Machine 102 y_Machine_begin ∈ lw_g := lw_in (List.mem_append_right _ (List.mem_of_getElem? (i := 610) (by decide +kernel))) rfl
theorem d_Machine_step_22 : decode b_Machine_step 22 = .ok (.istore_n 1, 1) := by decide +kernel
theorem d_Machine_step_23 : decode b_Machine_step 23 = .ok (.iconst 0, 1) := by decide +kernel
theorem d_Machine_step_24 : decode b_Machine_step 24 = .ok (.istore_n 2, 1) := by decide +kernel
theorem d_Machine_step_25 : decode b_Machine_step 25 = .ok (.iload_n 2, 1) := by decide +kernel
theorem d_Machine_step_26 : decode b_Machine_step 26 = .ok (.ldc 105, 2) := by decide +kernel
theorem k_Machine_k105 : Cond.constant R_Machine 105 (1000000) ∈ lw_g := lw_in (List.mem_append_right _ (List.mem_of_getElem? (i := 692) (by decide +kernel))) rfl
theorem d_Machine_step_28 : decode b_Machine_step 28 = .ok (.if_icmp .ge 45, 3) := by decide +kernel
theorem d_Machine_step_31 : decode b_Machine_step 31 = .ok (.iload_n 1, 1) := by decide +kernel
theorem d_Machine_step_32 : decode b_Machine_step 32 = .ok (.ifCond .eq 41, 3) := by decide +kernel
theorem d_Machine_step_35 : decode b_Machine_step 35 = .ok (.aload_n 0, 1) := by decide +kernel
theorem d_Machine_step_36 : decode b_Machine_step 36 = .ok (.getfield 81, 3) := by decide +kernel
theorem d_Machine_step_39 : decode b_Machine_step 39 = .ok (.astore_n 3, 1) := by decide +kernel
theorem d_Machine_step_40 : decode b_Machine_step 40 = .ok (.aload_n 3, 1) := by decide +kernel
theorem d_Machine_step_41 : decode b_Machine_step 41 = .ok (.ifnonnull 12, 3) := by decide +kernel
theorem d_Machine_step_44 : decode b_Machine_step 44 = .ok (.aload_n 0, 1) := by decide +kernel
theorem d_Machine_step_45 : decode b_Machine_step 45 = .ok (.invokevirtual 106, 3) := by decide +kernel
theorem k_Machine_m106 : Cond.methodLink R_Machine 106 y_Machine_end ∈ lw_g := lw_in (List.mem_append_right _ (List.mem_of_getElem? (i := 693) (by decide +kernel))) rfl
theorem d_Machine_step_48 : decode b_Machine_step 48 = .ok (.iconst 0, 1) := by decide +kernel
theorem d_Machine_step_49 : decode b_Machine_step 49 = .ok (.istore_n 1, 1) := by decide +kernel
theorem d_Machine_step_50 : decode b_Machine_step 50 = .ok (.goto 17, 3) := by decide +kernel
theorem d_Machine_step_53 : decode b_Machine_step 53 = .ok (.aload_n 0, 1) := by decide +kernel
theorem d_Machine_step_54 : decode b_Machine_step 54 = .ok (.aload_n 3, 1) := by decide +kernel
theorem d_Machine_step_55 : decode b_Machine_step 55 = .ok (.getfield 109, 3) := by decide +kernel
theorem k_Machine_f109 : Cond.fieldLink R_Machine 109 "ContinuationCore$Waiting" "behind" "LContinuationCore$Waiting;" ∈ lw_g := lw_in (List.mem_append_right _ (List.mem_of_getElem? (i := 678) (by decide +kernel))) rfl
theorem d_Machine_step_58 : decode b_Machine_step 58 = .ok (.putfield 81, 3) := by decide +kernel
theorem d_Machine_step_61 : decode b_Machine_step 61 = .ok (.aload_n 0, 1) := by decide +kernel
theorem d_Machine_step_62 : decode b_Machine_step 62 = .ok (.aload_n 3, 1) := by decide +kernel
theorem d_Machine_step_63 : decode b_Machine_step 63 = .ok (.invokevirtual 112, 3) := by decide +kernel
theorem k_Machine_m112 : Cond.methodLink R_Machine 112 y_Machine_goOn ∈ lw_g := lw_in (List.mem_append_right _ (List.mem_of_getElem? (i := 924) (by decide +kernel))) rfl
theorem d_Machine_step_66 : decode b_Machine_step 66 = .ok (.istore_n 1, 1) := by decide +kernel
theorem d_Machine_step_67 : decode b_Machine_step 67 = .ok (.iinc 2 1, 3) := by decide +kernel
theorem d_Machine_step_70 : decode b_Machine_step 70 = .ok (.goto (-45), 3) := by decide +kernel
theorem d_Machine_step_73 : decode b_Machine_step 73 = .ok (.return_, 1) := by decide +kernel
theorem ki_Machine_step : Cond.instanceMethod y_Machine_step ∈ lw_g := lw_in (List.mem_append_right _ (List.mem_of_getElem? (i := 607) (by decide +kernel))) rfl
theorem ke_Machine_step : Cond.selects R_Machine y_Machine_step y_Machine_step ∈ lw_g := lw_in (List.mem_append_right _ (List.mem_of_getElem? (i := 608) (by decide +kernel))) rfl
-- Machine_end: maxLocals 1, ret none
theorem kc_Machine_end : Cond.code y_Machine_end b_Machine_end 1 none ∈ lw_g := lw_in (List.mem_append_right _ (List.mem_of_getElem? (i := 696) (by decide +kernel))) rfl
theorem d_Machine_end_0 : decode b_Machine_end 0 = .ok (.aload_n 0, 1) := by decide +kernel
theorem d_Machine_end_1 : decode b_Machine_end 1 = .ok (.getfield 20, 3) := by decide +kernel
theorem d_Machine_end_4 : decode b_Machine_end 4 = .ok (.iconst 0, 1) := by decide +kernel
theorem d_Machine_end_5 : decode b_Machine_end 5 = .ok (.invokevirtual 116, 3) := by decide +kernel
theorem k_Machine_m116 : Cond.methodLink R_Machine 116 ⟨"java/lang/StringBuilder", "setLength", "(I)V"⟩ ∈ lw_g := lw_in (List.mem_append_right _ (List.mem_of_getElem? (i := 697) (by decide +kernel))) rfl
theorem d_Machine_end_8 : decode b_Machine_end 8 = .ok (.aload_n 0, 1) := by decide +kernel
theorem d_Machine_end_9 : decode b_Machine_end 9 = .ok (.getfield 40, 3) := by decide +kernel
theorem d_Machine_end_12 : decode b_Machine_end 12 = .ok (.aload_n 0, 1) := by decide +kernel
theorem d_Machine_end_13 : decode b_Machine_end 13 = .ok (.getfield 20, 3) := by decide +kernel
theorem d_Machine_end_16 : decode b_Machine_end 16 = .ok (.invokevirtual 120, 3) := by decide +kernel
theorem k_Machine_m120 : Cond.methodLink R_Machine 120 y_Place_write ∈ lw_g := lw_in (List.mem_append_right _ (List.mem_of_getElem? (i := 895) (by decide +kernel))) rfl
theorem d_Machine_end_19 : decode b_Machine_end 19 = .ok (.aload_n 0, 1) := by decide +kernel
theorem d_Machine_end_20 : decode b_Machine_end 20 = .ok (.iconst 2, 1) := by decide +kernel
theorem d_Machine_end_21 : decode b_Machine_end 21 = .ok (.putfield 62, 3) := by decide +kernel
theorem d_Machine_end_24 : decode b_Machine_end 24 = .ok (.return_, 1) := by decide +kernel
theorem ki_Machine_end : Cond.instanceMethod y_Machine_end ∈ lw_g := lw_in (List.mem_append_right _ (List.mem_of_getElem? (i := 695) (by decide +kernel))) rfl
theorem ke_Machine_end : Cond.selects R_Machine y_Machine_end y_Machine_end ∈ lw_g := lw_in (List.mem_append_left _ (List.mem_map.mpr ⟨(y_Machine_end, 16), by decide +kernel, rfl⟩)) rfl
-- Machine_fail: maxLocals 2, ret (some .boolean)
theorem kc_Machine_fail : Cond.code y_Machine_fail b_Machine_fail 2 (some .boolean) ∈ lw_g := lw_in (List.mem_append_right _ (List.mem_of_getElem? (i := 625) (by decide +kernel))) rfl
theorem d_Machine_fail_0 : decode b_Machine_fail 0 = .ok (.aload_n 0, 1) := by decide +kernel
theorem d_Machine_fail_1 : decode b_Machine_fail 1 = .ok (.iconst 3, 1) := by decide +kernel
theorem d_Machine_fail_2 : decode b_Machine_fail 2 = .ok (.putfield 62, 3) := by decide +kernel
theorem d_Machine_fail_5 : decode b_Machine_fail 5 = .ok (.aload_n 0, 1) := by decide +kernel
theorem d_Machine_fail_6 : decode b_Machine_fail 6 = .ok (.iload_n 1, 1) := by decide +kernel
theorem d_Machine_fail_7 : decode b_Machine_fail 7 = .ok (.putfield 75, 3) := by decide +kernel
theorem d_Machine_fail_10 : decode b_Machine_fail 10 = .ok (.iconst 0, 1) := by decide +kernel
theorem d_Machine_fail_11 : decode b_Machine_fail 11 = .ok (.ireturn, 1) := by decide +kernel
theorem ki_Machine_fail : Cond.instanceMethod y_Machine_fail ∈ lw_g := lw_in (List.mem_append_right _ (List.mem_of_getElem? (i := 624) (by decide +kernel))) rfl
theorem ke_Machine_fail : Cond.selects R_Machine y_Machine_fail y_Machine_fail ∈ lw_g := lw_in (List.mem_append_left _ (List.mem_map.mpr ⟨(y_Machine_fail, 16), by decide +kernel, rfl⟩)) rfl
-- Machine_answer: maxLocals 2, ret (some .boolean)
theorem kc_Machine_answer : Cond.code y_Machine_answer b_Machine_answer 2 (some .boolean) ∈ lw_g := lw_in (List.mem_append_right _ (List.mem_of_getElem? (i := 629) (by decide +kernel))) rfl
theorem d_Machine_answer_0 : decode b_Machine_answer 0 = .ok (.aload_n 0, 1) := by decide +kernel
theorem d_Machine_answer_1 : decode b_Machine_answer 1 = .ok (.getfield 40, 3) := by decide +kernel
theorem d_Machine_answer_4 : decode b_Machine_answer 4 = .ok (.aload_n 1, 1) := by decide +kernel
theorem d_Machine_answer_5 : decode b_Machine_answer 5 = .ok (.invokevirtual 58, 3) := by decide +kernel
theorem d_Machine_answer_8 : decode b_Machine_answer 8 = .ok (.iconst 1, 1) := by decide +kernel
theorem d_Machine_answer_9 : decode b_Machine_answer 9 = .ok (.ireturn, 1) := by decide +kernel
theorem ki_Machine_answer : Cond.instanceMethod y_Machine_answer ∈ lw_g := lw_in (List.mem_append_right _ (List.mem_of_getElem? (i := 628) (by decide +kernel))) rfl
theorem ke_Machine_answer : Cond.selects R_Machine y_Machine_answer y_Machine_answer ∈ lw_g := lw_in (List.mem_append_left _ (List.mem_map.mpr ⟨(y_Machine_answer, 16), by decide +kernel, rfl⟩)) rfl
-- Machine_answerInt: maxLocals 2, ret (some .boolean)
theorem kc_Machine_answerInt : Cond.code y_Machine_answerInt b_Machine_answerInt 2 (some .boolean) ∈ lw_g := lw_in (List.mem_append_right _ (List.mem_of_getElem? (i := 617) (by decide +kernel))) rfl
theorem d_Machine_answerInt_0 : decode b_Machine_answerInt 0 = .ok (.aload_n 0, 1) := by decide +kernel
theorem d_Machine_answerInt_1 : decode b_Machine_answerInt 1 = .ok (.getfield 40, 3) := by decide +kernel
theorem d_Machine_answerInt_4 : decode b_Machine_answerInt 4 = .ok (.bipush 48, 2) := by decide +kernel
theorem d_Machine_answerInt_6 : decode b_Machine_answerInt 6 = .ok (.iload_n 1, 1) := by decide +kernel
theorem d_Machine_answerInt_7 : decode b_Machine_answerInt 7 = .ok (.invokevirtual 124, 3) := by decide +kernel
theorem k_Machine_m124 : Cond.methodLink R_Machine 124 y_Place_hold ∈ lw_g := lw_in (List.mem_append_right _ (List.mem_of_getElem? (i := 618) (by decide +kernel))) rfl
theorem d_Machine_answerInt_10 : decode b_Machine_answerInt 10 = .ok (.iconst 1, 1) := by decide +kernel
theorem d_Machine_answerInt_11 : decode b_Machine_answerInt 11 = .ok (.ireturn, 1) := by decide +kernel
theorem ki_Machine_answerInt : Cond.instanceMethod y_Machine_answerInt ∈ lw_g := lw_in (List.mem_append_right _ (List.mem_of_getElem? (i := 616) (by decide +kernel))) rfl
theorem ke_Machine_answerInt : Cond.selects R_Machine y_Machine_answerInt y_Machine_answerInt ∈ lw_g := lw_in (List.mem_append_left _ (List.mem_map.mpr ⟨(y_Machine_answerInt, 16), by decide +kernel, rfl⟩)) rfl
-- Machine_begin: maxLocals 5, ret (some .boolean)
theorem kc_Machine_begin : Cond.code y_Machine_begin b_Machine_begin 5 (some .boolean) ∈ lw_g := lw_in (List.mem_append_right _ (List.mem_of_getElem? (i := 613) (by decide +kernel))) rfl
theorem d_Machine_begin_0 : decode b_Machine_begin 0 = .ok (.aload_n 1, 1) := by decide +kernel
theorem d_Machine_begin_1 : decode b_Machine_begin 1 = .ok (.getfield 128, 3) := by decide +kernel
theorem k_Machine_f128 : Cond.fieldLink R_Machine 128 "ContinuationCore$Expression" "kind" "C" ∈ lw_g := lw_in (List.mem_append_right _ (List.mem_of_getElem? (i := 54) (by decide +kernel))) rfl
theorem d_Machine_begin_4 : decode b_Machine_begin 4 = .ok (.lookupswitch 184 #[(37, 147), (48, 52), (92, 115), (95, 61), (97, 73)], 52) := by decide +kernel
theorem d_Machine_begin_56 : decode b_Machine_begin 56 = .ok (.aload_n 0, 1) := by decide +kernel
theorem d_Machine_begin_57 : decode b_Machine_begin 57 = .ok (.aload_n 1, 1) := by decide +kernel
theorem d_Machine_begin_58 : decode b_Machine_begin 58 = .ok (.getfield 132, 3) := by decide +kernel
theorem k_Machine_f132 : Cond.fieldLink R_Machine 132 "ContinuationCore$Expression" "number" "I" ∈ lw_g := lw_in (List.mem_append_right _ (List.mem_of_getElem? (i := 57) (by decide +kernel))) rfl
theorem d_Machine_begin_61 : decode b_Machine_begin 61 = .ok (.invokevirtual 135, 3) := by decide +kernel
theorem k_Machine_m135 : Cond.methodLink R_Machine 135 y_Machine_answerInt ∈ lw_g := lw_in (List.mem_append_right _ (List.mem_of_getElem? (i := 614) (by decide +kernel))) rfl
theorem d_Machine_begin_64 : decode b_Machine_begin 64 = .ok (.ireturn, 1) := by decide +kernel
theorem d_Machine_begin_65 : decode b_Machine_begin 65 = .ok (.aload_n 0, 1) := by decide +kernel
theorem d_Machine_begin_66 : decode b_Machine_begin 66 = .ok (.getfield 40, 3) := by decide +kernel
theorem d_Machine_begin_69 : decode b_Machine_begin 69 = .ok (.bipush 95, 2) := by decide +kernel
theorem d_Machine_begin_71 : decode b_Machine_begin 71 = .ok (.iconst 0, 1) := by decide +kernel
theorem d_Machine_begin_72 : decode b_Machine_begin 72 = .ok (.invokevirtual 124, 3) := by decide +kernel
theorem d_Machine_begin_75 : decode b_Machine_begin 75 = .ok (.iconst 1, 1) := by decide +kernel
theorem d_Machine_begin_76 : decode b_Machine_begin 76 = .ok (.ireturn, 1) := by decide +kernel
theorem d_Machine_begin_77 : decode b_Machine_begin 77 = .ok (.aload_n 1, 1) := by decide +kernel
theorem d_Machine_begin_78 : decode b_Machine_begin 78 = .ok (.getfield 132, 3) := by decide +kernel
theorem d_Machine_begin_81 : decode b_Machine_begin 81 = .ok (.aload_n 2, 1) := by decide +kernel
theorem d_Machine_begin_82 : decode b_Machine_begin 82 = .ok (.invokestatic 139, 3) := by decide +kernel
theorem k_Machine_m139 : Cond.methodLink R_Machine 139 y_Machine_find ∈ lw_g := lw_in (List.mem_append_right _ (List.mem_of_getElem? (i := 619) (by decide +kernel))) rfl
theorem d_Machine_begin_85 : decode b_Machine_begin 85 = .ok (.astore_n 3, 1) := by decide +kernel
theorem d_Machine_begin_86 : decode b_Machine_begin 86 = .ok (.aload_n 3, 1) := by decide +kernel
theorem d_Machine_begin_87 : decode b_Machine_begin 87 = .ok (.ifnull 15, 3) := by decide +kernel
theorem d_Machine_begin_90 : decode b_Machine_begin 90 = .ok (.aload_n 3, 1) := by decide +kernel
theorem d_Machine_begin_91 : decode b_Machine_begin 91 = .ok (.getfield 55, 3) := by decide +kernel
theorem d_Machine_begin_94 : decode b_Machine_begin 94 = .ok (.getfield 143, 3) := by decide +kernel
theorem k_Machine_f143 : Cond.fieldLink R_Machine 143 "ContinuationCore$Place" "kind" "C" ∈ lw_g := lw_in (List.mem_append_right _ (List.mem_of_getElem? (i := 152) (by decide +kernel))) rfl
theorem d_Machine_begin_97 : decode b_Machine_begin 97 = .ok (.bipush 32, 2) := by decide +kernel
theorem d_Machine_begin_99 : decode b_Machine_begin 99 = .ok (.if_icmp .ne 11, 3) := by decide +kernel
theorem d_Machine_begin_102 : decode b_Machine_begin 102 = .ok (.aload_n 0, 1) := by decide +kernel
theorem d_Machine_begin_103 : decode b_Machine_begin 103 = .ok (.iconst 1, 1) := by decide +kernel
theorem d_Machine_begin_104 : decode b_Machine_begin 104 = .ok (.invokevirtual 144, 3) := by decide +kernel
theorem k_Machine_m144 : Cond.methodLink R_Machine 144 y_Machine_fail ∈ lw_g := lw_in (List.mem_append_right _ (List.mem_of_getElem? (i := 622) (by decide +kernel))) rfl
theorem d_Machine_begin_107 : decode b_Machine_begin 107 = .ok (.goto 11, 3) := by decide +kernel
theorem d_Machine_begin_110 : decode b_Machine_begin 110 = .ok (.aload_n 0, 1) := by decide +kernel
theorem d_Machine_begin_111 : decode b_Machine_begin 111 = .ok (.aload_n 3, 1) := by decide +kernel
theorem d_Machine_begin_112 : decode b_Machine_begin 112 = .ok (.getfield 55, 3) := by decide +kernel
theorem d_Machine_begin_115 : decode b_Machine_begin 115 = .ok (.invokevirtual 147, 3) := by decide +kernel
theorem k_Machine_m147 : Cond.methodLink R_Machine 147 y_Machine_answer ∈ lw_g := lw_in (List.mem_append_right _ (List.mem_of_getElem? (i := 626) (by decide +kernel))) rfl
theorem d_Machine_begin_118 : decode b_Machine_begin 118 = .ok (.ireturn, 1) := by decide +kernel
theorem d_Machine_begin_119 : decode b_Machine_begin 119 = .ok (.aload_n 0, 1) := by decide +kernel
theorem d_Machine_begin_120 : decode b_Machine_begin 120 = .ok (.getfield 40, 3) := by decide +kernel
theorem d_Machine_begin_123 : decode b_Machine_begin 123 = .ok (.aload_n 0, 1) := by decide +kernel
theorem d_Machine_begin_124 : decode b_Machine_begin 124 = .ok (.getfield 78, 3) := by decide +kernel
theorem d_Machine_begin_127 : decode b_Machine_begin 127 = .ok (.new 151, 3) := by decide +kernel
theorem k_Machine_c151 : Cond.classLink R_Machine 151 "ContinuationCore$Closure" ∈ lw_g := lw_in (List.mem_append_right _ (List.mem_of_getElem? (i := 630) (by decide +kernel))) rfl
theorem d_Machine_begin_130 : decode b_Machine_begin 130 = .ok (.dup, 1) := by decide +kernel
theorem d_Machine_begin_131 : decode b_Machine_begin 131 = .ok (.aload_n 1, 1) := by decide +kernel
theorem d_Machine_begin_132 : decode b_Machine_begin 132 = .ok (.aload_n 2, 1) := by decide +kernel
theorem d_Machine_begin_133 : decode b_Machine_begin 133 = .ok (.invokespecial 153, 3) := by decide +kernel
theorem k_Machine_m153 : Cond.methodLink R_Machine 153 y_Closure_init ∈ lw_g := lw_in (List.mem_append_right _ (List.mem_of_getElem? (i := 632) (by decide +kernel))) rfl
theorem d_Machine_begin_136 : decode b_Machine_begin 136 = .ok (.invokevirtual 156, 3) := by decide +kernel
theorem k_Machine_m156 : Cond.methodLink R_Machine 156 y_Place_holdClosure ∈ lw_g := lw_in (List.mem_append_right _ (List.mem_of_getElem? (i := 645) (by decide +kernel))) rfl
theorem d_Machine_begin_139 : decode b_Machine_begin 139 = .ok (.aload_n 0, 1) := by decide +kernel
theorem d_Machine_begin_140 : decode b_Machine_begin 140 = .ok (.dup, 1) := by decide +kernel
theorem d_Machine_begin_141 : decode b_Machine_begin 141 = .ok (.getfield 78, 3) := by decide +kernel
theorem d_Machine_begin_144 : decode b_Machine_begin 144 = .ok (.iconst 1, 1) := by decide +kernel
theorem d_Machine_begin_145 : decode b_Machine_begin 145 = .ok (.iadd, 1) := by decide +kernel
theorem d_Machine_begin_146 : decode b_Machine_begin 146 = .ok (.putfield 78, 3) := by decide +kernel
theorem d_Machine_begin_149 : decode b_Machine_begin 149 = .ok (.iconst 1, 1) := by decide +kernel
theorem d_Machine_begin_150 : decode b_Machine_begin 150 = .ok (.ireturn, 1) := by decide +kernel
theorem d_Machine_begin_151 : decode b_Machine_begin 151 = .ok (.aload_n 0, 1) := by decide +kernel
theorem d_Machine_begin_152 : decode b_Machine_begin 152 = .ok (.aload_n 1, 1) := by decide +kernel
theorem d_Machine_begin_153 : decode b_Machine_begin 153 = .ok (.getfield 132, 3) := by decide +kernel
theorem d_Machine_begin_156 : decode b_Machine_begin 156 = .ok (.aload_n 0, 1) := by decide +kernel
theorem d_Machine_begin_157 : decode b_Machine_begin 157 = .ok (.getfield 36, 3) := by decide +kernel
theorem d_Machine_begin_160 : decode b_Machine_begin 160 = .ok (.aload_n 2, 1) := by decide +kernel
theorem d_Machine_begin_161 : decode b_Machine_begin 161 = .ok (.invokevirtual 160, 3) := by decide +kernel
theorem k_Machine_m160 : Cond.methodLink R_Machine 160 y_Machine_bind ∈ lw_g := lw_in (List.mem_append_right _ (List.mem_of_getElem? (i := 650) (by decide +kernel))) rfl
theorem d_Machine_begin_164 : decode b_Machine_begin 164 = .ok (.astore 4, 2) := by decide +kernel
theorem d_Machine_begin_166 : decode b_Machine_begin 166 = .ok (.aload 4, 2) := by decide +kernel
theorem d_Machine_begin_168 : decode b_Machine_begin 168 = .ok (.ifnull 18, 3) := by decide +kernel
theorem d_Machine_begin_171 : decode b_Machine_begin 171 = .ok (.aload_n 0, 1) := by decide +kernel
theorem d_Machine_begin_172 : decode b_Machine_begin 172 = .ok (.aload_n 1, 1) := by decide +kernel
theorem d_Machine_begin_173 : decode b_Machine_begin 173 = .ok (.aload 4, 2) := by decide +kernel
theorem d_Machine_begin_175 : decode b_Machine_begin 175 = .ok (.iconst 0, 1) := by decide +kernel
theorem d_Machine_begin_176 : decode b_Machine_begin 176 = .ok (.invokevirtual 164, 3) := by decide +kernel
theorem k_Machine_m164 : Cond.methodLink R_Machine 164 y_Machine_await ∈ lw_g := lw_in (List.mem_append_right _ (List.mem_of_getElem? (i := 654) (by decide +kernel))) rfl
theorem d_Machine_begin_179 : decode b_Machine_begin 179 = .ok (.ifCond .eq 7, 3) := by decide +kernel
theorem d_Machine_begin_182 : decode b_Machine_begin 182 = .ok (.iconst 1, 1) := by decide +kernel
theorem d_Machine_begin_183 : decode b_Machine_begin 183 = .ok (.goto 4, 3) := by decide +kernel
theorem d_Machine_begin_186 : decode b_Machine_begin 186 = .ok (.iconst 0, 1) := by decide +kernel
theorem d_Machine_begin_187 : decode b_Machine_begin 187 = .ok (.ireturn, 1) := by decide +kernel
theorem d_Machine_begin_188 : decode b_Machine_begin 188 = .ok (.aload_n 0, 1) := by decide +kernel
theorem d_Machine_begin_189 : decode b_Machine_begin 189 = .ok (.aload_n 1, 1) := by decide +kernel
theorem d_Machine_begin_190 : decode b_Machine_begin 190 = .ok (.aload_n 2, 1) := by decide +kernel
theorem d_Machine_begin_191 : decode b_Machine_begin 191 = .ok (.iconst 0, 1) := by decide +kernel
theorem d_Machine_begin_192 : decode b_Machine_begin 192 = .ok (.invokevirtual 164, 3) := by decide +kernel
theorem d_Machine_begin_195 : decode b_Machine_begin 195 = .ok (.ireturn, 1) := by decide +kernel
theorem ki_Machine_begin : Cond.instanceMethod y_Machine_begin ∈ lw_g := lw_in (List.mem_append_right _ (List.mem_of_getElem? (i := 612) (by decide +kernel))) rfl
theorem ke_Machine_begin : Cond.selects R_Machine y_Machine_begin y_Machine_begin ∈ lw_g := lw_in (List.mem_append_left _ (List.mem_map.mpr ⟨(y_Machine_begin, 16), by decide +kernel, rfl⟩)) rfl
-- Machine_goOn: maxLocals 6, ret (some .boolean)
theorem kc_Machine_goOn : Cond.code y_Machine_goOn b_Machine_goOn 6 (some .boolean) ∈ lw_g := lw_in (List.mem_append_right _ (List.mem_of_getElem? (i := 927) (by decide +kernel))) rfl
theorem d_Machine_goOn_0 : decode b_Machine_goOn 0 = .ok (.aload_n 1, 1) := by decide +kernel
theorem d_Machine_goOn_1 : decode b_Machine_goOn 1 = .ok (.getfield 168, 3) := by decide +kernel
theorem k_Machine_f168 : Cond.fieldLink R_Machine 168 "ContinuationCore$Waiting" "form" "LContinuationCore$Expression;" ∈ lw_g := lw_in (List.mem_append_right _ (List.mem_of_getElem? (i := 672) (by decide +kernel))) rfl
theorem d_Machine_goOn_4 : decode b_Machine_goOn 4 = .ok (.astore_n 2, 1) := by decide +kernel
theorem d_Machine_goOn_5 : decode b_Machine_goOn 5 = .ok (.aload_n 1, 1) := by decide +kernel
theorem d_Machine_goOn_6 : decode b_Machine_goOn 6 = .ok (.getfield 171, 3) := by decide +kernel
theorem k_Machine_f171 : Cond.fieldLink R_Machine 171 "ContinuationCore$Waiting" "scope" "LContinuationCore$Binding;" ∈ lw_g := lw_in (List.mem_append_right _ (List.mem_of_getElem? (i := 674) (by decide +kernel))) rfl
theorem d_Machine_goOn_9 : decode b_Machine_goOn 9 = .ok (.astore_n 3, 1) := by decide +kernel
theorem d_Machine_goOn_10 : decode b_Machine_goOn 10 = .ok (.aload_n 2, 1) := by decide +kernel
theorem d_Machine_goOn_11 : decode b_Machine_goOn 11 = .ok (.getfield 128, 3) := by decide +kernel
theorem d_Machine_goOn_14 : decode b_Machine_goOn 14 = .ok (.lookupswitch 144 #[(37, 121), (38, 68), (63, 42), (64, 80)], 42) := by decide +kernel
theorem d_Machine_goOn_56 : decode b_Machine_goOn 56 = .ok (.aload_n 0, 1) := by decide +kernel
theorem d_Machine_goOn_57 : decode b_Machine_goOn 57 = .ok (.aload_n 2, 1) := by decide +kernel
theorem d_Machine_goOn_58 : decode b_Machine_goOn 58 = .ok (.getfield 174, 3) := by decide +kernel
theorem k_Machine_f174 : Cond.fieldLink R_Machine 174 "ContinuationCore$Expression" "parts" "[LContinuationCore$Expression;" ∈ lw_g := lw_in (List.mem_append_right _ (List.mem_of_getElem? (i := 65) (by decide +kernel))) rfl
theorem d_Machine_goOn_61 : decode b_Machine_goOn 61 = .ok (.aload_n 0, 1) := by decide +kernel
theorem d_Machine_goOn_62 : decode b_Machine_goOn 62 = .ok (.getfield 40, 3) := by decide +kernel
theorem d_Machine_goOn_65 : decode b_Machine_goOn 65 = .ok (.invokevirtual 178, 3) := by decide +kernel
theorem k_Machine_m178 : Cond.methodLink R_Machine 178 y_Place_isZero ∈ lw_g := lw_in (List.mem_append_right _ (List.mem_of_getElem? (i := 928) (by decide +kernel))) rfl
theorem d_Machine_goOn_68 : decode b_Machine_goOn 68 = .ok (.ifCond .eq 7, 3) := by decide +kernel
theorem d_Machine_goOn_71 : decode b_Machine_goOn 71 = .ok (.iconst 2, 1) := by decide +kernel
theorem d_Machine_goOn_72 : decode b_Machine_goOn 72 = .ok (.goto 4, 3) := by decide +kernel
theorem d_Machine_goOn_75 : decode b_Machine_goOn 75 = .ok (.iconst 1, 1) := by decide +kernel
theorem d_Machine_goOn_76 : decode b_Machine_goOn 76 = .ok (.aaload, 1) := by decide +kernel
theorem d_Machine_goOn_77 : decode b_Machine_goOn 77 = .ok (.aload_n 3, 1) := by decide +kernel
theorem d_Machine_goOn_78 : decode b_Machine_goOn 78 = .ok (.invokevirtual 85, 3) := by decide +kernel
theorem d_Machine_goOn_81 : decode b_Machine_goOn 81 = .ok (.ireturn, 1) := by decide +kernel
theorem d_Machine_goOn_82 : decode b_Machine_goOn 82 = .ok (.aload_n 0, 1) := by decide +kernel
theorem d_Machine_goOn_83 : decode b_Machine_goOn 83 = .ok (.aload_n 2, 1) := by decide +kernel
theorem d_Machine_goOn_84 : decode b_Machine_goOn 84 = .ok (.getfield 174, 3) := by decide +kernel
theorem d_Machine_goOn_87 : decode b_Machine_goOn 87 = .ok (.iconst 1, 1) := by decide +kernel
theorem d_Machine_goOn_88 : decode b_Machine_goOn 88 = .ok (.aaload, 1) := by decide +kernel
theorem d_Machine_goOn_89 : decode b_Machine_goOn 89 = .ok (.aload_n 3, 1) := by decide +kernel
theorem d_Machine_goOn_90 : decode b_Machine_goOn 90 = .ok (.invokevirtual 85, 3) := by decide +kernel
theorem d_Machine_goOn_93 : decode b_Machine_goOn 93 = .ok (.ireturn, 1) := by decide +kernel
theorem d_Machine_goOn_94 : decode b_Machine_goOn 94 = .ok (.aload_n 0, 1) := by decide +kernel
theorem d_Machine_goOn_95 : decode b_Machine_goOn 95 = .ok (.aload_n 2, 1) := by decide +kernel
theorem d_Machine_goOn_96 : decode b_Machine_goOn 96 = .ok (.getfield 132, 3) := by decide +kernel
theorem d_Machine_goOn_99 : decode b_Machine_goOn 99 = .ok (.aload_n 0, 1) := by decide +kernel
theorem d_Machine_goOn_100 : decode b_Machine_goOn 100 = .ok (.getfield 40, 3) := by decide +kernel
theorem d_Machine_goOn_103 : decode b_Machine_goOn 103 = .ok (.aload_n 3, 1) := by decide +kernel
theorem d_Machine_goOn_104 : decode b_Machine_goOn 104 = .ok (.invokevirtual 160, 3) := by decide +kernel
theorem d_Machine_goOn_107 : decode b_Machine_goOn 107 = .ok (.astore 4, 2) := by decide +kernel
theorem d_Machine_goOn_109 : decode b_Machine_goOn 109 = .ok (.aload 4, 2) := by decide +kernel
theorem d_Machine_goOn_111 : decode b_Machine_goOn 111 = .ok (.ifnull 22, 3) := by decide +kernel
theorem d_Machine_goOn_114 : decode b_Machine_goOn 114 = .ok (.aload_n 0, 1) := by decide +kernel
theorem d_Machine_goOn_115 : decode b_Machine_goOn 115 = .ok (.aload_n 2, 1) := by decide +kernel
theorem d_Machine_goOn_116 : decode b_Machine_goOn 116 = .ok (.getfield 174, 3) := by decide +kernel
theorem d_Machine_goOn_119 : decode b_Machine_goOn 119 = .ok (.iconst 1, 1) := by decide +kernel
theorem d_Machine_goOn_120 : decode b_Machine_goOn 120 = .ok (.aaload, 1) := by decide +kernel
theorem d_Machine_goOn_121 : decode b_Machine_goOn 121 = .ok (.aload 4, 2) := by decide +kernel
theorem d_Machine_goOn_123 : decode b_Machine_goOn 123 = .ok (.invokevirtual 85, 3) := by decide +kernel
theorem d_Machine_goOn_126 : decode b_Machine_goOn 126 = .ok (.ifCond .eq 7, 3) := by decide +kernel
theorem d_Machine_goOn_129 : decode b_Machine_goOn 129 = .ok (.iconst 1, 1) := by decide +kernel
theorem d_Machine_goOn_130 : decode b_Machine_goOn 130 = .ok (.goto 4, 3) := by decide +kernel
theorem d_Machine_goOn_133 : decode b_Machine_goOn 133 = .ok (.iconst 0, 1) := by decide +kernel
theorem d_Machine_goOn_134 : decode b_Machine_goOn 134 = .ok (.ireturn, 1) := by decide +kernel
theorem d_Machine_goOn_135 : decode b_Machine_goOn 135 = .ok (.aload_n 3, 1) := by decide +kernel
theorem d_Machine_goOn_136 : decode b_Machine_goOn 136 = .ok (.getfield 55, 3) := by decide +kernel
theorem d_Machine_goOn_139 : decode b_Machine_goOn 139 = .ok (.aload_n 0, 1) := by decide +kernel
theorem d_Machine_goOn_140 : decode b_Machine_goOn 140 = .ok (.getfield 40, 3) := by decide +kernel
theorem d_Machine_goOn_143 : decode b_Machine_goOn 143 = .ok (.invokevirtual 58, 3) := by decide +kernel
theorem d_Machine_goOn_146 : decode b_Machine_goOn 146 = .ok (.aload_n 0, 1) := by decide +kernel
theorem d_Machine_goOn_147 : decode b_Machine_goOn 147 = .ok (.aload_n 2, 1) := by decide +kernel
theorem d_Machine_goOn_148 : decode b_Machine_goOn 148 = .ok (.getfield 174, 3) := by decide +kernel
theorem d_Machine_goOn_151 : decode b_Machine_goOn 151 = .ok (.iconst 1, 1) := by decide +kernel
theorem d_Machine_goOn_152 : decode b_Machine_goOn 152 = .ok (.aaload, 1) := by decide +kernel
theorem d_Machine_goOn_153 : decode b_Machine_goOn 153 = .ok (.aload_n 3, 1) := by decide +kernel
theorem d_Machine_goOn_154 : decode b_Machine_goOn 154 = .ok (.invokevirtual 85, 3) := by decide +kernel
theorem d_Machine_goOn_157 : decode b_Machine_goOn 157 = .ok (.ireturn, 1) := by decide +kernel
theorem d_Machine_goOn_158 : decode b_Machine_goOn 158 = .ok (.aload_n 0, 1) := by decide +kernel
theorem d_Machine_goOn_159 : decode b_Machine_goOn 159 = .ok (.aload_n 1, 1) := by decide +kernel
theorem d_Machine_goOn_160 : decode b_Machine_goOn 160 = .ok (.getfield 182, 3) := by decide +kernel
theorem k_Machine_f182 : Cond.fieldLink R_Machine 182 "ContinuationCore$Waiting" "done" "[LContinuationCore$Place;" ∈ lw_g := lw_in (List.mem_append_right _ (List.mem_of_getElem? (i := 676) (by decide +kernel))) rfl
theorem d_Machine_goOn_163 : decode b_Machine_goOn 163 = .ok (.invokevirtual 185, 3) := by decide +kernel
theorem k_Machine_m185 : Cond.methodLink R_Machine 185 y_Machine_gather ∈ lw_g := lw_in (List.mem_append_right _ (List.mem_of_getElem? (i := 932) (by decide +kernel))) rfl
theorem d_Machine_goOn_166 : decode b_Machine_goOn 166 = .ok (.istore 5, 2) := by decide +kernel
theorem d_Machine_goOn_168 : decode b_Machine_goOn 168 = .ok (.iload 5, 2) := by decide +kernel
theorem d_Machine_goOn_170 : decode b_Machine_goOn 170 = .ok (.aload_n 2, 1) := by decide +kernel
theorem d_Machine_goOn_171 : decode b_Machine_goOn 171 = .ok (.getfield 189, 3) := by decide +kernel
theorem k_Machine_f189 : Cond.fieldLink R_Machine 189 "ContinuationCore$Expression" "partCount" "I" ∈ lw_g := lw_in (List.mem_append_right _ (List.mem_of_getElem? (i := 61) (by decide +kernel))) rfl
theorem d_Machine_goOn_174 : decode b_Machine_goOn 174 = .ok (.if_icmp .ge 14, 3) := by decide +kernel
theorem d_Machine_goOn_177 : decode b_Machine_goOn 177 = .ok (.aload_n 0, 1) := by decide +kernel
theorem d_Machine_goOn_178 : decode b_Machine_goOn 178 = .ok (.aload_n 2, 1) := by decide +kernel
theorem d_Machine_goOn_179 : decode b_Machine_goOn 179 = .ok (.aload_n 3, 1) := by decide +kernel
theorem d_Machine_goOn_180 : decode b_Machine_goOn 180 = .ok (.iload 5, 2) := by decide +kernel
theorem d_Machine_goOn_182 : decode b_Machine_goOn 182 = .ok (.invokevirtual 164, 3) := by decide +kernel
theorem d_Machine_goOn_185 : decode b_Machine_goOn 185 = .ok (.goto 11, 3) := by decide +kernel
theorem d_Machine_goOn_188 : decode b_Machine_goOn 188 = .ok (.aload_n 0, 1) := by decide +kernel
theorem d_Machine_goOn_189 : decode b_Machine_goOn 189 = .ok (.aload_n 2, 1) := by decide +kernel
theorem d_Machine_goOn_190 : decode b_Machine_goOn 190 = .ok (.aload_n 3, 1) := by decide +kernel
theorem d_Machine_goOn_191 : decode b_Machine_goOn 191 = .ok (.iload 5, 2) := by decide +kernel
theorem d_Machine_goOn_193 : decode b_Machine_goOn 193 = .ok (.invokevirtual 192, 3) := by decide +kernel
theorem k_Machine_m192 : Cond.methodLink R_Machine 192 y_Machine_complete ∈ lw_g := lw_in (List.mem_append_right _ (List.mem_of_getElem? (i := 936) (by decide +kernel))) rfl
theorem d_Machine_goOn_196 : decode b_Machine_goOn 196 = .ok (.ireturn, 1) := by decide +kernel
theorem ki_Machine_goOn : Cond.instanceMethod y_Machine_goOn ∈ lw_g := lw_in (List.mem_append_right _ (List.mem_of_getElem? (i := 926) (by decide +kernel))) rfl
theorem ke_Machine_goOn : Cond.selects R_Machine y_Machine_goOn y_Machine_goOn ∈ lw_g := lw_in (List.mem_append_left _ (List.mem_map.mpr ⟨(y_Machine_goOn, 16), by decide +kernel, rfl⟩)) rfl
-- Machine_gather: maxLocals 3, ret (some .int)
theorem kc_Machine_gather : Cond.code y_Machine_gather b_Machine_gather 3 (some .int) ∈ lw_g := lw_in (List.mem_append_right _ (List.mem_of_getElem? (i := 935) (by decide +kernel))) rfl
theorem d_Machine_gather_0 : decode b_Machine_gather 0 = .ok (.iconst 0, 1) := by decide +kernel
theorem d_Machine_gather_1 : decode b_Machine_gather 1 = .ok (.istore_n 2, 1) := by decide +kernel
theorem d_Machine_gather_2 : decode b_Machine_gather 2 = .ok (.iload_n 2, 1) := by decide +kernel
theorem d_Machine_gather_3 : decode b_Machine_gather 3 = .ok (.aload_n 1, 1) := by decide +kernel
theorem d_Machine_gather_4 : decode b_Machine_gather 4 = .ok (.arraylength, 1) := by decide +kernel
theorem d_Machine_gather_5 : decode b_Machine_gather 5 = .ok (.if_icmp .ge 32, 3) := by decide +kernel
theorem d_Machine_gather_8 : decode b_Machine_gather 8 = .ok (.iload_n 2, 1) := by decide +kernel
theorem d_Machine_gather_9 : decode b_Machine_gather 9 = .ok (.aload_n 0, 1) := by decide +kernel
theorem d_Machine_gather_10 : decode b_Machine_gather 10 = .ok (.getfield 45, 3) := by decide +kernel
theorem d_Machine_gather_13 : decode b_Machine_gather 13 = .ok (.arraylength, 1) := by decide +kernel
theorem d_Machine_gather_14 : decode b_Machine_gather 14 = .ok (.iconst 1, 1) := by decide +kernel
theorem d_Machine_gather_15 : decode b_Machine_gather 15 = .ok (.isub, 1) := by decide +kernel
theorem d_Machine_gather_16 : decode b_Machine_gather 16 = .ok (.if_icmp .ge 21, 3) := by decide +kernel
theorem d_Machine_gather_19 : decode b_Machine_gather 19 = .ok (.aload_n 0, 1) := by decide +kernel
theorem d_Machine_gather_20 : decode b_Machine_gather 20 = .ok (.getfield 45, 3) := by decide +kernel
theorem d_Machine_gather_23 : decode b_Machine_gather 23 = .ok (.iload_n 2, 1) := by decide +kernel
theorem d_Machine_gather_24 : decode b_Machine_gather 24 = .ok (.aaload, 1) := by decide +kernel
theorem d_Machine_gather_25 : decode b_Machine_gather 25 = .ok (.aload_n 1, 1) := by decide +kernel
theorem d_Machine_gather_26 : decode b_Machine_gather 26 = .ok (.iload_n 2, 1) := by decide +kernel
theorem d_Machine_gather_27 : decode b_Machine_gather 27 = .ok (.aaload, 1) := by decide +kernel
theorem d_Machine_gather_28 : decode b_Machine_gather 28 = .ok (.invokevirtual 58, 3) := by decide +kernel
theorem d_Machine_gather_31 : decode b_Machine_gather 31 = .ok (.iinc 2 1, 3) := by decide +kernel
theorem d_Machine_gather_34 : decode b_Machine_gather 34 = .ok (.goto (-32), 3) := by decide +kernel
theorem d_Machine_gather_37 : decode b_Machine_gather 37 = .ok (.aload_n 0, 1) := by decide +kernel
theorem d_Machine_gather_38 : decode b_Machine_gather 38 = .ok (.getfield 45, 3) := by decide +kernel
theorem d_Machine_gather_41 : decode b_Machine_gather 41 = .ok (.iload_n 2, 1) := by decide +kernel
theorem d_Machine_gather_42 : decode b_Machine_gather 42 = .ok (.aaload, 1) := by decide +kernel
theorem d_Machine_gather_43 : decode b_Machine_gather 43 = .ok (.aload_n 0, 1) := by decide +kernel
theorem d_Machine_gather_44 : decode b_Machine_gather 44 = .ok (.getfield 40, 3) := by decide +kernel
theorem d_Machine_gather_47 : decode b_Machine_gather 47 = .ok (.invokevirtual 58, 3) := by decide +kernel
theorem d_Machine_gather_50 : decode b_Machine_gather 50 = .ok (.iload_n 2, 1) := by decide +kernel
theorem d_Machine_gather_51 : decode b_Machine_gather 51 = .ok (.iconst 1, 1) := by decide +kernel
theorem d_Machine_gather_52 : decode b_Machine_gather 52 = .ok (.iadd, 1) := by decide +kernel
theorem d_Machine_gather_53 : decode b_Machine_gather 53 = .ok (.ireturn, 1) := by decide +kernel
theorem ki_Machine_gather : Cond.instanceMethod y_Machine_gather ∈ lw_g := lw_in (List.mem_append_right _ (List.mem_of_getElem? (i := 934) (by decide +kernel))) rfl
theorem ke_Machine_gather : Cond.selects R_Machine y_Machine_gather y_Machine_gather ∈ lw_g := lw_in (List.mem_append_left _ (List.mem_map.mpr ⟨(y_Machine_gather, 16), by decide +kernel, rfl⟩)) rfl
-- Machine_goLast: maxLocals 3, ret (some .boolean)
theorem kc_Machine_goLast : Cond.code y_Machine_goLast b_Machine_goLast 3 (some .boolean) ∈ lw_g := lw_in (List.mem_append_right _ (List.mem_of_getElem? (i := 594) (by decide +kernel))) rfl
theorem d_Machine_goLast_0 : decode b_Machine_goLast 0 = .ok (.aload_n 0, 1) := by decide +kernel
theorem d_Machine_goLast_1 : decode b_Machine_goLast 1 = .ok (.aload_n 1, 1) := by decide +kernel
theorem d_Machine_goLast_2 : decode b_Machine_goLast 2 = .ok (.putfield 94, 3) := by decide +kernel
theorem d_Machine_goLast_5 : decode b_Machine_goLast 5 = .ok (.aload_n 0, 1) := by decide +kernel
theorem d_Machine_goLast_6 : decode b_Machine_goLast 6 = .ok (.aload_n 2, 1) := by decide +kernel
theorem d_Machine_goLast_7 : decode b_Machine_goLast 7 = .ok (.putfield 98, 3) := by decide +kernel
theorem d_Machine_goLast_10 : decode b_Machine_goLast 10 = .ok (.iconst 0, 1) := by decide +kernel
theorem d_Machine_goLast_11 : decode b_Machine_goLast 11 = .ok (.ireturn, 1) := by decide +kernel
theorem ki_Machine_goLast : Cond.instanceMethod y_Machine_goLast ∈ lw_g := lw_in (List.mem_append_right _ (List.mem_of_getElem? (i := 593) (by decide +kernel))) rfl
theorem ke_Machine_goLast : Cond.selects R_Machine y_Machine_goLast y_Machine_goLast ∈ lw_g := lw_in (List.mem_append_left _ (List.mem_map.mpr ⟨(y_Machine_goLast, 16), by decide +kernel, rfl⟩)) rfl
-- Machine_await: maxLocals 4, ret (some .boolean)
theorem kc_Machine_await : Cond.code y_Machine_await b_Machine_await 4 (some .boolean) ∈ lw_g := lw_in (List.mem_append_right _ (List.mem_of_getElem? (i := 657) (by decide +kernel))) rfl
theorem d_Machine_await_0 : decode b_Machine_await 0 = .ok (.aload_n 0, 1) := by decide +kernel
theorem d_Machine_await_1 : decode b_Machine_await 1 = .ok (.invokevirtual 195, 3) := by decide +kernel
theorem k_Machine_m195 : Cond.methodLink R_Machine 195 y_Machine_depth ∈ lw_g := lw_in (List.mem_append_right _ (List.mem_of_getElem? (i := 658) (by decide +kernel))) rfl
theorem d_Machine_await_4 : decode b_Machine_await 4 = .ok (.bipush 24, 2) := by decide +kernel
theorem d_Machine_await_6 : decode b_Machine_await 6 = .ok (.if_icmp .lt 9, 3) := by decide +kernel
theorem d_Machine_await_9 : decode b_Machine_await 9 = .ok (.aload_n 0, 1) := by decide +kernel
theorem d_Machine_await_10 : decode b_Machine_await 10 = .ok (.iconst 5, 1) := by decide +kernel
theorem d_Machine_await_11 : decode b_Machine_await 11 = .ok (.invokevirtual 144, 3) := by decide +kernel
theorem d_Machine_await_14 : decode b_Machine_await 14 = .ok (.ireturn, 1) := by decide +kernel
theorem d_Machine_await_15 : decode b_Machine_await 15 = .ok (.aload_n 0, 1) := by decide +kernel
theorem d_Machine_await_16 : decode b_Machine_await 16 = .ok (.new 90, 3) := by decide +kernel
theorem k_Machine_c90 : Cond.classLink R_Machine 90 "ContinuationCore$Waiting" ∈ lw_g := lw_in (List.mem_append_right _ (List.mem_of_getElem? (i := 662) (by decide +kernel))) rfl
theorem d_Machine_await_19 : decode b_Machine_await 19 = .ok (.dup, 1) := by decide +kernel
theorem d_Machine_await_20 : decode b_Machine_await 20 = .ok (.aload_n 1, 1) := by decide +kernel
theorem d_Machine_await_21 : decode b_Machine_await 21 = .ok (.aload_n 2, 1) := by decide +kernel
theorem d_Machine_await_22 : decode b_Machine_await 22 = .ok (.aload_n 0, 1) := by decide +kernel
theorem d_Machine_await_23 : decode b_Machine_await 23 = .ok (.getfield 45, 3) := by decide +kernel
theorem d_Machine_await_26 : decode b_Machine_await 26 = .ok (.iload_n 3, 1) := by decide +kernel
theorem d_Machine_await_27 : decode b_Machine_await 27 = .ok (.aload_n 0, 1) := by decide +kernel
theorem d_Machine_await_28 : decode b_Machine_await 28 = .ok (.getfield 81, 3) := by decide +kernel
theorem d_Machine_await_31 : decode b_Machine_await 31 = .ok (.invokespecial 198, 3) := by decide +kernel
theorem k_Machine_m198 : Cond.methodLink R_Machine 198 y_Waiting_init ∈ lw_g := lw_in (List.mem_append_right _ (List.mem_of_getElem? (i := 664) (by decide +kernel))) rfl
theorem d_Machine_await_34 : decode b_Machine_await 34 = .ok (.putfield 81, 3) := by decide +kernel
theorem d_Machine_await_37 : decode b_Machine_await 37 = .ok (.aload_n 0, 1) := by decide +kernel
theorem d_Machine_await_38 : decode b_Machine_await 38 = .ok (.aload_n 1, 1) := by decide +kernel
theorem d_Machine_await_39 : decode b_Machine_await 39 = .ok (.getfield 174, 3) := by decide +kernel
theorem d_Machine_await_42 : decode b_Machine_await 42 = .ok (.iload_n 3, 1) := by decide +kernel
theorem d_Machine_await_43 : decode b_Machine_await 43 = .ok (.aaload, 1) := by decide +kernel
theorem d_Machine_await_44 : decode b_Machine_await 44 = .ok (.aload_n 2, 1) := by decide +kernel
theorem d_Machine_await_45 : decode b_Machine_await 45 = .ok (.invokevirtual 85, 3) := by decide +kernel
theorem d_Machine_await_48 : decode b_Machine_await 48 = .ok (.ireturn, 1) := by decide +kernel
theorem ki_Machine_await : Cond.instanceMethod y_Machine_await ∈ lw_g := lw_in (List.mem_append_right _ (List.mem_of_getElem? (i := 656) (by decide +kernel))) rfl
theorem ke_Machine_await : Cond.selects R_Machine y_Machine_await y_Machine_await ∈ lw_g := lw_in (List.mem_append_left _ (List.mem_map.mpr ⟨(y_Machine_await, 16), by decide +kernel, rfl⟩)) rfl
-- Machine_complete: maxLocals 5, ret (some .boolean)
theorem kc_Machine_complete : Cond.code y_Machine_complete b_Machine_complete 5 (some .boolean) ∈ lw_g := lw_in (List.mem_append_right _ (List.mem_of_getElem? (i := 939) (by decide +kernel))) rfl
theorem d_Machine_complete_0 : decode b_Machine_complete 0 = .ok (.aload_n 1, 1) := by decide +kernel
theorem d_Machine_complete_1 : decode b_Machine_complete 1 = .ok (.getfield 128, 3) := by decide +kernel
theorem d_Machine_complete_4 : decode b_Machine_complete 4 = .ok (.lookupswitch 265 #[(33, 117), (40, 76), (58, 232), (61, 237), (65, 146), (68, 179), (80, 212), (94, 84)], 76) := by decide +kernel
theorem d_Machine_complete_80 : decode b_Machine_complete 80 = .ok (.aload_n 0, 1) := by decide +kernel
theorem d_Machine_complete_81 : decode b_Machine_complete 81 = .ok (.iload_n 3, 1) := by decide +kernel
theorem d_Machine_complete_82 : decode b_Machine_complete 82 = .ok (.iconst 1, 1) := by decide +kernel
theorem d_Machine_complete_83 : decode b_Machine_complete 83 = .ok (.isub, 1) := by decide +kernel
theorem d_Machine_complete_84 : decode b_Machine_complete 84 = .ok (.invokevirtual 201, 3) := by decide +kernel
theorem k_Machine_m201 : Cond.methodLink R_Machine 201 y_Machine_call ∈ lw_g := lw_in (List.mem_append_right _ (List.mem_of_getElem? (i := 940) (by decide +kernel))) rfl
theorem d_Machine_complete_87 : decode b_Machine_complete 87 = .ok (.ireturn, 1) := by decide +kernel
theorem d_Machine_complete_88 : decode b_Machine_complete 88 = .ok (.aload_n 0, 1) := by decide +kernel
theorem d_Machine_complete_89 : decode b_Machine_complete 89 = .ok (.getfield 45, 3) := by decide +kernel
theorem d_Machine_complete_92 : decode b_Machine_complete 92 = .ok (.iconst 1, 1) := by decide +kernel
theorem d_Machine_complete_93 : decode b_Machine_complete 93 = .ok (.aaload, 1) := by decide +kernel
theorem d_Machine_complete_94 : decode b_Machine_complete 94 = .ok (.aload_n 0, 1) := by decide +kernel
theorem d_Machine_complete_95 : decode b_Machine_complete 95 = .ok (.getfield 78, 3) := by decide +kernel
theorem d_Machine_complete_98 : decode b_Machine_complete 98 = .ok (.aload_n 0, 1) := by decide +kernel
theorem d_Machine_complete_99 : decode b_Machine_complete 99 = .ok (.getfield 81, 3) := by decide +kernel
theorem d_Machine_complete_102 : decode b_Machine_complete 102 = .ok (.invokevirtual 204, 3) := by decide +kernel
theorem k_Machine_m204 : Cond.methodLink R_Machine 204 y_Place_holdContinuation ∈ lw_g := lw_in (List.mem_append_right _ (List.mem_of_getElem? (i := 944) (by decide +kernel))) rfl
theorem d_Machine_complete_105 : decode b_Machine_complete 105 = .ok (.aload_n 0, 1) := by decide +kernel
theorem d_Machine_complete_106 : decode b_Machine_complete 106 = .ok (.dup, 1) := by decide +kernel
theorem d_Machine_complete_107 : decode b_Machine_complete 107 = .ok (.getfield 78, 3) := by decide +kernel
theorem d_Machine_complete_110 : decode b_Machine_complete 110 = .ok (.iconst 1, 1) := by decide +kernel
theorem d_Machine_complete_111 : decode b_Machine_complete 111 = .ok (.iadd, 1) := by decide +kernel
theorem d_Machine_complete_112 : decode b_Machine_complete 112 = .ok (.putfield 78, 3) := by decide +kernel
theorem d_Machine_complete_115 : decode b_Machine_complete 115 = .ok (.aload_n 0, 1) := by decide +kernel
theorem d_Machine_complete_116 : decode b_Machine_complete 116 = .ok (.iconst 1, 1) := by decide +kernel
theorem d_Machine_complete_117 : decode b_Machine_complete 117 = .ok (.invokevirtual 201, 3) := by decide +kernel
theorem d_Machine_complete_120 : decode b_Machine_complete 120 = .ok (.ireturn, 1) := by decide +kernel
theorem d_Machine_complete_121 : decode b_Machine_complete 121 = .ok (.aload_n 1, 1) := by decide +kernel
theorem d_Machine_complete_122 : decode b_Machine_complete 122 = .ok (.getfield 132, 3) := by decide +kernel
theorem d_Machine_complete_125 : decode b_Machine_complete 125 = .ok (.aload_n 2, 1) := by decide +kernel
theorem d_Machine_complete_126 : decode b_Machine_complete 126 = .ok (.invokestatic 139, 3) := by decide +kernel
theorem d_Machine_complete_129 : decode b_Machine_complete 129 = .ok (.astore 4, 2) := by decide +kernel
theorem d_Machine_complete_131 : decode b_Machine_complete 131 = .ok (.aload 4, 2) := by decide +kernel
theorem d_Machine_complete_133 : decode b_Machine_complete 133 = .ok (.ifnull 15, 3) := by decide +kernel
theorem d_Machine_complete_136 : decode b_Machine_complete 136 = .ok (.aload 4, 2) := by decide +kernel
theorem d_Machine_complete_138 : decode b_Machine_complete 138 = .ok (.getfield 55, 3) := by decide +kernel
theorem d_Machine_complete_141 : decode b_Machine_complete 141 = .ok (.aload_n 0, 1) := by decide +kernel
theorem d_Machine_complete_142 : decode b_Machine_complete 142 = .ok (.getfield 40, 3) := by decide +kernel
theorem d_Machine_complete_145 : decode b_Machine_complete 145 = .ok (.invokevirtual 58, 3) := by decide +kernel
theorem d_Machine_complete_148 : decode b_Machine_complete 148 = .ok (.iconst 1, 1) := by decide +kernel
theorem d_Machine_complete_149 : decode b_Machine_complete 149 = .ok (.ireturn, 1) := by decide +kernel
theorem d_Machine_complete_150 : decode b_Machine_complete 150 = .ok (.aload_n 0, 1) := by decide +kernel
theorem d_Machine_complete_151 : decode b_Machine_complete 151 = .ok (.getfield 40, 3) := by decide +kernel
theorem d_Machine_complete_154 : decode b_Machine_complete 154 = .ok (.getfield 208, 3) := by decide +kernel
theorem k_Machine_f208 : Cond.fieldLink R_Machine 208 "ContinuationCore$Place" "pair" "LContinuationCore$Pair;" ∈ lw_g := lw_in (List.mem_append_right _ (List.mem_of_getElem? (i := 157) (by decide +kernel))) rfl
theorem d_Machine_complete_157 : decode b_Machine_complete 157 = .ok (.ifnonnull 11, 3) := by decide +kernel
theorem d_Machine_complete_160 : decode b_Machine_complete 160 = .ok (.aload_n 0, 1) := by decide +kernel
theorem d_Machine_complete_161 : decode b_Machine_complete 161 = .ok (.iconst 2, 1) := by decide +kernel
theorem d_Machine_complete_162 : decode b_Machine_complete 162 = .ok (.invokevirtual 144, 3) := by decide +kernel
theorem d_Machine_complete_165 : decode b_Machine_complete 165 = .ok (.goto 17, 3) := by decide +kernel
theorem d_Machine_complete_168 : decode b_Machine_complete 168 = .ok (.aload_n 0, 1) := by decide +kernel
theorem d_Machine_complete_169 : decode b_Machine_complete 169 = .ok (.aload_n 0, 1) := by decide +kernel
theorem d_Machine_complete_170 : decode b_Machine_complete 170 = .ok (.getfield 40, 3) := by decide +kernel
theorem d_Machine_complete_173 : decode b_Machine_complete 173 = .ok (.getfield 208, 3) := by decide +kernel
theorem d_Machine_complete_176 : decode b_Machine_complete 176 = .ok (.getfield 212, 3) := by decide +kernel
theorem k_Machine_f212 : Cond.fieldLink R_Machine 212 "ContinuationCore$Pair" "first" "LContinuationCore$Place;" ∈ lw_g := lw_in (List.mem_append_right _ (List.mem_of_getElem? (i := 208) (by decide +kernel))) rfl
theorem d_Machine_complete_179 : decode b_Machine_complete 179 = .ok (.invokevirtual 147, 3) := by decide +kernel
theorem d_Machine_complete_182 : decode b_Machine_complete 182 = .ok (.ireturn, 1) := by decide +kernel
theorem d_Machine_complete_183 : decode b_Machine_complete 183 = .ok (.aload_n 0, 1) := by decide +kernel
theorem d_Machine_complete_184 : decode b_Machine_complete 184 = .ok (.getfield 40, 3) := by decide +kernel
theorem d_Machine_complete_187 : decode b_Machine_complete 187 = .ok (.getfield 208, 3) := by decide +kernel
theorem d_Machine_complete_190 : decode b_Machine_complete 190 = .ok (.ifnonnull 11, 3) := by decide +kernel
theorem d_Machine_complete_193 : decode b_Machine_complete 193 = .ok (.aload_n 0, 1) := by decide +kernel
theorem d_Machine_complete_194 : decode b_Machine_complete 194 = .ok (.iconst 2, 1) := by decide +kernel
theorem d_Machine_complete_195 : decode b_Machine_complete 195 = .ok (.invokevirtual 144, 3) := by decide +kernel
theorem d_Machine_complete_198 : decode b_Machine_complete 198 = .ok (.goto 17, 3) := by decide +kernel
theorem d_Machine_complete_201 : decode b_Machine_complete 201 = .ok (.aload_n 0, 1) := by decide +kernel
theorem d_Machine_complete_202 : decode b_Machine_complete 202 = .ok (.aload_n 0, 1) := by decide +kernel
theorem d_Machine_complete_203 : decode b_Machine_complete 203 = .ok (.getfield 40, 3) := by decide +kernel
theorem d_Machine_complete_206 : decode b_Machine_complete 206 = .ok (.getfield 208, 3) := by decide +kernel
theorem d_Machine_complete_209 : decode b_Machine_complete 209 = .ok (.getfield 215, 3) := by decide +kernel
theorem k_Machine_f215 : Cond.fieldLink R_Machine 215 "ContinuationCore$Pair" "second" "LContinuationCore$Place;" ∈ lw_g := lw_in (List.mem_append_right _ (List.mem_of_getElem? (i := 211) (by decide +kernel))) rfl
theorem d_Machine_complete_212 : decode b_Machine_complete 212 = .ok (.invokevirtual 147, 3) := by decide +kernel
theorem d_Machine_complete_215 : decode b_Machine_complete 215 = .ok (.ireturn, 1) := by decide +kernel
theorem d_Machine_complete_216 : decode b_Machine_complete 216 = .ok (.aload_n 0, 1) := by decide +kernel
theorem d_Machine_complete_217 : decode b_Machine_complete 217 = .ok (.aload_n 0, 1) := by decide +kernel
theorem d_Machine_complete_218 : decode b_Machine_complete 218 = .ok (.getfield 40, 3) := by decide +kernel
theorem d_Machine_complete_221 : decode b_Machine_complete 221 = .ok (.getfield 208, 3) := by decide +kernel
theorem d_Machine_complete_224 : decode b_Machine_complete 224 = .ok (.ifnonnull 7, 3) := by decide +kernel
theorem d_Machine_complete_227 : decode b_Machine_complete 227 = .ok (.iconst 0, 1) := by decide +kernel
theorem d_Machine_complete_228 : decode b_Machine_complete 228 = .ok (.goto 4, 3) := by decide +kernel
theorem d_Machine_complete_231 : decode b_Machine_complete 231 = .ok (.iconst 1, 1) := by decide +kernel
theorem d_Machine_complete_232 : decode b_Machine_complete 232 = .ok (.invokevirtual 135, 3) := by decide +kernel
theorem d_Machine_complete_235 : decode b_Machine_complete 235 = .ok (.ireturn, 1) := by decide +kernel
theorem d_Machine_complete_236 : decode b_Machine_complete 236 = .ok (.aload_n 0, 1) := by decide +kernel
theorem d_Machine_complete_237 : decode b_Machine_complete 237 = .ok (.invokevirtual 218, 3) := by decide +kernel
theorem k_Machine_m218 : Cond.methodLink R_Machine 218 y_Machine_makePair ∈ lw_g := lw_in (List.mem_append_right _ (List.mem_of_getElem? (i := 948) (by decide +kernel))) rfl
theorem d_Machine_complete_240 : decode b_Machine_complete 240 = .ok (.ireturn, 1) := by decide +kernel
theorem d_Machine_complete_241 : decode b_Machine_complete 241 = .ok (.aload_n 0, 1) := by decide +kernel
theorem d_Machine_complete_242 : decode b_Machine_complete 242 = .ok (.aload_n 0, 1) := by decide +kernel
theorem d_Machine_complete_243 : decode b_Machine_complete 243 = .ok (.getfield 45, 3) := by decide +kernel
theorem d_Machine_complete_246 : decode b_Machine_complete 246 = .ok (.iconst 0, 1) := by decide +kernel
theorem d_Machine_complete_247 : decode b_Machine_complete 247 = .ok (.aaload, 1) := by decide +kernel
theorem d_Machine_complete_248 : decode b_Machine_complete 248 = .ok (.aload_n 0, 1) := by decide +kernel
theorem d_Machine_complete_249 : decode b_Machine_complete 249 = .ok (.getfield 45, 3) := by decide +kernel
theorem d_Machine_complete_252 : decode b_Machine_complete 252 = .ok (.iconst 1, 1) := by decide +kernel
theorem d_Machine_complete_253 : decode b_Machine_complete 253 = .ok (.aaload, 1) := by decide +kernel
theorem d_Machine_complete_254 : decode b_Machine_complete 254 = .ok (.invokevirtual 221, 3) := by decide +kernel
theorem k_Machine_m221 : Cond.methodLink R_Machine 221 y_Place_isSame ∈ lw_g := lw_in (List.mem_append_right _ (List.mem_of_getElem? (i := 956) (by decide +kernel))) rfl
theorem d_Machine_complete_257 : decode b_Machine_complete 257 = .ok (.ifCond .eq 7, 3) := by decide +kernel
theorem d_Machine_complete_260 : decode b_Machine_complete 260 = .ok (.iconst 1, 1) := by decide +kernel
theorem d_Machine_complete_261 : decode b_Machine_complete 261 = .ok (.goto 4, 3) := by decide +kernel
theorem d_Machine_complete_264 : decode b_Machine_complete 264 = .ok (.iconst 0, 1) := by decide +kernel
theorem d_Machine_complete_265 : decode b_Machine_complete 265 = .ok (.invokevirtual 135, 3) := by decide +kernel
theorem d_Machine_complete_268 : decode b_Machine_complete 268 = .ok (.ireturn, 1) := by decide +kernel
theorem d_Machine_complete_269 : decode b_Machine_complete 269 = .ok (.aload_n 0, 1) := by decide +kernel
theorem d_Machine_complete_270 : decode b_Machine_complete 270 = .ok (.aload_n 1, 1) := by decide +kernel
theorem d_Machine_complete_271 : decode b_Machine_complete 271 = .ok (.getfield 128, 3) := by decide +kernel
theorem d_Machine_complete_274 : decode b_Machine_complete 274 = .ok (.invokevirtual 224, 3) := by decide +kernel
theorem k_Machine_m224 : Cond.methodLink R_Machine 224 y_Machine_reckon ∈ lw_g := lw_in (List.mem_append_right _ (List.mem_of_getElem? (i := 960) (by decide +kernel))) rfl
theorem d_Machine_complete_277 : decode b_Machine_complete 277 = .ok (.ireturn, 1) := by decide +kernel
theorem ki_Machine_complete : Cond.instanceMethod y_Machine_complete ∈ lw_g := lw_in (List.mem_append_right _ (List.mem_of_getElem? (i := 938) (by decide +kernel))) rfl
theorem ke_Machine_complete : Cond.selects R_Machine y_Machine_complete y_Machine_complete ∈ lw_g := lw_in (List.mem_append_left _ (List.mem_map.mpr ⟨(y_Machine_complete, 16), by decide +kernel, rfl⟩)) rfl
-- Machine_call: maxLocals 5, ret (some .boolean)
theorem kc_Machine_call : Cond.code y_Machine_call b_Machine_call 5 (some .boolean) ∈ lw_g := lw_in (List.mem_append_right _ (List.mem_of_getElem? (i := 943) (by decide +kernel))) rfl
theorem d_Machine_call_0 : decode b_Machine_call 0 = .ok (.aload_n 0, 1) := by decide +kernel
theorem d_Machine_call_1 : decode b_Machine_call 1 = .ok (.getfield 45, 3) := by decide +kernel
theorem d_Machine_call_4 : decode b_Machine_call 4 = .ok (.iconst 0, 1) := by decide +kernel
theorem d_Machine_call_5 : decode b_Machine_call 5 = .ok (.aaload, 1) := by decide +kernel
theorem d_Machine_call_6 : decode b_Machine_call 6 = .ok (.getfield 143, 3) := by decide +kernel
theorem d_Machine_call_9 : decode b_Machine_call 9 = .ok (.bipush 75, 2) := by decide +kernel
theorem d_Machine_call_11 : decode b_Machine_call 11 = .ok (.if_icmp .ne 38, 3) := by decide +kernel
theorem d_Machine_call_14 : decode b_Machine_call 14 = .ok (.iload_n 1, 1) := by decide +kernel
theorem d_Machine_call_15 : decode b_Machine_call 15 = .ok (.iconst 1, 1) := by decide +kernel
theorem d_Machine_call_16 : decode b_Machine_call 16 = .ok (.if_icmp .eq 9, 3) := by decide +kernel
theorem d_Machine_call_19 : decode b_Machine_call 19 = .ok (.aload_n 0, 1) := by decide +kernel
theorem d_Machine_call_20 : decode b_Machine_call 20 = .ok (.iconst 4, 1) := by decide +kernel
theorem d_Machine_call_21 : decode b_Machine_call 21 = .ok (.invokevirtual 144, 3) := by decide +kernel
theorem d_Machine_call_24 : decode b_Machine_call 24 = .ok (.ireturn, 1) := by decide +kernel
theorem d_Machine_call_25 : decode b_Machine_call 25 = .ok (.aload_n 0, 1) := by decide +kernel
theorem d_Machine_call_26 : decode b_Machine_call 26 = .ok (.aload_n 0, 1) := by decide +kernel
theorem d_Machine_call_27 : decode b_Machine_call 27 = .ok (.getfield 45, 3) := by decide +kernel
theorem d_Machine_call_30 : decode b_Machine_call 30 = .ok (.iconst 0, 1) := by decide +kernel
theorem d_Machine_call_31 : decode b_Machine_call 31 = .ok (.aaload, 1) := by decide +kernel
theorem d_Machine_call_32 : decode b_Machine_call 32 = .ok (.getfield 228, 3) := by decide +kernel
theorem k_Machine_f228 : Cond.fieldLink R_Machine 228 "ContinuationCore$Place" "chain" "LContinuationCore$Waiting;" ∈ lw_g := lw_in (List.mem_append_right _ (List.mem_of_getElem? (i := 161) (by decide +kernel))) rfl
theorem d_Machine_call_35 : decode b_Machine_call 35 = .ok (.putfield 81, 3) := by decide +kernel
theorem d_Machine_call_38 : decode b_Machine_call 38 = .ok (.aload_n 0, 1) := by decide +kernel
theorem d_Machine_call_39 : decode b_Machine_call 39 = .ok (.aload_n 0, 1) := by decide +kernel
theorem d_Machine_call_40 : decode b_Machine_call 40 = .ok (.getfield 45, 3) := by decide +kernel
theorem d_Machine_call_43 : decode b_Machine_call 43 = .ok (.iconst 1, 1) := by decide +kernel
theorem d_Machine_call_44 : decode b_Machine_call 44 = .ok (.aaload, 1) := by decide +kernel
theorem d_Machine_call_45 : decode b_Machine_call 45 = .ok (.invokevirtual 147, 3) := by decide +kernel
theorem d_Machine_call_48 : decode b_Machine_call 48 = .ok (.ireturn, 1) := by decide +kernel
theorem d_Machine_call_49 : decode b_Machine_call 49 = .ok (.aload_n 0, 1) := by decide +kernel
theorem d_Machine_call_50 : decode b_Machine_call 50 = .ok (.getfield 45, 3) := by decide +kernel
theorem d_Machine_call_53 : decode b_Machine_call 53 = .ok (.iconst 0, 1) := by decide +kernel
theorem d_Machine_call_54 : decode b_Machine_call 54 = .ok (.aaload, 1) := by decide +kernel
theorem d_Machine_call_55 : decode b_Machine_call 55 = .ok (.getfield 229, 3) := by decide +kernel
theorem k_Machine_f229 : Cond.fieldLink R_Machine 229 "ContinuationCore$Place" "closure" "LContinuationCore$Closure;" ∈ lw_g := lw_in (List.mem_append_right _ (List.mem_of_getElem? (i := 159) (by decide +kernel))) rfl
theorem d_Machine_call_58 : decode b_Machine_call 58 = .ok (.astore_n 2, 1) := by decide +kernel
theorem d_Machine_call_59 : decode b_Machine_call 59 = .ok (.aload_n 2, 1) := by decide +kernel
theorem d_Machine_call_60 : decode b_Machine_call 60 = .ok (.ifnonnull 9, 3) := by decide +kernel
theorem d_Machine_call_63 : decode b_Machine_call 63 = .ok (.aload_n 0, 1) := by decide +kernel
theorem d_Machine_call_64 : decode b_Machine_call 64 = .ok (.iconst 2, 1) := by decide +kernel
theorem d_Machine_call_65 : decode b_Machine_call 65 = .ok (.invokevirtual 144, 3) := by decide +kernel
theorem d_Machine_call_68 : decode b_Machine_call 68 = .ok (.ireturn, 1) := by decide +kernel
theorem d_Machine_call_69 : decode b_Machine_call 69 = .ok (.iload_n 1, 1) := by decide +kernel
theorem d_Machine_call_70 : decode b_Machine_call 70 = .ok (.aload_n 2, 1) := by decide +kernel
theorem d_Machine_call_71 : decode b_Machine_call 71 = .ok (.getfield 233, 3) := by decide +kernel
theorem k_Machine_f233 : Cond.fieldLink R_Machine 233 "ContinuationCore$Closure" "code" "LContinuationCore$Expression;" ∈ lw_g := lw_in (List.mem_append_right _ (List.mem_of_getElem? (i := 637) (by decide +kernel))) rfl
theorem d_Machine_call_74 : decode b_Machine_call 74 = .ok (.getfield 236, 3) := by decide +kernel
theorem k_Machine_f236 : Cond.fieldLink R_Machine 236 "ContinuationCore$Expression" "nameCount" "I" ∈ lw_g := lw_in (List.mem_append_right _ (List.mem_of_getElem? (i := 59) (by decide +kernel))) rfl
theorem d_Machine_call_77 : decode b_Machine_call 77 = .ok (.if_icmp .eq 9, 3) := by decide +kernel
theorem d_Machine_call_80 : decode b_Machine_call 80 = .ok (.aload_n 0, 1) := by decide +kernel
theorem d_Machine_call_81 : decode b_Machine_call 81 = .ok (.iconst 4, 1) := by decide +kernel
theorem d_Machine_call_82 : decode b_Machine_call 82 = .ok (.invokevirtual 144, 3) := by decide +kernel
theorem d_Machine_call_85 : decode b_Machine_call 85 = .ok (.ireturn, 1) := by decide +kernel
theorem d_Machine_call_86 : decode b_Machine_call 86 = .ok (.aload_n 2, 1) := by decide +kernel
theorem d_Machine_call_87 : decode b_Machine_call 87 = .ok (.getfield 239, 3) := by decide +kernel
theorem k_Machine_f239 : Cond.fieldLink R_Machine 239 "ContinuationCore$Closure" "scope" "LContinuationCore$Binding;" ∈ lw_g := lw_in (List.mem_append_right _ (List.mem_of_getElem? (i := 639) (by decide +kernel))) rfl
theorem d_Machine_call_90 : decode b_Machine_call 90 = .ok (.astore_n 3, 1) := by decide +kernel
theorem d_Machine_call_91 : decode b_Machine_call 91 = .ok (.iconst 0, 1) := by decide +kernel
theorem d_Machine_call_92 : decode b_Machine_call 92 = .ok (.istore 4, 2) := by decide +kernel
theorem d_Machine_call_94 : decode b_Machine_call 94 = .ok (.iload 4, 2) := by decide +kernel
theorem d_Machine_call_96 : decode b_Machine_call 96 = .ok (.iload_n 1, 1) := by decide +kernel
theorem d_Machine_call_97 : decode b_Machine_call 97 = .ok (.if_icmp .ge 40, 3) := by decide +kernel
theorem d_Machine_call_100 : decode b_Machine_call 100 = .ok (.aload_n 0, 1) := by decide +kernel
theorem d_Machine_call_101 : decode b_Machine_call 101 = .ok (.aload_n 2, 1) := by decide +kernel
theorem d_Machine_call_102 : decode b_Machine_call 102 = .ok (.getfield 233, 3) := by decide +kernel
theorem d_Machine_call_105 : decode b_Machine_call 105 = .ok (.getfield 240, 3) := by decide +kernel
theorem k_Machine_f240 : Cond.fieldLink R_Machine 240 "ContinuationCore$Expression" "names" "[I" ∈ lw_g := lw_in (List.mem_append_right _ (List.mem_of_getElem? (i := 63) (by decide +kernel))) rfl
theorem d_Machine_call_108 : decode b_Machine_call 108 = .ok (.iload 4, 2) := by decide +kernel
theorem d_Machine_call_110 : decode b_Machine_call 110 = .ok (.iaload, 1) := by decide +kernel
theorem d_Machine_call_111 : decode b_Machine_call 111 = .ok (.aload_n 0, 1) := by decide +kernel
theorem d_Machine_call_112 : decode b_Machine_call 112 = .ok (.getfield 45, 3) := by decide +kernel
theorem d_Machine_call_115 : decode b_Machine_call 115 = .ok (.iload 4, 2) := by decide +kernel
theorem d_Machine_call_117 : decode b_Machine_call 117 = .ok (.iconst 1, 1) := by decide +kernel
theorem d_Machine_call_118 : decode b_Machine_call 118 = .ok (.iadd, 1) := by decide +kernel
theorem d_Machine_call_119 : decode b_Machine_call 119 = .ok (.aaload, 1) := by decide +kernel
theorem d_Machine_call_120 : decode b_Machine_call 120 = .ok (.aload_n 3, 1) := by decide +kernel
theorem d_Machine_call_121 : decode b_Machine_call 121 = .ok (.invokevirtual 160, 3) := by decide +kernel
theorem d_Machine_call_124 : decode b_Machine_call 124 = .ok (.astore_n 3, 1) := by decide +kernel
theorem d_Machine_call_125 : decode b_Machine_call 125 = .ok (.aload_n 3, 1) := by decide +kernel
theorem d_Machine_call_126 : decode b_Machine_call 126 = .ok (.ifnonnull 5, 3) := by decide +kernel
theorem d_Machine_call_129 : decode b_Machine_call 129 = .ok (.iconst 0, 1) := by decide +kernel
theorem d_Machine_call_130 : decode b_Machine_call 130 = .ok (.ireturn, 1) := by decide +kernel
theorem d_Machine_call_131 : decode b_Machine_call 131 = .ok (.iinc 4 1, 3) := by decide +kernel
theorem d_Machine_call_134 : decode b_Machine_call 134 = .ok (.goto (-40), 3) := by decide +kernel
theorem d_Machine_call_137 : decode b_Machine_call 137 = .ok (.aload_n 0, 1) := by decide +kernel
theorem d_Machine_call_138 : decode b_Machine_call 138 = .ok (.aload_n 2, 1) := by decide +kernel
theorem d_Machine_call_139 : decode b_Machine_call 139 = .ok (.getfield 233, 3) := by decide +kernel
theorem d_Machine_call_142 : decode b_Machine_call 142 = .ok (.getfield 174, 3) := by decide +kernel
theorem d_Machine_call_145 : decode b_Machine_call 145 = .ok (.iconst 0, 1) := by decide +kernel
theorem d_Machine_call_146 : decode b_Machine_call 146 = .ok (.aaload, 1) := by decide +kernel
theorem d_Machine_call_147 : decode b_Machine_call 147 = .ok (.aload_n 3, 1) := by decide +kernel
theorem d_Machine_call_148 : decode b_Machine_call 148 = .ok (.invokevirtual 85, 3) := by decide +kernel
theorem d_Machine_call_151 : decode b_Machine_call 151 = .ok (.ireturn, 1) := by decide +kernel
theorem ki_Machine_call : Cond.instanceMethod y_Machine_call ∈ lw_g := lw_in (List.mem_append_right _ (List.mem_of_getElem? (i := 942) (by decide +kernel))) rfl
theorem ke_Machine_call : Cond.selects R_Machine y_Machine_call y_Machine_call ∈ lw_g := lw_in (List.mem_append_left _ (List.mem_map.mpr ⟨(y_Machine_call, 16), by decide +kernel, rfl⟩)) rfl
-- Machine_bind: maxLocals 5, ret (some (.object "ContinuationCore$Binding"))
theorem kc_Machine_bind : Cond.code y_Machine_bind b_Machine_bind 5 (some (.object "ContinuationCore$Binding")) ∈ lw_g := lw_in (List.mem_append_right _ (List.mem_of_getElem? (i := 653) (by decide +kernel))) rfl
theorem d_Machine_bind_0 : decode b_Machine_bind 0 = .ok (.aload_n 0, 1) := by decide +kernel
theorem d_Machine_bind_1 : decode b_Machine_bind 1 = .ok (.getfield 72, 3) := by decide +kernel
theorem d_Machine_bind_4 : decode b_Machine_bind 4 = .ok (.bipush 120, 2) := by decide +kernel
theorem d_Machine_bind_6 : decode b_Machine_bind 6 = .ok (.if_icmp .lt 11, 3) := by decide +kernel
theorem d_Machine_bind_9 : decode b_Machine_bind 9 = .ok (.aload_n 0, 1) := by decide +kernel
theorem d_Machine_bind_10 : decode b_Machine_bind 10 = .ok (.iconst 5, 1) := by decide +kernel
theorem d_Machine_bind_11 : decode b_Machine_bind 11 = .ok (.invokevirtual 144, 3) := by decide +kernel
theorem d_Machine_bind_14 : decode b_Machine_bind 14 = .ok (.pop, 1) := by decide +kernel
theorem d_Machine_bind_15 : decode b_Machine_bind 15 = .ok (.aconst_null, 1) := by decide +kernel
theorem d_Machine_bind_16 : decode b_Machine_bind 16 = .ok (.areturn, 1) := by decide +kernel
theorem d_Machine_bind_17 : decode b_Machine_bind 17 = .ok (.aload_n 0, 1) := by decide +kernel
theorem d_Machine_bind_18 : decode b_Machine_bind 18 = .ok (.getfield 24, 3) := by decide +kernel
theorem d_Machine_bind_21 : decode b_Machine_bind 21 = .ok (.aload_n 0, 1) := by decide +kernel
theorem d_Machine_bind_22 : decode b_Machine_bind 22 = .ok (.getfield 72, 3) := by decide +kernel
theorem d_Machine_bind_25 : decode b_Machine_bind 25 = .ok (.aaload, 1) := by decide +kernel
theorem d_Machine_bind_26 : decode b_Machine_bind 26 = .ok (.astore 4, 2) := by decide +kernel
theorem d_Machine_bind_28 : decode b_Machine_bind 28 = .ok (.aload_n 0, 1) := by decide +kernel
theorem d_Machine_bind_29 : decode b_Machine_bind 29 = .ok (.dup, 1) := by decide +kernel
theorem d_Machine_bind_30 : decode b_Machine_bind 30 = .ok (.getfield 72, 3) := by decide +kernel
theorem d_Machine_bind_33 : decode b_Machine_bind 33 = .ok (.iconst 1, 1) := by decide +kernel
theorem d_Machine_bind_34 : decode b_Machine_bind 34 = .ok (.iadd, 1) := by decide +kernel
theorem d_Machine_bind_35 : decode b_Machine_bind 35 = .ok (.putfield 72, 3) := by decide +kernel
theorem d_Machine_bind_38 : decode b_Machine_bind 38 = .ok (.aload 4, 2) := by decide +kernel
theorem d_Machine_bind_40 : decode b_Machine_bind 40 = .ok (.iload_n 1, 1) := by decide +kernel
theorem d_Machine_bind_41 : decode b_Machine_bind 41 = .ok (.aload_n 3, 1) := by decide +kernel
theorem d_Machine_bind_42 : decode b_Machine_bind 42 = .ok (.invokevirtual 50, 3) := by decide +kernel
theorem d_Machine_bind_45 : decode b_Machine_bind 45 = .ok (.aload 4, 2) := by decide +kernel
theorem d_Machine_bind_47 : decode b_Machine_bind 47 = .ok (.getfield 55, 3) := by decide +kernel
theorem d_Machine_bind_50 : decode b_Machine_bind 50 = .ok (.aload_n 2, 1) := by decide +kernel
theorem d_Machine_bind_51 : decode b_Machine_bind 51 = .ok (.invokevirtual 58, 3) := by decide +kernel
theorem d_Machine_bind_54 : decode b_Machine_bind 54 = .ok (.aload 4, 2) := by decide +kernel
theorem d_Machine_bind_56 : decode b_Machine_bind 56 = .ok (.areturn, 1) := by decide +kernel
theorem ki_Machine_bind : Cond.instanceMethod y_Machine_bind ∈ lw_g := lw_in (List.mem_append_right _ (List.mem_of_getElem? (i := 652) (by decide +kernel))) rfl
theorem ke_Machine_bind : Cond.selects R_Machine y_Machine_bind y_Machine_bind ∈ lw_g := lw_in (List.mem_append_left _ (List.mem_map.mpr ⟨(y_Machine_bind, 16), by decide +kernel, rfl⟩)) rfl
-- Machine_makePair: maxLocals 2, ret (some .boolean)
theorem kc_Machine_makePair : Cond.code y_Machine_makePair b_Machine_makePair 2 (some .boolean) ∈ lw_g := lw_in (List.mem_append_right _ (List.mem_of_getElem? (i := 951) (by decide +kernel))) rfl
theorem d_Machine_makePair_0 : decode b_Machine_makePair 0 = .ok (.aload_n 0, 1) := by decide +kernel
theorem d_Machine_makePair_1 : decode b_Machine_makePair 1 = .ok (.getfield 69, 3) := by decide +kernel
theorem d_Machine_makePair_4 : decode b_Machine_makePair 4 = .ok (.bipush 60, 2) := by decide +kernel
theorem d_Machine_makePair_6 : decode b_Machine_makePair 6 = .ok (.if_icmp .lt 9, 3) := by decide +kernel
theorem d_Machine_makePair_9 : decode b_Machine_makePair 9 = .ok (.aload_n 0, 1) := by decide +kernel
theorem d_Machine_makePair_10 : decode b_Machine_makePair 10 = .ok (.iconst 5, 1) := by decide +kernel
theorem d_Machine_makePair_11 : decode b_Machine_makePair 11 = .ok (.invokevirtual 144, 3) := by decide +kernel
theorem d_Machine_makePair_14 : decode b_Machine_makePair 14 = .ok (.ireturn, 1) := by decide +kernel
theorem d_Machine_makePair_15 : decode b_Machine_makePair 15 = .ok (.aload_n 0, 1) := by decide +kernel
theorem d_Machine_makePair_16 : decode b_Machine_makePair 16 = .ok (.getfield 29, 3) := by decide +kernel
theorem d_Machine_makePair_19 : decode b_Machine_makePair 19 = .ok (.aload_n 0, 1) := by decide +kernel
theorem d_Machine_makePair_20 : decode b_Machine_makePair 20 = .ok (.getfield 69, 3) := by decide +kernel
theorem d_Machine_makePair_23 : decode b_Machine_makePair 23 = .ok (.aaload, 1) := by decide +kernel
theorem d_Machine_makePair_24 : decode b_Machine_makePair 24 = .ok (.astore_n 1, 1) := by decide +kernel
theorem d_Machine_makePair_25 : decode b_Machine_makePair 25 = .ok (.aload_n 1, 1) := by decide +kernel
theorem d_Machine_makePair_26 : decode b_Machine_makePair 26 = .ok (.getfield 212, 3) := by decide +kernel
theorem d_Machine_makePair_29 : decode b_Machine_makePair 29 = .ok (.aload_n 0, 1) := by decide +kernel
theorem d_Machine_makePair_30 : decode b_Machine_makePair 30 = .ok (.getfield 45, 3) := by decide +kernel
theorem d_Machine_makePair_33 : decode b_Machine_makePair 33 = .ok (.iconst 0, 1) := by decide +kernel
theorem d_Machine_makePair_34 : decode b_Machine_makePair 34 = .ok (.aaload, 1) := by decide +kernel
theorem d_Machine_makePair_35 : decode b_Machine_makePair 35 = .ok (.invokevirtual 58, 3) := by decide +kernel
theorem d_Machine_makePair_38 : decode b_Machine_makePair 38 = .ok (.aload_n 1, 1) := by decide +kernel
theorem d_Machine_makePair_39 : decode b_Machine_makePair 39 = .ok (.getfield 215, 3) := by decide +kernel
theorem d_Machine_makePair_42 : decode b_Machine_makePair 42 = .ok (.aload_n 0, 1) := by decide +kernel
theorem d_Machine_makePair_43 : decode b_Machine_makePair 43 = .ok (.getfield 45, 3) := by decide +kernel
theorem d_Machine_makePair_46 : decode b_Machine_makePair 46 = .ok (.iconst 1, 1) := by decide +kernel
theorem d_Machine_makePair_47 : decode b_Machine_makePair 47 = .ok (.aaload, 1) := by decide +kernel
theorem d_Machine_makePair_48 : decode b_Machine_makePair 48 = .ok (.invokevirtual 58, 3) := by decide +kernel
theorem d_Machine_makePair_51 : decode b_Machine_makePair 51 = .ok (.aload_n 0, 1) := by decide +kernel
theorem d_Machine_makePair_52 : decode b_Machine_makePair 52 = .ok (.getfield 40, 3) := by decide +kernel
theorem d_Machine_makePair_55 : decode b_Machine_makePair 55 = .ok (.aload_n 0, 1) := by decide +kernel
theorem d_Machine_makePair_56 : decode b_Machine_makePair 56 = .ok (.getfield 69, 3) := by decide +kernel
theorem d_Machine_makePair_59 : decode b_Machine_makePair 59 = .ok (.aload_n 1, 1) := by decide +kernel
theorem d_Machine_makePair_60 : decode b_Machine_makePair 60 = .ok (.invokevirtual 244, 3) := by decide +kernel
theorem k_Machine_m244 : Cond.methodLink R_Machine 244 y_Place_holdPair ∈ lw_g := lw_in (List.mem_append_right _ (List.mem_of_getElem? (i := 952) (by decide +kernel))) rfl
theorem d_Machine_makePair_63 : decode b_Machine_makePair 63 = .ok (.aload_n 0, 1) := by decide +kernel
theorem d_Machine_makePair_64 : decode b_Machine_makePair 64 = .ok (.dup, 1) := by decide +kernel
theorem d_Machine_makePair_65 : decode b_Machine_makePair 65 = .ok (.getfield 69, 3) := by decide +kernel
theorem d_Machine_makePair_68 : decode b_Machine_makePair 68 = .ok (.iconst 1, 1) := by decide +kernel
theorem d_Machine_makePair_69 : decode b_Machine_makePair 69 = .ok (.iadd, 1) := by decide +kernel
theorem d_Machine_makePair_70 : decode b_Machine_makePair 70 = .ok (.putfield 69, 3) := by decide +kernel
theorem d_Machine_makePair_73 : decode b_Machine_makePair 73 = .ok (.iconst 1, 1) := by decide +kernel
theorem d_Machine_makePair_74 : decode b_Machine_makePair 74 = .ok (.ireturn, 1) := by decide +kernel
theorem ki_Machine_makePair : Cond.instanceMethod y_Machine_makePair ∈ lw_g := lw_in (List.mem_append_right _ (List.mem_of_getElem? (i := 950) (by decide +kernel))) rfl
theorem ke_Machine_makePair : Cond.selects R_Machine y_Machine_makePair y_Machine_makePair ∈ lw_g := lw_in (List.mem_append_left _ (List.mem_map.mpr ⟨(y_Machine_makePair, 16), by decide +kernel, rfl⟩)) rfl
-- Machine_find: maxLocals 3, ret (some (.object "ContinuationCore$Binding"))
theorem kc_Machine_find : Cond.code y_Machine_find b_Machine_find 3 (some (.object "ContinuationCore$Binding")) ∈ lw_g := lw_in (List.mem_append_right _ (List.mem_of_getElem? (i := 621) (by decide +kernel))) rfl
theorem d_Machine_find_0 : decode b_Machine_find 0 = .ok (.aload_n 1, 1) := by decide +kernel
theorem d_Machine_find_1 : decode b_Machine_find 1 = .ok (.astore_n 2, 1) := by decide +kernel
theorem d_Machine_find_2 : decode b_Machine_find 2 = .ok (.aload_n 2, 1) := by decide +kernel
theorem d_Machine_find_3 : decode b_Machine_find 3 = .ok (.ifnull 19, 3) := by decide +kernel
theorem d_Machine_find_6 : decode b_Machine_find 6 = .ok (.aload_n 2, 1) := by decide +kernel
theorem d_Machine_find_7 : decode b_Machine_find 7 = .ok (.getfield 248, 3) := by decide +kernel
theorem k_Machine_f248 : Cond.fieldLink R_Machine 248 "ContinuationCore$Binding" "name" "I" ∈ lw_g := lw_in (List.mem_append_right _ (List.mem_of_getElem? (i := 185) (by decide +kernel))) rfl
theorem d_Machine_find_10 : decode b_Machine_find 10 = .ok (.iload_n 0, 1) := by decide +kernel
theorem d_Machine_find_11 : decode b_Machine_find 11 = .ok (.if_icmp .eq 11, 3) := by decide +kernel
theorem d_Machine_find_14 : decode b_Machine_find 14 = .ok (.aload_n 2, 1) := by decide +kernel
theorem d_Machine_find_15 : decode b_Machine_find 15 = .ok (.getfield 251, 3) := by decide +kernel
theorem k_Machine_f251 : Cond.fieldLink R_Machine 251 "ContinuationCore$Binding" "behind" "LContinuationCore$Binding;" ∈ lw_g := lw_in (List.mem_append_right _ (List.mem_of_getElem? (i := 187) (by decide +kernel))) rfl
theorem d_Machine_find_18 : decode b_Machine_find 18 = .ok (.astore_n 2, 1) := by decide +kernel
theorem d_Machine_find_19 : decode b_Machine_find 19 = .ok (.goto (-17), 3) := by decide +kernel
theorem d_Machine_find_22 : decode b_Machine_find 22 = .ok (.aload_n 2, 1) := by decide +kernel
theorem d_Machine_find_23 : decode b_Machine_find 23 = .ok (.areturn, 1) := by decide +kernel
theorem ks_Machine_find : Cond.static y_Machine_find ∈ lw_g := lw_in (List.mem_append_right _ (List.mem_of_getElem? (i := 620) (by decide +kernel))) rfl
-- Machine_reckon: maxLocals 4, ret (some .boolean)
theorem kc_Machine_reckon : Cond.code y_Machine_reckon b_Machine_reckon 4 (some .boolean) ∈ lw_g := lw_in (List.mem_append_right _ (List.mem_of_getElem? (i := 963) (by decide +kernel))) rfl
theorem d_Machine_reckon_0 : decode b_Machine_reckon 0 = .ok (.aload_n 0, 1) := by decide +kernel
theorem d_Machine_reckon_1 : decode b_Machine_reckon 1 = .ok (.getfield 45, 3) := by decide +kernel
theorem d_Machine_reckon_4 : decode b_Machine_reckon 4 = .ok (.iconst 0, 1) := by decide +kernel
theorem d_Machine_reckon_5 : decode b_Machine_reckon 5 = .ok (.aaload, 1) := by decide +kernel
theorem d_Machine_reckon_6 : decode b_Machine_reckon 6 = .ok (.getfield 143, 3) := by decide +kernel
theorem d_Machine_reckon_9 : decode b_Machine_reckon 9 = .ok (.bipush 48, 2) := by decide +kernel
theorem d_Machine_reckon_11 : decode b_Machine_reckon 11 = .ok (.if_icmp .ne 17, 3) := by decide +kernel
theorem d_Machine_reckon_14 : decode b_Machine_reckon 14 = .ok (.aload_n 0, 1) := by decide +kernel
theorem d_Machine_reckon_15 : decode b_Machine_reckon 15 = .ok (.getfield 45, 3) := by decide +kernel
theorem d_Machine_reckon_18 : decode b_Machine_reckon 18 = .ok (.iconst 1, 1) := by decide +kernel
theorem d_Machine_reckon_19 : decode b_Machine_reckon 19 = .ok (.aaload, 1) := by decide +kernel
theorem d_Machine_reckon_20 : decode b_Machine_reckon 20 = .ok (.getfield 143, 3) := by decide +kernel
theorem d_Machine_reckon_23 : decode b_Machine_reckon 23 = .ok (.bipush 48, 2) := by decide +kernel
theorem d_Machine_reckon_25 : decode b_Machine_reckon 25 = .ok (.if_icmp .eq 9, 3) := by decide +kernel
theorem d_Machine_reckon_28 : decode b_Machine_reckon 28 = .ok (.aload_n 0, 1) := by decide +kernel
theorem d_Machine_reckon_29 : decode b_Machine_reckon 29 = .ok (.iconst 2, 1) := by decide +kernel
theorem d_Machine_reckon_30 : decode b_Machine_reckon 30 = .ok (.invokevirtual 144, 3) := by decide +kernel
theorem d_Machine_reckon_33 : decode b_Machine_reckon 33 = .ok (.ireturn, 1) := by decide +kernel
theorem d_Machine_reckon_34 : decode b_Machine_reckon 34 = .ok (.aload_n 0, 1) := by decide +kernel
theorem d_Machine_reckon_35 : decode b_Machine_reckon 35 = .ok (.getfield 45, 3) := by decide +kernel
theorem d_Machine_reckon_38 : decode b_Machine_reckon 38 = .ok (.iconst 0, 1) := by decide +kernel
theorem d_Machine_reckon_39 : decode b_Machine_reckon 39 = .ok (.aaload, 1) := by decide +kernel
theorem d_Machine_reckon_40 : decode b_Machine_reckon 40 = .ok (.getfield 253, 3) := by decide +kernel
theorem k_Machine_f253 : Cond.fieldLink R_Machine 253 "ContinuationCore$Place" "number" "I" ∈ lw_g := lw_in (List.mem_append_right _ (List.mem_of_getElem? (i := 155) (by decide +kernel))) rfl
theorem d_Machine_reckon_43 : decode b_Machine_reckon 43 = .ok (.istore_n 2, 1) := by decide +kernel
theorem d_Machine_reckon_44 : decode b_Machine_reckon 44 = .ok (.aload_n 0, 1) := by decide +kernel
theorem d_Machine_reckon_45 : decode b_Machine_reckon 45 = .ok (.getfield 45, 3) := by decide +kernel
theorem d_Machine_reckon_48 : decode b_Machine_reckon 48 = .ok (.iconst 1, 1) := by decide +kernel
theorem d_Machine_reckon_49 : decode b_Machine_reckon 49 = .ok (.aaload, 1) := by decide +kernel
theorem d_Machine_reckon_50 : decode b_Machine_reckon 50 = .ok (.getfield 253, 3) := by decide +kernel
theorem d_Machine_reckon_53 : decode b_Machine_reckon 53 = .ok (.istore_n 3, 1) := by decide +kernel
theorem d_Machine_reckon_54 : decode b_Machine_reckon 54 = .ok (.iload_n 1, 1) := by decide +kernel
theorem d_Machine_reckon_55 : decode b_Machine_reckon 55 = .ok (.lookupswitch 80 #[(42, 57), (43, 41), (45, 49), (60, 65)], 41) := by decide +kernel
theorem d_Machine_reckon_96 : decode b_Machine_reckon 96 = .ok (.aload_n 0, 1) := by decide +kernel
theorem d_Machine_reckon_97 : decode b_Machine_reckon 97 = .ok (.iload_n 2, 1) := by decide +kernel
theorem d_Machine_reckon_98 : decode b_Machine_reckon 98 = .ok (.iload_n 3, 1) := by decide +kernel
theorem d_Machine_reckon_99 : decode b_Machine_reckon 99 = .ok (.iadd, 1) := by decide +kernel
theorem d_Machine_reckon_100 : decode b_Machine_reckon 100 = .ok (.invokevirtual 135, 3) := by decide +kernel
theorem d_Machine_reckon_103 : decode b_Machine_reckon 103 = .ok (.ireturn, 1) := by decide +kernel
theorem d_Machine_reckon_104 : decode b_Machine_reckon 104 = .ok (.aload_n 0, 1) := by decide +kernel
theorem d_Machine_reckon_105 : decode b_Machine_reckon 105 = .ok (.iload_n 2, 1) := by decide +kernel
theorem d_Machine_reckon_106 : decode b_Machine_reckon 106 = .ok (.iload_n 3, 1) := by decide +kernel
theorem d_Machine_reckon_107 : decode b_Machine_reckon 107 = .ok (.isub, 1) := by decide +kernel
theorem d_Machine_reckon_108 : decode b_Machine_reckon 108 = .ok (.invokevirtual 135, 3) := by decide +kernel
theorem d_Machine_reckon_111 : decode b_Machine_reckon 111 = .ok (.ireturn, 1) := by decide +kernel
theorem d_Machine_reckon_112 : decode b_Machine_reckon 112 = .ok (.aload_n 0, 1) := by decide +kernel
theorem d_Machine_reckon_113 : decode b_Machine_reckon 113 = .ok (.iload_n 2, 1) := by decide +kernel
theorem d_Machine_reckon_114 : decode b_Machine_reckon 114 = .ok (.iload_n 3, 1) := by decide +kernel
theorem d_Machine_reckon_115 : decode b_Machine_reckon 115 = .ok (.imul, 1) := by decide +kernel
theorem d_Machine_reckon_116 : decode b_Machine_reckon 116 = .ok (.invokevirtual 135, 3) := by decide +kernel
theorem d_Machine_reckon_119 : decode b_Machine_reckon 119 = .ok (.ireturn, 1) := by decide +kernel
theorem d_Machine_reckon_120 : decode b_Machine_reckon 120 = .ok (.aload_n 0, 1) := by decide +kernel
theorem d_Machine_reckon_121 : decode b_Machine_reckon 121 = .ok (.iload_n 2, 1) := by decide +kernel
theorem d_Machine_reckon_122 : decode b_Machine_reckon 122 = .ok (.iload_n 3, 1) := by decide +kernel
theorem d_Machine_reckon_123 : decode b_Machine_reckon 123 = .ok (.if_icmp .ge 7, 3) := by decide +kernel
theorem d_Machine_reckon_126 : decode b_Machine_reckon 126 = .ok (.iconst 1, 1) := by decide +kernel
theorem d_Machine_reckon_127 : decode b_Machine_reckon 127 = .ok (.goto 4, 3) := by decide +kernel
theorem d_Machine_reckon_130 : decode b_Machine_reckon 130 = .ok (.iconst 0, 1) := by decide +kernel
theorem d_Machine_reckon_131 : decode b_Machine_reckon 131 = .ok (.invokevirtual 135, 3) := by decide +kernel
theorem d_Machine_reckon_134 : decode b_Machine_reckon 134 = .ok (.ireturn, 1) := by decide +kernel
theorem d_Machine_reckon_135 : decode b_Machine_reckon 135 = .ok (.iload_n 3, 1) := by decide +kernel
theorem d_Machine_reckon_136 : decode b_Machine_reckon 136 = .ok (.ifCond .ne 11, 3) := by decide +kernel
theorem d_Machine_reckon_139 : decode b_Machine_reckon 139 = .ok (.aload_n 0, 1) := by decide +kernel
theorem d_Machine_reckon_140 : decode b_Machine_reckon 140 = .ok (.iconst 3, 1) := by decide +kernel
theorem d_Machine_reckon_141 : decode b_Machine_reckon 141 = .ok (.invokevirtual 144, 3) := by decide +kernel
theorem d_Machine_reckon_144 : decode b_Machine_reckon 144 = .ok (.goto 10, 3) := by decide +kernel
theorem d_Machine_reckon_147 : decode b_Machine_reckon 147 = .ok (.aload_n 0, 1) := by decide +kernel
theorem d_Machine_reckon_148 : decode b_Machine_reckon 148 = .ok (.iload_n 2, 1) := by decide +kernel
theorem d_Machine_reckon_149 : decode b_Machine_reckon 149 = .ok (.iload_n 3, 1) := by decide +kernel
theorem d_Machine_reckon_150 : decode b_Machine_reckon 150 = .ok (.idiv, 1) := by decide +kernel
theorem d_Machine_reckon_151 : decode b_Machine_reckon 151 = .ok (.invokevirtual 135, 3) := by decide +kernel
theorem d_Machine_reckon_154 : decode b_Machine_reckon 154 = .ok (.ireturn, 1) := by decide +kernel
theorem ki_Machine_reckon : Cond.instanceMethod y_Machine_reckon ∈ lw_g := lw_in (List.mem_append_right _ (List.mem_of_getElem? (i := 962) (by decide +kernel))) rfl
theorem ke_Machine_reckon : Cond.selects R_Machine y_Machine_reckon y_Machine_reckon ∈ lw_g := lw_in (List.mem_append_left _ (List.mem_map.mpr ⟨(y_Machine_reckon, 16), by decide +kernel, rfl⟩)) rfl
def T_Pair : u_T := fun k => match k with
  | 0 => ("ContinuationCore$Pair", "first", "LContinuationCore$Place;", true)
  | _ => ("ContinuationCore$Pair", "second", "LContinuationCore$Place;", true)
def ty_Pair : Nat → FieldType := fun k => match k with
  | 0 => .object "ContinuationCore$Place"
  | _ => .object "ContinuationCore$Place"
theorem nm_Pair : ∀ a, a < 2 → ∀ b, b < 2 → a ≠ b → (T_Pair a).2.1 ≠ (T_Pair b).2.1 := by decide +kernel
theorem ty_Pair_ok : ∀ k, k < 2 → parseFieldDescriptor (T_Pair k).2.2.1 = some (ty_Pair k) := by decide +kernel
theorem in_Pair_l : u_ws R_Pair T_Pair 2 = ([212, 214] : List Nat).filterMap (fun i => tables_1[i]?) := by decide +kernel
theorem in_Pair : ∀ w ∈ u_ws R_Pair T_Pair 2, w ∈ lw_g := fun w h => by
  have hg : (u_ws R_Pair T_Pair 2).all goodWord = true := by decide +kernel
  refine lw_in ?_ (List.all_eq_true.mp hg w h)
  rw [in_Pair_l] at h
  obtain ⟨i, -, hi⟩ := List.mem_filterMap.mp h
  exact List.mem_append_right _ (List.mem_of_getElem? hi)
theorem k_Pair_inst : Cond.instantiable R_Pair 2 ∈ lw_g := lw_in (List.mem_append_right _ (List.mem_of_getElem? (i := 199) (by decide +kernel))) rfl
theorem k_Pair_ini : Cond.initialized R_Pair ∈ lw_g := lw_in (List.mem_append_right _ (List.mem_of_getElem? (i := 11) (by decide +kernel))) rfl
-- Pair_init: maxLocals 1, ret none
theorem kc_Pair_init : Cond.code y_Pair_init b_Pair_init 1 none ∈ lw_g := lw_in (List.mem_append_right _ (List.mem_of_getElem? (i := 202) (by decide +kernel))) rfl
theorem d_Pair_init_0 : decode b_Pair_init 0 = .ok (.aload_n 0, 1) := by decide +kernel
theorem d_Pair_init_1 : decode b_Pair_init 1 = .ok (.invokespecial 1, 3) := by decide +kernel
theorem k_Pair_m1 : Cond.methodLink R_Pair 1 objectInit ∈ lw_g := lw_in (List.mem_append_right _ (List.mem_of_getElem? (i := 203) (by decide +kernel))) rfl
theorem d_Pair_init_4 : decode b_Pair_init 4 = .ok (.aload_n 0, 1) := by decide +kernel
theorem d_Pair_init_5 : decode b_Pair_init 5 = .ok (.new 7, 3) := by decide +kernel
theorem k_Pair_c7 : Cond.classLink R_Pair 7 "ContinuationCore$Place" ∈ lw_g := lw_in (List.mem_append_right _ (List.mem_of_getElem? (i := 204) (by decide +kernel))) rfl
theorem d_Pair_init_8 : decode b_Pair_init 8 = .ok (.dup, 1) := by decide +kernel
theorem d_Pair_init_9 : decode b_Pair_init 9 = .ok (.invokespecial 9, 3) := by decide +kernel
theorem k_Pair_mn9 : Cond.methodLinkNest R_Pair 9 y_Place_init "ContinuationCore" ∈ lw_tbl := List.mem_append_right _ (List.mem_of_getElem? (i := 205) (by decide +kernel))
theorem d_Pair_init_12 : decode b_Pair_init 12 = .ok (.putfield 10, 3) := by decide +kernel
theorem k_Pair_f10 : Cond.fieldLink R_Pair 10 "ContinuationCore$Pair" "first" "LContinuationCore$Place;" ∈ lw_g := lw_in (List.mem_append_right _ (List.mem_of_getElem? (i := 206) (by decide +kernel))) rfl
theorem d_Pair_init_15 : decode b_Pair_init 15 = .ok (.aload_n 0, 1) := by decide +kernel
theorem d_Pair_init_16 : decode b_Pair_init 16 = .ok (.new 7, 3) := by decide +kernel
theorem d_Pair_init_19 : decode b_Pair_init 19 = .ok (.dup, 1) := by decide +kernel
theorem d_Pair_init_20 : decode b_Pair_init 20 = .ok (.invokespecial 9, 3) := by decide +kernel
theorem d_Pair_init_23 : decode b_Pair_init 23 = .ok (.putfield 16, 3) := by decide +kernel
theorem k_Pair_f16 : Cond.fieldLink R_Pair 16 "ContinuationCore$Pair" "second" "LContinuationCore$Place;" ∈ lw_g := lw_in (List.mem_append_right _ (List.mem_of_getElem? (i := 209) (by decide +kernel))) rfl
theorem d_Pair_init_26 : decode b_Pair_init 26 = .ok (.return_, 1) := by decide +kernel
theorem ki_Pair_init : Cond.instanceMethod y_Pair_init ∈ lw_g := lw_in (List.mem_append_right _ (List.mem_of_getElem? (i := 201) (by decide +kernel))) rfl
def T_Place : u_T := fun k => match k with
  | 0 => ("ContinuationCore$Place", "kind", "C", false)
  | 1 => ("ContinuationCore$Place", "number", "I", false)
  | 2 => ("ContinuationCore$Place", "pair", "LContinuationCore$Pair;", false)
  | 3 => ("ContinuationCore$Place", "closure", "LContinuationCore$Closure;", false)
  | _ => ("ContinuationCore$Place", "chain", "LContinuationCore$Waiting;", false)
def ty_Place : Nat → FieldType := fun k => match k with
  | 0 => .char
  | 1 => .int
  | 2 => .object "ContinuationCore$Pair"
  | 3 => .object "ContinuationCore$Closure"
  | _ => .object "ContinuationCore$Waiting"
theorem nm_Place : ∀ a, a < 5 → ∀ b, b < 5 → a ≠ b → (T_Place a).2.1 ≠ (T_Place b).2.1 := by decide +kernel
theorem ty_Place_ok : ∀ k, k < 5 → parseFieldDescriptor (T_Place k).2.2.1 = some (ty_Place k) := by decide +kernel
theorem in_Place_l : u_ws R_Place T_Place 5 = ([162, 164, 166, 168, 170] : List Nat).filterMap (fun i => tables_1[i]?) := by decide +kernel
theorem in_Place : ∀ w ∈ u_ws R_Place T_Place 5, w ∈ lw_g := fun w h => by
  have hg : (u_ws R_Place T_Place 5).all goodWord = true := by decide +kernel
  refine lw_in ?_ (List.all_eq_true.mp hg w h)
  rw [in_Place_l] at h
  obtain ⟨i, -, hi⟩ := List.mem_filterMap.mp h
  exact List.mem_append_right _ (List.mem_of_getElem? hi)
theorem k_Place_inst : Cond.instantiable R_Place 5 ∈ lw_g := lw_in (List.mem_append_right _ (List.mem_of_getElem? (i := 145) (by decide +kernel))) rfl
theorem k_Place_ini : Cond.initialized R_Place ∈ lw_g := lw_in (List.mem_append_right _ (List.mem_of_getElem? (i := 9) (by decide +kernel))) rfl
-- Place_init: maxLocals 1, ret none
theorem kc_Place_init : Cond.code y_Place_init b_Place_init 1 none ∈ lw_g := lw_in (List.mem_append_right _ (List.mem_of_getElem? (i := 148) (by decide +kernel))) rfl
theorem d_Place_init_0 : decode b_Place_init 0 = .ok (.aload_n 0, 1) := by decide +kernel
theorem d_Place_init_1 : decode b_Place_init 1 = .ok (.invokespecial 3, 3) := by decide +kernel
theorem k_Place_m3 : Cond.methodLink R_Place 3 objectInit ∈ lw_g := lw_in (List.mem_append_right _ (List.mem_of_getElem? (i := 149) (by decide +kernel))) rfl
theorem d_Place_init_4 : decode b_Place_init 4 = .ok (.aload_n 0, 1) := by decide +kernel
theorem d_Place_init_5 : decode b_Place_init 5 = .ok (.bipush 32, 2) := by decide +kernel
theorem d_Place_init_7 : decode b_Place_init 7 = .ok (.putfield 11, 3) := by decide +kernel
theorem k_Place_f11 : Cond.fieldLink R_Place 11 "ContinuationCore$Place" "kind" "C" ∈ lw_g := lw_in (List.mem_append_right _ (List.mem_of_getElem? (i := 150) (by decide +kernel))) rfl
theorem d_Place_init_10 : decode b_Place_init 10 = .ok (.return_, 1) := by decide +kernel
theorem ki_Place_init : Cond.instanceMethod y_Place_init ∈ lw_g := lw_in (List.mem_append_right _ (List.mem_of_getElem? (i := 147) (by decide +kernel))) rfl
-- Place_copy: maxLocals 2, ret none
theorem kc_Place_copy : Cond.code y_Place_copy b_Place_copy 2 none ∈ lw_g := lw_in (List.mem_append_right _ (List.mem_of_getElem? (i := 590) (by decide +kernel))) rfl
theorem d_Place_copy_0 : decode b_Place_copy 0 = .ok (.aload_n 0, 1) := by decide +kernel
theorem d_Place_copy_1 : decode b_Place_copy 1 = .ok (.aload_n 1, 1) := by decide +kernel
theorem d_Place_copy_2 : decode b_Place_copy 2 = .ok (.getfield 11, 3) := by decide +kernel
theorem d_Place_copy_5 : decode b_Place_copy 5 = .ok (.putfield 11, 3) := by decide +kernel
theorem d_Place_copy_8 : decode b_Place_copy 8 = .ok (.aload_n 0, 1) := by decide +kernel
theorem d_Place_copy_9 : decode b_Place_copy 9 = .ok (.aload_n 1, 1) := by decide +kernel
theorem d_Place_copy_10 : decode b_Place_copy 10 = .ok (.getfield 15, 3) := by decide +kernel
theorem k_Place_f15 : Cond.fieldLink R_Place 15 "ContinuationCore$Place" "number" "I" ∈ lw_g := lw_in (List.mem_append_right _ (List.mem_of_getElem? (i := 153) (by decide +kernel))) rfl
theorem d_Place_copy_13 : decode b_Place_copy 13 = .ok (.putfield 15, 3) := by decide +kernel
theorem d_Place_copy_16 : decode b_Place_copy 16 = .ok (.aload_n 0, 1) := by decide +kernel
theorem d_Place_copy_17 : decode b_Place_copy 17 = .ok (.aload_n 1, 1) := by decide +kernel
theorem d_Place_copy_18 : decode b_Place_copy 18 = .ok (.getfield 19, 3) := by decide +kernel
theorem k_Place_f19 : Cond.fieldLink R_Place 19 "ContinuationCore$Place" "pair" "LContinuationCore$Pair;" ∈ lw_g := lw_in (List.mem_append_right _ (List.mem_of_getElem? (i := 156) (by decide +kernel))) rfl
theorem d_Place_copy_21 : decode b_Place_copy 21 = .ok (.putfield 19, 3) := by decide +kernel
theorem d_Place_copy_24 : decode b_Place_copy 24 = .ok (.aload_n 0, 1) := by decide +kernel
theorem d_Place_copy_25 : decode b_Place_copy 25 = .ok (.aload_n 1, 1) := by decide +kernel
theorem d_Place_copy_26 : decode b_Place_copy 26 = .ok (.getfield 23, 3) := by decide +kernel
theorem k_Place_f23 : Cond.fieldLink R_Place 23 "ContinuationCore$Place" "closure" "LContinuationCore$Closure;" ∈ lw_g := lw_in (List.mem_append_right _ (List.mem_of_getElem? (i := 158) (by decide +kernel))) rfl
theorem d_Place_copy_29 : decode b_Place_copy 29 = .ok (.putfield 23, 3) := by decide +kernel
theorem d_Place_copy_32 : decode b_Place_copy 32 = .ok (.aload_n 0, 1) := by decide +kernel
theorem d_Place_copy_33 : decode b_Place_copy 33 = .ok (.aload_n 1, 1) := by decide +kernel
theorem d_Place_copy_34 : decode b_Place_copy 34 = .ok (.getfield 27, 3) := by decide +kernel
theorem k_Place_f27 : Cond.fieldLink R_Place 27 "ContinuationCore$Place" "chain" "LContinuationCore$Waiting;" ∈ lw_g := lw_in (List.mem_append_right _ (List.mem_of_getElem? (i := 160) (by decide +kernel))) rfl
theorem d_Place_copy_37 : decode b_Place_copy 37 = .ok (.putfield 27, 3) := by decide +kernel
theorem d_Place_copy_40 : decode b_Place_copy 40 = .ok (.return_, 1) := by decide +kernel
theorem ki_Place_copy : Cond.instanceMethod y_Place_copy ∈ lw_g := lw_in (List.mem_append_right _ (List.mem_of_getElem? (i := 588) (by decide +kernel))) rfl
theorem ke_Place_copy : Cond.selects R_Place y_Place_copy y_Place_copy ∈ lw_g := lw_in (List.mem_append_right _ (List.mem_of_getElem? (i := 589) (by decide +kernel))) rfl
-- Place_hold: maxLocals 3, ret none
theorem kc_Place_hold : Cond.code y_Place_hold b_Place_hold 3 none ∈ lw_g := lw_in (List.mem_append_right _ (List.mem_of_getElem? (i := 570) (by decide +kernel))) rfl
theorem d_Place_hold_0 : decode b_Place_hold 0 = .ok (.aload_n 0, 1) := by decide +kernel
theorem d_Place_hold_1 : decode b_Place_hold 1 = .ok (.iload_n 1, 1) := by decide +kernel
theorem d_Place_hold_2 : decode b_Place_hold 2 = .ok (.putfield 11, 3) := by decide +kernel
theorem d_Place_hold_5 : decode b_Place_hold 5 = .ok (.aload_n 0, 1) := by decide +kernel
theorem d_Place_hold_6 : decode b_Place_hold 6 = .ok (.iload_n 2, 1) := by decide +kernel
theorem d_Place_hold_7 : decode b_Place_hold 7 = .ok (.putfield 15, 3) := by decide +kernel
theorem d_Place_hold_10 : decode b_Place_hold 10 = .ok (.aload_n 0, 1) := by decide +kernel
theorem d_Place_hold_11 : decode b_Place_hold 11 = .ok (.aconst_null, 1) := by decide +kernel
theorem d_Place_hold_12 : decode b_Place_hold 12 = .ok (.putfield 19, 3) := by decide +kernel
theorem d_Place_hold_15 : decode b_Place_hold 15 = .ok (.aload_n 0, 1) := by decide +kernel
theorem d_Place_hold_16 : decode b_Place_hold 16 = .ok (.aconst_null, 1) := by decide +kernel
theorem d_Place_hold_17 : decode b_Place_hold 17 = .ok (.putfield 23, 3) := by decide +kernel
theorem d_Place_hold_20 : decode b_Place_hold 20 = .ok (.aload_n 0, 1) := by decide +kernel
theorem d_Place_hold_21 : decode b_Place_hold 21 = .ok (.aconst_null, 1) := by decide +kernel
theorem d_Place_hold_22 : decode b_Place_hold 22 = .ok (.putfield 27, 3) := by decide +kernel
theorem d_Place_hold_25 : decode b_Place_hold 25 = .ok (.return_, 1) := by decide +kernel
theorem ki_Place_hold : Cond.instanceMethod y_Place_hold ∈ lw_g := lw_in (List.mem_append_right _ (List.mem_of_getElem? (i := 568) (by decide +kernel))) rfl
theorem ke_Place_hold : Cond.selects R_Place y_Place_hold y_Place_hold ∈ lw_g := lw_in (List.mem_append_right _ (List.mem_of_getElem? (i := 569) (by decide +kernel))) rfl
-- Place_holdPair: maxLocals 3, ret none
theorem kc_Place_holdPair : Cond.code y_Place_holdPair b_Place_holdPair 3 none ∈ lw_g := lw_in (List.mem_append_right _ (List.mem_of_getElem? (i := 955) (by decide +kernel))) rfl
theorem d_Place_holdPair_0 : decode b_Place_holdPair 0 = .ok (.aload_n 0, 1) := by decide +kernel
theorem d_Place_holdPair_1 : decode b_Place_holdPair 1 = .ok (.bipush 46, 2) := by decide +kernel
theorem d_Place_holdPair_3 : decode b_Place_holdPair 3 = .ok (.iload_n 1, 1) := by decide +kernel
theorem d_Place_holdPair_4 : decode b_Place_holdPair 4 = .ok (.invokevirtual 31, 3) := by decide +kernel
theorem k_Place_m31 : Cond.methodLink R_Place 31 y_Place_hold ∈ lw_g := lw_in (List.mem_append_right _ (List.mem_of_getElem? (i := 649) (by decide +kernel))) rfl
theorem d_Place_holdPair_7 : decode b_Place_holdPair 7 = .ok (.aload_n 0, 1) := by decide +kernel
theorem d_Place_holdPair_8 : decode b_Place_holdPair 8 = .ok (.aload_n 2, 1) := by decide +kernel
theorem d_Place_holdPair_9 : decode b_Place_holdPair 9 = .ok (.putfield 19, 3) := by decide +kernel
theorem d_Place_holdPair_12 : decode b_Place_holdPair 12 = .ok (.return_, 1) := by decide +kernel
theorem ki_Place_holdPair : Cond.instanceMethod y_Place_holdPair ∈ lw_g := lw_in (List.mem_append_right _ (List.mem_of_getElem? (i := 953) (by decide +kernel))) rfl
theorem ke_Place_holdPair : Cond.selects R_Place y_Place_holdPair y_Place_holdPair ∈ lw_g := lw_in (List.mem_append_right _ (List.mem_of_getElem? (i := 954) (by decide +kernel))) rfl
-- Place_holdClosure: maxLocals 3, ret none
theorem kc_Place_holdClosure : Cond.code y_Place_holdClosure b_Place_holdClosure 3 none ∈ lw_g := lw_in (List.mem_append_right _ (List.mem_of_getElem? (i := 648) (by decide +kernel))) rfl
theorem d_Place_holdClosure_0 : decode b_Place_holdClosure 0 = .ok (.aload_n 0, 1) := by decide +kernel
theorem d_Place_holdClosure_1 : decode b_Place_holdClosure 1 = .ok (.bipush 76, 2) := by decide +kernel
theorem d_Place_holdClosure_3 : decode b_Place_holdClosure 3 = .ok (.iload_n 1, 1) := by decide +kernel
theorem d_Place_holdClosure_4 : decode b_Place_holdClosure 4 = .ok (.invokevirtual 31, 3) := by decide +kernel
theorem d_Place_holdClosure_7 : decode b_Place_holdClosure 7 = .ok (.aload_n 0, 1) := by decide +kernel
theorem d_Place_holdClosure_8 : decode b_Place_holdClosure 8 = .ok (.aload_n 2, 1) := by decide +kernel
theorem d_Place_holdClosure_9 : decode b_Place_holdClosure 9 = .ok (.putfield 23, 3) := by decide +kernel
theorem d_Place_holdClosure_12 : decode b_Place_holdClosure 12 = .ok (.return_, 1) := by decide +kernel
theorem ki_Place_holdClosure : Cond.instanceMethod y_Place_holdClosure ∈ lw_g := lw_in (List.mem_append_right _ (List.mem_of_getElem? (i := 646) (by decide +kernel))) rfl
theorem ke_Place_holdClosure : Cond.selects R_Place y_Place_holdClosure y_Place_holdClosure ∈ lw_g := lw_in (List.mem_append_right _ (List.mem_of_getElem? (i := 647) (by decide +kernel))) rfl
-- Place_holdContinuation: maxLocals 3, ret none
theorem kc_Place_holdContinuation : Cond.code y_Place_holdContinuation b_Place_holdContinuation 3 none ∈ lw_g := lw_in (List.mem_append_right _ (List.mem_of_getElem? (i := 947) (by decide +kernel))) rfl
theorem d_Place_holdContinuation_0 : decode b_Place_holdContinuation 0 = .ok (.aload_n 0, 1) := by decide +kernel
theorem d_Place_holdContinuation_1 : decode b_Place_holdContinuation 1 = .ok (.bipush 75, 2) := by decide +kernel
theorem d_Place_holdContinuation_3 : decode b_Place_holdContinuation 3 = .ok (.iload_n 1, 1) := by decide +kernel
theorem d_Place_holdContinuation_4 : decode b_Place_holdContinuation 4 = .ok (.invokevirtual 31, 3) := by decide +kernel
theorem d_Place_holdContinuation_7 : decode b_Place_holdContinuation 7 = .ok (.aload_n 0, 1) := by decide +kernel
theorem d_Place_holdContinuation_8 : decode b_Place_holdContinuation 8 = .ok (.aload_n 2, 1) := by decide +kernel
theorem d_Place_holdContinuation_9 : decode b_Place_holdContinuation 9 = .ok (.putfield 27, 3) := by decide +kernel
theorem d_Place_holdContinuation_12 : decode b_Place_holdContinuation 12 = .ok (.return_, 1) := by decide +kernel
theorem ki_Place_holdContinuation : Cond.instanceMethod y_Place_holdContinuation ∈ lw_g := lw_in (List.mem_append_right _ (List.mem_of_getElem? (i := 945) (by decide +kernel))) rfl
theorem ke_Place_holdContinuation : Cond.selects R_Place y_Place_holdContinuation y_Place_holdContinuation ∈ lw_g := lw_in (List.mem_append_right _ (List.mem_of_getElem? (i := 946) (by decide +kernel))) rfl
-- Place_isSame: maxLocals 2, ret (some .boolean)
theorem kc_Place_isSame : Cond.code y_Place_isSame b_Place_isSame 2 (some .boolean) ∈ lw_g := lw_in (List.mem_append_right _ (List.mem_of_getElem? (i := 959) (by decide +kernel))) rfl
theorem d_Place_isSame_0 : decode b_Place_isSame 0 = .ok (.aload_n 0, 1) := by decide +kernel
theorem d_Place_isSame_1 : decode b_Place_isSame 1 = .ok (.getfield 11, 3) := by decide +kernel
theorem d_Place_isSame_4 : decode b_Place_isSame 4 = .ok (.aload_n 1, 1) := by decide +kernel
theorem d_Place_isSame_5 : decode b_Place_isSame 5 = .ok (.getfield 11, 3) := by decide +kernel
theorem d_Place_isSame_8 : decode b_Place_isSame 8 = .ok (.if_icmp .ne 18, 3) := by decide +kernel
theorem d_Place_isSame_11 : decode b_Place_isSame 11 = .ok (.aload_n 0, 1) := by decide +kernel
theorem d_Place_isSame_12 : decode b_Place_isSame 12 = .ok (.getfield 15, 3) := by decide +kernel
theorem d_Place_isSame_15 : decode b_Place_isSame 15 = .ok (.aload_n 1, 1) := by decide +kernel
theorem d_Place_isSame_16 : decode b_Place_isSame 16 = .ok (.getfield 15, 3) := by decide +kernel
theorem d_Place_isSame_19 : decode b_Place_isSame 19 = .ok (.if_icmp .ne 7, 3) := by decide +kernel
theorem d_Place_isSame_22 : decode b_Place_isSame 22 = .ok (.iconst 1, 1) := by decide +kernel
theorem d_Place_isSame_23 : decode b_Place_isSame 23 = .ok (.goto 4, 3) := by decide +kernel
theorem d_Place_isSame_26 : decode b_Place_isSame 26 = .ok (.iconst 0, 1) := by decide +kernel
theorem d_Place_isSame_27 : decode b_Place_isSame 27 = .ok (.ireturn, 1) := by decide +kernel
theorem ki_Place_isSame : Cond.instanceMethod y_Place_isSame ∈ lw_g := lw_in (List.mem_append_right _ (List.mem_of_getElem? (i := 957) (by decide +kernel))) rfl
theorem ke_Place_isSame : Cond.selects R_Place y_Place_isSame y_Place_isSame ∈ lw_g := lw_in (List.mem_append_right _ (List.mem_of_getElem? (i := 958) (by decide +kernel))) rfl
-- Place_isZero: maxLocals 1, ret (some .boolean)
theorem kc_Place_isZero : Cond.code y_Place_isZero b_Place_isZero 1 (some .boolean) ∈ lw_g := lw_in (List.mem_append_right _ (List.mem_of_getElem? (i := 931) (by decide +kernel))) rfl
theorem d_Place_isZero_0 : decode b_Place_isZero 0 = .ok (.aload_n 0, 1) := by decide +kernel
theorem d_Place_isZero_1 : decode b_Place_isZero 1 = .ok (.getfield 11, 3) := by decide +kernel
theorem d_Place_isZero_4 : decode b_Place_isZero 4 = .ok (.bipush 48, 2) := by decide +kernel
theorem d_Place_isZero_6 : decode b_Place_isZero 6 = .ok (.if_icmp .ne 14, 3) := by decide +kernel
theorem d_Place_isZero_9 : decode b_Place_isZero 9 = .ok (.aload_n 0, 1) := by decide +kernel
theorem d_Place_isZero_10 : decode b_Place_isZero 10 = .ok (.getfield 15, 3) := by decide +kernel
theorem d_Place_isZero_13 : decode b_Place_isZero 13 = .ok (.ifCond .ne 7, 3) := by decide +kernel
theorem d_Place_isZero_16 : decode b_Place_isZero 16 = .ok (.iconst 1, 1) := by decide +kernel
theorem d_Place_isZero_17 : decode b_Place_isZero 17 = .ok (.goto 4, 3) := by decide +kernel
theorem d_Place_isZero_20 : decode b_Place_isZero 20 = .ok (.iconst 0, 1) := by decide +kernel
theorem d_Place_isZero_21 : decode b_Place_isZero 21 = .ok (.ireturn, 1) := by decide +kernel
theorem ki_Place_isZero : Cond.instanceMethod y_Place_isZero ∈ lw_g := lw_in (List.mem_append_right _ (List.mem_of_getElem? (i := 929) (by decide +kernel))) rfl
theorem ke_Place_isZero : Cond.selects R_Place y_Place_isZero y_Place_isZero ∈ lw_g := lw_in (List.mem_append_right _ (List.mem_of_getElem? (i := 930) (by decide +kernel))) rfl
-- Place_write: maxLocals 2, ret none
theorem kc_Place_write : Cond.code y_Place_write b_Place_write 2 none ∈ lw_g := lw_in (List.mem_append_right _ (List.mem_of_getElem? (i := 898) (by decide +kernel))) rfl
theorem d_Place_write_0 : decode b_Place_write 0 = .ok (.aload_n 1, 1) := by decide +kernel
theorem d_Place_write_1 : decode b_Place_write 1 = .ok (.invokevirtual 35, 3) := by decide +kernel
theorem k_Place_m35 : Cond.methodLink R_Place 35 ⟨"java/lang/StringBuilder", "length", "()I"⟩ ∈ lw_g := lw_in (List.mem_append_right _ (List.mem_of_getElem? (i := 899) (by decide +kernel))) rfl
theorem d_Place_write_4 : decode b_Place_write 4 = .ok (.bipush 60, 2) := by decide +kernel
theorem d_Place_write_6 : decode b_Place_write 6 = .ok (.if_icmp .lt 4, 3) := by decide +kernel
theorem d_Place_write_9 : decode b_Place_write 9 = .ok (.return_, 1) := by decide +kernel
theorem d_Place_write_10 : decode b_Place_write 10 = .ok (.aload_n 0, 1) := by decide +kernel
theorem d_Place_write_11 : decode b_Place_write 11 = .ok (.getfield 11, 3) := by decide +kernel
theorem d_Place_write_14 : decode b_Place_write 14 = .ok (.bipush 48, 2) := by decide +kernel
theorem d_Place_write_16 : decode b_Place_write 16 = .ok (.if_icmp .ne 15, 3) := by decide +kernel
theorem d_Place_write_19 : decode b_Place_write 19 = .ok (.aload_n 1, 1) := by decide +kernel
theorem d_Place_write_20 : decode b_Place_write 20 = .ok (.aload_n 0, 1) := by decide +kernel
theorem d_Place_write_21 : decode b_Place_write 21 = .ok (.getfield 15, 3) := by decide +kernel
theorem d_Place_write_24 : decode b_Place_write 24 = .ok (.invokevirtual 41, 3) := by decide +kernel
theorem k_Place_m41 : Cond.methodLink R_Place 41 ⟨"java/lang/StringBuilder", "append", "(I)Ljava/lang/StringBuilder;"⟩ ∈ lw_g := lw_in (List.mem_append_right _ (List.mem_of_getElem? (i := 900) (by decide +kernel))) rfl
theorem d_Place_write_27 : decode b_Place_write 27 = .ok (.pop, 1) := by decide +kernel
theorem d_Place_write_28 : decode b_Place_write 28 = .ok (.goto 65, 3) := by decide +kernel
theorem d_Place_write_31 : decode b_Place_write 31 = .ok (.aload_n 0, 1) := by decide +kernel
theorem d_Place_write_32 : decode b_Place_write 32 = .ok (.getfield 19, 3) := by decide +kernel
theorem d_Place_write_35 : decode b_Place_write 35 = .ok (.ifnonnull 15, 3) := by decide +kernel
theorem d_Place_write_38 : decode b_Place_write 38 = .ok (.aload_n 1, 1) := by decide +kernel
theorem d_Place_write_39 : decode b_Place_write 39 = .ok (.aload_n 0, 1) := by decide +kernel
theorem d_Place_write_40 : decode b_Place_write 40 = .ok (.getfield 11, 3) := by decide +kernel
theorem d_Place_write_43 : decode b_Place_write 43 = .ok (.invokevirtual 45, 3) := by decide +kernel
theorem k_Place_m45 : Cond.methodLink R_Place 45 ⟨"java/lang/StringBuilder", "append", "(C)Ljava/lang/StringBuilder;"⟩ ∈ lw_g := lw_in (List.mem_append_right _ (List.mem_of_getElem? (i := 901) (by decide +kernel))) rfl
theorem d_Place_write_46 : decode b_Place_write 46 = .ok (.pop, 1) := by decide +kernel
theorem d_Place_write_47 : decode b_Place_write 47 = .ok (.goto 46, 3) := by decide +kernel
theorem d_Place_write_50 : decode b_Place_write 50 = .ok (.aload_n 1, 1) := by decide +kernel
theorem d_Place_write_51 : decode b_Place_write 51 = .ok (.bipush 40, 2) := by decide +kernel
theorem d_Place_write_53 : decode b_Place_write 53 = .ok (.invokevirtual 45, 3) := by decide +kernel
theorem d_Place_write_56 : decode b_Place_write 56 = .ok (.pop, 1) := by decide +kernel
theorem d_Place_write_57 : decode b_Place_write 57 = .ok (.aload_n 0, 1) := by decide +kernel
theorem d_Place_write_58 : decode b_Place_write 58 = .ok (.getfield 19, 3) := by decide +kernel
theorem d_Place_write_61 : decode b_Place_write 61 = .ok (.getfield 48, 3) := by decide +kernel
theorem k_Place_f48 : Cond.fieldLink R_Place 48 "ContinuationCore$Pair" "first" "LContinuationCore$Place;" ∈ lw_g := lw_in (List.mem_append_right _ (List.mem_of_getElem? (i := 207) (by decide +kernel))) rfl
theorem d_Place_write_64 : decode b_Place_write 64 = .ok (.aload_n 1, 1) := by decide +kernel
theorem d_Place_write_65 : decode b_Place_write 65 = .ok (.invokevirtual 54, 3) := by decide +kernel
theorem k_Place_m54 : Cond.methodLink R_Place 54 y_Place_write ∈ lw_g := lw_in (List.mem_append_right _ (List.mem_of_getElem? (i := 923) (by decide +kernel))) rfl
theorem d_Place_write_68 : decode b_Place_write 68 = .ok (.aload_n 1, 1) := by decide +kernel
theorem d_Place_write_69 : decode b_Place_write 69 = .ok (.bipush 46, 2) := by decide +kernel
theorem d_Place_write_71 : decode b_Place_write 71 = .ok (.invokevirtual 45, 3) := by decide +kernel
theorem d_Place_write_74 : decode b_Place_write 74 = .ok (.pop, 1) := by decide +kernel
theorem d_Place_write_75 : decode b_Place_write 75 = .ok (.aload_n 0, 1) := by decide +kernel
theorem d_Place_write_76 : decode b_Place_write 76 = .ok (.getfield 19, 3) := by decide +kernel
theorem d_Place_write_79 : decode b_Place_write 79 = .ok (.getfield 58, 3) := by decide +kernel
theorem k_Place_f58 : Cond.fieldLink R_Place 58 "ContinuationCore$Pair" "second" "LContinuationCore$Place;" ∈ lw_g := lw_in (List.mem_append_right _ (List.mem_of_getElem? (i := 210) (by decide +kernel))) rfl
theorem d_Place_write_82 : decode b_Place_write 82 = .ok (.aload_n 1, 1) := by decide +kernel
theorem d_Place_write_83 : decode b_Place_write 83 = .ok (.invokevirtual 54, 3) := by decide +kernel
theorem d_Place_write_86 : decode b_Place_write 86 = .ok (.aload_n 1, 1) := by decide +kernel
theorem d_Place_write_87 : decode b_Place_write 87 = .ok (.bipush 41, 2) := by decide +kernel
theorem d_Place_write_89 : decode b_Place_write 89 = .ok (.invokevirtual 45, 3) := by decide +kernel
theorem d_Place_write_92 : decode b_Place_write 92 = .ok (.pop, 1) := by decide +kernel
theorem d_Place_write_93 : decode b_Place_write 93 = .ok (.return_, 1) := by decide +kernel
theorem ki_Place_write : Cond.instanceMethod y_Place_write ∈ lw_g := lw_in (List.mem_append_right _ (List.mem_of_getElem? (i := 896) (by decide +kernel))) rfl
theorem ke_Place_write : Cond.selects R_Place y_Place_write y_Place_write ∈ lw_g := lw_in (List.mem_append_right _ (List.mem_of_getElem? (i := 897) (by decide +kernel))) rfl
def T_Reader : u_T := fun k => match k with
  | 0 => ("ContinuationCore$Reader", "expressions", "[LContinuationCore$Expression;", true)
  | 1 => ("ContinuationCore$Reader", "open", "[LContinuationCore$Expression;", true)
  | 2 => ("ContinuationCore$Reader", "openCount", "I", false)
  | 3 => ("ContinuationCore$Reader", "phase", "I", false)
  | 4 => ("ContinuationCore$Reader", "digits", "I", false)
  | _ => ("ContinuationCore$Reader", "used", "I", false)
def ty_Reader : Nat → FieldType := fun k => match k with
  | 0 => .array (.object "ContinuationCore$Expression")
  | 1 => .array (.object "ContinuationCore$Expression")
  | 2 => .int
  | 3 => .int
  | 4 => .int
  | _ => .int
theorem nm_Reader : ∀ a, a < 6 → ∀ b, b < 6 → a ≠ b → (T_Reader a).2.1 ≠ (T_Reader b).2.1 := by decide +kernel
theorem ty_Reader_ok : ∀ k, k < 6 → parseFieldDescriptor (T_Reader k).2.2.1 = some (ty_Reader k) := by decide +kernel
theorem in_Reader_l : u_ws R_Reader T_Reader 6 = ([88, 90, 92, 94, 96, 98] : List Nat).filterMap (fun i => tables_1[i]?) := by decide +kernel
theorem in_Reader : ∀ w ∈ u_ws R_Reader T_Reader 6, w ∈ lw_g := fun w h => by
  have hg : (u_ws R_Reader T_Reader 6).all goodWord = true := by decide +kernel
  refine lw_in ?_ (List.all_eq_true.mp hg w h)
  rw [in_Reader_l] at h
  obtain ⟨i, -, hi⟩ := List.mem_filterMap.mp h
  exact List.mem_append_right _ (List.mem_of_getElem? hi)
theorem k_Reader_inst : Cond.instantiable R_Reader 6 ∈ lw_g := lw_in (List.mem_append_right _ (List.mem_of_getElem? (i := 40) (by decide +kernel))) rfl
theorem k_Reader_ini : Cond.initialized R_Reader ∈ lw_g := lw_in (List.mem_append_right _ (List.mem_of_getElem? (i := 2) (by decide +kernel))) rfl
-- Reader_init: maxLocals 2, ret none
theorem kc_Reader_init : Cond.code y_Reader_init b_Reader_init 2 none ∈ lw_g := lw_in (List.mem_append_right _ (List.mem_of_getElem? (i := 43) (by decide +kernel))) rfl
theorem d_Reader_init_0 : decode b_Reader_init 0 = .ok (.aload_n 0, 1) := by decide +kernel
theorem d_Reader_init_1 : decode b_Reader_init 1 = .ok (.invokespecial 3, 3) := by decide +kernel
theorem k_Reader_m3 : Cond.methodLink R_Reader 3 objectInit ∈ lw_g := lw_in (List.mem_append_right _ (List.mem_of_getElem? (i := 44) (by decide +kernel))) rfl
theorem d_Reader_init_4 : decode b_Reader_init 4 = .ok (.aload_n 0, 1) := by decide +kernel
theorem d_Reader_init_5 : decode b_Reader_init 5 = .ok (.bipush 120, 2) := by decide +kernel
theorem d_Reader_init_7 : decode b_Reader_init 7 = .ok (.anewarray 9, 3) := by decide +kernel
theorem k_Reader_c9 : Cond.classLink R_Reader 9 "ContinuationCore$Expression" ∈ lw_g := lw_in (List.mem_append_right _ (List.mem_of_getElem? (i := 45) (by decide +kernel))) rfl
theorem d_Reader_init_10 : decode b_Reader_init 10 = .ok (.putfield 11, 3) := by decide +kernel
theorem k_Reader_f11 : Cond.fieldLink R_Reader 11 "ContinuationCore$Reader" "expressions" "[LContinuationCore$Expression;" ∈ lw_g := lw_in (List.mem_append_right _ (List.mem_of_getElem? (i := 81) (by decide +kernel))) rfl
theorem d_Reader_init_13 : decode b_Reader_init 13 = .ok (.aload_n 0, 1) := by decide +kernel
theorem d_Reader_init_14 : decode b_Reader_init 14 = .ok (.bipush 12, 2) := by decide +kernel
theorem d_Reader_init_16 : decode b_Reader_init 16 = .ok (.anewarray 9, 3) := by decide +kernel
theorem d_Reader_init_19 : decode b_Reader_init 19 = .ok (.putfield 17, 3) := by decide +kernel
theorem k_Reader_f17 : Cond.fieldLink R_Reader 17 "ContinuationCore$Reader" "open" "[LContinuationCore$Expression;" ∈ lw_g := lw_in (List.mem_append_right _ (List.mem_of_getElem? (i := 82) (by decide +kernel))) rfl
theorem d_Reader_init_22 : decode b_Reader_init 22 = .ok (.iconst 0, 1) := by decide +kernel
theorem d_Reader_init_23 : decode b_Reader_init 23 = .ok (.istore_n 1, 1) := by decide +kernel
theorem d_Reader_init_24 : decode b_Reader_init 24 = .ok (.iload_n 1, 1) := by decide +kernel
theorem d_Reader_init_25 : decode b_Reader_init 25 = .ok (.bipush 120, 2) := by decide +kernel
theorem d_Reader_init_27 : decode b_Reader_init 27 = .ok (.if_icmp .ge 22, 3) := by decide +kernel
theorem d_Reader_init_30 : decode b_Reader_init 30 = .ok (.aload_n 0, 1) := by decide +kernel
theorem d_Reader_init_31 : decode b_Reader_init 31 = .ok (.getfield 11, 3) := by decide +kernel
theorem d_Reader_init_34 : decode b_Reader_init 34 = .ok (.iload_n 1, 1) := by decide +kernel
theorem d_Reader_init_35 : decode b_Reader_init 35 = .ok (.new 9, 3) := by decide +kernel
theorem d_Reader_init_38 : decode b_Reader_init 38 = .ok (.dup, 1) := by decide +kernel
theorem d_Reader_init_39 : decode b_Reader_init 39 = .ok (.invokespecial 20, 3) := by decide +kernel
theorem k_Reader_mn20 : Cond.methodLinkNest R_Reader 20 y_Expression_init "ContinuationCore" ∈ lw_tbl := List.mem_append_right _ (List.mem_of_getElem? (i := 48) (by decide +kernel))
theorem d_Reader_init_42 : decode b_Reader_init 42 = .ok (.aastore, 1) := by decide +kernel
theorem d_Reader_init_43 : decode b_Reader_init 43 = .ok (.iinc 1 1, 3) := by decide +kernel
theorem d_Reader_init_46 : decode b_Reader_init 46 = .ok (.goto (-22), 3) := by decide +kernel
theorem d_Reader_init_49 : decode b_Reader_init 49 = .ok (.return_, 1) := by decide +kernel
theorem ki_Reader_init : Cond.instanceMethod y_Reader_init ∈ lw_g := lw_in (List.mem_append_right _ (List.mem_of_getElem? (i := 42) (by decide +kernel))) rfl
-- Reader_read: maxLocals 4, ret (some .boolean)
theorem kc_Reader_read : Cond.code y_Reader_read b_Reader_read 4 (some .boolean) ∈ lw_g := lw_in (List.mem_append_right _ (List.mem_of_getElem? (i := 403) (by decide +kernel))) rfl
theorem d_Reader_read_0 : decode b_Reader_read 0 = .ok (.aload_n 0, 1) := by decide +kernel
theorem d_Reader_read_1 : decode b_Reader_read 1 = .ok (.iconst 0, 1) := by decide +kernel
theorem d_Reader_read_2 : decode b_Reader_read 2 = .ok (.putfield 21, 3) := by decide +kernel
theorem k_Reader_f21 : Cond.fieldLink R_Reader 21 "ContinuationCore$Reader" "used" "I" ∈ lw_g := lw_in (List.mem_append_right _ (List.mem_of_getElem? (i := 86) (by decide +kernel))) rfl
theorem d_Reader_read_5 : decode b_Reader_read 5 = .ok (.aload_n 0, 1) := by decide +kernel
theorem d_Reader_read_6 : decode b_Reader_read 6 = .ok (.iconst 0, 1) := by decide +kernel
theorem d_Reader_read_7 : decode b_Reader_read 7 = .ok (.putfield 25, 3) := by decide +kernel
theorem k_Reader_f25 : Cond.fieldLink R_Reader 25 "ContinuationCore$Reader" "openCount" "I" ∈ lw_g := lw_in (List.mem_append_right _ (List.mem_of_getElem? (i := 83) (by decide +kernel))) rfl
theorem d_Reader_read_10 : decode b_Reader_read 10 = .ok (.aload_n 0, 1) := by decide +kernel
theorem d_Reader_read_11 : decode b_Reader_read 11 = .ok (.iconst 3, 1) := by decide +kernel
theorem d_Reader_read_12 : decode b_Reader_read 12 = .ok (.putfield 28, 3) := by decide +kernel
theorem k_Reader_f28 : Cond.fieldLink R_Reader 28 "ContinuationCore$Reader" "phase" "I" ∈ lw_g := lw_in (List.mem_append_right _ (List.mem_of_getElem? (i := 84) (by decide +kernel))) rfl
theorem d_Reader_read_15 : decode b_Reader_read 15 = .ok (.aload_n 0, 1) := by decide +kernel
theorem d_Reader_read_16 : decode b_Reader_read 16 = .ok (.iconst 0, 1) := by decide +kernel
theorem d_Reader_read_17 : decode b_Reader_read 17 = .ok (.putfield 31, 3) := by decide +kernel
theorem k_Reader_f31 : Cond.fieldLink R_Reader 31 "ContinuationCore$Reader" "digits" "I" ∈ lw_g := lw_in (List.mem_append_right _ (List.mem_of_getElem? (i := 85) (by decide +kernel))) rfl
theorem d_Reader_read_20 : decode b_Reader_read 20 = .ok (.iload_n 2, 1) := by decide +kernel
theorem d_Reader_read_21 : decode b_Reader_read 21 = .ok (.bipush 120, 2) := by decide +kernel
theorem d_Reader_read_23 : decode b_Reader_read 23 = .ok (.if_icmp .gt 9, 3) := by decide +kernel
theorem d_Reader_read_26 : decode b_Reader_read 26 = .ok (.iload_n 2, 1) := by decide +kernel
theorem d_Reader_read_27 : decode b_Reader_read 27 = .ok (.aload_n 1, 1) := by decide +kernel
theorem d_Reader_read_28 : decode b_Reader_read 28 = .ok (.arraylength, 1) := by decide +kernel
theorem d_Reader_read_29 : decode b_Reader_read 29 = .ok (.if_icmp .le 5, 3) := by decide +kernel
theorem d_Reader_read_32 : decode b_Reader_read 32 = .ok (.iconst 0, 1) := by decide +kernel
theorem d_Reader_read_33 : decode b_Reader_read 33 = .ok (.ireturn, 1) := by decide +kernel
theorem d_Reader_read_34 : decode b_Reader_read 34 = .ok (.iconst 0, 1) := by decide +kernel
theorem d_Reader_read_35 : decode b_Reader_read 35 = .ok (.istore_n 3, 1) := by decide +kernel
theorem d_Reader_read_36 : decode b_Reader_read 36 = .ok (.iload_n 3, 1) := by decide +kernel
theorem d_Reader_read_37 : decode b_Reader_read 37 = .ok (.iload_n 2, 1) := by decide +kernel
theorem d_Reader_read_38 : decode b_Reader_read 38 = .ok (.if_icmp .ge 21, 3) := by decide +kernel
theorem d_Reader_read_41 : decode b_Reader_read 41 = .ok (.aload_n 0, 1) := by decide +kernel
theorem d_Reader_read_42 : decode b_Reader_read 42 = .ok (.aload_n 1, 1) := by decide +kernel
theorem d_Reader_read_43 : decode b_Reader_read 43 = .ok (.iload_n 3, 1) := by decide +kernel
theorem d_Reader_read_44 : decode b_Reader_read 44 = .ok (.caload, 1) := by decide +kernel
theorem d_Reader_read_45 : decode b_Reader_read 45 = .ok (.invokevirtual 34, 3) := by decide +kernel
theorem k_Reader_m34 : Cond.methodLink R_Reader 34 y_Reader_take ∈ lw_g := lw_in (List.mem_append_right _ (List.mem_of_getElem? (i := 404) (by decide +kernel))) rfl
theorem d_Reader_read_48 : decode b_Reader_read 48 = .ok (.ifCond .ne 5, 3) := by decide +kernel
theorem d_Reader_read_51 : decode b_Reader_read 51 = .ok (.iconst 0, 1) := by decide +kernel
theorem d_Reader_read_52 : decode b_Reader_read 52 = .ok (.ireturn, 1) := by decide +kernel
theorem d_Reader_read_53 : decode b_Reader_read 53 = .ok (.iinc 3 1, 3) := by decide +kernel
theorem d_Reader_read_56 : decode b_Reader_read 56 = .ok (.goto (-20), 3) := by decide +kernel
theorem d_Reader_read_59 : decode b_Reader_read 59 = .ok (.iconst 1, 1) := by decide +kernel
theorem d_Reader_read_60 : decode b_Reader_read 60 = .ok (.ireturn, 1) := by decide +kernel
theorem ki_Reader_read : Cond.instanceMethod y_Reader_read ∈ lw_g := lw_in (List.mem_append_right _ (List.mem_of_getElem? (i := 401) (by decide +kernel))) rfl
theorem ke_Reader_read : Cond.selects R_Reader y_Reader_read y_Reader_read ∈ lw_g := lw_in (List.mem_append_right _ (List.mem_of_getElem? (i := 402) (by decide +kernel))) rfl
-- Reader_isWhole: maxLocals 1, ret (some .boolean)
theorem kc_Reader_isWhole : Cond.code y_Reader_isWhole b_Reader_isWhole 1 (some .boolean) ∈ lw_g := lw_in (List.mem_append_right _ (List.mem_of_getElem? (i := 301) (by decide +kernel))) rfl
theorem d_Reader_isWhole_0 : decode b_Reader_isWhole 0 = .ok (.aload_n 0, 1) := by decide +kernel
theorem d_Reader_isWhole_1 : decode b_Reader_isWhole 1 = .ok (.getfield 21, 3) := by decide +kernel
theorem d_Reader_isWhole_4 : decode b_Reader_isWhole 4 = .ok (.ifCond .le 14, 3) := by decide +kernel
theorem d_Reader_isWhole_7 : decode b_Reader_isWhole 7 = .ok (.aload_n 0, 1) := by decide +kernel
theorem d_Reader_isWhole_8 : decode b_Reader_isWhole 8 = .ok (.getfield 25, 3) := by decide +kernel
theorem d_Reader_isWhole_11 : decode b_Reader_isWhole 11 = .ok (.ifCond .ne 7, 3) := by decide +kernel
theorem d_Reader_isWhole_14 : decode b_Reader_isWhole 14 = .ok (.iconst 1, 1) := by decide +kernel
theorem d_Reader_isWhole_15 : decode b_Reader_isWhole 15 = .ok (.goto 4, 3) := by decide +kernel
theorem d_Reader_isWhole_18 : decode b_Reader_isWhole 18 = .ok (.iconst 0, 1) := by decide +kernel
theorem d_Reader_isWhole_19 : decode b_Reader_isWhole 19 = .ok (.ireturn, 1) := by decide +kernel
theorem ki_Reader_isWhole : Cond.instanceMethod y_Reader_isWhole ∈ lw_g := lw_in (List.mem_append_right _ (List.mem_of_getElem? (i := 299) (by decide +kernel))) rfl
theorem ke_Reader_isWhole : Cond.selects R_Reader y_Reader_isWhole y_Reader_isWhole ∈ lw_g := lw_in (List.mem_append_right _ (List.mem_of_getElem? (i := 300) (by decide +kernel))) rfl
-- Reader_outermost: maxLocals 1, ret (some (.object "ContinuationCore$Expression"))
theorem kc_Reader_outermost : Cond.code y_Reader_outermost b_Reader_outermost 1 (some (.object "ContinuationCore$Expression")) ∈ lw_g := lw_in (List.mem_append_right _ (List.mem_of_getElem? (i := 582) (by decide +kernel))) rfl
theorem d_Reader_outermost_0 : decode b_Reader_outermost 0 = .ok (.aload_n 0, 1) := by decide +kernel
theorem d_Reader_outermost_1 : decode b_Reader_outermost 1 = .ok (.getfield 11, 3) := by decide +kernel
theorem d_Reader_outermost_4 : decode b_Reader_outermost 4 = .ok (.iconst 0, 1) := by decide +kernel
theorem d_Reader_outermost_5 : decode b_Reader_outermost 5 = .ok (.aaload, 1) := by decide +kernel
theorem d_Reader_outermost_6 : decode b_Reader_outermost 6 = .ok (.areturn, 1) := by decide +kernel
theorem ki_Reader_outermost : Cond.instanceMethod y_Reader_outermost ∈ lw_g := lw_in (List.mem_append_right _ (List.mem_of_getElem? (i := 580) (by decide +kernel))) rfl
theorem ke_Reader_outermost : Cond.selects R_Reader y_Reader_outermost y_Reader_outermost ∈ lw_g := lw_in (List.mem_append_right _ (List.mem_of_getElem? (i := 581) (by decide +kernel))) rfl
-- Reader_take: maxLocals 3, ret (some .boolean)
theorem kc_Reader_take : Cond.code y_Reader_take b_Reader_take 3 (some .boolean) ∈ lw_g := lw_in (List.mem_append_right _ (List.mem_of_getElem? (i := 407) (by decide +kernel))) rfl
theorem d_Reader_take_0 : decode b_Reader_take 0 = .ok (.aload_n 0, 1) := by decide +kernel
theorem d_Reader_take_1 : decode b_Reader_take 1 = .ok (.getfield 31, 3) := by decide +kernel
theorem d_Reader_take_4 : decode b_Reader_take 4 = .ok (.ifCond .le 16, 3) := by decide +kernel
theorem d_Reader_take_7 : decode b_Reader_take 7 = .ok (.iload_n 1, 1) := by decide +kernel
theorem d_Reader_take_8 : decode b_Reader_take 8 = .ok (.invokestatic 38, 3) := by decide +kernel
theorem k_Reader_m38 : Cond.methodLink R_Reader 38 y_Reader_isDigit ∈ lw_g := lw_in (List.mem_append_right _ (List.mem_of_getElem? (i := 408) (by decide +kernel))) rfl
theorem d_Reader_take_11 : decode b_Reader_take 11 = .ok (.ifCond .eq 9, 3) := by decide +kernel
theorem d_Reader_take_14 : decode b_Reader_take 14 = .ok (.aload_n 0, 1) := by decide +kernel
theorem d_Reader_take_15 : decode b_Reader_take 15 = .ok (.iload_n 1, 1) := by decide +kernel
theorem d_Reader_take_16 : decode b_Reader_take 16 = .ok (.invokevirtual 41, 3) := by decide +kernel
theorem k_Reader_m41 : Cond.methodLink R_Reader 41 y_Reader_takeDigit ∈ lw_g := lw_in (List.mem_append_right _ (List.mem_of_getElem? (i := 411) (by decide +kernel))) rfl
theorem d_Reader_take_19 : decode b_Reader_take 19 = .ok (.ireturn, 1) := by decide +kernel
theorem d_Reader_take_20 : decode b_Reader_take 20 = .ok (.aload_n 0, 1) := by decide +kernel
theorem d_Reader_take_21 : decode b_Reader_take 21 = .ok (.iconst 0, 1) := by decide +kernel
theorem d_Reader_take_22 : decode b_Reader_take 22 = .ok (.putfield 31, 3) := by decide +kernel
theorem d_Reader_take_25 : decode b_Reader_take 25 = .ok (.aload_n 0, 1) := by decide +kernel
theorem d_Reader_take_26 : decode b_Reader_take 26 = .ok (.getfield 25, 3) := by decide +kernel
theorem d_Reader_take_29 : decode b_Reader_take 29 = .ok (.ifCond .ne 24, 3) := by decide +kernel
theorem d_Reader_take_32 : decode b_Reader_take 32 = .ok (.aload_n 0, 1) := by decide +kernel
theorem d_Reader_take_33 : decode b_Reader_take 33 = .ok (.getfield 21, 3) := by decide +kernel
theorem d_Reader_take_36 : decode b_Reader_take 36 = .ok (.ifCond .ne 15, 3) := by decide +kernel
theorem d_Reader_take_39 : decode b_Reader_take 39 = .ok (.aload_n 0, 1) := by decide +kernel
theorem d_Reader_take_40 : decode b_Reader_take 40 = .ok (.iload_n 1, 1) := by decide +kernel
theorem d_Reader_take_41 : decode b_Reader_take 41 = .ok (.invokevirtual 44, 3) := by decide +kernel
theorem k_Reader_m44 : Cond.methodLink R_Reader 44 y_Reader_takeExpression ∈ lw_g := lw_in (List.mem_append_right _ (List.mem_of_getElem? (i := 415) (by decide +kernel))) rfl
theorem d_Reader_take_44 : decode b_Reader_take 44 = .ok (.ifCond .eq 7, 3) := by decide +kernel
theorem d_Reader_take_47 : decode b_Reader_take 47 = .ok (.iconst 1, 1) := by decide +kernel
theorem d_Reader_take_48 : decode b_Reader_take 48 = .ok (.goto 4, 3) := by decide +kernel
theorem d_Reader_take_51 : decode b_Reader_take 51 = .ok (.iconst 0, 1) := by decide +kernel
theorem d_Reader_take_52 : decode b_Reader_take 52 = .ok (.ireturn, 1) := by decide +kernel
theorem d_Reader_take_53 : decode b_Reader_take 53 = .ok (.aload_n 0, 1) := by decide +kernel
theorem d_Reader_take_54 : decode b_Reader_take 54 = .ok (.getfield 17, 3) := by decide +kernel
theorem d_Reader_take_57 : decode b_Reader_take 57 = .ok (.aload_n 0, 1) := by decide +kernel
theorem d_Reader_take_58 : decode b_Reader_take 58 = .ok (.getfield 25, 3) := by decide +kernel
theorem d_Reader_take_61 : decode b_Reader_take 61 = .ok (.iconst 1, 1) := by decide +kernel
theorem d_Reader_take_62 : decode b_Reader_take 62 = .ok (.isub, 1) := by decide +kernel
theorem d_Reader_take_63 : decode b_Reader_take 63 = .ok (.aaload, 1) := by decide +kernel
theorem d_Reader_take_64 : decode b_Reader_take 64 = .ok (.astore_n 2, 1) := by decide +kernel
theorem d_Reader_take_65 : decode b_Reader_take 65 = .ok (.aload_n 0, 1) := by decide +kernel
theorem d_Reader_take_66 : decode b_Reader_take 66 = .ok (.getfield 28, 3) := by decide +kernel
theorem d_Reader_take_69 : decode b_Reader_take 69 = .ok (.tableswitch 48 0 2 #[27, 34, 41], 27) := by decide +kernel
theorem d_Reader_take_96 : decode b_Reader_take 96 = .ok (.aload_n 0, 1) := by decide +kernel
theorem d_Reader_take_97 : decode b_Reader_take 97 = .ok (.aload_n 2, 1) := by decide +kernel
theorem d_Reader_take_98 : decode b_Reader_take 98 = .ok (.iload_n 1, 1) := by decide +kernel
theorem d_Reader_take_99 : decode b_Reader_take 99 = .ok (.invokevirtual 47, 3) := by decide +kernel
theorem k_Reader_m47 : Cond.methodLink R_Reader 47 y_Reader_takeHead ∈ lw_g := lw_in (List.mem_append_right _ (List.mem_of_getElem? (i := 430) (by decide +kernel))) rfl
theorem d_Reader_take_102 : decode b_Reader_take 102 = .ok (.ireturn, 1) := by decide +kernel
theorem d_Reader_take_103 : decode b_Reader_take 103 = .ok (.aload_n 0, 1) := by decide +kernel
theorem d_Reader_take_104 : decode b_Reader_take 104 = .ok (.aload_n 2, 1) := by decide +kernel
theorem d_Reader_take_105 : decode b_Reader_take 105 = .ok (.iload_n 1, 1) := by decide +kernel
theorem d_Reader_take_106 : decode b_Reader_take 106 = .ok (.invokevirtual 51, 3) := by decide +kernel
theorem k_Reader_m51 : Cond.methodLink R_Reader 51 y_Reader_takeOneName ∈ lw_g := lw_in (List.mem_append_right _ (List.mem_of_getElem? (i := 536) (by decide +kernel))) rfl
theorem d_Reader_take_109 : decode b_Reader_take 109 = .ok (.ireturn, 1) := by decide +kernel
theorem d_Reader_take_110 : decode b_Reader_take 110 = .ok (.aload_n 0, 1) := by decide +kernel
theorem d_Reader_take_111 : decode b_Reader_take 111 = .ok (.aload_n 2, 1) := by decide +kernel
theorem d_Reader_take_112 : decode b_Reader_take 112 = .ok (.iload_n 1, 1) := by decide +kernel
theorem d_Reader_take_113 : decode b_Reader_take 113 = .ok (.invokevirtual 54, 3) := by decide +kernel
theorem k_Reader_m54 : Cond.methodLink R_Reader 54 y_Reader_takeNameOrDot ∈ lw_g := lw_in (List.mem_append_right _ (List.mem_of_getElem? (i := 540) (by decide +kernel))) rfl
theorem d_Reader_take_116 : decode b_Reader_take 116 = .ok (.ireturn, 1) := by decide +kernel
theorem d_Reader_take_117 : decode b_Reader_take 117 = .ok (.aload_n 0, 1) := by decide +kernel
theorem d_Reader_take_118 : decode b_Reader_take 118 = .ok (.aload_n 2, 1) := by decide +kernel
theorem d_Reader_take_119 : decode b_Reader_take 119 = .ok (.iload_n 1, 1) := by decide +kernel
theorem d_Reader_take_120 : decode b_Reader_take 120 = .ok (.invokevirtual 57, 3) := by decide +kernel
theorem k_Reader_m57 : Cond.methodLink R_Reader 57 y_Reader_takePart ∈ lw_g := lw_in (List.mem_append_right _ (List.mem_of_getElem? (i := 520) (by decide +kernel))) rfl
theorem d_Reader_take_123 : decode b_Reader_take 123 = .ok (.ireturn, 1) := by decide +kernel
theorem ki_Reader_take : Cond.instanceMethod y_Reader_take ∈ lw_g := lw_in (List.mem_append_right _ (List.mem_of_getElem? (i := 406) (by decide +kernel))) rfl
theorem ke_Reader_take : Cond.selects R_Reader y_Reader_take y_Reader_take ∈ lw_g := lw_in (List.mem_append_left _ (List.mem_map.mpr ⟨(y_Reader_take, 6), by decide +kernel, rfl⟩)) rfl
-- Reader_takeDigit: maxLocals 3, ret (some .boolean)
theorem kc_Reader_takeDigit : Cond.code y_Reader_takeDigit b_Reader_takeDigit 3 (some .boolean) ∈ lw_g := lw_in (List.mem_append_right _ (List.mem_of_getElem? (i := 414) (by decide +kernel))) rfl
theorem d_Reader_takeDigit_0 : decode b_Reader_takeDigit 0 = .ok (.aload_n 0, 1) := by decide +kernel
theorem d_Reader_takeDigit_1 : decode b_Reader_takeDigit 1 = .ok (.getfield 31, 3) := by decide +kernel
theorem d_Reader_takeDigit_4 : decode b_Reader_takeDigit 4 = .ok (.iconst 4, 1) := by decide +kernel
theorem d_Reader_takeDigit_5 : decode b_Reader_takeDigit 5 = .ok (.if_icmp .ge 10, 3) := by decide +kernel
theorem d_Reader_takeDigit_8 : decode b_Reader_takeDigit 8 = .ok (.aload_n 0, 1) := by decide +kernel
theorem d_Reader_takeDigit_9 : decode b_Reader_takeDigit 9 = .ok (.getfield 21, 3) := by decide +kernel
theorem d_Reader_takeDigit_12 : decode b_Reader_takeDigit 12 = .ok (.ifCond .ne 5, 3) := by decide +kernel
theorem d_Reader_takeDigit_15 : decode b_Reader_takeDigit 15 = .ok (.iconst 0, 1) := by decide +kernel
theorem d_Reader_takeDigit_16 : decode b_Reader_takeDigit 16 = .ok (.ireturn, 1) := by decide +kernel
theorem d_Reader_takeDigit_17 : decode b_Reader_takeDigit 17 = .ok (.aload_n 0, 1) := by decide +kernel
theorem d_Reader_takeDigit_18 : decode b_Reader_takeDigit 18 = .ok (.getfield 11, 3) := by decide +kernel
theorem d_Reader_takeDigit_21 : decode b_Reader_takeDigit 21 = .ok (.aload_n 0, 1) := by decide +kernel
theorem d_Reader_takeDigit_22 : decode b_Reader_takeDigit 22 = .ok (.getfield 21, 3) := by decide +kernel
theorem d_Reader_takeDigit_25 : decode b_Reader_takeDigit 25 = .ok (.iconst 1, 1) := by decide +kernel
theorem d_Reader_takeDigit_26 : decode b_Reader_takeDigit 26 = .ok (.isub, 1) := by decide +kernel
theorem d_Reader_takeDigit_27 : decode b_Reader_takeDigit 27 = .ok (.aaload, 1) := by decide +kernel
theorem d_Reader_takeDigit_28 : decode b_Reader_takeDigit 28 = .ok (.astore_n 2, 1) := by decide +kernel
theorem d_Reader_takeDigit_29 : decode b_Reader_takeDigit 29 = .ok (.aload_n 2, 1) := by decide +kernel
theorem d_Reader_takeDigit_30 : decode b_Reader_takeDigit 30 = .ok (.bipush 10, 2) := by decide +kernel
theorem d_Reader_takeDigit_32 : decode b_Reader_takeDigit 32 = .ok (.aload_n 2, 1) := by decide +kernel
theorem d_Reader_takeDigit_33 : decode b_Reader_takeDigit 33 = .ok (.getfield 60, 3) := by decide +kernel
theorem k_Reader_f60 : Cond.fieldLink R_Reader 60 "ContinuationCore$Expression" "number" "I" ∈ lw_g := lw_in (List.mem_append_right _ (List.mem_of_getElem? (i := 56) (by decide +kernel))) rfl
theorem d_Reader_takeDigit_36 : decode b_Reader_takeDigit 36 = .ok (.imul, 1) := by decide +kernel
theorem d_Reader_takeDigit_37 : decode b_Reader_takeDigit 37 = .ok (.iload_n 1, 1) := by decide +kernel
theorem d_Reader_takeDigit_38 : decode b_Reader_takeDigit 38 = .ok (.bipush 48, 2) := by decide +kernel
theorem d_Reader_takeDigit_40 : decode b_Reader_takeDigit 40 = .ok (.isub, 1) := by decide +kernel
theorem d_Reader_takeDigit_41 : decode b_Reader_takeDigit 41 = .ok (.iadd, 1) := by decide +kernel
theorem d_Reader_takeDigit_42 : decode b_Reader_takeDigit 42 = .ok (.putfield 60, 3) := by decide +kernel
theorem d_Reader_takeDigit_45 : decode b_Reader_takeDigit 45 = .ok (.aload_n 0, 1) := by decide +kernel
theorem d_Reader_takeDigit_46 : decode b_Reader_takeDigit 46 = .ok (.dup, 1) := by decide +kernel
theorem d_Reader_takeDigit_47 : decode b_Reader_takeDigit 47 = .ok (.getfield 31, 3) := by decide +kernel
theorem d_Reader_takeDigit_50 : decode b_Reader_takeDigit 50 = .ok (.iconst 1, 1) := by decide +kernel
theorem d_Reader_takeDigit_51 : decode b_Reader_takeDigit 51 = .ok (.iadd, 1) := by decide +kernel
theorem d_Reader_takeDigit_52 : decode b_Reader_takeDigit 52 = .ok (.putfield 31, 3) := by decide +kernel
theorem d_Reader_takeDigit_55 : decode b_Reader_takeDigit 55 = .ok (.iconst 1, 1) := by decide +kernel
theorem d_Reader_takeDigit_56 : decode b_Reader_takeDigit 56 = .ok (.ireturn, 1) := by decide +kernel
theorem ki_Reader_takeDigit : Cond.instanceMethod y_Reader_takeDigit ∈ lw_g := lw_in (List.mem_append_right _ (List.mem_of_getElem? (i := 413) (by decide +kernel))) rfl
theorem ke_Reader_takeDigit : Cond.selects R_Reader y_Reader_takeDigit y_Reader_takeDigit ∈ lw_g := lw_in (List.mem_append_left _ (List.mem_map.mpr ⟨(y_Reader_takeDigit, 6), by decide +kernel, rfl⟩)) rfl
-- Reader_takeHead: maxLocals 3, ret (some .boolean)
theorem kc_Reader_takeHead : Cond.code y_Reader_takeHead b_Reader_takeHead 3 (some .boolean) ∈ lw_g := lw_in (List.mem_append_right _ (List.mem_of_getElem? (i := 433) (by decide +kernel))) rfl
theorem d_Reader_takeHead_0 : decode b_Reader_takeHead 0 = .ok (.aload_n 0, 1) := by decide +kernel
theorem d_Reader_takeHead_1 : decode b_Reader_takeHead 1 = .ok (.iconst 3, 1) := by decide +kernel
theorem d_Reader_takeHead_2 : decode b_Reader_takeHead 2 = .ok (.putfield 28, 3) := by decide +kernel
theorem d_Reader_takeHead_5 : decode b_Reader_takeHead 5 = .ok (.ldc 63, 2) := by decide +kernel
theorem k_Reader_s63 : Cond.stringRef R_Reader 63 "+-*/<=:ADP^?&!@%\\" ∈ lw_tbl := List.mem_append_right _ (List.mem_of_getElem? (i := 434) (by decide +kernel))
theorem d_Reader_takeHead_7 : decode b_Reader_takeHead 7 = .ok (.iload_n 2, 1) := by decide +kernel
theorem d_Reader_takeHead_8 : decode b_Reader_takeHead 8 = .ok (.invokevirtual 65, 3) := by decide +kernel
theorem k_Reader_m65 : Cond.methodLink R_Reader 65 ⟨"java/lang/String", "indexOf", "(I)I"⟩ ∈ lw_g := lw_in (List.mem_append_right _ (List.mem_of_getElem? (i := 435) (by decide +kernel))) rfl
theorem d_Reader_takeHead_11 : decode b_Reader_takeHead 11 = .ok (.ifCond .ge 10, 3) := by decide +kernel
theorem d_Reader_takeHead_14 : decode b_Reader_takeHead 14 = .ok (.aload_n 0, 1) := by decide +kernel
theorem d_Reader_takeHead_15 : decode b_Reader_takeHead 15 = .ok (.aload_n 1, 1) := by decide +kernel
theorem d_Reader_takeHead_16 : decode b_Reader_takeHead 16 = .ok (.iload_n 2, 1) := by decide +kernel
theorem d_Reader_takeHead_17 : decode b_Reader_takeHead 17 = .ok (.invokevirtual 57, 3) := by decide +kernel
theorem d_Reader_takeHead_20 : decode b_Reader_takeHead 20 = .ok (.ireturn, 1) := by decide +kernel
theorem d_Reader_takeHead_21 : decode b_Reader_takeHead 21 = .ok (.aload_n 1, 1) := by decide +kernel
theorem d_Reader_takeHead_22 : decode b_Reader_takeHead 22 = .ok (.iload_n 2, 1) := by decide +kernel
theorem d_Reader_takeHead_23 : decode b_Reader_takeHead 23 = .ok (.iconst 0, 1) := by decide +kernel
theorem d_Reader_takeHead_24 : decode b_Reader_takeHead 24 = .ok (.invokevirtual 71, 3) := by decide +kernel
theorem k_Reader_m71 : Cond.methodLink R_Reader 71 y_Expression_become ∈ lw_g := lw_in (List.mem_append_right _ (List.mem_of_getElem? (i := 419) (by decide +kernel))) rfl
theorem d_Reader_takeHead_27 : decode b_Reader_takeHead 27 = .ok (.iload_n 2, 1) := by decide +kernel
theorem d_Reader_takeHead_28 : decode b_Reader_takeHead 28 = .ok (.bipush 33, 2) := by decide +kernel
theorem d_Reader_takeHead_30 : decode b_Reader_takeHead 30 = .ok (.if_icmp .eq 15, 3) := by decide +kernel
theorem d_Reader_takeHead_33 : decode b_Reader_takeHead 33 = .ok (.iload_n 2, 1) := by decide +kernel
theorem d_Reader_takeHead_34 : decode b_Reader_takeHead 34 = .ok (.bipush 64, 2) := by decide +kernel
theorem d_Reader_takeHead_36 : decode b_Reader_takeHead 36 = .ok (.if_icmp .eq 9, 3) := by decide +kernel
theorem d_Reader_takeHead_39 : decode b_Reader_takeHead 39 = .ok (.iload_n 2, 1) := by decide +kernel
theorem d_Reader_takeHead_40 : decode b_Reader_takeHead 40 = .ok (.bipush 37, 2) := by decide +kernel
theorem d_Reader_takeHead_42 : decode b_Reader_takeHead 42 = .ok (.if_icmp .ne 11, 3) := by decide +kernel
theorem d_Reader_takeHead_45 : decode b_Reader_takeHead 45 = .ok (.aload_n 0, 1) := by decide +kernel
theorem d_Reader_takeHead_46 : decode b_Reader_takeHead 46 = .ok (.iconst 1, 1) := by decide +kernel
theorem d_Reader_takeHead_47 : decode b_Reader_takeHead 47 = .ok (.putfield 28, 3) := by decide +kernel
theorem d_Reader_takeHead_50 : decode b_Reader_takeHead 50 = .ok (.goto 14, 3) := by decide +kernel
theorem d_Reader_takeHead_53 : decode b_Reader_takeHead 53 = .ok (.iload_n 2, 1) := by decide +kernel
theorem d_Reader_takeHead_54 : decode b_Reader_takeHead 54 = .ok (.bipush 92, 2) := by decide +kernel
theorem d_Reader_takeHead_56 : decode b_Reader_takeHead 56 = .ok (.if_icmp .ne 8, 3) := by decide +kernel
theorem d_Reader_takeHead_59 : decode b_Reader_takeHead 59 = .ok (.aload_n 0, 1) := by decide +kernel
theorem d_Reader_takeHead_60 : decode b_Reader_takeHead 60 = .ok (.iconst 2, 1) := by decide +kernel
theorem d_Reader_takeHead_61 : decode b_Reader_takeHead 61 = .ok (.putfield 28, 3) := by decide +kernel
theorem d_Reader_takeHead_64 : decode b_Reader_takeHead 64 = .ok (.iconst 1, 1) := by decide +kernel
theorem d_Reader_takeHead_65 : decode b_Reader_takeHead 65 = .ok (.ireturn, 1) := by decide +kernel
theorem ki_Reader_takeHead : Cond.instanceMethod y_Reader_takeHead ∈ lw_g := lw_in (List.mem_append_right _ (List.mem_of_getElem? (i := 432) (by decide +kernel))) rfl
theorem ke_Reader_takeHead : Cond.selects R_Reader y_Reader_takeHead y_Reader_takeHead ∈ lw_g := lw_in (List.mem_append_left _ (List.mem_map.mpr ⟨(y_Reader_takeHead, 6), by decide +kernel, rfl⟩)) rfl
-- Reader_takeOneName: maxLocals 3, ret (some .boolean)
theorem kc_Reader_takeOneName : Cond.code y_Reader_takeOneName b_Reader_takeOneName 3 (some .boolean) ∈ lw_g := lw_in (List.mem_append_right _ (List.mem_of_getElem? (i := 539) (by decide +kernel))) rfl
theorem d_Reader_takeOneName_0 : decode b_Reader_takeOneName 0 = .ok (.aload_n 1, 1) := by decide +kernel
theorem d_Reader_takeOneName_1 : decode b_Reader_takeOneName 1 = .ok (.iload_n 2, 1) := by decide +kernel
theorem d_Reader_takeOneName_2 : decode b_Reader_takeOneName 2 = .ok (.bipush 97, 2) := by decide +kernel
theorem d_Reader_takeOneName_4 : decode b_Reader_takeOneName 4 = .ok (.isub, 1) := by decide +kernel
theorem d_Reader_takeOneName_5 : decode b_Reader_takeOneName 5 = .ok (.putfield 60, 3) := by decide +kernel
theorem d_Reader_takeOneName_8 : decode b_Reader_takeOneName 8 = .ok (.aload_n 0, 1) := by decide +kernel
theorem d_Reader_takeOneName_9 : decode b_Reader_takeOneName 9 = .ok (.iconst 3, 1) := by decide +kernel
theorem d_Reader_takeOneName_10 : decode b_Reader_takeOneName 10 = .ok (.putfield 28, 3) := by decide +kernel
theorem d_Reader_takeOneName_13 : decode b_Reader_takeOneName 13 = .ok (.iload_n 2, 1) := by decide +kernel
theorem d_Reader_takeOneName_14 : decode b_Reader_takeOneName 14 = .ok (.invokestatic 75, 3) := by decide +kernel
theorem k_Reader_m75 : Cond.methodLink R_Reader 75 y_Reader_isName ∈ lw_g := lw_in (List.mem_append_right _ (List.mem_of_getElem? (i := 423) (by decide +kernel))) rfl
theorem d_Reader_takeOneName_17 : decode b_Reader_takeOneName 17 = .ok (.ireturn, 1) := by decide +kernel
theorem ki_Reader_takeOneName : Cond.instanceMethod y_Reader_takeOneName ∈ lw_g := lw_in (List.mem_append_right _ (List.mem_of_getElem? (i := 538) (by decide +kernel))) rfl
theorem ke_Reader_takeOneName : Cond.selects R_Reader y_Reader_takeOneName y_Reader_takeOneName ∈ lw_g := lw_in (List.mem_append_left _ (List.mem_map.mpr ⟨(y_Reader_takeOneName, 6), by decide +kernel, rfl⟩)) rfl
-- Reader_takeNameOrDot: maxLocals 3, ret (some .boolean)
theorem kc_Reader_takeNameOrDot : Cond.code y_Reader_takeNameOrDot b_Reader_takeNameOrDot 3 (some .boolean) ∈ lw_g := lw_in (List.mem_append_right _ (List.mem_of_getElem? (i := 543) (by decide +kernel))) rfl
theorem d_Reader_takeNameOrDot_0 : decode b_Reader_takeNameOrDot 0 = .ok (.iload_n 2, 1) := by decide +kernel
theorem d_Reader_takeNameOrDot_1 : decode b_Reader_takeNameOrDot 1 = .ok (.bipush 46, 2) := by decide +kernel
theorem d_Reader_takeNameOrDot_3 : decode b_Reader_takeNameOrDot 3 = .ok (.if_icmp .ne 10, 3) := by decide +kernel
theorem d_Reader_takeNameOrDot_6 : decode b_Reader_takeNameOrDot 6 = .ok (.aload_n 0, 1) := by decide +kernel
theorem d_Reader_takeNameOrDot_7 : decode b_Reader_takeNameOrDot 7 = .ok (.iconst 3, 1) := by decide +kernel
theorem d_Reader_takeNameOrDot_8 : decode b_Reader_takeNameOrDot 8 = .ok (.putfield 28, 3) := by decide +kernel
theorem d_Reader_takeNameOrDot_11 : decode b_Reader_takeNameOrDot 11 = .ok (.iconst 1, 1) := by decide +kernel
theorem d_Reader_takeNameOrDot_12 : decode b_Reader_takeNameOrDot 12 = .ok (.ireturn, 1) := by decide +kernel
theorem d_Reader_takeNameOrDot_13 : decode b_Reader_takeNameOrDot 13 = .ok (.iload_n 2, 1) := by decide +kernel
theorem d_Reader_takeNameOrDot_14 : decode b_Reader_takeNameOrDot 14 = .ok (.invokestatic 75, 3) := by decide +kernel
theorem d_Reader_takeNameOrDot_17 : decode b_Reader_takeNameOrDot 17 = .ok (.ifCond .eq 18, 3) := by decide +kernel
theorem d_Reader_takeNameOrDot_20 : decode b_Reader_takeNameOrDot 20 = .ok (.aload_n 1, 1) := by decide +kernel
theorem d_Reader_takeNameOrDot_21 : decode b_Reader_takeNameOrDot 21 = .ok (.iload_n 2, 1) := by decide +kernel
theorem d_Reader_takeNameOrDot_22 : decode b_Reader_takeNameOrDot 22 = .ok (.bipush 97, 2) := by decide +kernel
theorem d_Reader_takeNameOrDot_24 : decode b_Reader_takeNameOrDot 24 = .ok (.isub, 1) := by decide +kernel
theorem d_Reader_takeNameOrDot_25 : decode b_Reader_takeNameOrDot 25 = .ok (.invokevirtual 78, 3) := by decide +kernel
theorem k_Reader_m78 : Cond.methodLink R_Reader 78 y_Expression_addName ∈ lw_g := lw_in (List.mem_append_right _ (List.mem_of_getElem? (i := 544) (by decide +kernel))) rfl
theorem d_Reader_takeNameOrDot_28 : decode b_Reader_takeNameOrDot 28 = .ok (.ifCond .eq 7, 3) := by decide +kernel
theorem d_Reader_takeNameOrDot_31 : decode b_Reader_takeNameOrDot 31 = .ok (.iconst 1, 1) := by decide +kernel
theorem d_Reader_takeNameOrDot_32 : decode b_Reader_takeNameOrDot 32 = .ok (.goto 4, 3) := by decide +kernel
theorem d_Reader_takeNameOrDot_35 : decode b_Reader_takeNameOrDot 35 = .ok (.iconst 0, 1) := by decide +kernel
theorem d_Reader_takeNameOrDot_36 : decode b_Reader_takeNameOrDot 36 = .ok (.ireturn, 1) := by decide +kernel
theorem ki_Reader_takeNameOrDot : Cond.instanceMethod y_Reader_takeNameOrDot ∈ lw_g := lw_in (List.mem_append_right _ (List.mem_of_getElem? (i := 542) (by decide +kernel))) rfl
theorem ke_Reader_takeNameOrDot : Cond.selects R_Reader y_Reader_takeNameOrDot y_Reader_takeNameOrDot ∈ lw_g := lw_in (List.mem_append_left _ (List.mem_map.mpr ⟨(y_Reader_takeNameOrDot, 6), by decide +kernel, rfl⟩)) rfl
-- Reader_takePart: maxLocals 3, ret (some .boolean)
theorem kc_Reader_takePart : Cond.code y_Reader_takePart b_Reader_takePart 3 (some .boolean) ∈ lw_g := lw_in (List.mem_append_right _ (List.mem_of_getElem? (i := 523) (by decide +kernel))) rfl
theorem d_Reader_takePart_0 : decode b_Reader_takePart 0 = .ok (.iload_n 2, 1) := by decide +kernel
theorem d_Reader_takePart_1 : decode b_Reader_takePart 1 = .ok (.bipush 32, 2) := by decide +kernel
theorem d_Reader_takePart_3 : decode b_Reader_takePart 3 = .ok (.if_icmp .ne 5, 3) := by decide +kernel
theorem d_Reader_takePart_6 : decode b_Reader_takePart 6 = .ok (.iconst 1, 1) := by decide +kernel
theorem d_Reader_takePart_7 : decode b_Reader_takePart 7 = .ok (.ireturn, 1) := by decide +kernel
theorem d_Reader_takePart_8 : decode b_Reader_takePart 8 = .ok (.iload_n 2, 1) := by decide +kernel
theorem d_Reader_takePart_9 : decode b_Reader_takePart 9 = .ok (.bipush 41, 2) := by decide +kernel
theorem d_Reader_takePart_11 : decode b_Reader_takePart 11 = .ok (.if_icmp .ne 18, 3) := by decide +kernel
theorem d_Reader_takePart_14 : decode b_Reader_takePart 14 = .ok (.aload_n 0, 1) := by decide +kernel
theorem d_Reader_takePart_15 : decode b_Reader_takePart 15 = .ok (.dup, 1) := by decide +kernel
theorem d_Reader_takePart_16 : decode b_Reader_takePart 16 = .ok (.getfield 25, 3) := by decide +kernel
theorem d_Reader_takePart_19 : decode b_Reader_takePart 19 = .ok (.iconst 1, 1) := by decide +kernel
theorem d_Reader_takePart_20 : decode b_Reader_takePart 20 = .ok (.isub, 1) := by decide +kernel
theorem d_Reader_takePart_21 : decode b_Reader_takePart 21 = .ok (.putfield 25, 3) := by decide +kernel
theorem d_Reader_takePart_24 : decode b_Reader_takePart 24 = .ok (.aload_n 1, 1) := by decide +kernel
theorem d_Reader_takePart_25 : decode b_Reader_takePart 25 = .ok (.invokevirtual 82, 3) := by decide +kernel
theorem k_Reader_m82 : Cond.methodLink R_Reader 82 y_Expression_mayClose ∈ lw_g := lw_in (List.mem_append_right _ (List.mem_of_getElem? (i := 524) (by decide +kernel))) rfl
theorem d_Reader_takePart_28 : decode b_Reader_takePart 28 = .ok (.ireturn, 1) := by decide +kernel
theorem d_Reader_takePart_29 : decode b_Reader_takePart 29 = .ok (.aload_n 0, 1) := by decide +kernel
theorem d_Reader_takePart_30 : decode b_Reader_takePart 30 = .ok (.getfield 21, 3) := by decide +kernel
theorem d_Reader_takePart_33 : decode b_Reader_takePart 33 = .ok (.bipush 120, 2) := by decide +kernel
theorem d_Reader_takePart_35 : decode b_Reader_takePart 35 = .ok (.if_icmp .ge 31, 3) := by decide +kernel
theorem d_Reader_takePart_38 : decode b_Reader_takePart 38 = .ok (.aload_n 1, 1) := by decide +kernel
theorem d_Reader_takePart_39 : decode b_Reader_takePart 39 = .ok (.aload_n 0, 1) := by decide +kernel
theorem d_Reader_takePart_40 : decode b_Reader_takePart 40 = .ok (.getfield 11, 3) := by decide +kernel
theorem d_Reader_takePart_43 : decode b_Reader_takePart 43 = .ok (.aload_n 0, 1) := by decide +kernel
theorem d_Reader_takePart_44 : decode b_Reader_takePart 44 = .ok (.getfield 21, 3) := by decide +kernel
theorem d_Reader_takePart_47 : decode b_Reader_takePart 47 = .ok (.aaload, 1) := by decide +kernel
theorem d_Reader_takePart_48 : decode b_Reader_takePart 48 = .ok (.invokevirtual 86, 3) := by decide +kernel
theorem k_Reader_m86 : Cond.methodLink R_Reader 86 y_Expression_addPart ∈ lw_g := lw_in (List.mem_append_right _ (List.mem_of_getElem? (i := 532) (by decide +kernel))) rfl
theorem d_Reader_takePart_51 : decode b_Reader_takePart 51 = .ok (.ifCond .eq 15, 3) := by decide +kernel
theorem d_Reader_takePart_54 : decode b_Reader_takePart 54 = .ok (.aload_n 0, 1) := by decide +kernel
theorem d_Reader_takePart_55 : decode b_Reader_takePart 55 = .ok (.iload_n 2, 1) := by decide +kernel
theorem d_Reader_takePart_56 : decode b_Reader_takePart 56 = .ok (.invokevirtual 44, 3) := by decide +kernel
theorem d_Reader_takePart_59 : decode b_Reader_takePart 59 = .ok (.ifCond .eq 7, 3) := by decide +kernel
theorem d_Reader_takePart_62 : decode b_Reader_takePart 62 = .ok (.iconst 1, 1) := by decide +kernel
theorem d_Reader_takePart_63 : decode b_Reader_takePart 63 = .ok (.goto 4, 3) := by decide +kernel
theorem d_Reader_takePart_66 : decode b_Reader_takePart 66 = .ok (.iconst 0, 1) := by decide +kernel
theorem d_Reader_takePart_67 : decode b_Reader_takePart 67 = .ok (.ireturn, 1) := by decide +kernel
theorem ki_Reader_takePart : Cond.instanceMethod y_Reader_takePart ∈ lw_g := lw_in (List.mem_append_right _ (List.mem_of_getElem? (i := 522) (by decide +kernel))) rfl
theorem ke_Reader_takePart : Cond.selects R_Reader y_Reader_takePart y_Reader_takePart ∈ lw_g := lw_in (List.mem_append_left _ (List.mem_map.mpr ⟨(y_Reader_takePart, 6), by decide +kernel, rfl⟩)) rfl
-- Reader_takeExpression: maxLocals 3, ret (some .boolean)
theorem kc_Reader_takeExpression : Cond.code y_Reader_takeExpression b_Reader_takeExpression 3 (some .boolean) ∈ lw_g := lw_in (List.mem_append_right _ (List.mem_of_getElem? (i := 418) (by decide +kernel))) rfl
theorem d_Reader_takeExpression_0 : decode b_Reader_takeExpression 0 = .ok (.aload_n 0, 1) := by decide +kernel
theorem d_Reader_takeExpression_1 : decode b_Reader_takeExpression 1 = .ok (.getfield 21, 3) := by decide +kernel
theorem d_Reader_takeExpression_4 : decode b_Reader_takeExpression 4 = .ok (.bipush 120, 2) := by decide +kernel
theorem d_Reader_takeExpression_6 : decode b_Reader_takeExpression 6 = .ok (.if_icmp .lt 5, 3) := by decide +kernel
theorem d_Reader_takeExpression_9 : decode b_Reader_takeExpression 9 = .ok (.iconst 0, 1) := by decide +kernel
theorem d_Reader_takeExpression_10 : decode b_Reader_takeExpression 10 = .ok (.ireturn, 1) := by decide +kernel
theorem d_Reader_takeExpression_11 : decode b_Reader_takeExpression 11 = .ok (.aload_n 0, 1) := by decide +kernel
theorem d_Reader_takeExpression_12 : decode b_Reader_takeExpression 12 = .ok (.getfield 11, 3) := by decide +kernel
theorem d_Reader_takeExpression_15 : decode b_Reader_takeExpression 15 = .ok (.aload_n 0, 1) := by decide +kernel
theorem d_Reader_takeExpression_16 : decode b_Reader_takeExpression 16 = .ok (.getfield 21, 3) := by decide +kernel
theorem d_Reader_takeExpression_19 : decode b_Reader_takeExpression 19 = .ok (.aaload, 1) := by decide +kernel
theorem d_Reader_takeExpression_20 : decode b_Reader_takeExpression 20 = .ok (.astore_n 2, 1) := by decide +kernel
theorem d_Reader_takeExpression_21 : decode b_Reader_takeExpression 21 = .ok (.aload_n 0, 1) := by decide +kernel
theorem d_Reader_takeExpression_22 : decode b_Reader_takeExpression 22 = .ok (.dup, 1) := by decide +kernel
theorem d_Reader_takeExpression_23 : decode b_Reader_takeExpression 23 = .ok (.getfield 21, 3) := by decide +kernel
theorem d_Reader_takeExpression_26 : decode b_Reader_takeExpression 26 = .ok (.iconst 1, 1) := by decide +kernel
theorem d_Reader_takeExpression_27 : decode b_Reader_takeExpression 27 = .ok (.iadd, 1) := by decide +kernel
theorem d_Reader_takeExpression_28 : decode b_Reader_takeExpression 28 = .ok (.putfield 21, 3) := by decide +kernel
theorem d_Reader_takeExpression_31 : decode b_Reader_takeExpression 31 = .ok (.iload_n 1, 1) := by decide +kernel
theorem d_Reader_takeExpression_32 : decode b_Reader_takeExpression 32 = .ok (.invokestatic 38, 3) := by decide +kernel
theorem d_Reader_takeExpression_35 : decode b_Reader_takeExpression 35 = .ok (.ifCond .eq 20, 3) := by decide +kernel
theorem d_Reader_takeExpression_38 : decode b_Reader_takeExpression 38 = .ok (.aload_n 2, 1) := by decide +kernel
theorem d_Reader_takeExpression_39 : decode b_Reader_takeExpression 39 = .ok (.bipush 48, 2) := by decide +kernel
theorem d_Reader_takeExpression_41 : decode b_Reader_takeExpression 41 = .ok (.iload_n 1, 1) := by decide +kernel
theorem d_Reader_takeExpression_42 : decode b_Reader_takeExpression 42 = .ok (.bipush 48, 2) := by decide +kernel
theorem d_Reader_takeExpression_44 : decode b_Reader_takeExpression 44 = .ok (.isub, 1) := by decide +kernel
theorem d_Reader_takeExpression_45 : decode b_Reader_takeExpression 45 = .ok (.invokevirtual 71, 3) := by decide +kernel
theorem d_Reader_takeExpression_48 : decode b_Reader_takeExpression 48 = .ok (.aload_n 0, 1) := by decide +kernel
theorem d_Reader_takeExpression_49 : decode b_Reader_takeExpression 49 = .ok (.iconst 1, 1) := by decide +kernel
theorem d_Reader_takeExpression_50 : decode b_Reader_takeExpression 50 = .ok (.putfield 31, 3) := by decide +kernel
theorem d_Reader_takeExpression_53 : decode b_Reader_takeExpression 53 = .ok (.iconst 1, 1) := by decide +kernel
theorem d_Reader_takeExpression_54 : decode b_Reader_takeExpression 54 = .ok (.ireturn, 1) := by decide +kernel
theorem d_Reader_takeExpression_55 : decode b_Reader_takeExpression 55 = .ok (.iload_n 1, 1) := by decide +kernel
theorem d_Reader_takeExpression_56 : decode b_Reader_takeExpression 56 = .ok (.invokestatic 75, 3) := by decide +kernel
theorem d_Reader_takeExpression_59 : decode b_Reader_takeExpression 59 = .ok (.ifCond .eq 15, 3) := by decide +kernel
theorem d_Reader_takeExpression_62 : decode b_Reader_takeExpression 62 = .ok (.aload_n 2, 1) := by decide +kernel
theorem d_Reader_takeExpression_63 : decode b_Reader_takeExpression 63 = .ok (.bipush 97, 2) := by decide +kernel
theorem d_Reader_takeExpression_65 : decode b_Reader_takeExpression 65 = .ok (.iload_n 1, 1) := by decide +kernel
theorem d_Reader_takeExpression_66 : decode b_Reader_takeExpression 66 = .ok (.bipush 97, 2) := by decide +kernel
theorem d_Reader_takeExpression_68 : decode b_Reader_takeExpression 68 = .ok (.isub, 1) := by decide +kernel
theorem d_Reader_takeExpression_69 : decode b_Reader_takeExpression 69 = .ok (.invokevirtual 71, 3) := by decide +kernel
theorem d_Reader_takeExpression_72 : decode b_Reader_takeExpression 72 = .ok (.iconst 1, 1) := by decide +kernel
theorem d_Reader_takeExpression_73 : decode b_Reader_takeExpression 73 = .ok (.ireturn, 1) := by decide +kernel
theorem d_Reader_takeExpression_74 : decode b_Reader_takeExpression 74 = .ok (.aload_n 2, 1) := by decide +kernel
theorem d_Reader_takeExpression_75 : decode b_Reader_takeExpression 75 = .ok (.iload_n 1, 1) := by decide +kernel
theorem d_Reader_takeExpression_76 : decode b_Reader_takeExpression 76 = .ok (.iconst 0, 1) := by decide +kernel
theorem d_Reader_takeExpression_77 : decode b_Reader_takeExpression 77 = .ok (.invokevirtual 71, 3) := by decide +kernel
theorem d_Reader_takeExpression_80 : decode b_Reader_takeExpression 80 = .ok (.iload_n 1, 1) := by decide +kernel
theorem d_Reader_takeExpression_81 : decode b_Reader_takeExpression 81 = .ok (.bipush 95, 2) := by decide +kernel
theorem d_Reader_takeExpression_83 : decode b_Reader_takeExpression 83 = .ok (.if_icmp .eq 17, 3) := by decide +kernel
theorem d_Reader_takeExpression_86 : decode b_Reader_takeExpression 86 = .ok (.iload_n 1, 1) := by decide +kernel
theorem d_Reader_takeExpression_87 : decode b_Reader_takeExpression 87 = .ok (.bipush 40, 2) := by decide +kernel
theorem d_Reader_takeExpression_89 : decode b_Reader_takeExpression 89 = .ok (.if_icmp .ne 15, 3) := by decide +kernel
theorem d_Reader_takeExpression_92 : decode b_Reader_takeExpression 92 = .ok (.aload_n 0, 1) := by decide +kernel
theorem d_Reader_takeExpression_93 : decode b_Reader_takeExpression 93 = .ok (.aload_n 2, 1) := by decide +kernel
theorem d_Reader_takeExpression_94 : decode b_Reader_takeExpression 94 = .ok (.invokevirtual 90, 3) := by decide +kernel
theorem k_Reader_m90 : Cond.methodLink R_Reader 90 y_Reader_openForm ∈ lw_g := lw_in (List.mem_append_right _ (List.mem_of_getElem? (i := 426) (by decide +kernel))) rfl
theorem d_Reader_takeExpression_97 : decode b_Reader_takeExpression 97 = .ok (.ifCond .eq 7, 3) := by decide +kernel
theorem d_Reader_takeExpression_100 : decode b_Reader_takeExpression 100 = .ok (.iconst 1, 1) := by decide +kernel
theorem d_Reader_takeExpression_101 : decode b_Reader_takeExpression 101 = .ok (.goto 4, 3) := by decide +kernel
theorem d_Reader_takeExpression_104 : decode b_Reader_takeExpression 104 = .ok (.iconst 0, 1) := by decide +kernel
theorem d_Reader_takeExpression_105 : decode b_Reader_takeExpression 105 = .ok (.ireturn, 1) := by decide +kernel
theorem ki_Reader_takeExpression : Cond.instanceMethod y_Reader_takeExpression ∈ lw_g := lw_in (List.mem_append_right _ (List.mem_of_getElem? (i := 417) (by decide +kernel))) rfl
theorem ke_Reader_takeExpression : Cond.selects R_Reader y_Reader_takeExpression y_Reader_takeExpression ∈ lw_g := lw_in (List.mem_append_left _ (List.mem_map.mpr ⟨(y_Reader_takeExpression, 6), by decide +kernel, rfl⟩)) rfl
-- Reader_openForm: maxLocals 2, ret (some .boolean)
theorem kc_Reader_openForm : Cond.code y_Reader_openForm b_Reader_openForm 2 (some .boolean) ∈ lw_g := lw_in (List.mem_append_right _ (List.mem_of_getElem? (i := 429) (by decide +kernel))) rfl
theorem d_Reader_openForm_0 : decode b_Reader_openForm 0 = .ok (.aload_n 0, 1) := by decide +kernel
theorem d_Reader_openForm_1 : decode b_Reader_openForm 1 = .ok (.getfield 25, 3) := by decide +kernel
theorem d_Reader_openForm_4 : decode b_Reader_openForm 4 = .ok (.bipush 12, 2) := by decide +kernel
theorem d_Reader_openForm_6 : decode b_Reader_openForm 6 = .ok (.if_icmp .lt 5, 3) := by decide +kernel
theorem d_Reader_openForm_9 : decode b_Reader_openForm 9 = .ok (.iconst 0, 1) := by decide +kernel
theorem d_Reader_openForm_10 : decode b_Reader_openForm 10 = .ok (.ireturn, 1) := by decide +kernel
theorem d_Reader_openForm_11 : decode b_Reader_openForm 11 = .ok (.aload_n 0, 1) := by decide +kernel
theorem d_Reader_openForm_12 : decode b_Reader_openForm 12 = .ok (.getfield 17, 3) := by decide +kernel
theorem d_Reader_openForm_15 : decode b_Reader_openForm 15 = .ok (.aload_n 0, 1) := by decide +kernel
theorem d_Reader_openForm_16 : decode b_Reader_openForm 16 = .ok (.getfield 25, 3) := by decide +kernel
theorem d_Reader_openForm_19 : decode b_Reader_openForm 19 = .ok (.aload_n 1, 1) := by decide +kernel
theorem d_Reader_openForm_20 : decode b_Reader_openForm 20 = .ok (.aastore, 1) := by decide +kernel
theorem d_Reader_openForm_21 : decode b_Reader_openForm 21 = .ok (.aload_n 0, 1) := by decide +kernel
theorem d_Reader_openForm_22 : decode b_Reader_openForm 22 = .ok (.dup, 1) := by decide +kernel
theorem d_Reader_openForm_23 : decode b_Reader_openForm 23 = .ok (.getfield 25, 3) := by decide +kernel
theorem d_Reader_openForm_26 : decode b_Reader_openForm 26 = .ok (.iconst 1, 1) := by decide +kernel
theorem d_Reader_openForm_27 : decode b_Reader_openForm 27 = .ok (.iadd, 1) := by decide +kernel
theorem d_Reader_openForm_28 : decode b_Reader_openForm 28 = .ok (.putfield 25, 3) := by decide +kernel
theorem d_Reader_openForm_31 : decode b_Reader_openForm 31 = .ok (.aload_n 0, 1) := by decide +kernel
theorem d_Reader_openForm_32 : decode b_Reader_openForm 32 = .ok (.iconst 0, 1) := by decide +kernel
theorem d_Reader_openForm_33 : decode b_Reader_openForm 33 = .ok (.putfield 28, 3) := by decide +kernel
theorem d_Reader_openForm_36 : decode b_Reader_openForm 36 = .ok (.iconst 1, 1) := by decide +kernel
theorem d_Reader_openForm_37 : decode b_Reader_openForm 37 = .ok (.ireturn, 1) := by decide +kernel
theorem ki_Reader_openForm : Cond.instanceMethod y_Reader_openForm ∈ lw_g := lw_in (List.mem_append_right _ (List.mem_of_getElem? (i := 428) (by decide +kernel))) rfl
theorem ke_Reader_openForm : Cond.selects R_Reader y_Reader_openForm y_Reader_openForm ∈ lw_g := lw_in (List.mem_append_left _ (List.mem_map.mpr ⟨(y_Reader_openForm, 6), by decide +kernel, rfl⟩)) rfl
-- Reader_isDigit: maxLocals 1, ret (some .boolean)
theorem kc_Reader_isDigit : Cond.code y_Reader_isDigit b_Reader_isDigit 1 (some .boolean) ∈ lw_g := lw_in (List.mem_append_right _ (List.mem_of_getElem? (i := 410) (by decide +kernel))) rfl
theorem d_Reader_isDigit_0 : decode b_Reader_isDigit 0 = .ok (.iload_n 0, 1) := by decide +kernel
theorem d_Reader_isDigit_1 : decode b_Reader_isDigit 1 = .ok (.bipush 48, 2) := by decide +kernel
theorem d_Reader_isDigit_3 : decode b_Reader_isDigit 3 = .ok (.if_icmp .lt 13, 3) := by decide +kernel
theorem d_Reader_isDigit_6 : decode b_Reader_isDigit 6 = .ok (.iload_n 0, 1) := by decide +kernel
theorem d_Reader_isDigit_7 : decode b_Reader_isDigit 7 = .ok (.bipush 57, 2) := by decide +kernel
theorem d_Reader_isDigit_9 : decode b_Reader_isDigit 9 = .ok (.if_icmp .gt 7, 3) := by decide +kernel
theorem d_Reader_isDigit_12 : decode b_Reader_isDigit 12 = .ok (.iconst 1, 1) := by decide +kernel
theorem d_Reader_isDigit_13 : decode b_Reader_isDigit 13 = .ok (.goto 4, 3) := by decide +kernel
theorem d_Reader_isDigit_16 : decode b_Reader_isDigit 16 = .ok (.iconst 0, 1) := by decide +kernel
theorem d_Reader_isDigit_17 : decode b_Reader_isDigit 17 = .ok (.ireturn, 1) := by decide +kernel
theorem ks_Reader_isDigit : Cond.static y_Reader_isDigit ∈ lw_g := lw_in (List.mem_append_right _ (List.mem_of_getElem? (i := 409) (by decide +kernel))) rfl
-- Reader_isName: maxLocals 1, ret (some .boolean)
theorem kc_Reader_isName : Cond.code y_Reader_isName b_Reader_isName 1 (some .boolean) ∈ lw_g := lw_in (List.mem_append_right _ (List.mem_of_getElem? (i := 425) (by decide +kernel))) rfl
theorem d_Reader_isName_0 : decode b_Reader_isName 0 = .ok (.iload_n 0, 1) := by decide +kernel
theorem d_Reader_isName_1 : decode b_Reader_isName 1 = .ok (.bipush 97, 2) := by decide +kernel
theorem d_Reader_isName_3 : decode b_Reader_isName 3 = .ok (.if_icmp .lt 13, 3) := by decide +kernel
theorem d_Reader_isName_6 : decode b_Reader_isName 6 = .ok (.iload_n 0, 1) := by decide +kernel
theorem d_Reader_isName_7 : decode b_Reader_isName 7 = .ok (.bipush 122, 2) := by decide +kernel
theorem d_Reader_isName_9 : decode b_Reader_isName 9 = .ok (.if_icmp .gt 7, 3) := by decide +kernel
theorem d_Reader_isName_12 : decode b_Reader_isName 12 = .ok (.iconst 1, 1) := by decide +kernel
theorem d_Reader_isName_13 : decode b_Reader_isName 13 = .ok (.goto 4, 3) := by decide +kernel
theorem d_Reader_isName_16 : decode b_Reader_isName 16 = .ok (.iconst 0, 1) := by decide +kernel
theorem d_Reader_isName_17 : decode b_Reader_isName 17 = .ok (.ireturn, 1) := by decide +kernel
theorem ks_Reader_isName : Cond.static y_Reader_isName ∈ lw_g := lw_in (List.mem_append_right _ (List.mem_of_getElem? (i := 424) (by decide +kernel))) rfl
def T_Waiting : u_T := fun k => match k with
  | 0 => ("ContinuationCore$Waiting", "form", "LContinuationCore$Expression;", true)
  | 1 => ("ContinuationCore$Waiting", "scope", "LContinuationCore$Binding;", true)
  | 2 => ("ContinuationCore$Waiting", "done", "[LContinuationCore$Place;", true)
  | 3 => ("ContinuationCore$Waiting", "behind", "LContinuationCore$Waiting;", true)
  | _ => ("ContinuationCore$Waiting", "depth", "I", true)
def ty_Waiting : Nat → FieldType := fun k => match k with
  | 0 => .object "ContinuationCore$Expression"
  | 1 => .object "ContinuationCore$Binding"
  | 2 => .array (.object "ContinuationCore$Place")
  | 3 => .object "ContinuationCore$Waiting"
  | _ => .int
theorem nm_Waiting : ∀ a, a < 5 → ∀ b, b < 5 → a ≠ b → (T_Waiting a).2.1 ≠ (T_Waiting b).2.1 := by decide +kernel
theorem ty_Waiting_ok : ∀ k, k < 5 → parseFieldDescriptor (T_Waiting k).2.2.1 = some (ty_Waiting k) := by decide +kernel
theorem in_Waiting_l : u_ws R_Waiting T_Waiting 5 = ([681, 683, 685, 687, 689] : List Nat).filterMap (fun i => tables_1[i]?) := by decide +kernel
theorem in_Waiting : ∀ w ∈ u_ws R_Waiting T_Waiting 5, w ∈ lw_g := fun w h => by
  have hg : (u_ws R_Waiting T_Waiting 5).all goodWord = true := by decide +kernel
  refine lw_in ?_ (List.all_eq_true.mp hg w h)
  rw [in_Waiting_l] at h
  obtain ⟨i, -, hi⟩ := List.mem_filterMap.mp h
  exact List.mem_append_right _ (List.mem_of_getElem? hi)
theorem k_Waiting_inst : Cond.instantiable R_Waiting 5 ∈ lw_g := lw_in (List.mem_append_right _ (List.mem_of_getElem? (i := 663) (by decide +kernel))) rfl
theorem k_Waiting_ini : Cond.initialized R_Waiting ∈ lw_g := lw_in (List.mem_append_right _ (List.mem_of_getElem? (i := 23) (by decide +kernel))) rfl
-- Waiting_init: maxLocals 7, ret none
theorem kc_Waiting_init : Cond.code y_Waiting_init b_Waiting_init 7 none ∈ lw_g := lw_in (List.mem_append_right _ (List.mem_of_getElem? (i := 666) (by decide +kernel))) rfl
theorem d_Waiting_init_0 : decode b_Waiting_init 0 = .ok (.aload_n 0, 1) := by decide +kernel
theorem d_Waiting_init_1 : decode b_Waiting_init 1 = .ok (.invokespecial 1, 3) := by decide +kernel
theorem k_Waiting_m1 : Cond.methodLink R_Waiting 1 objectInit ∈ lw_g := lw_in (List.mem_append_right _ (List.mem_of_getElem? (i := 667) (by decide +kernel))) rfl
theorem d_Waiting_init_4 : decode b_Waiting_init 4 = .ok (.aload_n 0, 1) := by decide +kernel
theorem d_Waiting_init_5 : decode b_Waiting_init 5 = .ok (.aload_n 1, 1) := by decide +kernel
theorem d_Waiting_init_6 : decode b_Waiting_init 6 = .ok (.putfield 7, 3) := by decide +kernel
theorem k_Waiting_f7 : Cond.fieldLink R_Waiting 7 "ContinuationCore$Waiting" "form" "LContinuationCore$Expression;" ∈ lw_g := lw_in (List.mem_append_right _ (List.mem_of_getElem? (i := 671) (by decide +kernel))) rfl
theorem d_Waiting_init_9 : decode b_Waiting_init 9 = .ok (.aload_n 0, 1) := by decide +kernel
theorem d_Waiting_init_10 : decode b_Waiting_init 10 = .ok (.aload_n 2, 1) := by decide +kernel
theorem d_Waiting_init_11 : decode b_Waiting_init 11 = .ok (.putfield 13, 3) := by decide +kernel
theorem k_Waiting_f13 : Cond.fieldLink R_Waiting 13 "ContinuationCore$Waiting" "scope" "LContinuationCore$Binding;" ∈ lw_g := lw_in (List.mem_append_right _ (List.mem_of_getElem? (i := 673) (by decide +kernel))) rfl
theorem d_Waiting_init_14 : decode b_Waiting_init 14 = .ok (.aload_n 0, 1) := by decide +kernel
theorem d_Waiting_init_15 : decode b_Waiting_init 15 = .ok (.aload 5, 2) := by decide +kernel
theorem d_Waiting_init_17 : decode b_Waiting_init 17 = .ok (.putfield 17, 3) := by decide +kernel
theorem k_Waiting_f17 : Cond.fieldLink R_Waiting 17 "ContinuationCore$Waiting" "behind" "LContinuationCore$Waiting;" ∈ lw_g := lw_in (List.mem_append_right _ (List.mem_of_getElem? (i := 677) (by decide +kernel))) rfl
theorem d_Waiting_init_20 : decode b_Waiting_init 20 = .ok (.aload_n 0, 1) := by decide +kernel
theorem d_Waiting_init_21 : decode b_Waiting_init 21 = .ok (.aload 5, 2) := by decide +kernel
theorem d_Waiting_init_23 : decode b_Waiting_init 23 = .ok (.ifnonnull 7, 3) := by decide +kernel
theorem d_Waiting_init_26 : decode b_Waiting_init 26 = .ok (.iconst 1, 1) := by decide +kernel
theorem d_Waiting_init_27 : decode b_Waiting_init 27 = .ok (.goto 10, 3) := by decide +kernel
theorem d_Waiting_init_30 : decode b_Waiting_init 30 = .ok (.aload 5, 2) := by decide +kernel
theorem d_Waiting_init_32 : decode b_Waiting_init 32 = .ok (.getfield 21, 3) := by decide +kernel
theorem k_Waiting_f21 : Cond.fieldLink R_Waiting 21 "ContinuationCore$Waiting" "depth" "I" ∈ lw_g := lw_in (List.mem_append_right _ (List.mem_of_getElem? (i := 679) (by decide +kernel))) rfl
theorem d_Waiting_init_35 : decode b_Waiting_init 35 = .ok (.iconst 1, 1) := by decide +kernel
theorem d_Waiting_init_36 : decode b_Waiting_init 36 = .ok (.iadd, 1) := by decide +kernel
theorem d_Waiting_init_37 : decode b_Waiting_init 37 = .ok (.putfield 21, 3) := by decide +kernel
theorem d_Waiting_init_40 : decode b_Waiting_init 40 = .ok (.aload_n 0, 1) := by decide +kernel
theorem d_Waiting_init_41 : decode b_Waiting_init 41 = .ok (.iload 4, 2) := by decide +kernel
theorem d_Waiting_init_43 : decode b_Waiting_init 43 = .ok (.anewarray 25, 3) := by decide +kernel
theorem k_Waiting_c25 : Cond.classLink R_Waiting 25 "ContinuationCore$Place" ∈ lw_g := lw_in (List.mem_append_right _ (List.mem_of_getElem? (i := 668) (by decide +kernel))) rfl
theorem d_Waiting_init_46 : decode b_Waiting_init 46 = .ok (.putfield 27, 3) := by decide +kernel
theorem k_Waiting_f27 : Cond.fieldLink R_Waiting 27 "ContinuationCore$Waiting" "done" "[LContinuationCore$Place;" ∈ lw_g := lw_in (List.mem_append_right _ (List.mem_of_getElem? (i := 675) (by decide +kernel))) rfl
theorem d_Waiting_init_49 : decode b_Waiting_init 49 = .ok (.iconst 0, 1) := by decide +kernel
theorem d_Waiting_init_50 : decode b_Waiting_init 50 = .ok (.istore 6, 2) := by decide +kernel
theorem d_Waiting_init_52 : decode b_Waiting_init 52 = .ok (.iload 6, 2) := by decide +kernel
theorem d_Waiting_init_54 : decode b_Waiting_init 54 = .ok (.iload 4, 2) := by decide +kernel
theorem d_Waiting_init_56 : decode b_Waiting_init 56 = .ok (.if_icmp .ge 37, 3) := by decide +kernel
theorem d_Waiting_init_59 : decode b_Waiting_init 59 = .ok (.aload_n 0, 1) := by decide +kernel
theorem d_Waiting_init_60 : decode b_Waiting_init 60 = .ok (.getfield 27, 3) := by decide +kernel
theorem d_Waiting_init_63 : decode b_Waiting_init 63 = .ok (.iload 6, 2) := by decide +kernel
theorem d_Waiting_init_65 : decode b_Waiting_init 65 = .ok (.new 25, 3) := by decide +kernel
theorem d_Waiting_init_68 : decode b_Waiting_init 68 = .ok (.dup, 1) := by decide +kernel
theorem d_Waiting_init_69 : decode b_Waiting_init 69 = .ok (.invokespecial 31, 3) := by decide +kernel
theorem k_Waiting_mn31 : Cond.methodLinkNest R_Waiting 31 y_Place_init "ContinuationCore" ∈ lw_tbl := List.mem_append_right _ (List.mem_of_getElem? (i := 669) (by decide +kernel))
theorem d_Waiting_init_72 : decode b_Waiting_init 72 = .ok (.aastore, 1) := by decide +kernel
theorem d_Waiting_init_73 : decode b_Waiting_init 73 = .ok (.aload_n 0, 1) := by decide +kernel
theorem d_Waiting_init_74 : decode b_Waiting_init 74 = .ok (.getfield 27, 3) := by decide +kernel
theorem d_Waiting_init_77 : decode b_Waiting_init 77 = .ok (.iload 6, 2) := by decide +kernel
theorem d_Waiting_init_79 : decode b_Waiting_init 79 = .ok (.aaload, 1) := by decide +kernel
theorem d_Waiting_init_80 : decode b_Waiting_init 80 = .ok (.aload_n 3, 1) := by decide +kernel
theorem d_Waiting_init_81 : decode b_Waiting_init 81 = .ok (.iload 6, 2) := by decide +kernel
theorem d_Waiting_init_83 : decode b_Waiting_init 83 = .ok (.aaload, 1) := by decide +kernel
theorem d_Waiting_init_84 : decode b_Waiting_init 84 = .ok (.invokevirtual 32, 3) := by decide +kernel
theorem k_Waiting_m32 : Cond.methodLink R_Waiting 32 y_Place_copy ∈ lw_g := lw_in (List.mem_append_right _ (List.mem_of_getElem? (i := 670) (by decide +kernel))) rfl
theorem d_Waiting_init_87 : decode b_Waiting_init 87 = .ok (.iinc 6 1, 3) := by decide +kernel
theorem d_Waiting_init_90 : decode b_Waiting_init 90 = .ok (.goto (-38), 3) := by decide +kernel
theorem d_Waiting_init_93 : decode b_Waiting_init 93 = .ok (.return_, 1) := by decide +kernel
theorem ki_Waiting_init : Cond.instanceMethod y_Waiting_init ∈ lw_g := lw_in (List.mem_append_right _ (List.mem_of_getElem? (i := 665) (by decide +kernel))) rfl
-- Law_text: maxLocals 5, ret (some .int), table [(0, 9, 12, 13), (0, 9, 16, 15)]
theorem kc_Law_text : Cond.codeWith y_Law_text b_Law_text 5 (some .int) [(0, 9, 12, 13), (0, 9, 16, 15)] ∈ lw_g := lw_in (List.mem_append_right _ (List.mem_of_getElem? (i := 304) (by decide +kernel))) rfl
theorem d_Law_text_0 : decode b_Law_text 0 = .ok (.aload_n 3, 1) := by decide +kernel
theorem d_Law_text_1 : decode b_Law_text 1 = .ok (.iconst 0, 1) := by decide +kernel
theorem d_Law_text_2 : decode b_Law_text 2 = .ok (.aload_n 0, 1) := by decide +kernel
theorem d_Law_text_3 : decode b_Law_text 3 = .ok (.lload_n 1, 1) := by decide +kernel
theorem d_Law_text_4 : decode b_Law_text 4 = .ok (.invokevirtual 7, 3) := by decide +kernel
theorem k_Law_m7 : Cond.methodLink R_Law 7 y_C_text ∈ lw_g := lw_in (List.mem_append_right _ (List.mem_of_getElem? (i := 307) (by decide +kernel))) rfl
theorem d_Law_text_7 : decode b_Law_text 7 = .ok (.i2l, 1) := by decide +kernel
theorem d_Law_text_8 : decode b_Law_text 8 = .ok (.lastore, 1) := by decide +kernel
theorem d_Law_text_9 : decode b_Law_text 9 = .ok (.goto 11, 3) := by decide +kernel
theorem d_Law_text_12 : decode b_Law_text 12 = .ok (.astore 4, 2) := by decide +kernel
theorem d_Law_text_14 : decode b_Law_text 14 = .ok (.iconst 1, 1) := by decide +kernel
theorem d_Law_text_15 : decode b_Law_text 15 = .ok (.ireturn, 1) := by decide +kernel
theorem d_Law_text_16 : decode b_Law_text 16 = .ok (.astore 4, 2) := by decide +kernel
theorem d_Law_text_18 : decode b_Law_text 18 = .ok (.iconst 2, 1) := by decide +kernel
theorem d_Law_text_19 : decode b_Law_text 19 = .ok (.ireturn, 1) := by decide +kernel
theorem d_Law_text_20 : decode b_Law_text 20 = .ok (.iconst 0, 1) := by decide +kernel
theorem d_Law_text_21 : decode b_Law_text 21 = .ok (.ireturn, 1) := by decide +kernel
theorem ks_Law_text : Cond.static y_Law_text ∈ lw_g := lw_in (List.mem_append_right _ (List.mem_of_getElem? (i := 303) (by decide +kernel))) rfl
-- Law_clear: maxLocals 3, ret (some .int), table [(0, 8, 11, 13)]
theorem kc_Law_clear : Cond.codeWith y_Law_clear b_Law_clear 3 (some .int) [(0, 8, 11, 13)] ∈ lw_g := lw_in (List.mem_append_right _ (List.mem_of_getElem? (i := 551) (by decide +kernel))) rfl
theorem d_Law_clear_0 : decode b_Law_clear 0 = .ok (.aload_n 1, 1) := by decide +kernel
theorem d_Law_clear_1 : decode b_Law_clear 1 = .ok (.iconst 0, 1) := by decide +kernel
theorem d_Law_clear_2 : decode b_Law_clear 2 = .ok (.aload_n 0, 1) := by decide +kernel
theorem d_Law_clear_3 : decode b_Law_clear 3 = .ok (.invokevirtual 17, 3) := by decide +kernel
theorem k_Law_m17 : Cond.methodLink R_Law 17 y_C_clear ∈ lw_g := lw_in (List.mem_append_right _ (List.mem_of_getElem? (i := 552) (by decide +kernel))) rfl
theorem d_Law_clear_6 : decode b_Law_clear 6 = .ok (.i2l, 1) := by decide +kernel
theorem d_Law_clear_7 : decode b_Law_clear 7 = .ok (.lastore, 1) := by decide +kernel
theorem d_Law_clear_8 : decode b_Law_clear 8 = .ok (.goto 6, 3) := by decide +kernel
theorem d_Law_clear_11 : decode b_Law_clear 11 = .ok (.astore_n 2, 1) := by decide +kernel
theorem d_Law_clear_12 : decode b_Law_clear 12 = .ok (.iconst 1, 1) := by decide +kernel
theorem d_Law_clear_13 : decode b_Law_clear 13 = .ok (.ireturn, 1) := by decide +kernel
theorem d_Law_clear_14 : decode b_Law_clear 14 = .ok (.iconst 0, 1) := by decide +kernel
theorem d_Law_clear_15 : decode b_Law_clear 15 = .ok (.ireturn, 1) := by decide +kernel
theorem ks_Law_clear : Cond.static y_Law_clear ∈ lw_g := lw_in (List.mem_append_right _ (List.mem_of_getElem? (i := 550) (by decide +kernel))) rfl
-- Law_given: maxLocals 5, ret (some .int), table [(0, 10, 13, 13), (0, 10, 17, 15)]
theorem kc_Law_given : Cond.codeWith y_Law_given b_Law_given 5 (some .int) [(0, 10, 13, 13), (0, 10, 17, 15)] ∈ lw_g := lw_in (List.mem_append_right _ (List.mem_of_getElem? (i := 558) (by decide +kernel))) rfl
theorem d_Law_given_0 : decode b_Law_given 0 = .ok (.aload_n 3, 1) := by decide +kernel
theorem d_Law_given_1 : decode b_Law_given 1 = .ok (.iconst 0, 1) := by decide +kernel
theorem d_Law_given_2 : decode b_Law_given 2 = .ok (.aload_n 0, 1) := by decide +kernel
theorem d_Law_given_3 : decode b_Law_given 3 = .ok (.iload_n 1, 1) := by decide +kernel
theorem d_Law_given_4 : decode b_Law_given 4 = .ok (.iload_n 2, 1) := by decide +kernel
theorem d_Law_given_5 : decode b_Law_given 5 = .ok (.invokevirtual 21, 3) := by decide +kernel
theorem k_Law_m21 : Cond.methodLink R_Law 21 y_C_given ∈ lw_g := lw_in (List.mem_append_right _ (List.mem_of_getElem? (i := 559) (by decide +kernel))) rfl
theorem d_Law_given_8 : decode b_Law_given 8 = .ok (.i2l, 1) := by decide +kernel
theorem d_Law_given_9 : decode b_Law_given 9 = .ok (.lastore, 1) := by decide +kernel
theorem d_Law_given_10 : decode b_Law_given 10 = .ok (.goto 11, 3) := by decide +kernel
theorem d_Law_given_13 : decode b_Law_given 13 = .ok (.astore 4, 2) := by decide +kernel
theorem d_Law_given_15 : decode b_Law_given 15 = .ok (.iconst 1, 1) := by decide +kernel
theorem d_Law_given_16 : decode b_Law_given 16 = .ok (.ireturn, 1) := by decide +kernel
theorem d_Law_given_17 : decode b_Law_given 17 = .ok (.astore 4, 2) := by decide +kernel
theorem d_Law_given_19 : decode b_Law_given 19 = .ok (.iconst 2, 1) := by decide +kernel
theorem d_Law_given_20 : decode b_Law_given 20 = .ok (.ireturn, 1) := by decide +kernel
theorem d_Law_given_21 : decode b_Law_given 21 = .ok (.iconst 0, 1) := by decide +kernel
theorem d_Law_given_22 : decode b_Law_given 22 = .ok (.ireturn, 1) := by decide +kernel
theorem ks_Law_given : Cond.static y_Law_given ∈ lw_g := lw_in (List.mem_append_right _ (List.mem_of_getElem? (i := 557) (by decide +kernel))) rfl
-- Law_start: maxLocals 3, ret (some .int), table [(0, 8, 11, 13)]
theorem kc_Law_start : Cond.codeWith y_Law_start b_Law_start 3 (some .int) [(0, 8, 11, 13)] ∈ lw_g := lw_in (List.mem_append_right _ (List.mem_of_getElem? (i := 573) (by decide +kernel))) rfl
theorem d_Law_start_0 : decode b_Law_start 0 = .ok (.aload_n 1, 1) := by decide +kernel
theorem d_Law_start_1 : decode b_Law_start 1 = .ok (.iconst 0, 1) := by decide +kernel
theorem d_Law_start_2 : decode b_Law_start 2 = .ok (.aload_n 0, 1) := by decide +kernel
theorem d_Law_start_3 : decode b_Law_start 3 = .ok (.invokevirtual 25, 3) := by decide +kernel
theorem k_Law_m25 : Cond.methodLink R_Law 25 y_C_start ∈ lw_g := lw_in (List.mem_append_right _ (List.mem_of_getElem? (i := 574) (by decide +kernel))) rfl
theorem d_Law_start_6 : decode b_Law_start 6 = .ok (.i2l, 1) := by decide +kernel
theorem d_Law_start_7 : decode b_Law_start 7 = .ok (.lastore, 1) := by decide +kernel
theorem d_Law_start_8 : decode b_Law_start 8 = .ok (.goto 6, 3) := by decide +kernel
theorem d_Law_start_11 : decode b_Law_start 11 = .ok (.astore_n 2, 1) := by decide +kernel
theorem d_Law_start_12 : decode b_Law_start 12 = .ok (.iconst 1, 1) := by decide +kernel
theorem d_Law_start_13 : decode b_Law_start 13 = .ok (.ireturn, 1) := by decide +kernel
theorem d_Law_start_14 : decode b_Law_start 14 = .ok (.iconst 0, 1) := by decide +kernel
theorem d_Law_start_15 : decode b_Law_start 15 = .ok (.ireturn, 1) := by decide +kernel
theorem ks_Law_start : Cond.static y_Law_start ∈ lw_g := lw_in (List.mem_append_right _ (List.mem_of_getElem? (i := 572) (by decide +kernel))) rfl
-- Law_run: maxLocals 4, ret (some .int), table [(0, 9, 12, 13), (0, 9, 15, 15), (0, 9, 18, 32), (0, 9, 21, 34)]
theorem kc_Law_run : Cond.codeWith y_Law_run b_Law_run 4 (some .int) [(0, 9, 12, 13), (0, 9, 15, 15), (0, 9, 18, 32), (0, 9, 21, 34)] ∈ lw_g := lw_in (List.mem_append_right _ (List.mem_of_getElem? (i := 597) (by decide +kernel))) rfl
theorem d_Law_run_0 : decode b_Law_run 0 = .ok (.aload_n 2, 1) := by decide +kernel
theorem d_Law_run_1 : decode b_Law_run 1 = .ok (.iconst 0, 1) := by decide +kernel
theorem d_Law_run_2 : decode b_Law_run 2 = .ok (.aload_n 0, 1) := by decide +kernel
theorem d_Law_run_3 : decode b_Law_run 3 = .ok (.iload_n 1, 1) := by decide +kernel
theorem d_Law_run_4 : decode b_Law_run 4 = .ok (.invokevirtual 28, 3) := by decide +kernel
theorem k_Law_m28 : Cond.methodLink R_Law 28 y_C_run ∈ lw_g := lw_in (List.mem_append_right _ (List.mem_of_getElem? (i := 600) (by decide +kernel))) rfl
theorem d_Law_run_7 : decode b_Law_run 7 = .ok (.i2l, 1) := by decide +kernel
theorem d_Law_run_8 : decode b_Law_run 8 = .ok (.lastore, 1) := by decide +kernel
theorem d_Law_run_9 : decode b_Law_run 9 = .ok (.goto 15, 3) := by decide +kernel
theorem d_Law_run_12 : decode b_Law_run 12 = .ok (.astore_n 3, 1) := by decide +kernel
theorem d_Law_run_13 : decode b_Law_run 13 = .ok (.iconst 1, 1) := by decide +kernel
theorem d_Law_run_14 : decode b_Law_run 14 = .ok (.ireturn, 1) := by decide +kernel
theorem d_Law_run_15 : decode b_Law_run 15 = .ok (.astore_n 3, 1) := by decide +kernel
theorem d_Law_run_16 : decode b_Law_run 16 = .ok (.iconst 2, 1) := by decide +kernel
theorem d_Law_run_17 : decode b_Law_run 17 = .ok (.ireturn, 1) := by decide +kernel
theorem d_Law_run_18 : decode b_Law_run 18 = .ok (.astore_n 3, 1) := by decide +kernel
theorem d_Law_run_19 : decode b_Law_run 19 = .ok (.iconst 3, 1) := by decide +kernel
theorem d_Law_run_20 : decode b_Law_run 20 = .ok (.ireturn, 1) := by decide +kernel
theorem d_Law_run_21 : decode b_Law_run 21 = .ok (.astore_n 3, 1) := by decide +kernel
theorem d_Law_run_22 : decode b_Law_run 22 = .ok (.iconst 4, 1) := by decide +kernel
theorem d_Law_run_23 : decode b_Law_run 23 = .ok (.ireturn, 1) := by decide +kernel
theorem d_Law_run_24 : decode b_Law_run 24 = .ok (.iconst 0, 1) := by decide +kernel
theorem d_Law_run_25 : decode b_Law_run 25 = .ok (.ireturn, 1) := by decide +kernel
theorem ks_Law_run : Cond.static y_Law_run ∈ lw_g := lw_in (List.mem_append_right _ (List.mem_of_getElem? (i := 596) (by decide +kernel))) rfl
-- Law_stop: maxLocals 3, ret (some .int), table [(0, 8, 11, 13)]
theorem kc_Law_stop : Cond.codeWith y_Law_stop b_Law_stop 3 (some .int) [(0, 8, 11, 13)] ∈ lw_g := lw_in (List.mem_append_right _ (List.mem_of_getElem? (i := 1004) (by decide +kernel))) rfl
theorem d_Law_stop_0 : decode b_Law_stop 0 = .ok (.aload_n 1, 1) := by decide +kernel
theorem d_Law_stop_1 : decode b_Law_stop 1 = .ok (.iconst 0, 1) := by decide +kernel
theorem d_Law_stop_2 : decode b_Law_stop 2 = .ok (.aload_n 0, 1) := by decide +kernel
theorem d_Law_stop_3 : decode b_Law_stop 3 = .ok (.invokevirtual 36, 3) := by decide +kernel
theorem k_Law_m36 : Cond.methodLink R_Law 36 y_C_stop ∈ lw_g := lw_in (List.mem_append_right _ (List.mem_of_getElem? (i := 1005) (by decide +kernel))) rfl
theorem d_Law_stop_6 : decode b_Law_stop 6 = .ok (.i2l, 1) := by decide +kernel
theorem d_Law_stop_7 : decode b_Law_stop 7 = .ok (.lastore, 1) := by decide +kernel
theorem d_Law_stop_8 : decode b_Law_stop 8 = .ok (.goto 6, 3) := by decide +kernel
theorem d_Law_stop_11 : decode b_Law_stop 11 = .ok (.astore_n 2, 1) := by decide +kernel
theorem d_Law_stop_12 : decode b_Law_stop 12 = .ok (.iconst 1, 1) := by decide +kernel
theorem d_Law_stop_13 : decode b_Law_stop 13 = .ok (.ireturn, 1) := by decide +kernel
theorem d_Law_stop_14 : decode b_Law_stop 14 = .ok (.iconst 0, 1) := by decide +kernel
theorem d_Law_stop_15 : decode b_Law_stop 15 = .ok (.ireturn, 1) := by decide +kernel
theorem ks_Law_stop : Cond.static y_Law_stop ∈ lw_g := lw_in (List.mem_append_right _ (List.mem_of_getElem? (i := 1003) (by decide +kernel))) rfl
-- Law_state: maxLocals 4, ret (some .int), table [(0, 9, 12, 15)]
theorem kc_Law_state : Cond.codeWith y_Law_state b_Law_state 4 (some .int) [(0, 9, 12, 15)] ∈ lw_g := lw_in (List.mem_append_right _ (List.mem_of_getElem? (i := 1011) (by decide +kernel))) rfl
theorem d_Law_state_0 : decode b_Law_state 0 = .ok (.aload_n 2, 1) := by decide +kernel
theorem d_Law_state_1 : decode b_Law_state 1 = .ok (.iconst 0, 1) := by decide +kernel
theorem d_Law_state_2 : decode b_Law_state 2 = .ok (.aload_n 0, 1) := by decide +kernel
theorem d_Law_state_3 : decode b_Law_state 3 = .ok (.iload_n 1, 1) := by decide +kernel
theorem d_Law_state_4 : decode b_Law_state 4 = .ok (.invokevirtual 39, 3) := by decide +kernel
theorem k_Law_m39 : Cond.methodLink R_Law 39 y_C_state ∈ lw_g := lw_in (List.mem_append_right _ (List.mem_of_getElem? (i := 1012) (by decide +kernel))) rfl
theorem d_Law_state_7 : decode b_Law_state 7 = .ok (.i2l, 1) := by decide +kernel
theorem d_Law_state_8 : decode b_Law_state 8 = .ok (.lastore, 1) := by decide +kernel
theorem d_Law_state_9 : decode b_Law_state 9 = .ok (.goto 6, 3) := by decide +kernel
theorem d_Law_state_12 : decode b_Law_state 12 = .ok (.astore_n 3, 1) := by decide +kernel
theorem d_Law_state_13 : decode b_Law_state 13 = .ok (.iconst 1, 1) := by decide +kernel
theorem d_Law_state_14 : decode b_Law_state 14 = .ok (.ireturn, 1) := by decide +kernel
theorem d_Law_state_15 : decode b_Law_state 15 = .ok (.iconst 0, 1) := by decide +kernel
theorem d_Law_state_16 : decode b_Law_state 16 = .ok (.ireturn, 1) := by decide +kernel
theorem ks_Law_state : Cond.static y_Law_state ∈ lw_g := lw_in (List.mem_append_right _ (List.mem_of_getElem? (i := 1010) (by decide +kernel))) rfl
-- Law_sign: maxLocals 4, ret (some .int), table [(0, 9, 12, 13), (0, 9, 15, 15)]
theorem kc_Law_sign : Cond.codeWith y_Law_sign b_Law_sign 4 (some .int) [(0, 9, 12, 13), (0, 9, 15, 15)] ∈ lw_g := lw_in (List.mem_append_right _ (List.mem_of_getElem? (i := 1020) (by decide +kernel))) rfl
theorem d_Law_sign_0 : decode b_Law_sign 0 = .ok (.aload_n 2, 1) := by decide +kernel
theorem d_Law_sign_1 : decode b_Law_sign 1 = .ok (.iconst 0, 1) := by decide +kernel
theorem d_Law_sign_2 : decode b_Law_sign 2 = .ok (.aload_n 0, 1) := by decide +kernel
theorem d_Law_sign_3 : decode b_Law_sign 3 = .ok (.iload_n 1, 1) := by decide +kernel
theorem d_Law_sign_4 : decode b_Law_sign 4 = .ok (.invokevirtual 42, 3) := by decide +kernel
theorem k_Law_m42 : Cond.methodLink R_Law 42 y_C_sign ∈ lw_g := lw_in (List.mem_append_right _ (List.mem_of_getElem? (i := 1021) (by decide +kernel))) rfl
theorem d_Law_sign_7 : decode b_Law_sign 7 = .ok (.i2l, 1) := by decide +kernel
theorem d_Law_sign_8 : decode b_Law_sign 8 = .ok (.lastore, 1) := by decide +kernel
theorem d_Law_sign_9 : decode b_Law_sign 9 = .ok (.goto 9, 3) := by decide +kernel
theorem d_Law_sign_12 : decode b_Law_sign 12 = .ok (.astore_n 3, 1) := by decide +kernel
theorem d_Law_sign_13 : decode b_Law_sign 13 = .ok (.iconst 1, 1) := by decide +kernel
theorem d_Law_sign_14 : decode b_Law_sign 14 = .ok (.ireturn, 1) := by decide +kernel
theorem d_Law_sign_15 : decode b_Law_sign 15 = .ok (.astore_n 3, 1) := by decide +kernel
theorem d_Law_sign_16 : decode b_Law_sign 16 = .ok (.iconst 2, 1) := by decide +kernel
theorem d_Law_sign_17 : decode b_Law_sign 17 = .ok (.ireturn, 1) := by decide +kernel
theorem d_Law_sign_18 : decode b_Law_sign 18 = .ok (.iconst 0, 1) := by decide +kernel
theorem d_Law_sign_19 : decode b_Law_sign 19 = .ok (.ireturn, 1) := by decide +kernel
theorem ks_Law_sign : Cond.static y_Law_sign ∈ lw_g := lw_in (List.mem_append_right _ (List.mem_of_getElem? (i := 1019) (by decide +kernel))) rfl
-- Law_global: maxLocals 4, ret (some .int), table [(0, 9, 12, 15), (0, 9, 15, 48)]
theorem kc_Law_global : Cond.codeWith y_Law_global b_Law_global 4 (some .int) [(0, 9, 12, 15), (0, 9, 15, 48)] ∈ lw_g := lw_in (List.mem_append_right _ (List.mem_of_getElem? (i := 1040) (by decide +kernel))) rfl
theorem d_Law_global_0 : decode b_Law_global 0 = .ok (.aload_n 2, 1) := by decide +kernel
theorem d_Law_global_1 : decode b_Law_global 1 = .ok (.iconst 0, 1) := by decide +kernel
theorem d_Law_global_2 : decode b_Law_global 2 = .ok (.aload_n 0, 1) := by decide +kernel
theorem d_Law_global_3 : decode b_Law_global 3 = .ok (.iload_n 1, 1) := by decide +kernel
theorem d_Law_global_4 : decode b_Law_global 4 = .ok (.invokevirtual 45, 3) := by decide +kernel
theorem k_Law_m45 : Cond.methodLink R_Law 45 y_C_global ∈ lw_g := lw_in (List.mem_append_right _ (List.mem_of_getElem? (i := 1042) (by decide +kernel))) rfl
theorem d_Law_global_7 : decode b_Law_global 7 = .ok (.i2l, 1) := by decide +kernel
theorem d_Law_global_8 : decode b_Law_global 8 = .ok (.lastore, 1) := by decide +kernel
theorem d_Law_global_9 : decode b_Law_global 9 = .ok (.goto 9, 3) := by decide +kernel
theorem d_Law_global_12 : decode b_Law_global 12 = .ok (.astore_n 3, 1) := by decide +kernel
theorem d_Law_global_13 : decode b_Law_global 13 = .ok (.iconst 1, 1) := by decide +kernel
theorem d_Law_global_14 : decode b_Law_global 14 = .ok (.ireturn, 1) := by decide +kernel
theorem d_Law_global_15 : decode b_Law_global 15 = .ok (.astore_n 3, 1) := by decide +kernel
theorem d_Law_global_16 : decode b_Law_global 16 = .ok (.iconst 2, 1) := by decide +kernel
theorem d_Law_global_17 : decode b_Law_global 17 = .ok (.ireturn, 1) := by decide +kernel
theorem d_Law_global_18 : decode b_Law_global 18 = .ok (.iconst 0, 1) := by decide +kernel
theorem d_Law_global_19 : decode b_Law_global 19 = .ok (.ireturn, 1) := by decide +kernel
theorem ks_Law_global : Cond.static y_Law_global ∈ lw_g := lw_in (List.mem_append_right _ (List.mem_of_getElem? (i := 1039) (by decide +kernel))) rfl
theorem d_Law_law_0 : decode b_Law_law 0 = .ok (.new 8, 3) := by decide +kernel
theorem k_Law_c8 : Cond.classLink R_Law 8 "ContinuationCore" ∈ lw_g := lw_in (List.mem_append_right _ (List.mem_of_getElem? (i := 31) (by decide +kernel))) rfl
theorem d_Law_law_3 : decode b_Law_law 3 = .ok (.dup, 1) := by decide +kernel
theorem d_Law_law_4 : decode b_Law_law 4 = .ok (.invokespecial 50, 3) := by decide +kernel
theorem k_Law_m50 : Cond.methodLink R_Law 50 y_C_init ∈ lw_g := lw_in (List.mem_append_right _ (List.mem_of_getElem? (i := 33) (by decide +kernel))) rfl
theorem d_Law_law_7 : decode b_Law_law 7 = .ok (.astore_n 1, 1) := by decide +kernel
theorem d_Law_law_8 : decode b_Law_law 8 = .ok (.new 51, 3) := by decide +kernel
theorem k_Law_c51 : Cond.classLink R_Law 51 "ContinuationCoreModel" ∈ lw_g := lw_in (List.mem_append_right _ (List.mem_of_getElem? (i := 1062) (by decide +kernel))) rfl
theorem d_Law_law_11 : decode b_Law_law 11 = .ok (.dup, 1) := by decide +kernel
theorem d_Law_law_12 : decode b_Law_law 12 = .ok (.invokespecial 53, 3) := by decide +kernel
theorem k_Law_m53 : Cond.methodLink R_Law 53 ⟨"ContinuationCoreModel", "<init>", "()V"⟩ ∈ lw_g := lw_in (List.mem_append_right _ (List.mem_of_getElem? (i := 1064) (by decide +kernel))) rfl
theorem d_Law_law_15 : decode b_Law_law 15 = .ok (.astore_n 2, 1) := by decide +kernel
theorem d_Law_law_16 : decode b_Law_law 16 = .ok (.iconst 1, 1) := by decide +kernel
theorem d_Law_law_17 : decode b_Law_law 17 = .ok (.newarray .long, 2) := by decide +kernel
theorem d_Law_law_19 : decode b_Law_law 19 = .ok (.astore_n 3, 1) := by decide +kernel
theorem d_Law_law_20 : decode b_Law_law 20 = .ok (.iconst 0, 1) := by decide +kernel
theorem d_Law_law_21 : decode b_Law_law 21 = .ok (.istore 4, 2) := by decide +kernel
theorem d_Law_law_23 : decode b_Law_law 23 = .ok (.iload 4, 2) := by decide +kernel
theorem d_Law_law_25 : decode b_Law_law 25 = .ok (.aload_n 0, 1) := by decide +kernel
theorem d_Law_law_26 : decode b_Law_law 26 = .ok (.arraylength, 1) := by decide +kernel
theorem d_Law_law_27 : decode b_Law_law 27 = .ok (.iconst 3, 1) := by decide +kernel
theorem d_Law_law_28 : decode b_Law_law 28 = .ok (.isub, 1) := by decide +kernel
theorem d_Law_law_29 : decode b_Law_law 29 = .ok (.if_icmp .gt 594, 3) := by decide +kernel
theorem d_Law_law_32 : decode b_Law_law 32 = .ok (.aload_n 0, 1) := by decide +kernel
theorem d_Law_law_33 : decode b_Law_law 33 = .ok (.iload 4, 2) := by decide +kernel
theorem d_Law_law_35 : decode b_Law_law 35 = .ok (.iaload, 1) := by decide +kernel
theorem d_Law_law_36 : decode b_Law_law 36 = .ok (.bipush 15, 2) := by decide +kernel
theorem d_Law_law_38 : decode b_Law_law 38 = .ok (.iand, 1) := by decide +kernel
theorem d_Law_law_39 : decode b_Law_law 39 = .ok (.tableswitch 578 0 9 #[53, 141, 185, 198, 266, 310, 366, 410, 466, 522], 53) := by decide +kernel
theorem d_Law_law_92 : decode b_Law_law 92 = .ok (.aload_n 1, 1) := by decide +kernel
theorem d_Law_law_93 : decode b_Law_law 93 = .ok (.aload_n 0, 1) := by decide +kernel
theorem d_Law_law_94 : decode b_Law_law 94 = .ok (.iload 4, 2) := by decide +kernel
theorem d_Law_law_96 : decode b_Law_law 96 = .ok (.iconst 1, 1) := by decide +kernel
theorem d_Law_law_97 : decode b_Law_law 97 = .ok (.iadd, 1) := by decide +kernel
theorem d_Law_law_98 : decode b_Law_law 98 = .ok (.iaload, 1) := by decide +kernel
theorem d_Law_law_99 : decode b_Law_law 99 = .ok (.i2l, 1) := by decide +kernel
theorem d_Law_law_100 : decode b_Law_law 100 = .ok (.bipush 32, 2) := by decide +kernel
theorem d_Law_law_102 : decode b_Law_law 102 = .ok (.lshl, 1) := by decide +kernel
theorem d_Law_law_103 : decode b_Law_law 103 = .ok (.aload_n 0, 1) := by decide +kernel
theorem d_Law_law_104 : decode b_Law_law 104 = .ok (.iload 4, 2) := by decide +kernel
theorem d_Law_law_106 : decode b_Law_law 106 = .ok (.iconst 2, 1) := by decide +kernel
theorem d_Law_law_107 : decode b_Law_law 107 = .ok (.iadd, 1) := by decide +kernel
theorem d_Law_law_108 : decode b_Law_law 108 = .ok (.iaload, 1) := by decide +kernel
theorem d_Law_law_109 : decode b_Law_law 109 = .ok (.i2l, 1) := by decide +kernel
theorem d_Law_law_110 : decode b_Law_law 110 = .ok (.ldc2_w 54, 3) := by decide +kernel
theorem d_Law_law_113 : decode b_Law_law 113 = .ok (.land, 1) := by decide +kernel
theorem d_Law_law_114 : decode b_Law_law 114 = .ok (.lor, 1) := by decide +kernel
theorem d_Law_law_115 : decode b_Law_law 115 = .ok (.aload_n 3, 1) := by decide +kernel
theorem d_Law_law_116 : decode b_Law_law 116 = .ok (.invokestatic 56, 3) := by decide +kernel
theorem k_Law_m56 : Cond.methodLink R_Law 56 y_Law_text ∈ lw_g := lw_in (List.mem_append_right _ (List.mem_of_getElem? (i := 302) (by decide +kernel))) rfl
theorem d_Law_law_119 : decode b_Law_law 119 = .ok (.istore 5, 2) := by decide +kernel
theorem d_Law_law_121 : decode b_Law_law 121 = .ok (.aload_n 2, 1) := by decide +kernel
theorem d_Law_law_122 : decode b_Law_law 122 = .ok (.aload_n 0, 1) := by decide +kernel
theorem d_Law_law_123 : decode b_Law_law 123 = .ok (.iload 4, 2) := by decide +kernel
theorem d_Law_law_125 : decode b_Law_law 125 = .ok (.iconst 1, 1) := by decide +kernel
theorem d_Law_law_126 : decode b_Law_law 126 = .ok (.iadd, 1) := by decide +kernel
theorem d_Law_law_127 : decode b_Law_law 127 = .ok (.iaload, 1) := by decide +kernel
theorem d_Law_law_128 : decode b_Law_law 128 = .ok (.i2l, 1) := by decide +kernel
theorem d_Law_law_129 : decode b_Law_law 129 = .ok (.bipush 32, 2) := by decide +kernel
theorem d_Law_law_131 : decode b_Law_law 131 = .ok (.lshl, 1) := by decide +kernel
theorem d_Law_law_132 : decode b_Law_law 132 = .ok (.aload_n 0, 1) := by decide +kernel
theorem d_Law_law_133 : decode b_Law_law 133 = .ok (.iload 4, 2) := by decide +kernel
theorem d_Law_law_135 : decode b_Law_law 135 = .ok (.iconst 2, 1) := by decide +kernel
theorem d_Law_law_136 : decode b_Law_law 136 = .ok (.iadd, 1) := by decide +kernel
theorem d_Law_law_137 : decode b_Law_law 137 = .ok (.iaload, 1) := by decide +kernel
theorem d_Law_law_138 : decode b_Law_law 138 = .ok (.i2l, 1) := by decide +kernel
theorem d_Law_law_139 : decode b_Law_law 139 = .ok (.ldc2_w 54, 3) := by decide +kernel
theorem d_Law_law_142 : decode b_Law_law 142 = .ok (.land, 1) := by decide +kernel
theorem d_Law_law_143 : decode b_Law_law 143 = .ok (.lor, 1) := by decide +kernel
theorem d_Law_law_144 : decode b_Law_law 144 = .ok (.invokevirtual 61, 3) := by decide +kernel
theorem k_Law_m61 : Cond.methodLink R_Law 61 ⟨"ContinuationCoreModel", "text", "(J)I"⟩ ∈ lw_g := lw_in (List.mem_append_right _ (List.mem_of_getElem? (i := 1194) (by decide +kernel))) rfl
theorem d_Law_law_147 : decode b_Law_law 147 = .ok (.istore 6, 2) := by decide +kernel
theorem d_Law_law_149 : decode b_Law_law 149 = .ok (.aload_n 2, 1) := by decide +kernel
theorem d_Law_law_150 : decode b_Law_law 150 = .ok (.invokevirtual 62, 3) := by decide +kernel
theorem k_Law_m62 : Cond.methodLink R_Law 62 ⟨"ContinuationCoreModel", "thrown", "()I"⟩ ∈ lw_g := lw_in (List.mem_append_right _ (List.mem_of_getElem? (i := 1190) (by decide +kernel))) rfl
theorem d_Law_law_153 : decode b_Law_law 153 = .ok (.iload 5, 2) := by decide +kernel
theorem d_Law_law_155 : decode b_Law_law 155 = .ok (.if_icmp .eq 5, 3) := by decide +kernel
theorem d_Law_law_158 : decode b_Law_law 158 = .ok (.iconst 0, 1) := by decide +kernel
theorem d_Law_law_159 : decode b_Law_law 159 = .ok (.ireturn, 1) := by decide +kernel
theorem d_Law_law_160 : decode b_Law_law 160 = .ok (.iload 5, 2) := by decide +kernel
theorem d_Law_law_162 : decode b_Law_law 162 = .ok (.ifCond .ne 15, 3) := by decide +kernel
theorem d_Law_law_165 : decode b_Law_law 165 = .ok (.aload_n 3, 1) := by decide +kernel
theorem d_Law_law_166 : decode b_Law_law 166 = .ok (.iconst 0, 1) := by decide +kernel
theorem d_Law_law_167 : decode b_Law_law 167 = .ok (.laload, 1) := by decide +kernel
theorem d_Law_law_168 : decode b_Law_law 168 = .ok (.iload 6, 2) := by decide +kernel
theorem d_Law_law_170 : decode b_Law_law 170 = .ok (.i2l, 1) := by decide +kernel
theorem d_Law_law_171 : decode b_Law_law 171 = .ok (.lcmp, 1) := by decide +kernel
theorem d_Law_law_172 : decode b_Law_law 172 = .ok (.ifCond .eq 5, 3) := by decide +kernel
theorem d_Law_law_175 : decode b_Law_law 175 = .ok (.iconst 0, 1) := by decide +kernel
theorem d_Law_law_176 : decode b_Law_law 176 = .ok (.ireturn, 1) := by decide +kernel
theorem d_Law_law_177 : decode b_Law_law 177 = .ok (.goto 440, 3) := by decide +kernel
theorem d_Law_law_180 : decode b_Law_law 180 = .ok (.aload_n 1, 1) := by decide +kernel
theorem d_Law_law_181 : decode b_Law_law 181 = .ok (.aload_n 3, 1) := by decide +kernel
theorem d_Law_law_182 : decode b_Law_law 182 = .ok (.invokestatic 65, 3) := by decide +kernel
theorem k_Law_m65 : Cond.methodLink R_Law 65 y_Law_clear ∈ lw_g := lw_in (List.mem_append_right _ (List.mem_of_getElem? (i := 549) (by decide +kernel))) rfl
theorem d_Law_law_185 : decode b_Law_law 185 = .ok (.istore 5, 2) := by decide +kernel
theorem d_Law_law_187 : decode b_Law_law 187 = .ok (.aload_n 2, 1) := by decide +kernel
theorem d_Law_law_188 : decode b_Law_law 188 = .ok (.invokevirtual 68, 3) := by decide +kernel
theorem k_Law_m68 : Cond.methodLink R_Law 68 ⟨"ContinuationCoreModel", "clear", "()I"⟩ ∈ lw_g := lw_in (List.mem_append_right _ (List.mem_of_getElem? (i := 1235) (by decide +kernel))) rfl
theorem d_Law_law_191 : decode b_Law_law 191 = .ok (.istore 6, 2) := by decide +kernel
theorem d_Law_law_193 : decode b_Law_law 193 = .ok (.aload_n 2, 1) := by decide +kernel
theorem d_Law_law_194 : decode b_Law_law 194 = .ok (.invokevirtual 62, 3) := by decide +kernel
theorem d_Law_law_197 : decode b_Law_law 197 = .ok (.iload 5, 2) := by decide +kernel
theorem d_Law_law_199 : decode b_Law_law 199 = .ok (.if_icmp .eq 5, 3) := by decide +kernel
theorem d_Law_law_202 : decode b_Law_law 202 = .ok (.iconst 0, 1) := by decide +kernel
theorem d_Law_law_203 : decode b_Law_law 203 = .ok (.ireturn, 1) := by decide +kernel
theorem d_Law_law_204 : decode b_Law_law 204 = .ok (.iload 5, 2) := by decide +kernel
theorem d_Law_law_206 : decode b_Law_law 206 = .ok (.ifCond .ne 15, 3) := by decide +kernel
theorem d_Law_law_209 : decode b_Law_law 209 = .ok (.aload_n 3, 1) := by decide +kernel
theorem d_Law_law_210 : decode b_Law_law 210 = .ok (.iconst 0, 1) := by decide +kernel
theorem d_Law_law_211 : decode b_Law_law 211 = .ok (.laload, 1) := by decide +kernel
theorem d_Law_law_212 : decode b_Law_law 212 = .ok (.iload 6, 2) := by decide +kernel
theorem d_Law_law_214 : decode b_Law_law 214 = .ok (.i2l, 1) := by decide +kernel
theorem d_Law_law_215 : decode b_Law_law 215 = .ok (.lcmp, 1) := by decide +kernel
theorem d_Law_law_216 : decode b_Law_law 216 = .ok (.ifCond .eq 5, 3) := by decide +kernel
theorem d_Law_law_219 : decode b_Law_law 219 = .ok (.iconst 0, 1) := by decide +kernel
theorem d_Law_law_220 : decode b_Law_law 220 = .ok (.ireturn, 1) := by decide +kernel
theorem d_Law_law_221 : decode b_Law_law 221 = .ok (.goto 396, 3) := by decide +kernel
theorem d_Law_law_224 : decode b_Law_law 224 = .ok (.aload_n 1, 1) := by decide +kernel
theorem d_Law_law_225 : decode b_Law_law 225 = .ok (.invokevirtual 69, 3) := by decide +kernel
theorem k_Law_m69 : Cond.methodLink R_Law 69 y_C_whole ∈ lw_g := lw_in (List.mem_append_right _ (List.mem_of_getElem? (i := 294) (by decide +kernel))) rfl
theorem d_Law_law_228 : decode b_Law_law 228 = .ok (.aload_n 2, 1) := by decide +kernel
theorem d_Law_law_229 : decode b_Law_law 229 = .ok (.invokevirtual 72, 3) := by decide +kernel
theorem k_Law_m72 : Cond.methodLink R_Law 72 ⟨"ContinuationCoreModel", "whole", "()I"⟩ ∈ lw_g := lw_in (List.mem_append_right _ (List.mem_of_getElem? (i := 1239) (by decide +kernel))) rfl
theorem d_Law_law_232 : decode b_Law_law 232 = .ok (.if_icmp .eq 385, 3) := by decide +kernel
theorem d_Law_law_235 : decode b_Law_law 235 = .ok (.iconst 0, 1) := by decide +kernel
theorem d_Law_law_236 : decode b_Law_law 236 = .ok (.ireturn, 1) := by decide +kernel
theorem d_Law_law_237 : decode b_Law_law 237 = .ok (.aload_n 1, 1) := by decide +kernel
theorem d_Law_law_238 : decode b_Law_law 238 = .ok (.aload_n 0, 1) := by decide +kernel
theorem d_Law_law_239 : decode b_Law_law 239 = .ok (.iload 4, 2) := by decide +kernel
theorem d_Law_law_241 : decode b_Law_law 241 = .ok (.iconst 1, 1) := by decide +kernel
theorem d_Law_law_242 : decode b_Law_law 242 = .ok (.iadd, 1) := by decide +kernel
theorem d_Law_law_243 : decode b_Law_law 243 = .ok (.iaload, 1) := by decide +kernel
theorem d_Law_law_244 : decode b_Law_law 244 = .ok (.aload_n 0, 1) := by decide +kernel
theorem d_Law_law_245 : decode b_Law_law 245 = .ok (.iload 4, 2) := by decide +kernel
theorem d_Law_law_247 : decode b_Law_law 247 = .ok (.iconst 2, 1) := by decide +kernel
theorem d_Law_law_248 : decode b_Law_law 248 = .ok (.iadd, 1) := by decide +kernel
theorem d_Law_law_249 : decode b_Law_law 249 = .ok (.iaload, 1) := by decide +kernel
theorem d_Law_law_250 : decode b_Law_law 250 = .ok (.aload_n 3, 1) := by decide +kernel
theorem d_Law_law_251 : decode b_Law_law 251 = .ok (.invokestatic 73, 3) := by decide +kernel
theorem k_Law_m73 : Cond.methodLink R_Law 73 y_Law_given ∈ lw_g := lw_in (List.mem_append_right _ (List.mem_of_getElem? (i := 556) (by decide +kernel))) rfl
theorem d_Law_law_254 : decode b_Law_law 254 = .ok (.istore 5, 2) := by decide +kernel
theorem d_Law_law_256 : decode b_Law_law 256 = .ok (.aload_n 2, 1) := by decide +kernel
theorem d_Law_law_257 : decode b_Law_law 257 = .ok (.aload_n 0, 1) := by decide +kernel
theorem d_Law_law_258 : decode b_Law_law 258 = .ok (.iload 4, 2) := by decide +kernel
theorem d_Law_law_260 : decode b_Law_law 260 = .ok (.iconst 1, 1) := by decide +kernel
theorem d_Law_law_261 : decode b_Law_law 261 = .ok (.iadd, 1) := by decide +kernel
theorem d_Law_law_262 : decode b_Law_law 262 = .ok (.iaload, 1) := by decide +kernel
theorem d_Law_law_263 : decode b_Law_law 263 = .ok (.aload_n 0, 1) := by decide +kernel
theorem d_Law_law_264 : decode b_Law_law 264 = .ok (.iload 4, 2) := by decide +kernel
theorem d_Law_law_266 : decode b_Law_law 266 = .ok (.iconst 2, 1) := by decide +kernel
theorem d_Law_law_267 : decode b_Law_law 267 = .ok (.iadd, 1) := by decide +kernel
theorem d_Law_law_268 : decode b_Law_law 268 = .ok (.iaload, 1) := by decide +kernel
theorem d_Law_law_269 : decode b_Law_law 269 = .ok (.invokevirtual 76, 3) := by decide +kernel
theorem k_Law_m76 : Cond.methodLink R_Law 76 ⟨"ContinuationCoreModel", "given", "(II)I"⟩ ∈ lw_g := lw_in (List.mem_append_right _ (List.mem_of_getElem? (i := 1247) (by decide +kernel))) rfl
theorem d_Law_law_272 : decode b_Law_law 272 = .ok (.istore 6, 2) := by decide +kernel
theorem d_Law_law_274 : decode b_Law_law 274 = .ok (.aload_n 2, 1) := by decide +kernel
theorem d_Law_law_275 : decode b_Law_law 275 = .ok (.invokevirtual 62, 3) := by decide +kernel
theorem d_Law_law_278 : decode b_Law_law 278 = .ok (.iload 5, 2) := by decide +kernel
theorem d_Law_law_280 : decode b_Law_law 280 = .ok (.if_icmp .eq 5, 3) := by decide +kernel
theorem d_Law_law_283 : decode b_Law_law 283 = .ok (.iconst 0, 1) := by decide +kernel
theorem d_Law_law_284 : decode b_Law_law 284 = .ok (.ireturn, 1) := by decide +kernel
theorem d_Law_law_285 : decode b_Law_law 285 = .ok (.iload 5, 2) := by decide +kernel
theorem d_Law_law_287 : decode b_Law_law 287 = .ok (.ifCond .ne 15, 3) := by decide +kernel
theorem d_Law_law_290 : decode b_Law_law 290 = .ok (.aload_n 3, 1) := by decide +kernel
theorem d_Law_law_291 : decode b_Law_law 291 = .ok (.iconst 0, 1) := by decide +kernel
theorem d_Law_law_292 : decode b_Law_law 292 = .ok (.laload, 1) := by decide +kernel
theorem d_Law_law_293 : decode b_Law_law 293 = .ok (.iload 6, 2) := by decide +kernel
theorem d_Law_law_295 : decode b_Law_law 295 = .ok (.i2l, 1) := by decide +kernel
theorem d_Law_law_296 : decode b_Law_law 296 = .ok (.lcmp, 1) := by decide +kernel
theorem d_Law_law_297 : decode b_Law_law 297 = .ok (.ifCond .eq 5, 3) := by decide +kernel
theorem d_Law_law_300 : decode b_Law_law 300 = .ok (.iconst 0, 1) := by decide +kernel
theorem d_Law_law_301 : decode b_Law_law 301 = .ok (.ireturn, 1) := by decide +kernel
theorem d_Law_law_302 : decode b_Law_law 302 = .ok (.goto 315, 3) := by decide +kernel
theorem d_Law_law_305 : decode b_Law_law 305 = .ok (.aload_n 1, 1) := by decide +kernel
theorem d_Law_law_306 : decode b_Law_law 306 = .ok (.aload_n 3, 1) := by decide +kernel
theorem d_Law_law_307 : decode b_Law_law 307 = .ok (.invokestatic 77, 3) := by decide +kernel
theorem k_Law_m77 : Cond.methodLink R_Law 77 y_Law_start ∈ lw_g := lw_in (List.mem_append_right _ (List.mem_of_getElem? (i := 571) (by decide +kernel))) rfl
theorem d_Law_law_310 : decode b_Law_law 310 = .ok (.istore 5, 2) := by decide +kernel
theorem d_Law_law_312 : decode b_Law_law 312 = .ok (.aload_n 2, 1) := by decide +kernel
theorem d_Law_law_313 : decode b_Law_law 313 = .ok (.invokevirtual 79, 3) := by decide +kernel
theorem k_Law_m79 : Cond.methodLink R_Law 79 ⟨"ContinuationCoreModel", "start", "()I"⟩ ∈ lw_g := lw_in (List.mem_append_right _ (List.mem_of_getElem? (i := 1251) (by decide +kernel))) rfl
theorem d_Law_law_316 : decode b_Law_law 316 = .ok (.istore 6, 2) := by decide +kernel
theorem d_Law_law_318 : decode b_Law_law 318 = .ok (.aload_n 2, 1) := by decide +kernel
theorem d_Law_law_319 : decode b_Law_law 319 = .ok (.invokevirtual 62, 3) := by decide +kernel
theorem d_Law_law_322 : decode b_Law_law 322 = .ok (.iload 5, 2) := by decide +kernel
theorem d_Law_law_324 : decode b_Law_law 324 = .ok (.if_icmp .eq 5, 3) := by decide +kernel
theorem d_Law_law_327 : decode b_Law_law 327 = .ok (.iconst 0, 1) := by decide +kernel
theorem d_Law_law_328 : decode b_Law_law 328 = .ok (.ireturn, 1) := by decide +kernel
theorem d_Law_law_329 : decode b_Law_law 329 = .ok (.iload 5, 2) := by decide +kernel
theorem d_Law_law_331 : decode b_Law_law 331 = .ok (.ifCond .ne 15, 3) := by decide +kernel
theorem d_Law_law_334 : decode b_Law_law 334 = .ok (.aload_n 3, 1) := by decide +kernel
theorem d_Law_law_335 : decode b_Law_law 335 = .ok (.iconst 0, 1) := by decide +kernel
theorem d_Law_law_336 : decode b_Law_law 336 = .ok (.laload, 1) := by decide +kernel
theorem d_Law_law_337 : decode b_Law_law 337 = .ok (.iload 6, 2) := by decide +kernel
theorem d_Law_law_339 : decode b_Law_law 339 = .ok (.i2l, 1) := by decide +kernel
theorem d_Law_law_340 : decode b_Law_law 340 = .ok (.lcmp, 1) := by decide +kernel
theorem d_Law_law_341 : decode b_Law_law 341 = .ok (.ifCond .eq 5, 3) := by decide +kernel
theorem d_Law_law_344 : decode b_Law_law 344 = .ok (.iconst 0, 1) := by decide +kernel
theorem d_Law_law_345 : decode b_Law_law 345 = .ok (.ireturn, 1) := by decide +kernel
theorem d_Law_law_346 : decode b_Law_law 346 = .ok (.goto 271, 3) := by decide +kernel
theorem d_Law_law_349 : decode b_Law_law 349 = .ok (.aload_n 1, 1) := by decide +kernel
theorem d_Law_law_350 : decode b_Law_law 350 = .ok (.aload_n 0, 1) := by decide +kernel
theorem d_Law_law_351 : decode b_Law_law 351 = .ok (.iload 4, 2) := by decide +kernel
theorem d_Law_law_353 : decode b_Law_law 353 = .ok (.iconst 1, 1) := by decide +kernel
theorem d_Law_law_354 : decode b_Law_law 354 = .ok (.iadd, 1) := by decide +kernel
theorem d_Law_law_355 : decode b_Law_law 355 = .ok (.iaload, 1) := by decide +kernel
theorem d_Law_law_356 : decode b_Law_law 356 = .ok (.aload_n 3, 1) := by decide +kernel
theorem d_Law_law_357 : decode b_Law_law 357 = .ok (.invokestatic 80, 3) := by decide +kernel
theorem k_Law_m80 : Cond.methodLink R_Law 80 y_Law_run ∈ lw_g := lw_in (List.mem_append_right _ (List.mem_of_getElem? (i := 595) (by decide +kernel))) rfl
theorem d_Law_law_360 : decode b_Law_law 360 = .ok (.istore 5, 2) := by decide +kernel
theorem d_Law_law_362 : decode b_Law_law 362 = .ok (.aload_n 2, 1) := by decide +kernel
theorem d_Law_law_363 : decode b_Law_law 363 = .ok (.aload_n 0, 1) := by decide +kernel
theorem d_Law_law_364 : decode b_Law_law 364 = .ok (.iload 4, 2) := by decide +kernel
theorem d_Law_law_366 : decode b_Law_law 366 = .ok (.iconst 1, 1) := by decide +kernel
theorem d_Law_law_367 : decode b_Law_law 367 = .ok (.iadd, 1) := by decide +kernel
theorem d_Law_law_368 : decode b_Law_law 368 = .ok (.iaload, 1) := by decide +kernel
theorem d_Law_law_369 : decode b_Law_law 369 = .ok (.invokevirtual 83, 3) := by decide +kernel
theorem k_Law_m83 : Cond.methodLink R_Law 83 ⟨"ContinuationCoreModel", "run", "(I)I"⟩ ∈ lw_g := lw_in (List.mem_append_right _ (List.mem_of_getElem? (i := 1259) (by decide +kernel))) rfl
theorem d_Law_law_372 : decode b_Law_law 372 = .ok (.istore 6, 2) := by decide +kernel
theorem d_Law_law_374 : decode b_Law_law 374 = .ok (.aload_n 2, 1) := by decide +kernel
theorem d_Law_law_375 : decode b_Law_law 375 = .ok (.invokevirtual 62, 3) := by decide +kernel
theorem d_Law_law_378 : decode b_Law_law 378 = .ok (.iload 5, 2) := by decide +kernel
theorem d_Law_law_380 : decode b_Law_law 380 = .ok (.if_icmp .eq 5, 3) := by decide +kernel
theorem d_Law_law_383 : decode b_Law_law 383 = .ok (.iconst 0, 1) := by decide +kernel
theorem d_Law_law_384 : decode b_Law_law 384 = .ok (.ireturn, 1) := by decide +kernel
theorem d_Law_law_385 : decode b_Law_law 385 = .ok (.iload 5, 2) := by decide +kernel
theorem d_Law_law_387 : decode b_Law_law 387 = .ok (.ifCond .ne 15, 3) := by decide +kernel
theorem d_Law_law_390 : decode b_Law_law 390 = .ok (.aload_n 3, 1) := by decide +kernel
theorem d_Law_law_391 : decode b_Law_law 391 = .ok (.iconst 0, 1) := by decide +kernel
theorem d_Law_law_392 : decode b_Law_law 392 = .ok (.laload, 1) := by decide +kernel
theorem d_Law_law_393 : decode b_Law_law 393 = .ok (.iload 6, 2) := by decide +kernel
theorem d_Law_law_395 : decode b_Law_law 395 = .ok (.i2l, 1) := by decide +kernel
theorem d_Law_law_396 : decode b_Law_law 396 = .ok (.lcmp, 1) := by decide +kernel
theorem d_Law_law_397 : decode b_Law_law 397 = .ok (.ifCond .eq 5, 3) := by decide +kernel
theorem d_Law_law_400 : decode b_Law_law 400 = .ok (.iconst 0, 1) := by decide +kernel
theorem d_Law_law_401 : decode b_Law_law 401 = .ok (.ireturn, 1) := by decide +kernel
theorem d_Law_law_402 : decode b_Law_law 402 = .ok (.goto 215, 3) := by decide +kernel
theorem d_Law_law_405 : decode b_Law_law 405 = .ok (.aload_n 1, 1) := by decide +kernel
theorem d_Law_law_406 : decode b_Law_law 406 = .ok (.aload_n 3, 1) := by decide +kernel
theorem d_Law_law_407 : decode b_Law_law 407 = .ok (.invokestatic 84, 3) := by decide +kernel
theorem k_Law_m84 : Cond.methodLink R_Law 84 y_Law_stop ∈ lw_g := lw_in (List.mem_append_right _ (List.mem_of_getElem? (i := 1002) (by decide +kernel))) rfl
theorem d_Law_law_410 : decode b_Law_law 410 = .ok (.istore 5, 2) := by decide +kernel
theorem d_Law_law_412 : decode b_Law_law 412 = .ok (.aload_n 2, 1) := by decide +kernel
theorem d_Law_law_413 : decode b_Law_law 413 = .ok (.invokevirtual 86, 3) := by decide +kernel
theorem k_Law_m86 : Cond.methodLink R_Law 86 ⟨"ContinuationCoreModel", "stop", "()I"⟩ ∈ lw_g := lw_in (List.mem_append_right _ (List.mem_of_getElem? (i := 1327) (by decide +kernel))) rfl
theorem d_Law_law_416 : decode b_Law_law 416 = .ok (.istore 6, 2) := by decide +kernel
theorem d_Law_law_418 : decode b_Law_law 418 = .ok (.aload_n 2, 1) := by decide +kernel
theorem d_Law_law_419 : decode b_Law_law 419 = .ok (.invokevirtual 62, 3) := by decide +kernel
theorem d_Law_law_422 : decode b_Law_law 422 = .ok (.iload 5, 2) := by decide +kernel
theorem d_Law_law_424 : decode b_Law_law 424 = .ok (.if_icmp .eq 5, 3) := by decide +kernel
theorem d_Law_law_427 : decode b_Law_law 427 = .ok (.iconst 0, 1) := by decide +kernel
theorem d_Law_law_428 : decode b_Law_law 428 = .ok (.ireturn, 1) := by decide +kernel
theorem d_Law_law_429 : decode b_Law_law 429 = .ok (.iload 5, 2) := by decide +kernel
theorem d_Law_law_431 : decode b_Law_law 431 = .ok (.ifCond .ne 15, 3) := by decide +kernel
theorem d_Law_law_434 : decode b_Law_law 434 = .ok (.aload_n 3, 1) := by decide +kernel
theorem d_Law_law_435 : decode b_Law_law 435 = .ok (.iconst 0, 1) := by decide +kernel
theorem d_Law_law_436 : decode b_Law_law 436 = .ok (.laload, 1) := by decide +kernel
theorem d_Law_law_437 : decode b_Law_law 437 = .ok (.iload 6, 2) := by decide +kernel
theorem d_Law_law_439 : decode b_Law_law 439 = .ok (.i2l, 1) := by decide +kernel
theorem d_Law_law_440 : decode b_Law_law 440 = .ok (.lcmp, 1) := by decide +kernel
theorem d_Law_law_441 : decode b_Law_law 441 = .ok (.ifCond .eq 5, 3) := by decide +kernel
theorem d_Law_law_444 : decode b_Law_law 444 = .ok (.iconst 0, 1) := by decide +kernel
theorem d_Law_law_445 : decode b_Law_law 445 = .ok (.ireturn, 1) := by decide +kernel
theorem d_Law_law_446 : decode b_Law_law 446 = .ok (.goto 171, 3) := by decide +kernel
theorem d_Law_law_449 : decode b_Law_law 449 = .ok (.aload_n 1, 1) := by decide +kernel
theorem d_Law_law_450 : decode b_Law_law 450 = .ok (.aload_n 0, 1) := by decide +kernel
theorem d_Law_law_451 : decode b_Law_law 451 = .ok (.iload 4, 2) := by decide +kernel
theorem d_Law_law_453 : decode b_Law_law 453 = .ok (.iconst 1, 1) := by decide +kernel
theorem d_Law_law_454 : decode b_Law_law 454 = .ok (.iadd, 1) := by decide +kernel
theorem d_Law_law_455 : decode b_Law_law 455 = .ok (.iaload, 1) := by decide +kernel
theorem d_Law_law_456 : decode b_Law_law 456 = .ok (.aload_n 3, 1) := by decide +kernel
theorem d_Law_law_457 : decode b_Law_law 457 = .ok (.invokestatic 87, 3) := by decide +kernel
theorem k_Law_m87 : Cond.methodLink R_Law 87 y_Law_state ∈ lw_g := lw_in (List.mem_append_right _ (List.mem_of_getElem? (i := 1009) (by decide +kernel))) rfl
theorem d_Law_law_460 : decode b_Law_law 460 = .ok (.istore 5, 2) := by decide +kernel
theorem d_Law_law_462 : decode b_Law_law 462 = .ok (.aload_n 2, 1) := by decide +kernel
theorem d_Law_law_463 : decode b_Law_law 463 = .ok (.aload_n 0, 1) := by decide +kernel
theorem d_Law_law_464 : decode b_Law_law 464 = .ok (.iload 4, 2) := by decide +kernel
theorem d_Law_law_466 : decode b_Law_law 466 = .ok (.iconst 1, 1) := by decide +kernel
theorem d_Law_law_467 : decode b_Law_law 467 = .ok (.iadd, 1) := by decide +kernel
theorem d_Law_law_468 : decode b_Law_law 468 = .ok (.iaload, 1) := by decide +kernel
theorem d_Law_law_469 : decode b_Law_law 469 = .ok (.invokevirtual 89, 3) := by decide +kernel
theorem k_Law_m89 : Cond.methodLink R_Law 89 ⟨"ContinuationCoreModel", "state", "(I)I"⟩ ∈ lw_g := lw_in (List.mem_append_right _ (List.mem_of_getElem? (i := 1331) (by decide +kernel))) rfl
theorem d_Law_law_472 : decode b_Law_law 472 = .ok (.istore 6, 2) := by decide +kernel
theorem d_Law_law_474 : decode b_Law_law 474 = .ok (.aload_n 2, 1) := by decide +kernel
theorem d_Law_law_475 : decode b_Law_law 475 = .ok (.invokevirtual 62, 3) := by decide +kernel
theorem d_Law_law_478 : decode b_Law_law 478 = .ok (.iload 5, 2) := by decide +kernel
theorem d_Law_law_480 : decode b_Law_law 480 = .ok (.if_icmp .eq 5, 3) := by decide +kernel
theorem d_Law_law_483 : decode b_Law_law 483 = .ok (.iconst 0, 1) := by decide +kernel
theorem d_Law_law_484 : decode b_Law_law 484 = .ok (.ireturn, 1) := by decide +kernel
theorem d_Law_law_485 : decode b_Law_law 485 = .ok (.iload 5, 2) := by decide +kernel
theorem d_Law_law_487 : decode b_Law_law 487 = .ok (.ifCond .ne 15, 3) := by decide +kernel
theorem d_Law_law_490 : decode b_Law_law 490 = .ok (.aload_n 3, 1) := by decide +kernel
theorem d_Law_law_491 : decode b_Law_law 491 = .ok (.iconst 0, 1) := by decide +kernel
theorem d_Law_law_492 : decode b_Law_law 492 = .ok (.laload, 1) := by decide +kernel
theorem d_Law_law_493 : decode b_Law_law 493 = .ok (.iload 6, 2) := by decide +kernel
theorem d_Law_law_495 : decode b_Law_law 495 = .ok (.i2l, 1) := by decide +kernel
theorem d_Law_law_496 : decode b_Law_law 496 = .ok (.lcmp, 1) := by decide +kernel
theorem d_Law_law_497 : decode b_Law_law 497 = .ok (.ifCond .eq 5, 3) := by decide +kernel
theorem d_Law_law_500 : decode b_Law_law 500 = .ok (.iconst 0, 1) := by decide +kernel
theorem d_Law_law_501 : decode b_Law_law 501 = .ok (.ireturn, 1) := by decide +kernel
theorem d_Law_law_502 : decode b_Law_law 502 = .ok (.goto 115, 3) := by decide +kernel
theorem d_Law_law_505 : decode b_Law_law 505 = .ok (.aload_n 1, 1) := by decide +kernel
theorem d_Law_law_506 : decode b_Law_law 506 = .ok (.aload_n 0, 1) := by decide +kernel
theorem d_Law_law_507 : decode b_Law_law 507 = .ok (.iload 4, 2) := by decide +kernel
theorem d_Law_law_509 : decode b_Law_law 509 = .ok (.iconst 1, 1) := by decide +kernel
theorem d_Law_law_510 : decode b_Law_law 510 = .ok (.iadd, 1) := by decide +kernel
theorem d_Law_law_511 : decode b_Law_law 511 = .ok (.iaload, 1) := by decide +kernel
theorem d_Law_law_512 : decode b_Law_law 512 = .ok (.aload_n 3, 1) := by decide +kernel
theorem d_Law_law_513 : decode b_Law_law 513 = .ok (.invokestatic 90, 3) := by decide +kernel
theorem k_Law_m90 : Cond.methodLink R_Law 90 y_Law_sign ∈ lw_g := lw_in (List.mem_append_right _ (List.mem_of_getElem? (i := 1018) (by decide +kernel))) rfl
theorem d_Law_law_516 : decode b_Law_law 516 = .ok (.istore 5, 2) := by decide +kernel
theorem d_Law_law_518 : decode b_Law_law 518 = .ok (.aload_n 2, 1) := by decide +kernel
theorem d_Law_law_519 : decode b_Law_law 519 = .ok (.aload_n 0, 1) := by decide +kernel
theorem d_Law_law_520 : decode b_Law_law 520 = .ok (.iload 4, 2) := by decide +kernel
theorem d_Law_law_522 : decode b_Law_law 522 = .ok (.iconst 1, 1) := by decide +kernel
theorem d_Law_law_523 : decode b_Law_law 523 = .ok (.iadd, 1) := by decide +kernel
theorem d_Law_law_524 : decode b_Law_law 524 = .ok (.iaload, 1) := by decide +kernel
theorem d_Law_law_525 : decode b_Law_law 525 = .ok (.invokevirtual 92, 3) := by decide +kernel
theorem k_Law_m92 : Cond.methodLink R_Law 92 ⟨"ContinuationCoreModel", "sign", "(I)I"⟩ ∈ lw_g := lw_in (List.mem_append_right _ (List.mem_of_getElem? (i := 1335) (by decide +kernel))) rfl
theorem d_Law_law_528 : decode b_Law_law 528 = .ok (.istore 6, 2) := by decide +kernel
theorem d_Law_law_530 : decode b_Law_law 530 = .ok (.aload_n 2, 1) := by decide +kernel
theorem d_Law_law_531 : decode b_Law_law 531 = .ok (.invokevirtual 62, 3) := by decide +kernel
theorem d_Law_law_534 : decode b_Law_law 534 = .ok (.iload 5, 2) := by decide +kernel
theorem d_Law_law_536 : decode b_Law_law 536 = .ok (.if_icmp .eq 5, 3) := by decide +kernel
theorem d_Law_law_539 : decode b_Law_law 539 = .ok (.iconst 0, 1) := by decide +kernel
theorem d_Law_law_540 : decode b_Law_law 540 = .ok (.ireturn, 1) := by decide +kernel
theorem d_Law_law_541 : decode b_Law_law 541 = .ok (.iload 5, 2) := by decide +kernel
theorem d_Law_law_543 : decode b_Law_law 543 = .ok (.ifCond .ne 15, 3) := by decide +kernel
theorem d_Law_law_546 : decode b_Law_law 546 = .ok (.aload_n 3, 1) := by decide +kernel
theorem d_Law_law_547 : decode b_Law_law 547 = .ok (.iconst 0, 1) := by decide +kernel
theorem d_Law_law_548 : decode b_Law_law 548 = .ok (.laload, 1) := by decide +kernel
theorem d_Law_law_549 : decode b_Law_law 549 = .ok (.iload 6, 2) := by decide +kernel
theorem d_Law_law_551 : decode b_Law_law 551 = .ok (.i2l, 1) := by decide +kernel
theorem d_Law_law_552 : decode b_Law_law 552 = .ok (.lcmp, 1) := by decide +kernel
theorem d_Law_law_553 : decode b_Law_law 553 = .ok (.ifCond .eq 5, 3) := by decide +kernel
theorem d_Law_law_556 : decode b_Law_law 556 = .ok (.iconst 0, 1) := by decide +kernel
theorem d_Law_law_557 : decode b_Law_law 557 = .ok (.ireturn, 1) := by decide +kernel
theorem d_Law_law_558 : decode b_Law_law 558 = .ok (.goto 59, 3) := by decide +kernel
theorem d_Law_law_561 : decode b_Law_law 561 = .ok (.aload_n 1, 1) := by decide +kernel
theorem d_Law_law_562 : decode b_Law_law 562 = .ok (.aload_n 0, 1) := by decide +kernel
theorem d_Law_law_563 : decode b_Law_law 563 = .ok (.iload 4, 2) := by decide +kernel
theorem d_Law_law_565 : decode b_Law_law 565 = .ok (.iconst 1, 1) := by decide +kernel
theorem d_Law_law_566 : decode b_Law_law 566 = .ok (.iadd, 1) := by decide +kernel
theorem d_Law_law_567 : decode b_Law_law 567 = .ok (.iaload, 1) := by decide +kernel
theorem d_Law_law_568 : decode b_Law_law 568 = .ok (.aload_n 3, 1) := by decide +kernel
theorem d_Law_law_569 : decode b_Law_law 569 = .ok (.invokestatic 93, 3) := by decide +kernel
theorem k_Law_m93 : Cond.methodLink R_Law 93 y_Law_global ∈ lw_g := lw_in (List.mem_append_right _ (List.mem_of_getElem? (i := 1038) (by decide +kernel))) rfl
theorem d_Law_law_572 : decode b_Law_law 572 = .ok (.istore 5, 2) := by decide +kernel
theorem d_Law_law_574 : decode b_Law_law 574 = .ok (.aload_n 2, 1) := by decide +kernel
theorem d_Law_law_575 : decode b_Law_law 575 = .ok (.aload_n 0, 1) := by decide +kernel
theorem d_Law_law_576 : decode b_Law_law 576 = .ok (.iload 4, 2) := by decide +kernel
theorem d_Law_law_578 : decode b_Law_law 578 = .ok (.iconst 1, 1) := by decide +kernel
theorem d_Law_law_579 : decode b_Law_law 579 = .ok (.iadd, 1) := by decide +kernel
theorem d_Law_law_580 : decode b_Law_law 580 = .ok (.iaload, 1) := by decide +kernel
theorem d_Law_law_581 : decode b_Law_law 581 = .ok (.invokevirtual 95, 3) := by decide +kernel
theorem k_Law_m95 : Cond.methodLink R_Law 95 ⟨"ContinuationCoreModel", "global", "(I)I"⟩ ∈ lw_g := lw_in (List.mem_append_right _ (List.mem_of_getElem? (i := 1349) (by decide +kernel))) rfl
theorem d_Law_law_584 : decode b_Law_law 584 = .ok (.istore 6, 2) := by decide +kernel
theorem d_Law_law_586 : decode b_Law_law 586 = .ok (.aload_n 2, 1) := by decide +kernel
theorem d_Law_law_587 : decode b_Law_law 587 = .ok (.invokevirtual 62, 3) := by decide +kernel
theorem d_Law_law_590 : decode b_Law_law 590 = .ok (.iload 5, 2) := by decide +kernel
theorem d_Law_law_592 : decode b_Law_law 592 = .ok (.if_icmp .eq 5, 3) := by decide +kernel
theorem d_Law_law_595 : decode b_Law_law 595 = .ok (.iconst 0, 1) := by decide +kernel
theorem d_Law_law_596 : decode b_Law_law 596 = .ok (.ireturn, 1) := by decide +kernel
theorem d_Law_law_597 : decode b_Law_law 597 = .ok (.iload 5, 2) := by decide +kernel
theorem d_Law_law_599 : decode b_Law_law 599 = .ok (.ifCond .ne 15, 3) := by decide +kernel
theorem d_Law_law_602 : decode b_Law_law 602 = .ok (.aload_n 3, 1) := by decide +kernel
theorem d_Law_law_603 : decode b_Law_law 603 = .ok (.iconst 0, 1) := by decide +kernel
theorem d_Law_law_604 : decode b_Law_law 604 = .ok (.laload, 1) := by decide +kernel
theorem d_Law_law_605 : decode b_Law_law 605 = .ok (.iload 6, 2) := by decide +kernel
theorem d_Law_law_607 : decode b_Law_law 607 = .ok (.i2l, 1) := by decide +kernel
theorem d_Law_law_608 : decode b_Law_law 608 = .ok (.lcmp, 1) := by decide +kernel
theorem d_Law_law_609 : decode b_Law_law 609 = .ok (.ifCond .eq 5, 3) := by decide +kernel
theorem d_Law_law_612 : decode b_Law_law 612 = .ok (.iconst 0, 1) := by decide +kernel
theorem d_Law_law_613 : decode b_Law_law 613 = .ok (.ireturn, 1) := by decide +kernel
theorem d_Law_law_614 : decode b_Law_law 614 = .ok (.goto 3, 3) := by decide +kernel
theorem d_Law_law_617 : decode b_Law_law 617 = .ok (.iinc 4 3, 3) := by decide +kernel
theorem d_Law_law_620 : decode b_Law_law 620 = .ok (.goto (-597), 3) := by decide +kernel
theorem d_Law_law_623 : decode b_Law_law 623 = .ok (.iconst 1, 1) := by decide +kernel
theorem d_Law_law_624 : decode b_Law_law 624 = .ok (.ireturn, 1) := by decide +kernel
