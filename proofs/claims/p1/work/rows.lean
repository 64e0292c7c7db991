section
-- ===== PART A: goes FIRST, ahead of the names: the tables' words, and 'selects' of the private methods out of them =====
/-- a private method of a class that the tables say can be made, by its rows of tables_1 -/
def lw_okq (q : MethodName × Nat) : Prop := (q.1.cls ≠ "java/lang/invoke/MethodHandle" ∧ q.1.cls ≠ "java/lang/invoke/VarHandle") ∧ Cond.instantiable q.1.cls q.2 ∈ tables_1 ∧ Cond.privateMethod q.1 ∈ tables_1 ∧ Cond.instanceMethod q.1 ∈ tables_1
theorem lw_p0 : lw_okq (⟨"java/lang/Throwable", "fillInStackTrace", "(I)Ljava/lang/Throwable;"⟩, 6) := ⟨⟨by decide +kernel, by decide +kernel⟩, List.mem_of_getElem? (i := 299) (by decide +kernel), List.mem_of_getElem? (i := 297) (by decide +kernel), List.mem_of_getElem? (i := 298) (by decide +kernel)⟩
theorem lw_p1 : lw_okq (⟨"ContinuationCore", "putBehind", "(J)I"⟩, 6) := ⟨⟨by decide +kernel, by decide +kernel⟩, List.mem_of_getElem? (i := 35) (by decide +kernel), List.mem_of_getElem? (i := 328) (by decide +kernel), List.mem_of_getElem? (i := 329) (by decide +kernel)⟩
theorem lw_p2 : lw_okq (⟨"ContinuationCore$Reader", "take", "(C)Z"⟩, 6) := ⟨⟨by decide +kernel, by decide +kernel⟩, List.mem_of_getElem? (i := 43) (by decide +kernel), List.mem_of_getElem? (i := 352) (by decide +kernel), List.mem_of_getElem? (i := 353) (by decide +kernel)⟩
theorem lw_p3 : lw_okq (⟨"ContinuationCore$Reader", "takeDigit", "(C)Z"⟩, 6) := ⟨⟨by decide +kernel, by decide +kernel⟩, List.mem_of_getElem? (i := 43) (by decide +kernel), List.mem_of_getElem? (i := 359) (by decide +kernel), List.mem_of_getElem? (i := 360) (by decide +kernel)⟩
theorem lw_p4 : lw_okq (⟨"ContinuationCore$Reader", "takeExpression", "(C)Z"⟩, 6) := ⟨⟨by decide +kernel, by decide +kernel⟩, List.mem_of_getElem? (i := 43) (by decide +kernel), List.mem_of_getElem? (i := 363) (by decide +kernel), List.mem_of_getElem? (i := 364) (by decide +kernel)⟩
theorem lw_p5 : lw_okq (⟨"ContinuationCore$Reader", "openForm", "(LContinuationCore$Expression;)Z"⟩, 6) := ⟨⟨by decide +kernel, by decide +kernel⟩, List.mem_of_getElem? (i := 43) (by decide +kernel), List.mem_of_getElem? (i := 374) (by decide +kernel), List.mem_of_getElem? (i := 375) (by decide +kernel)⟩
theorem lw_p6 : lw_okq (⟨"ContinuationCore$Reader", "takeHead", "(LContinuationCore$Expression;C)Z"⟩, 6) := ⟨⟨by decide +kernel, by decide +kernel⟩, List.mem_of_getElem? (i := 43) (by decide +kernel), List.mem_of_getElem? (i := 378) (by decide +kernel), List.mem_of_getElem? (i := 379) (by decide +kernel)⟩
theorem lw_p7 : lw_okq (⟨"ContinuationCore$Reader", "takePart", "(LContinuationCore$Expression;C)Z"⟩, 6) := ⟨⟨by decide +kernel, by decide +kernel⟩, List.mem_of_getElem? (i := 43) (by decide +kernel), List.mem_of_getElem? (i := 468) (by decide +kernel), List.mem_of_getElem? (i := 469) (by decide +kernel)⟩
theorem lw_p8 : lw_okq (⟨"ContinuationCore$Expression", "mostParts", "()I"⟩, 6) := ⟨⟨by decide +kernel, by decide +kernel⟩, List.mem_of_getElem? (i := 50) (by decide +kernel), List.mem_of_getElem? (i := 476) (by decide +kernel), List.mem_of_getElem? (i := 477) (by decide +kernel)⟩
theorem lw_p9 : lw_okq (⟨"ContinuationCore$Reader", "takeOneName", "(LContinuationCore$Expression;C)Z"⟩, 6) := ⟨⟨by decide +kernel, by decide +kernel⟩, List.mem_of_getElem? (i := 43) (by decide +kernel), List.mem_of_getElem? (i := 484) (by decide +kernel), List.mem_of_getElem? (i := 485) (by decide +kernel)⟩
theorem lw_p10 : lw_okq (⟨"ContinuationCore$Reader", "takeNameOrDot", "(LContinuationCore$Expression;C)Z"⟩, 6) := ⟨⟨by decide +kernel, by decide +kernel⟩, List.mem_of_getElem? (i := 43) (by decide +kernel), List.mem_of_getElem? (i := 488) (by decide +kernel), List.mem_of_getElem? (i := 489) (by decide +kernel)⟩
theorem lw_p11 : lw_okq (⟨"ContinuationCore$Machine", "goLast", "(LContinuationCore$Expression;LContinuationCore$Binding;)LContinuationCore$Value;"⟩, 12) := ⟨⟨by decide +kernel, by decide +kernel⟩, List.mem_of_getElem? (i := 105) (by decide +kernel), List.mem_of_getElem? (i := 542) (by decide +kernel), List.mem_of_getElem? (i := 543) (by decide +kernel)⟩
theorem lw_p12 : lw_okq (⟨"ContinuationCore$Machine", "begin", "(LContinuationCore$Expression;LContinuationCore$Binding;)LContinuationCore$Value;"⟩, 12) := ⟨⟨by decide +kernel, by decide +kernel⟩, List.mem_of_getElem? (i := 105) (by decide +kernel), List.mem_of_getElem? (i := 561) (by decide +kernel), List.mem_of_getElem? (i := 562) (by decide +kernel)⟩
theorem lw_p13 : lw_okq (⟨"ContinuationCore$Machine", "valueOf", "(ILContinuationCore$Binding;)LContinuationCore$Value;"⟩, 12) := ⟨⟨by decide +kernel, by decide +kernel⟩, List.mem_of_getElem? (i := 105) (by decide +kernel), List.mem_of_getElem? (i := 567) (by decide +kernel), List.mem_of_getElem? (i := 568) (by decide +kernel)⟩
theorem lw_p14 : lw_okq (⟨"ContinuationCore$Machine", "fail", "(I)LContinuationCore$Value;"⟩, 12) := ⟨⟨by decide +kernel, by decide +kernel⟩, List.mem_of_getElem? (i := 105) (by decide +kernel), List.mem_of_getElem? (i := 574) (by decide +kernel), List.mem_of_getElem? (i := 575) (by decide +kernel)⟩
theorem lw_p15 : lw_okq (⟨"ContinuationCore$Machine", "bind", "(ILContinuationCore$Value;LContinuationCore$Binding;)LContinuationCore$Binding;"⟩, 12) := ⟨⟨by decide +kernel, by decide +kernel⟩, List.mem_of_getElem? (i := 105) (by decide +kernel), List.mem_of_getElem? (i := 593) (by decide +kernel), List.mem_of_getElem? (i := 594) (by decide +kernel)⟩
def lw_privs_1 : List (MethodName × Nat) := [(⟨"java/lang/Throwable", "fillInStackTrace", "(I)Ljava/lang/Throwable;"⟩, 6), (⟨"ContinuationCore", "putBehind", "(J)I"⟩, 6), (⟨"ContinuationCore$Reader", "take", "(C)Z"⟩, 6), (⟨"ContinuationCore$Reader", "takeDigit", "(C)Z"⟩, 6), (⟨"ContinuationCore$Reader", "takeExpression", "(C)Z"⟩, 6), (⟨"ContinuationCore$Reader", "openForm", "(LContinuationCore$Expression;)Z"⟩, 6), (⟨"ContinuationCore$Reader", "takeHead", "(LContinuationCore$Expression;C)Z"⟩, 6), (⟨"ContinuationCore$Reader", "takePart", "(LContinuationCore$Expression;C)Z"⟩, 6), (⟨"ContinuationCore$Expression", "mostParts", "()I"⟩, 6), (⟨"ContinuationCore$Reader", "takeOneName", "(LContinuationCore$Expression;C)Z"⟩, 6), (⟨"ContinuationCore$Reader", "takeNameOrDot", "(LContinuationCore$Expression;C)Z"⟩, 6), (⟨"ContinuationCore$Machine", "goLast", "(LContinuationCore$Expression;LContinuationCore$Binding;)LContinuationCore$Value;"⟩, 12), (⟨"ContinuationCore$Machine", "begin", "(LContinuationCore$Expression;LContinuationCore$Binding;)LContinuationCore$Value;"⟩, 12), (⟨"ContinuationCore$Machine", "valueOf", "(ILContinuationCore$Binding;)LContinuationCore$Value;"⟩, 12), (⟨"ContinuationCore$Machine", "fail", "(I)LContinuationCore$Value;"⟩, 12), (⟨"ContinuationCore$Machine", "bind", "(ILContinuationCore$Value;LContinuationCore$Binding;)LContinuationCore$Binding;"⟩, 12)]
theorem lw_r1 : ∀ q ∈ lw_privs_1, lw_okq q := List.forall_mem_cons.mpr ⟨lw_p0, List.forall_mem_cons.mpr ⟨lw_p1, List.forall_mem_cons.mpr ⟨lw_p2, List.forall_mem_cons.mpr ⟨lw_p3, List.forall_mem_cons.mpr ⟨lw_p4, List.forall_mem_cons.mpr ⟨lw_p5, List.forall_mem_cons.mpr ⟨lw_p6, List.forall_mem_cons.mpr ⟨lw_p7, List.forall_mem_cons.mpr ⟨lw_p8, List.forall_mem_cons.mpr ⟨lw_p9, List.forall_mem_cons.mpr ⟨lw_p10, List.forall_mem_cons.mpr ⟨lw_p11, List.forall_mem_cons.mpr ⟨lw_p12, List.forall_mem_cons.mpr ⟨lw_p13, List.forall_mem_cons.mpr ⟨lw_p14, List.forall_mem_cons.mpr ⟨lw_p15, fun _ h => absurd h List.not_mem_nil⟩⟩⟩⟩⟩⟩⟩⟩⟩⟩⟩⟩⟩⟩⟩⟩
theorem lw_p16 : lw_okq (⟨"ContinuationCore$Machine", "await", "(LContinuationCore$Expression;LContinuationCore$Binding;[LContinuationCore$Value;)LContinuationCore$Value;"⟩, 12) := ⟨⟨by decide +kernel, by decide +kernel⟩, List.mem_of_getElem? (i := 105) (by decide +kernel), List.mem_of_getElem? (i := 597) (by decide +kernel), List.mem_of_getElem? (i := 598) (by decide +kernel)⟩
theorem lw_p17 : lw_okq (⟨"ContinuationCore$Machine", "goOn", "(LContinuationCore$Waiting;LContinuationCore$Value;)LContinuationCore$Value;"⟩, 12) := ⟨⟨by decide +kernel, by decide +kernel⟩, List.mem_of_getElem? (i := 105) (by decide +kernel), List.mem_of_getElem? (i := 876) (by decide +kernel), List.mem_of_getElem? (i := 877) (by decide +kernel)⟩
theorem lw_p18 : lw_okq (⟨"ContinuationCore$Machine", "complete", "(LContinuationCore$Expression;LContinuationCore$Binding;[LContinuationCore$Value;)LContinuationCore$Value;"⟩, 12) := ⟨⟨by decide +kernel, by decide +kernel⟩, List.mem_of_getElem? (i := 105) (by decide +kernel), List.mem_of_getElem? (i := 888) (by decide +kernel), List.mem_of_getElem? (i := 889) (by decide +kernel)⟩
theorem lw_p19 : lw_okq (⟨"ContinuationCore$Machine", "call", "([LContinuationCore$Value;)LContinuationCore$Value;"⟩, 12) := ⟨⟨by decide +kernel, by decide +kernel⟩, List.mem_of_getElem? (i := 105) (by decide +kernel), List.mem_of_getElem? (i := 892) (by decide +kernel), List.mem_of_getElem? (i := 893) (by decide +kernel)⟩
theorem lw_p20 : lw_okq (⟨"ContinuationCore$Machine", "assign", "(ILContinuationCore$Value;LContinuationCore$Binding;)LContinuationCore$Value;"⟩, 12) := ⟨⟨by decide +kernel, by decide +kernel⟩, List.mem_of_getElem? (i := 105) (by decide +kernel), List.mem_of_getElem? (i := 907) (by decide +kernel), List.mem_of_getElem? (i := 908) (by decide +kernel)⟩
theorem lw_p21 : lw_okq (⟨"ContinuationCore$Machine", "makePair", "(LContinuationCore$Value;LContinuationCore$Value;)LContinuationCore$Value;"⟩, 12) := ⟨⟨by decide +kernel, by decide +kernel⟩, List.mem_of_getElem? (i := 105) (by decide +kernel), List.mem_of_getElem? (i := 915) (by decide +kernel), List.mem_of_getElem? (i := 916) (by decide +kernel)⟩
theorem lw_p22 : lw_okq (⟨"ContinuationCore$Machine", "reckon", "(CLContinuationCore$Value;LContinuationCore$Value;)LContinuationCore$Value;"⟩, 12) := ⟨⟨by decide +kernel, by decide +kernel⟩, List.mem_of_getElem? (i := 105) (by decide +kernel), List.mem_of_getElem? (i := 948) (by decide +kernel), List.mem_of_getElem? (i := 949) (by decide +kernel)⟩
theorem lw_p23 : lw_okq (⟨"ContinuationCore$Machine", "reckonInts", "(CII)LContinuationCore$Value;"⟩, 12) := ⟨⟨by decide +kernel, by decide +kernel⟩, List.mem_of_getElem? (i := 105) (by decide +kernel), List.mem_of_getElem? (i := 952) (by decide +kernel), List.mem_of_getElem? (i := 953) (by decide +kernel)⟩
theorem lw_p24 : lw_okq (⟨"ContinuationCoreModel", "fail", "(I)I"⟩, 40) := ⟨⟨by decide +kernel, by decide +kernel⟩, List.mem_of_getElem? (i := 1054) (by decide +kernel), List.mem_of_getElem? (i := 1190) (by decide +kernel), List.mem_of_getElem? (i := 1191) (by decide +kernel)⟩
theorem lw_p25 : lw_okq (⟨"ContinuationCoreModel", "scan", "(I)Z"⟩, 40) := ⟨⟨by decide +kernel, by decide +kernel⟩, List.mem_of_getElem? (i := 1054) (by decide +kernel), List.mem_of_getElem? (i := 1194) (by decide +kernel), List.mem_of_getElem? (i := 1195) (by decide +kernel)⟩
theorem lw_p26 : lw_okq (⟨"ContinuationCoreModel", "signOne", "(I)Z"⟩, 40) := ⟨⟨by decide +kernel, by decide +kernel⟩, List.mem_of_getElem? (i := 1054) (by decide +kernel), List.mem_of_getElem? (i := 1198) (by decide +kernel), List.mem_of_getElem? (i := 1199) (by decide +kernel)⟩
theorem lw_p27 : lw_okq (⟨"ContinuationCoreModel", "closureSign", "(I)Z"⟩, 40) := ⟨⟨by decide +kernel, by decide +kernel⟩, List.mem_of_getElem? (i := 1054) (by decide +kernel), List.mem_of_getElem? (i := 1202) (by decide +kernel), List.mem_of_getElem? (i := 1203) (by decide +kernel)⟩
theorem lw_p28 : lw_okq (⟨"ContinuationCoreModel", "begin", "(I)Z"⟩, 40) := ⟨⟨by decide +kernel, by decide +kernel⟩, List.mem_of_getElem? (i := 1054) (by decide +kernel), List.mem_of_getElem? (i := 1207) (by decide +kernel), List.mem_of_getElem? (i := 1208) (by decide +kernel)⟩
theorem lw_p29 : lw_okq (⟨"ContinuationCoreModel", "newNode", "(I)I"⟩, 40) := ⟨⟨by decide +kernel, by decide +kernel⟩, List.mem_of_getElem? (i := 1054) (by decide +kernel), List.mem_of_getElem? (i := 1211) (by decide +kernel), List.mem_of_getElem? (i := 1212) (by decide +kernel)⟩
theorem lw_p30 : lw_okq (⟨"ContinuationCoreModel", "attach", "(I)V"⟩, 40) := ⟨⟨by decide +kernel, by decide +kernel⟩, List.mem_of_getElem? (i := 1054) (by decide +kernel), List.mem_of_getElem? (i := 1215) (by decide +kernel), List.mem_of_getElem? (i := 1216) (by decide +kernel)⟩
theorem lw_p31 : lw_okq (⟨"ContinuationCoreModel", "operator", "(I)Z"⟩, 40) := ⟨⟨by decide +kernel, by decide +kernel⟩, List.mem_of_getElem? (i := 1054) (by decide +kernel), List.mem_of_getElem? (i := 1219) (by decide +kernel), List.mem_of_getElem? (i := 1220) (by decide +kernel)⟩
def lw_privs_2 : List (MethodName × Nat) := [(⟨"ContinuationCore$Machine", "await", "(LContinuationCore$Expression;LContinuationCore$Binding;[LContinuationCore$Value;)LContinuationCore$Value;"⟩, 12), (⟨"ContinuationCore$Machine", "goOn", "(LContinuationCore$Waiting;LContinuationCore$Value;)LContinuationCore$Value;"⟩, 12), (⟨"ContinuationCore$Machine", "complete", "(LContinuationCore$Expression;LContinuationCore$Binding;[LContinuationCore$Value;)LContinuationCore$Value;"⟩, 12), (⟨"ContinuationCore$Machine", "call", "([LContinuationCore$Value;)LContinuationCore$Value;"⟩, 12), (⟨"ContinuationCore$Machine", "assign", "(ILContinuationCore$Value;LContinuationCore$Binding;)LContinuationCore$Value;"⟩, 12), (⟨"ContinuationCore$Machine", "makePair", "(LContinuationCore$Value;LContinuationCore$Value;)LContinuationCore$Value;"⟩, 12), (⟨"ContinuationCore$Machine", "reckon", "(CLContinuationCore$Value;LContinuationCore$Value;)LContinuationCore$Value;"⟩, 12), (⟨"ContinuationCore$Machine", "reckonInts", "(CII)LContinuationCore$Value;"⟩, 12), (⟨"ContinuationCoreModel", "fail", "(I)I"⟩, 40), (⟨"ContinuationCoreModel", "scan", "(I)Z"⟩, 40), (⟨"ContinuationCoreModel", "signOne", "(I)Z"⟩, 40), (⟨"ContinuationCoreModel", "closureSign", "(I)Z"⟩, 40), (⟨"ContinuationCoreModel", "begin", "(I)Z"⟩, 40), (⟨"ContinuationCoreModel", "newNode", "(I)I"⟩, 40), (⟨"ContinuationCoreModel", "attach", "(I)V"⟩, 40), (⟨"ContinuationCoreModel", "operator", "(I)Z"⟩, 40)]
theorem lw_r2 : ∀ q ∈ lw_privs_2, lw_okq q := List.forall_mem_cons.mpr ⟨lw_p16, List.forall_mem_cons.mpr ⟨lw_p17, List.forall_mem_cons.mpr ⟨lw_p18, List.forall_mem_cons.mpr ⟨lw_p19, List.forall_mem_cons.mpr ⟨lw_p20, List.forall_mem_cons.mpr ⟨lw_p21, List.forall_mem_cons.mpr ⟨lw_p22, List.forall_mem_cons.mpr ⟨lw_p23, List.forall_mem_cons.mpr ⟨lw_p24, List.forall_mem_cons.mpr ⟨lw_p25, List.forall_mem_cons.mpr ⟨lw_p26, List.forall_mem_cons.mpr ⟨lw_p27, List.forall_mem_cons.mpr ⟨lw_p28, List.forall_mem_cons.mpr ⟨lw_p29, List.forall_mem_cons.mpr ⟨lw_p30, List.forall_mem_cons.mpr ⟨lw_p31, fun _ h => absurd h List.not_mem_nil⟩⟩⟩⟩⟩⟩⟩⟩⟩⟩⟩⟩⟩⟩⟩⟩
theorem lw_p32 : lw_okq (⟨"ContinuationCoreModel", "arity", "(I)I"⟩, 40) := ⟨⟨by decide +kernel, by decide +kernel⟩, List.mem_of_getElem? (i := 1054) (by decide +kernel), List.mem_of_getElem? (i := 1223) (by decide +kernel), List.mem_of_getElem? (i := 1224) (by decide +kernel)⟩
theorem lw_p33 : lw_okq (⟨"ContinuationCoreModel", "isWhole", "()Z"⟩, 40) := ⟨⟨by decide +kernel, by decide +kernel⟩, List.mem_of_getElem? (i := 1054) (by decide +kernel), List.mem_of_getElem? (i := 1235) (by decide +kernel), List.mem_of_getElem? (i := 1236) (by decide +kernel)⟩
theorem lw_p34 : lw_okq (⟨"ContinuationCoreModel", "rootNode", "()I"⟩, 40) := ⟨⟨by decide +kernel, by decide +kernel⟩, List.mem_of_getElem? (i := 1054) (by decide +kernel), List.mem_of_getElem? (i := 1247) (by decide +kernel), List.mem_of_getElem? (i := 1248) (by decide +kernel)⟩
theorem lw_p35 : lw_okq (⟨"ContinuationCoreModel", "countParts", "()V"⟩, 40) := ⟨⟨by decide +kernel, by decide +kernel⟩, List.mem_of_getElem? (i := 1054) (by decide +kernel), List.mem_of_getElem? (i := 1255) (by decide +kernel), List.mem_of_getElem? (i := 1256) (by decide +kernel)⟩
theorem lw_p36 : lw_okq (⟨"ContinuationCoreModel", "one", "()V"⟩, 40) := ⟨⟨by decide +kernel, by decide +kernel⟩, List.mem_of_getElem? (i := 1054) (by decide +kernel), List.mem_of_getElem? (i := 1259) (by decide +kernel), List.mem_of_getElem? (i := 1260) (by decide +kernel)⟩
theorem lw_p37 : lw_okq (⟨"ContinuationCoreModel", "beginOne", "()V"⟩, 40) := ⟨⟨by decide +kernel, by decide +kernel⟩, List.mem_of_getElem? (i := 1054) (by decide +kernel), List.mem_of_getElem? (i := 1263) (by decide +kernel), List.mem_of_getElem? (i := 1264) (by decide +kernel)⟩
theorem lw_p38 : lw_okq (⟨"ContinuationCoreModel", "value", "(II)V"⟩, 40) := ⟨⟨by decide +kernel, by decide +kernel⟩, List.mem_of_getElem? (i := 1054) (by decide +kernel), List.mem_of_getElem? (i := 1267) (by decide +kernel), List.mem_of_getElem? (i := 1268) (by decide +kernel)⟩
theorem lw_p39 : lw_okq (⟨"ContinuationCoreModel", "find", "(II)I"⟩, 40) := ⟨⟨by decide +kernel, by decide +kernel⟩, List.mem_of_getElem? (i := 1054) (by decide +kernel), List.mem_of_getElem? (i := 1271) (by decide +kernel), List.mem_of_getElem? (i := 1272) (by decide +kernel)⟩
theorem lw_p40 : lw_okq (⟨"ContinuationCoreModel", "stopBy", "(I)V"⟩, 40) := ⟨⟨by decide +kernel, by decide +kernel⟩, List.mem_of_getElem? (i := 1054) (by decide +kernel), List.mem_of_getElem? (i := 1275) (by decide +kernel), List.mem_of_getElem? (i := 1276) (by decide +kernel)⟩
theorem lw_p41 : lw_okq (⟨"ContinuationCoreModel", "bind", "(IIII)I"⟩, 40) := ⟨⟨by decide +kernel, by decide +kernel⟩, List.mem_of_getElem? (i := 1054) (by decide +kernel), List.mem_of_getElem? (i := 1279) (by decide +kernel), List.mem_of_getElem? (i := 1280) (by decide +kernel)⟩
theorem lw_p42 : lw_okq (⟨"ContinuationCoreModel", "await", "(IIIIIII)V"⟩, 40) := ⟨⟨by decide +kernel, by decide +kernel⟩, List.mem_of_getElem? (i := 1054) (by decide +kernel), List.mem_of_getElem? (i := 1283) (by decide +kernel), List.mem_of_getElem? (i := 1284) (by decide +kernel)⟩
theorem lw_p43 : lw_okq (⟨"ContinuationCoreModel", "depthOf", "(I)I"⟩, 40) := ⟨⟨by decide +kernel, by decide +kernel⟩, List.mem_of_getElem? (i := 1054) (by decide +kernel), List.mem_of_getElem? (i := 1287) (by decide +kernel), List.mem_of_getElem? (i := 1288) (by decide +kernel)⟩
theorem lw_p44 : lw_okq (⟨"ContinuationCoreModel", "last", "(II)V"⟩, 40) := ⟨⟨by decide +kernel, by decide +kernel⟩, List.mem_of_getElem? (i := 1054) (by decide +kernel), List.mem_of_getElem? (i := 1291) (by decide +kernel), List.mem_of_getElem? (i := 1292) (by decide +kernel)⟩
theorem lw_p45 : lw_okq (⟨"ContinuationCoreModel", "goOn", "()V"⟩, 40) := ⟨⟨by decide +kernel, by decide +kernel⟩, List.mem_of_getElem? (i := 1054) (by decide +kernel), List.mem_of_getElem? (i := 1295) (by decide +kernel), List.mem_of_getElem? (i := 1296) (by decide +kernel)⟩
theorem lw_p46 : lw_okq (⟨"ContinuationCoreModel", "apply", "(IIIII)V"⟩, 40) := ⟨⟨by decide +kernel, by decide +kernel⟩, List.mem_of_getElem? (i := 1054) (by decide +kernel), List.mem_of_getElem? (i := 1299) (by decide +kernel), List.mem_of_getElem? (i := 1300) (by decide +kernel)⟩
theorem lw_p47 : lw_okq (⟨"ContinuationCoreModel", "partsOf", "(I)I"⟩, 40) := ⟨⟨by decide +kernel, by decide +kernel⟩, List.mem_of_getElem? (i := 1054) (by decide +kernel), List.mem_of_getElem? (i := 1303) (by decide +kernel), List.mem_of_getElem? (i := 1304) (by decide +kernel)⟩
def lw_privs_3 : List (MethodName × Nat) := [(⟨"ContinuationCoreModel", "arity", "(I)I"⟩, 40), (⟨"ContinuationCoreModel", "isWhole", "()Z"⟩, 40), (⟨"ContinuationCoreModel", "rootNode", "()I"⟩, 40), (⟨"ContinuationCoreModel", "countParts", "()V"⟩, 40), (⟨"ContinuationCoreModel", "one", "()V"⟩, 40), (⟨"ContinuationCoreModel", "beginOne", "()V"⟩, 40), (⟨"ContinuationCoreModel", "value", "(II)V"⟩, 40), (⟨"ContinuationCoreModel", "find", "(II)I"⟩, 40), (⟨"ContinuationCoreModel", "stopBy", "(I)V"⟩, 40), (⟨"ContinuationCoreModel", "bind", "(IIII)I"⟩, 40), (⟨"ContinuationCoreModel", "await", "(IIIIIII)V"⟩, 40), (⟨"ContinuationCoreModel", "depthOf", "(I)I"⟩, 40), (⟨"ContinuationCoreModel", "last", "(II)V"⟩, 40), (⟨"ContinuationCoreModel", "goOn", "()V"⟩, 40), (⟨"ContinuationCoreModel", "apply", "(IIIII)V"⟩, 40), (⟨"ContinuationCoreModel", "partsOf", "(I)I"⟩, 40)]
theorem lw_r3 : ∀ q ∈ lw_privs_3, lw_okq q := List.forall_mem_cons.mpr ⟨lw_p32, List.forall_mem_cons.mpr ⟨lw_p33, List.forall_mem_cons.mpr ⟨lw_p34, List.forall_mem_cons.mpr ⟨lw_p35, List.forall_mem_cons.mpr ⟨lw_p36, List.forall_mem_cons.mpr ⟨lw_p37, List.forall_mem_cons.mpr ⟨lw_p38, List.forall_mem_cons.mpr ⟨lw_p39, List.forall_mem_cons.mpr ⟨lw_p40, List.forall_mem_cons.mpr ⟨lw_p41, List.forall_mem_cons.mpr ⟨lw_p42, List.forall_mem_cons.mpr ⟨lw_p43, List.forall_mem_cons.mpr ⟨lw_p44, List.forall_mem_cons.mpr ⟨lw_p45, List.forall_mem_cons.mpr ⟨lw_p46, List.forall_mem_cons.mpr ⟨lw_p47, fun _ h => absurd h List.not_mem_nil⟩⟩⟩⟩⟩⟩⟩⟩⟩⟩⟩⟩⟩⟩⟩⟩
theorem lw_p48 : lw_okq (⟨"ContinuationCoreModel", "call", "(IIII)V"⟩, 40) := ⟨⟨by decide +kernel, by decide +kernel⟩, List.mem_of_getElem? (i := 1054) (by decide +kernel), List.mem_of_getElem? (i := 1307) (by decide +kernel), List.mem_of_getElem? (i := 1308) (by decide +kernel)⟩
theorem lw_p49 : lw_okq (⟨"ContinuationCoreModel", "unary", "(I)V"⟩, 40) := ⟨⟨by decide +kernel, by decide +kernel⟩, List.mem_of_getElem? (i := 1054) (by decide +kernel), List.mem_of_getElem? (i := 1311) (by decide +kernel), List.mem_of_getElem? (i := 1312) (by decide +kernel)⟩
theorem lw_p50 : lw_okq (⟨"ContinuationCoreModel", "binary", "(III)V"⟩, 40) := ⟨⟨by decide +kernel, by decide +kernel⟩, List.mem_of_getElem? (i := 1054) (by decide +kernel), List.mem_of_getElem? (i := 1315) (by decide +kernel), List.mem_of_getElem? (i := 1316) (by decide +kernel)⟩
theorem lw_p51 : lw_okq (⟨"ContinuationCoreModel", "show", "(III)V"⟩, 40) := ⟨⟨by decide +kernel, by decide +kernel⟩, List.mem_of_getElem? (i := 1054) (by decide +kernel), List.mem_of_getElem? (i := 1331) (by decide +kernel), List.mem_of_getElem? (i := 1332) (by decide +kernel)⟩
theorem lw_p52 : lw_okq (⟨"ContinuationCoreModel", "digit", "(II)I"⟩, 40) := ⟨⟨by decide +kernel, by decide +kernel⟩, List.mem_of_getElem? (i := 1054) (by decide +kernel), List.mem_of_getElem? (i := 1335) (by decide +kernel), List.mem_of_getElem? (i := 1336) (by decide +kernel)⟩
def lw_privs_4 : List (MethodName × Nat) := [(⟨"ContinuationCoreModel", "call", "(IIII)V"⟩, 40), (⟨"ContinuationCoreModel", "unary", "(I)V"⟩, 40), (⟨"ContinuationCoreModel", "binary", "(III)V"⟩, 40), (⟨"ContinuationCoreModel", "show", "(III)V"⟩, 40), (⟨"ContinuationCoreModel", "digit", "(II)I"⟩, 40)]
theorem lw_r4 : ∀ q ∈ lw_privs_4, lw_okq q := List.forall_mem_cons.mpr ⟨lw_p48, List.forall_mem_cons.mpr ⟨lw_p49, List.forall_mem_cons.mpr ⟨lw_p50, List.forall_mem_cons.mpr ⟨lw_p51, List.forall_mem_cons.mpr ⟨lw_p52, fun _ h => absurd h List.not_mem_nil⟩⟩⟩⟩⟩
def lw_privs : List (MethodName × Nat) := lw_privs_1 ++ (lw_privs_2 ++ (lw_privs_3 ++ (lw_privs_4)))
def lw_tbl : List Cond := k2_sels lw_privs ++ tables_1
theorem lw_privs_ok : ∀ q ∈ lw_privs, lw_okq q := by
  show ∀ q ∈ lw_privs_1 ++ (lw_privs_2 ++ (lw_privs_3 ++ (lw_privs_4))), lw_okq q
  exact List.forall_mem_append.mpr ⟨lw_r1, List.forall_mem_append.mpr ⟨lw_r2, List.forall_mem_append.mpr ⟨lw_r3, lw_r4⟩⟩⟩
/-- the words that hold on, wherever the walk stands -/
def lw_g : List Cond := lw_tbl.filter goodWord
theorem lw_in {w : Cond} (h : w ∈ lw_tbl) (hg : goodWord w = true) : w ∈ lw_g := List.mem_filter.mpr ⟨h, hg⟩
theorem lw_out {w : Cond} (h : w ∈ lw_g) : w ∈ lw_tbl := (List.mem_filter.mp h).1
theorem lw_good {w : Cond} (h : w ∈ lw_g) : goodWord w = true := (List.mem_filter.mp h).2
end
section
def RM : String := "ContinuationCoreModel"
abbrev bM_init : ByteArray := prog_14_method_1_code
def yM_init : MethodName := ⟨RM, "<init>", "()V"⟩
abbrev bM_thrown : ByteArray := prog_14_method_2_code
def yM_thrown : MethodName := ⟨RM, "thrown", "()I"⟩
abbrev bM_fail : ByteArray := prog_14_method_3_code
def yM_fail : MethodName := ⟨RM, "fail", "(I)I"⟩
abbrev bM_newNode : ByteArray := prog_14_method_4_code
def yM_newNode : MethodName := ⟨RM, "newNode", "(I)I"⟩
abbrev bM_attach : ByteArray := prog_14_method_5_code
def yM_attach : MethodName := ⟨RM, "attach", "(I)V"⟩
abbrev bM_begin : ByteArray := prog_14_method_6_code
def yM_begin : MethodName := ⟨RM, "begin", "(I)Z"⟩
abbrev bM_arity : ByteArray := prog_14_method_7_code
def yM_arity : MethodName := ⟨RM, "arity", "(I)I"⟩
abbrev bM_operator : ByteArray := prog_14_method_8_code
def yM_operator : MethodName := ⟨RM, "operator", "(I)Z"⟩
abbrev bM_closureSign : ByteArray := prog_14_method_9_code
def yM_closureSign : MethodName := ⟨RM, "closureSign", "(I)Z"⟩
abbrev bM_signOne : ByteArray := prog_14_method_10_code
def yM_signOne : MethodName := ⟨RM, "signOne", "(I)Z"⟩
abbrev bM_scan : ByteArray := prog_14_method_11_code
def yM_scan : MethodName := ⟨RM, "scan", "(I)Z"⟩
abbrev bM_text : ByteArray := prog_14_method_12_code
def yM_text : MethodName := ⟨RM, "text", "(J)I"⟩
abbrev bM_clear : ByteArray := prog_14_method_13_code
def yM_clear : MethodName := ⟨RM, "clear", "()I"⟩
abbrev bM_isWhole : ByteArray := prog_14_method_14_code
def yM_isWhole : MethodName := ⟨RM, "isWhole", "()Z"⟩
abbrev bM_whole : ByteArray := prog_14_method_15_code
def yM_whole : MethodName := ⟨RM, "whole", "()I"⟩
abbrev bM_given : ByteArray := prog_14_method_16_code
def yM_given : MethodName := ⟨RM, "given", "(II)I"⟩
abbrev bM_start : ByteArray := prog_14_method_17_code
def yM_start : MethodName := ⟨RM, "start", "()I"⟩
abbrev bM_rootNode : ByteArray := prog_14_method_18_code
def yM_rootNode : MethodName := ⟨RM, "rootNode", "()I"⟩
abbrev bM_stopBy : ByteArray := prog_14_method_19_code
def yM_stopBy : MethodName := ⟨RM, "stopBy", "(I)V"⟩
abbrev bM_depthOf : ByteArray := prog_14_method_20_code
def yM_depthOf : MethodName := ⟨RM, "depthOf", "(I)I"⟩
abbrev bM_find : ByteArray := prog_14_method_21_code
def yM_find : MethodName := ⟨RM, "find", "(II)I"⟩
abbrev bM_bind : ByteArray := prog_14_method_22_code
def yM_bind : MethodName := ⟨RM, "bind", "(IIII)I"⟩
abbrev bM_value : ByteArray := prog_14_method_23_code
def yM_value : MethodName := ⟨RM, "value", "(II)V"⟩
abbrev bM_last : ByteArray := prog_14_method_24_code
def yM_last : MethodName := ⟨RM, "last", "(II)V"⟩
abbrev bM_await : ByteArray := prog_14_method_25_code
def yM_await : MethodName := ⟨RM, "await", "(IIIIIII)V"⟩
abbrev bM_beginOne : ByteArray := prog_14_method_26_code
def yM_beginOne : MethodName := ⟨RM, "beginOne", "()V"⟩
abbrev bM_binary : ByteArray := prog_14_method_27_code
def yM_binary : MethodName := ⟨RM, "binary", "(III)V"⟩
abbrev bM_unary : ByteArray := prog_14_method_28_code
def yM_unary : MethodName := ⟨RM, "unary", "(I)V"⟩
abbrev bM_call : ByteArray := prog_14_method_29_code
def yM_call : MethodName := ⟨RM, "call", "(IIII)V"⟩
abbrev bM_partsOf : ByteArray := prog_14_method_30_code
def yM_partsOf : MethodName := ⟨RM, "partsOf", "(I)I"⟩
abbrev bM_apply : ByteArray := prog_14_method_31_code
def yM_apply : MethodName := ⟨RM, "apply", "(IIIII)V"⟩
abbrev bM_goOn : ByteArray := prog_14_method_32_code
def yM_goOn : MethodName := ⟨RM, "goOn", "()V"⟩
abbrev bM_one : ByteArray := prog_14_method_33_code
def yM_one : MethodName := ⟨RM, "one", "()V"⟩
abbrev bM_run : ByteArray := prog_14_method_34_code
def yM_run : MethodName := ⟨RM, "run", "(I)I"⟩
abbrev bM_countParts : ByteArray := prog_14_method_35_code
def yM_countParts : MethodName := ⟨RM, "countParts", "()V"⟩
abbrev bM_stop : ByteArray := prog_14_method_36_code
def yM_stop : MethodName := ⟨RM, "stop", "()I"⟩
abbrev bM_state : ByteArray := prog_14_method_37_code
def yM_state : MethodName := ⟨RM, "state", "(I)I"⟩
abbrev bM_digit : ByteArray := prog_14_method_38_code
def yM_digit : MethodName := ⟨RM, "digit", "(II)I"⟩
abbrev bM_show : ByteArray := prog_14_method_39_code
def yM_show : MethodName := ⟨RM, "show", "(III)V"⟩
abbrev bM_sign : ByteArray := prog_14_method_40_code
def yM_sign : MethodName := ⟨RM, "sign", "(I)I"⟩
abbrev bM_global : ByteArray := prog_14_method_41_code
def yM_global : MethodName := ⟨RM, "global", "(I)I"⟩
def TM : u_T := fun k => match k with
  | 0 => ("ContinuationCoreModel", "failed", "I", false)
  | 1 => ("ContinuationCoreModel", "text", "[I", true)
  | 2 => ("ContinuationCoreModel", "length", "I", false)
  | 3 => ("ContinuationCoreModel", "open", "[I", true)
  | 4 => ("ContinuationCoreModel", "parts", "[I", true)
  | 5 => ("ContinuationCoreModel", "fewest", "[I", true)
  | 6 => ("ContinuationCoreModel", "most", "[I", true)
  | 7 => ("ContinuationCoreModel", "depth", "I", false)
  | 8 => ("ContinuationCoreModel", "mode", "I", false)
  | 9 => ("ContinuationCoreModel", "kind", "[I", true)
  | 10 => ("ContinuationCoreModel", "number", "[I", true)
  | 11 => ("ContinuationCoreModel", "names", "[I", true)
  | 12 => ("ContinuationCoreModel", "part", "[I", true)
  | 13 => ("ContinuationCoreModel", "nodes", "I", false)
  | 14 => ("ContinuationCoreModel", "givenValue", "[I", true)
  | 15 => ("ContinuationCoreModel", "isGiven", "[Z", true)
  | 16 => ("ContinuationCoreModel", "bKind", "[I", true)
  | 17 => ("ContinuationCoreModel", "bValue", "[I", true)
  | 18 => ("ContinuationCoreModel", "bName", "[I", true)
  | 19 => ("ContinuationCoreModel", "bNext", "[I", true)
  | 20 => ("ContinuationCoreModel", "bindings", "I", false)
  | 21 => ("ContinuationCoreModel", "pairKind", "[I", true)
  | 22 => ("ContinuationCoreModel", "pairValue", "[I", true)
  | 23 => ("ContinuationCoreModel", "pairs", "I", false)
  | 24 => ("ContinuationCoreModel", "rec", "[I", true)
  | 25 => ("ContinuationCoreModel", "recValue", "[I", true)
  | 26 => ("ContinuationCoreModel", "recMore", "[I", true)
  | 27 => ("ContinuationCoreModel", "records", "I", false)
  | 28 => ("ContinuationCoreModel", "status", "I", false)
  | 29 => ("ContinuationCoreModel", "steps", "I", false)
  | 30 => ("ContinuationCoreModel", "fault", "I", false)
  | 31 => ("ContinuationCoreModel", "closures", "I", false)
  | 32 => ("ContinuationCoreModel", "begins", "Z", false)
  | 33 => ("ContinuationCoreModel", "node", "I", false)
  | 34 => ("ContinuationCoreModel", "scope", "I", false)
  | 35 => ("ContinuationCoreModel", "chain", "I", false)
  | 36 => ("ContinuationCoreModel", "vKind", "I", false)
  | 37 => ("ContinuationCoreModel", "v", "I", false)
  | 38 => ("ContinuationCoreModel", "showKind", "[I", true)
  | _ => ("ContinuationCoreModel", "showValue", "[I", true)
def tyM : Nat → FieldType := fun k => match k with
  | 0 => .int
  | 1 => .array .int
  | 2 => .int
  | 3 => .array .int
  | 4 => .array .int
  | 5 => .array .int
  | 6 => .array .int
  | 7 => .int
  | 8 => .int
  | 9 => .array .int
  | 10 => .array .int
  | 11 => .array .int
  | 12 => .array .int
  | 13 => .int
  | 14 => .array .int
  | 15 => .array .boolean
  | 16 => .array .int
  | 17 => .array .int
  | 18 => .array .int
  | 19 => .array .int
  | 20 => .int
  | 21 => .array .int
  | 22 => .array .int
  | 23 => .int
  | 24 => .array .int
  | 25 => .array .int
  | 26 => .array .int
  | 27 => .int
  | 28 => .int
  | 29 => .int
  | 30 => .int
  | 31 => .int
  | 32 => .boolean
  | 33 => .int
  | 34 => .int
  | 35 => .int
  | 36 => .int
  | 37 => .int
  | 38 => .array .int
  | _ => .array .int
theorem nmM : ∀ a, a < 40 → ∀ b, b < 40 → a ≠ b → (TM a).2.1 ≠ (TM b).2.1 := by decide +kernel
theorem tyM_ok : ∀ k, k < 40 → parseFieldDescriptor (TM k).2.2.1 = some (tyM k) := by decide +kernel
theorem inM_l : u_ws RM TM 40 = ([1099, 1101, 1103, 1105, 1107, 1109, 1111, 1113, 1115, 1117, 1119, 1121, 1123, 1125, 1127, 1129, 1131, 1133, 1135, 1137, 1139, 1141, 1143, 1145, 1147, 1149, 1151, 1153, 1155, 1157, 1159, 1161, 1163, 1165, 1167, 1169, 1171, 1173, 1175, 1177] : List Nat).filterMap (fun i => tables_1[i]?) := by decide +kernel
theorem inM : ∀ w ∈ u_ws RM TM 40, w ∈ lw_g := fun w h => by
  have hg : (u_ws RM TM 40).all goodWord = true := by decide +kernel
  refine lw_in ?_ (List.all_eq_true.mp hg w h)
  rw [inM_l] at h
  obtain ⟨i, -, hi⟩ := List.mem_filterMap.mp h
  exact List.mem_append_right _ (List.mem_of_getElem? hi)
theorem kM_inst : Cond.instantiable RM 40 ∈ lw_g := lw_in (List.mem_append_right _ (List.mem_of_getElem? (i := 1054) (by decide +kernel))) rfl
theorem kM_ini : Cond.initialized RM ∈ lw_g := lw_in (List.mem_append_right _ (List.mem_of_getElem? (i := 12) (by decide +kernel))) rfl
-- init: maxLocals 1, ret none
theorem kM_c_init : Cond.code yM_init bM_init 1 none ∈ lw_g := lw_in (List.mem_append_right _ (List.mem_of_getElem? (i := 1057) (by decide +kernel))) rfl
theorem dM_init_0 : decode bM_init 0 = .ok (.aload_n 0, 1) := by decide +kernel
theorem dM_init_1 : decode bM_init 1 = .ok (.invokespecial 1, 3) := by decide +kernel
theorem dM_init_4 : decode bM_init 4 = .ok (.aload_n 0, 1) := by decide +kernel
theorem dM_init_5 : decode bM_init 5 = .ok (.bipush 120, 2) := by decide +kernel
theorem dM_init_7 : decode bM_init 7 = .ok (.newarray .int, 2) := by decide +kernel
theorem dM_init_9 : decode bM_init 9 = .ok (.putfield 7, 3) := by decide +kernel
theorem kM_f7 : Cond.fieldLink RM 7 "ContinuationCoreModel" "text" "[I" ∈ lw_g := lw_in (List.mem_append_right _ (List.mem_of_getElem? (i := 1060) (by decide +kernel))) rfl
theorem dM_init_12 : decode bM_init 12 = .ok (.aload_n 0, 1) := by decide +kernel
theorem dM_init_13 : decode bM_init 13 = .ok (.bipush 13, 2) := by decide +kernel
theorem dM_init_15 : decode bM_init 15 = .ok (.newarray .int, 2) := by decide +kernel
theorem dM_init_17 : decode bM_init 17 = .ok (.putfield 13, 3) := by decide +kernel
theorem kM_f13 : Cond.fieldLink RM 13 "ContinuationCoreModel" "open" "[I" ∈ lw_g := lw_in (List.mem_append_right _ (List.mem_of_getElem? (i := 1062) (by decide +kernel))) rfl
theorem dM_init_20 : decode bM_init 20 = .ok (.aload_n 0, 1) := by decide +kernel
theorem dM_init_21 : decode bM_init 21 = .ok (.bipush 13, 2) := by decide +kernel
theorem dM_init_23 : decode bM_init 23 = .ok (.newarray .int, 2) := by decide +kernel
theorem dM_init_25 : decode bM_init 25 = .ok (.putfield 16, 3) := by decide +kernel
theorem kM_f16 : Cond.fieldLink RM 16 "ContinuationCoreModel" "parts" "[I" ∈ lw_g := lw_in (List.mem_append_right _ (List.mem_of_getElem? (i := 1063) (by decide +kernel))) rfl
theorem dM_init_28 : decode bM_init 28 = .ok (.aload_n 0, 1) := by decide +kernel
theorem dM_init_29 : decode bM_init 29 = .ok (.bipush 13, 2) := by decide +kernel
theorem dM_init_31 : decode bM_init 31 = .ok (.newarray .int, 2) := by decide +kernel
theorem dM_init_33 : decode bM_init 33 = .ok (.putfield 19, 3) := by decide +kernel
theorem kM_f19 : Cond.fieldLink RM 19 "ContinuationCoreModel" "fewest" "[I" ∈ lw_g := lw_in (List.mem_append_right _ (List.mem_of_getElem? (i := 1064) (by decide +kernel))) rfl
theorem dM_init_36 : decode bM_init 36 = .ok (.aload_n 0, 1) := by decide +kernel
theorem dM_init_37 : decode bM_init 37 = .ok (.bipush 13, 2) := by decide +kernel
theorem dM_init_39 : decode bM_init 39 = .ok (.newarray .int, 2) := by decide +kernel
theorem dM_init_41 : decode bM_init 41 = .ok (.putfield 22, 3) := by decide +kernel
theorem kM_f22 : Cond.fieldLink RM 22 "ContinuationCoreModel" "most" "[I" ∈ lw_g := lw_in (List.mem_append_right _ (List.mem_of_getElem? (i := 1065) (by decide +kernel))) rfl
theorem dM_init_44 : decode bM_init 44 = .ok (.aload_n 0, 1) := by decide +kernel
theorem dM_init_45 : decode bM_init 45 = .ok (.bipush 120, 2) := by decide +kernel
theorem dM_init_47 : decode bM_init 47 = .ok (.newarray .int, 2) := by decide +kernel
theorem dM_init_49 : decode bM_init 49 = .ok (.putfield 25, 3) := by decide +kernel
theorem kM_f25 : Cond.fieldLink RM 25 "ContinuationCoreModel" "kind" "[I" ∈ lw_g := lw_in (List.mem_append_right _ (List.mem_of_getElem? (i := 1068) (by decide +kernel))) rfl
theorem dM_init_52 : decode bM_init 52 = .ok (.aload_n 0, 1) := by decide +kernel
theorem dM_init_53 : decode bM_init 53 = .ok (.bipush 120, 2) := by decide +kernel
theorem dM_init_55 : decode bM_init 55 = .ok (.newarray .int, 2) := by decide +kernel
theorem dM_init_57 : decode bM_init 57 = .ok (.putfield 28, 3) := by decide +kernel
theorem kM_f28 : Cond.fieldLink RM 28 "ContinuationCoreModel" "number" "[I" ∈ lw_g := lw_in (List.mem_append_right _ (List.mem_of_getElem? (i := 1069) (by decide +kernel))) rfl
theorem dM_init_60 : decode bM_init 60 = .ok (.aload_n 0, 1) := by decide +kernel
theorem dM_init_61 : decode bM_init 61 = .ok (.bipush 120, 2) := by decide +kernel
theorem dM_init_63 : decode bM_init 63 = .ok (.newarray .int, 2) := by decide +kernel
theorem dM_init_65 : decode bM_init 65 = .ok (.putfield 31, 3) := by decide +kernel
theorem kM_f31 : Cond.fieldLink RM 31 "ContinuationCoreModel" "names" "[I" ∈ lw_g := lw_in (List.mem_append_right _ (List.mem_of_getElem? (i := 1070) (by decide +kernel))) rfl
theorem dM_init_68 : decode bM_init 68 = .ok (.aload_n 0, 1) := by decide +kernel
theorem dM_init_69 : decode bM_init 69 = .ok (.sipush 480, 3) := by decide +kernel
theorem dM_init_72 : decode bM_init 72 = .ok (.newarray .int, 2) := by decide +kernel
theorem dM_init_74 : decode bM_init 74 = .ok (.putfield 34, 3) := by decide +kernel
theorem kM_f34 : Cond.fieldLink RM 34 "ContinuationCoreModel" "part" "[I" ∈ lw_g := lw_in (List.mem_append_right _ (List.mem_of_getElem? (i := 1071) (by decide +kernel))) rfl
theorem dM_init_77 : decode bM_init 77 = .ok (.aload_n 0, 1) := by decide +kernel
theorem dM_init_78 : decode bM_init 78 = .ok (.bipush 26, 2) := by decide +kernel
theorem dM_init_80 : decode bM_init 80 = .ok (.newarray .int, 2) := by decide +kernel
theorem dM_init_82 : decode bM_init 82 = .ok (.putfield 37, 3) := by decide +kernel
theorem kM_f37 : Cond.fieldLink RM 37 "ContinuationCoreModel" "givenValue" "[I" ∈ lw_g := lw_in (List.mem_append_right _ (List.mem_of_getElem? (i := 1073) (by decide +kernel))) rfl
theorem dM_init_85 : decode bM_init 85 = .ok (.aload_n 0, 1) := by decide +kernel
theorem dM_init_86 : decode bM_init 86 = .ok (.bipush 26, 2) := by decide +kernel
theorem dM_init_88 : decode bM_init 88 = .ok (.newarray .boolean, 2) := by decide +kernel
theorem dM_init_90 : decode bM_init 90 = .ok (.putfield 40, 3) := by decide +kernel
theorem kM_f40 : Cond.fieldLink RM 40 "ContinuationCoreModel" "isGiven" "[Z" ∈ lw_g := lw_in (List.mem_append_right _ (List.mem_of_getElem? (i := 1074) (by decide +kernel))) rfl
theorem dM_init_93 : decode bM_init 93 = .ok (.aload_n 0, 1) := by decide +kernel
theorem dM_init_94 : decode bM_init 94 = .ok (.sipush 147, 3) := by decide +kernel
theorem dM_init_97 : decode bM_init 97 = .ok (.newarray .int, 2) := by decide +kernel
theorem dM_init_99 : decode bM_init 99 = .ok (.putfield 44, 3) := by decide +kernel
theorem kM_f44 : Cond.fieldLink RM 44 "ContinuationCoreModel" "bKind" "[I" ∈ lw_g := lw_in (List.mem_append_right _ (List.mem_of_getElem? (i := 1075) (by decide +kernel))) rfl
theorem dM_init_102 : decode bM_init 102 = .ok (.aload_n 0, 1) := by decide +kernel
theorem dM_init_103 : decode bM_init 103 = .ok (.sipush 147, 3) := by decide +kernel
theorem dM_init_106 : decode bM_init 106 = .ok (.newarray .int, 2) := by decide +kernel
theorem dM_init_108 : decode bM_init 108 = .ok (.putfield 47, 3) := by decide +kernel
theorem kM_f47 : Cond.fieldLink RM 47 "ContinuationCoreModel" "bValue" "[I" ∈ lw_g := lw_in (List.mem_append_right _ (List.mem_of_getElem? (i := 1076) (by decide +kernel))) rfl
theorem dM_init_111 : decode bM_init 111 = .ok (.aload_n 0, 1) := by decide +kernel
theorem dM_init_112 : decode bM_init 112 = .ok (.sipush 147, 3) := by decide +kernel
theorem dM_init_115 : decode bM_init 115 = .ok (.newarray .int, 2) := by decide +kernel
theorem dM_init_117 : decode bM_init 117 = .ok (.putfield 50, 3) := by decide +kernel
theorem kM_f50 : Cond.fieldLink RM 50 "ContinuationCoreModel" "bName" "[I" ∈ lw_g := lw_in (List.mem_append_right _ (List.mem_of_getElem? (i := 1077) (by decide +kernel))) rfl
theorem dM_init_120 : decode bM_init 120 = .ok (.aload_n 0, 1) := by decide +kernel
theorem dM_init_121 : decode bM_init 121 = .ok (.sipush 147, 3) := by decide +kernel
theorem dM_init_124 : decode bM_init 124 = .ok (.newarray .int, 2) := by decide +kernel
theorem dM_init_126 : decode bM_init 126 = .ok (.putfield 53, 3) := by decide +kernel
theorem kM_f53 : Cond.fieldLink RM 53 "ContinuationCoreModel" "bNext" "[I" ∈ lw_g := lw_in (List.mem_append_right _ (List.mem_of_getElem? (i := 1078) (by decide +kernel))) rfl
theorem dM_init_129 : decode bM_init 129 = .ok (.aload_n 0, 1) := by decide +kernel
theorem dM_init_130 : decode bM_init 130 = .ok (.bipush 122, 2) := by decide +kernel
theorem dM_init_132 : decode bM_init 132 = .ok (.newarray .int, 2) := by decide +kernel
theorem dM_init_134 : decode bM_init 134 = .ok (.putfield 56, 3) := by decide +kernel
theorem kM_f56 : Cond.fieldLink RM 56 "ContinuationCoreModel" "pairKind" "[I" ∈ lw_g := lw_in (List.mem_append_right _ (List.mem_of_getElem? (i := 1080) (by decide +kernel))) rfl
theorem dM_init_137 : decode bM_init 137 = .ok (.aload_n 0, 1) := by decide +kernel
theorem dM_init_138 : decode bM_init 138 = .ok (.bipush 122, 2) := by decide +kernel
theorem dM_init_140 : decode bM_init 140 = .ok (.newarray .int, 2) := by decide +kernel
theorem dM_init_142 : decode bM_init 142 = .ok (.putfield 59, 3) := by decide +kernel
theorem kM_f59 : Cond.fieldLink RM 59 "ContinuationCoreModel" "pairValue" "[I" ∈ lw_g := lw_in (List.mem_append_right _ (List.mem_of_getElem? (i := 1081) (by decide +kernel))) rfl
theorem dM_init_145 : decode bM_init 145 = .ok (.aload_n 0, 1) := by decide +kernel
theorem dM_init_146 : decode bM_init 146 = .ok (.sipush 5200, 3) := by decide +kernel
theorem dM_init_149 : decode bM_init 149 = .ok (.newarray .int, 2) := by decide +kernel
theorem dM_init_151 : decode bM_init 151 = .ok (.putfield 62, 3) := by decide +kernel
theorem kM_f62 : Cond.fieldLink RM 62 "ContinuationCoreModel" "rec" "[I" ∈ lw_g := lw_in (List.mem_append_right _ (List.mem_of_getElem? (i := 1083) (by decide +kernel))) rfl
theorem dM_init_154 : decode bM_init 154 = .ok (.aload_n 0, 1) := by decide +kernel
theorem dM_init_155 : decode bM_init 155 = .ok (.sipush 5200, 3) := by decide +kernel
theorem dM_init_158 : decode bM_init 158 = .ok (.newarray .int, 2) := by decide +kernel
theorem dM_init_160 : decode bM_init 160 = .ok (.putfield 65, 3) := by decide +kernel
theorem kM_f65 : Cond.fieldLink RM 65 "ContinuationCoreModel" "recValue" "[I" ∈ lw_g := lw_in (List.mem_append_right _ (List.mem_of_getElem? (i := 1084) (by decide +kernel))) rfl
theorem dM_init_163 : decode bM_init 163 = .ok (.aload_n 0, 1) := by decide +kernel
theorem dM_init_164 : decode bM_init 164 = .ok (.sipush 5200, 3) := by decide +kernel
theorem dM_init_167 : decode bM_init 167 = .ok (.newarray .int, 2) := by decide +kernel
theorem dM_init_169 : decode bM_init 169 = .ok (.putfield 68, 3) := by decide +kernel
theorem kM_f68 : Cond.fieldLink RM 68 "ContinuationCoreModel" "recMore" "[I" ∈ lw_g := lw_in (List.mem_append_right _ (List.mem_of_getElem? (i := 1085) (by decide +kernel))) rfl
theorem dM_init_172 : decode bM_init 172 = .ok (.aload_n 0, 1) := by decide +kernel
theorem dM_init_173 : decode bM_init 173 = .ok (.sipush 260, 3) := by decide +kernel
theorem dM_init_176 : decode bM_init 176 = .ok (.newarray .int, 2) := by decide +kernel
theorem dM_init_178 : decode bM_init 178 = .ok (.putfield 71, 3) := by decide +kernel
theorem kM_f71 : Cond.fieldLink RM 71 "ContinuationCoreModel" "showKind" "[I" ∈ lw_g := lw_in (List.mem_append_right _ (List.mem_of_getElem? (i := 1097) (by decide +kernel))) rfl
theorem dM_init_181 : decode bM_init 181 = .ok (.aload_n 0, 1) := by decide +kernel
theorem dM_init_182 : decode bM_init 182 = .ok (.sipush 260, 3) := by decide +kernel
theorem dM_init_185 : decode bM_init 185 = .ok (.newarray .int, 2) := by decide +kernel
theorem dM_init_187 : decode bM_init 187 = .ok (.putfield 74, 3) := by decide +kernel
theorem kM_f74 : Cond.fieldLink RM 74 "ContinuationCoreModel" "showValue" "[I" ∈ lw_g := lw_in (List.mem_append_right _ (List.mem_of_getElem? (i := 1098) (by decide +kernel))) rfl
theorem dM_init_190 : decode bM_init 190 = .ok (.return_, 1) := by decide +kernel
-- thrown: maxLocals 1, ret (some .int)
theorem kM_c_thrown : Cond.code yM_thrown bM_thrown 1 (some .int) ∈ lw_g := lw_in (List.mem_append_right _ (List.mem_of_getElem? (i := 1184) (by decide +kernel))) rfl
theorem dM_thrown_0 : decode bM_thrown 0 = .ok (.aload_n 0, 1) := by decide +kernel
theorem dM_thrown_1 : decode bM_thrown 1 = .ok (.getfield 77, 3) := by decide +kernel
theorem kM_f77 : Cond.fieldLink RM 77 "ContinuationCoreModel" "failed" "I" ∈ lw_g := lw_in (List.mem_append_right _ (List.mem_of_getElem? (i := 1059) (by decide +kernel))) rfl
theorem dM_thrown_4 : decode bM_thrown 4 = .ok (.ireturn, 1) := by decide +kernel
theorem kM_i_thrown : Cond.instanceMethod yM_thrown ∈ lw_g := lw_in (List.mem_append_right _ (List.mem_of_getElem? (i := 1182) (by decide +kernel))) rfl
theorem kM_s_thrown : Cond.selects RM yM_thrown yM_thrown ∈ lw_g := lw_in (List.mem_append_right _ (List.mem_of_getElem? (i := 1183) (by decide +kernel))) rfl
-- fail: maxLocals 2, ret (some .int)
theorem kM_c_fail : Cond.code yM_fail bM_fail 2 (some .int) ∈ lw_g := lw_in (List.mem_append_right _ (List.mem_of_getElem? (i := 1192) (by decide +kernel))) rfl
theorem dM_fail_0 : decode bM_fail 0 = .ok (.aload_n 0, 1) := by decide +kernel
theorem dM_fail_1 : decode bM_fail 1 = .ok (.iload_n 1, 1) := by decide +kernel
theorem dM_fail_2 : decode bM_fail 2 = .ok (.putfield 77, 3) := by decide +kernel
theorem dM_fail_5 : decode bM_fail 5 = .ok (.iconst 0, 1) := by decide +kernel
theorem dM_fail_6 : decode bM_fail 6 = .ok (.ireturn, 1) := by decide +kernel
theorem kM_i_fail : Cond.instanceMethod yM_fail ∈ lw_g := lw_in (List.mem_append_right _ (List.mem_of_getElem? (i := 1191) (by decide +kernel))) rfl
theorem kM_s_fail : Cond.selects RM yM_fail yM_fail ∈ lw_g := lw_in (List.mem_append_left _ (List.mem_map.mpr ⟨(yM_fail, 40), by decide +kernel, rfl⟩)) rfl
-- newNode: maxLocals 2, ret (some .int)
theorem kM_c_newNode : Cond.code yM_newNode bM_newNode 2 (some .int) ∈ lw_g := lw_in (List.mem_append_right _ (List.mem_of_getElem? (i := 1213) (by decide +kernel))) rfl
theorem dM_newNode_0 : decode bM_newNode 0 = .ok (.aload_n 0, 1) := by decide +kernel
theorem dM_newNode_1 : decode bM_newNode 1 = .ok (.getfield 25, 3) := by decide +kernel
theorem dM_newNode_4 : decode bM_newNode 4 = .ok (.aload_n 0, 1) := by decide +kernel
theorem dM_newNode_5 : decode bM_newNode 5 = .ok (.getfield 81, 3) := by decide +kernel
theorem kM_f81 : Cond.fieldLink RM 81 "ContinuationCoreModel" "nodes" "I" ∈ lw_g := lw_in (List.mem_append_right _ (List.mem_of_getElem? (i := 1072) (by decide +kernel))) rfl
theorem dM_newNode_8 : decode bM_newNode 8 = .ok (.iload_n 1, 1) := by decide +kernel
theorem dM_newNode_9 : decode bM_newNode 9 = .ok (.iastore, 1) := by decide +kernel
theorem dM_newNode_10 : decode bM_newNode 10 = .ok (.aload_n 0, 1) := by decide +kernel
theorem dM_newNode_11 : decode bM_newNode 11 = .ok (.getfield 28, 3) := by decide +kernel
theorem dM_newNode_14 : decode bM_newNode 14 = .ok (.aload_n 0, 1) := by decide +kernel
theorem dM_newNode_15 : decode bM_newNode 15 = .ok (.getfield 81, 3) := by decide +kernel
theorem dM_newNode_18 : decode bM_newNode 18 = .ok (.iconst 0, 1) := by decide +kernel
theorem dM_newNode_19 : decode bM_newNode 19 = .ok (.iastore, 1) := by decide +kernel
theorem dM_newNode_20 : decode bM_newNode 20 = .ok (.aload_n 0, 1) := by decide +kernel
theorem dM_newNode_21 : decode bM_newNode 21 = .ok (.getfield 31, 3) := by decide +kernel
theorem dM_newNode_24 : decode bM_newNode 24 = .ok (.aload_n 0, 1) := by decide +kernel
theorem dM_newNode_25 : decode bM_newNode 25 = .ok (.getfield 81, 3) := by decide +kernel
theorem dM_newNode_28 : decode bM_newNode 28 = .ok (.iconst 0, 1) := by decide +kernel
theorem dM_newNode_29 : decode bM_newNode 29 = .ok (.iastore, 1) := by decide +kernel
theorem dM_newNode_30 : decode bM_newNode 30 = .ok (.aload_n 0, 1) := by decide +kernel
theorem dM_newNode_31 : decode bM_newNode 31 = .ok (.dup, 1) := by decide +kernel
theorem dM_newNode_32 : decode bM_newNode 32 = .ok (.getfield 81, 3) := by decide +kernel
theorem dM_newNode_35 : decode bM_newNode 35 = .ok (.iconst 1, 1) := by decide +kernel
theorem dM_newNode_36 : decode bM_newNode 36 = .ok (.iadd, 1) := by decide +kernel
theorem dM_newNode_37 : decode bM_newNode 37 = .ok (.putfield 81, 3) := by decide +kernel
theorem dM_newNode_40 : decode bM_newNode 40 = .ok (.aload_n 0, 1) := by decide +kernel
theorem dM_newNode_41 : decode bM_newNode 41 = .ok (.getfield 81, 3) := by decide +kernel
theorem dM_newNode_44 : decode bM_newNode 44 = .ok (.iconst 1, 1) := by decide +kernel
theorem dM_newNode_45 : decode bM_newNode 45 = .ok (.isub, 1) := by decide +kernel
theorem dM_newNode_46 : decode bM_newNode 46 = .ok (.ireturn, 1) := by decide +kernel
theorem kM_i_newNode : Cond.instanceMethod yM_newNode ∈ lw_g := lw_in (List.mem_append_right _ (List.mem_of_getElem? (i := 1212) (by decide +kernel))) rfl
theorem kM_s_newNode : Cond.selects RM yM_newNode yM_newNode ∈ lw_g := lw_in (List.mem_append_left _ (List.mem_map.mpr ⟨(yM_newNode, 40), by decide +kernel, rfl⟩)) rfl
-- attach: maxLocals 3, ret none
theorem kM_c_attach : Cond.code yM_attach bM_attach 3 none ∈ lw_g := lw_in (List.mem_append_right _ (List.mem_of_getElem? (i := 1217) (by decide +kernel))) rfl
theorem dM_attach_0 : decode bM_attach 0 = .ok (.aload_n 0, 1) := by decide +kernel
theorem dM_attach_1 : decode bM_attach 1 = .ok (.getfield 84, 3) := by decide +kernel
theorem kM_f84 : Cond.fieldLink RM 84 "ContinuationCoreModel" "depth" "I" ∈ lw_g := lw_in (List.mem_append_right _ (List.mem_of_getElem? (i := 1066) (by decide +kernel))) rfl
theorem dM_attach_4 : decode bM_attach 4 = .ok (.ifCond .ne 10, 3) := by decide +kernel
theorem dM_attach_7 : decode bM_attach 7 = .ok (.aload_n 0, 1) := by decide +kernel
theorem dM_attach_8 : decode bM_attach 8 = .ok (.bipush 6, 2) := by decide +kernel
theorem dM_attach_10 : decode bM_attach 10 = .ok (.putfield 87, 3) := by decide +kernel
theorem kM_f87 : Cond.fieldLink RM 87 "ContinuationCoreModel" "mode" "I" ∈ lw_g := lw_in (List.mem_append_right _ (List.mem_of_getElem? (i := 1067) (by decide +kernel))) rfl
theorem dM_attach_13 : decode bM_attach 13 = .ok (.return_, 1) := by decide +kernel
theorem dM_attach_14 : decode bM_attach 14 = .ok (.aload_n 0, 1) := by decide +kernel
theorem dM_attach_15 : decode bM_attach 15 = .ok (.getfield 84, 3) := by decide +kernel
theorem dM_attach_18 : decode bM_attach 18 = .ok (.iconst 1, 1) := by decide +kernel
theorem dM_attach_19 : decode bM_attach 19 = .ok (.isub, 1) := by decide +kernel
theorem dM_attach_20 : decode bM_attach 20 = .ok (.istore_n 2, 1) := by decide +kernel
theorem dM_attach_21 : decode bM_attach 21 = .ok (.aload_n 0, 1) := by decide +kernel
theorem dM_attach_22 : decode bM_attach 22 = .ok (.getfield 16, 3) := by decide +kernel
theorem dM_attach_25 : decode bM_attach 25 = .ok (.iload_n 2, 1) := by decide +kernel
theorem dM_attach_26 : decode bM_attach 26 = .ok (.iaload, 1) := by decide +kernel
theorem dM_attach_27 : decode bM_attach 27 = .ok (.iconst 4, 1) := by decide +kernel
theorem dM_attach_28 : decode bM_attach 28 = .ok (.if_icmp .ge 24, 3) := by decide +kernel
theorem dM_attach_31 : decode bM_attach 31 = .ok (.aload_n 0, 1) := by decide +kernel
theorem dM_attach_32 : decode bM_attach 32 = .ok (.getfield 34, 3) := by decide +kernel
theorem dM_attach_35 : decode bM_attach 35 = .ok (.iconst 4, 1) := by decide +kernel
theorem dM_attach_36 : decode bM_attach 36 = .ok (.aload_n 0, 1) := by decide +kernel
theorem dM_attach_37 : decode bM_attach 37 = .ok (.getfield 13, 3) := by decide +kernel
theorem dM_attach_40 : decode bM_attach 40 = .ok (.iload_n 2, 1) := by decide +kernel
theorem dM_attach_41 : decode bM_attach 41 = .ok (.iaload, 1) := by decide +kernel
theorem dM_attach_42 : decode bM_attach 42 = .ok (.imul, 1) := by decide +kernel
theorem dM_attach_43 : decode bM_attach 43 = .ok (.aload_n 0, 1) := by decide +kernel
theorem dM_attach_44 : decode bM_attach 44 = .ok (.getfield 16, 3) := by decide +kernel
theorem dM_attach_47 : decode bM_attach 47 = .ok (.iload_n 2, 1) := by decide +kernel
theorem dM_attach_48 : decode bM_attach 48 = .ok (.iaload, 1) := by decide +kernel
theorem dM_attach_49 : decode bM_attach 49 = .ok (.iadd, 1) := by decide +kernel
theorem dM_attach_50 : decode bM_attach 50 = .ok (.iload_n 1, 1) := by decide +kernel
theorem dM_attach_51 : decode bM_attach 51 = .ok (.iastore, 1) := by decide +kernel
theorem dM_attach_52 : decode bM_attach 52 = .ok (.aload_n 0, 1) := by decide +kernel
theorem dM_attach_53 : decode bM_attach 53 = .ok (.getfield 16, 3) := by decide +kernel
theorem dM_attach_56 : decode bM_attach 56 = .ok (.iload_n 2, 1) := by decide +kernel
theorem dM_attach_57 : decode bM_attach 57 = .ok (.dup2, 1) := by decide +kernel
theorem dM_attach_58 : decode bM_attach 58 = .ok (.iaload, 1) := by decide +kernel
theorem dM_attach_59 : decode bM_attach 59 = .ok (.iconst 1, 1) := by decide +kernel
theorem dM_attach_60 : decode bM_attach 60 = .ok (.iadd, 1) := by decide +kernel
theorem dM_attach_61 : decode bM_attach 61 = .ok (.iastore, 1) := by decide +kernel
theorem dM_attach_62 : decode bM_attach 62 = .ok (.aload_n 0, 1) := by decide +kernel
theorem dM_attach_63 : decode bM_attach 63 = .ok (.iconst 0, 1) := by decide +kernel
theorem dM_attach_64 : decode bM_attach 64 = .ok (.putfield 87, 3) := by decide +kernel
theorem dM_attach_67 : decode bM_attach 67 = .ok (.return_, 1) := by decide +kernel
theorem kM_i_attach : Cond.instanceMethod yM_attach ∈ lw_g := lw_in (List.mem_append_right _ (List.mem_of_getElem? (i := 1216) (by decide +kernel))) rfl
theorem kM_s_attach : Cond.selects RM yM_attach yM_attach ∈ lw_g := lw_in (List.mem_append_left _ (List.mem_map.mpr ⟨(yM_attach, 40), by decide +kernel, rfl⟩)) rfl
-- begin: maxLocals 3, ret (some .boolean)
theorem kM_c_begin : Cond.code yM_begin bM_begin 3 (some .boolean) ∈ lw_g := lw_in (List.mem_append_right _ (List.mem_of_getElem? (i := 1209) (by decide +kernel))) rfl
theorem dM_begin_0 : decode bM_begin 0 = .ok (.aload_n 0, 1) := by decide +kernel
theorem dM_begin_1 : decode bM_begin 1 = .ok (.getfield 84, 3) := by decide +kernel
theorem dM_begin_4 : decode bM_begin 4 = .ok (.ifCond .le 30, 3) := by decide +kernel
theorem dM_begin_7 : decode bM_begin 7 = .ok (.aload_n 0, 1) := by decide +kernel
theorem dM_begin_8 : decode bM_begin 8 = .ok (.getfield 16, 3) := by decide +kernel
theorem dM_begin_11 : decode bM_begin 11 = .ok (.aload_n 0, 1) := by decide +kernel
theorem dM_begin_12 : decode bM_begin 12 = .ok (.getfield 84, 3) := by decide +kernel
theorem dM_begin_15 : decode bM_begin 15 = .ok (.iconst 1, 1) := by decide +kernel
theorem dM_begin_16 : decode bM_begin 16 = .ok (.isub, 1) := by decide +kernel
theorem dM_begin_17 : decode bM_begin 17 = .ok (.iaload, 1) := by decide +kernel
theorem dM_begin_18 : decode bM_begin 18 = .ok (.aload_n 0, 1) := by decide +kernel
theorem dM_begin_19 : decode bM_begin 19 = .ok (.getfield 22, 3) := by decide +kernel
theorem dM_begin_22 : decode bM_begin 22 = .ok (.aload_n 0, 1) := by decide +kernel
theorem dM_begin_23 : decode bM_begin 23 = .ok (.getfield 84, 3) := by decide +kernel
theorem dM_begin_26 : decode bM_begin 26 = .ok (.iconst 1, 1) := by decide +kernel
theorem dM_begin_27 : decode bM_begin 27 = .ok (.isub, 1) := by decide +kernel
theorem dM_begin_28 : decode bM_begin 28 = .ok (.iaload, 1) := by decide +kernel
theorem dM_begin_29 : decode bM_begin 29 = .ok (.if_icmp .ne 5, 3) := by decide +kernel
theorem dM_begin_32 : decode bM_begin 32 = .ok (.iconst 0, 1) := by decide +kernel
theorem dM_begin_33 : decode bM_begin 33 = .ok (.ireturn, 1) := by decide +kernel
theorem dM_begin_34 : decode bM_begin 34 = .ok (.iload_n 1, 1) := by decide +kernel
theorem dM_begin_35 : decode bM_begin 35 = .ok (.bipush 48, 2) := by decide +kernel
theorem dM_begin_37 : decode bM_begin 37 = .ok (.if_icmp .lt 45, 3) := by decide +kernel
theorem dM_begin_40 : decode bM_begin 40 = .ok (.iload_n 1, 1) := by decide +kernel
theorem dM_begin_41 : decode bM_begin 41 = .ok (.bipush 57, 2) := by decide +kernel
theorem dM_begin_43 : decode bM_begin 43 = .ok (.if_icmp .gt 39, 3) := by decide +kernel
theorem dM_begin_46 : decode bM_begin 46 = .ok (.aload_n 0, 1) := by decide +kernel
theorem dM_begin_47 : decode bM_begin 47 = .ok (.bipush 48, 2) := by decide +kernel
theorem dM_begin_49 : decode bM_begin 49 = .ok (.invokevirtual 90, 3) := by decide +kernel
theorem kM_m90 : Cond.methodLink RM 90 yM_newNode ∈ lw_g := lw_in (List.mem_append_right _ (List.mem_of_getElem? (i := 1210) (by decide +kernel))) rfl
theorem dM_begin_52 : decode bM_begin 52 = .ok (.istore_n 2, 1) := by decide +kernel
theorem dM_begin_53 : decode bM_begin 53 = .ok (.aload_n 0, 1) := by decide +kernel
theorem dM_begin_54 : decode bM_begin 54 = .ok (.getfield 28, 3) := by decide +kernel
theorem dM_begin_57 : decode bM_begin 57 = .ok (.iload_n 2, 1) := by decide +kernel
theorem dM_begin_58 : decode bM_begin 58 = .ok (.iload_n 1, 1) := by decide +kernel
theorem dM_begin_59 : decode bM_begin 59 = .ok (.bipush 48, 2) := by decide +kernel
theorem dM_begin_61 : decode bM_begin 61 = .ok (.isub, 1) := by decide +kernel
theorem dM_begin_62 : decode bM_begin 62 = .ok (.iastore, 1) := by decide +kernel
theorem dM_begin_63 : decode bM_begin 63 = .ok (.aload_n 0, 1) := by decide +kernel
theorem dM_begin_64 : decode bM_begin 64 = .ok (.getfield 31, 3) := by decide +kernel
theorem dM_begin_67 : decode bM_begin 67 = .ok (.iload_n 2, 1) := by decide +kernel
theorem dM_begin_68 : decode bM_begin 68 = .ok (.iconst 1, 1) := by decide +kernel
theorem dM_begin_69 : decode bM_begin 69 = .ok (.iastore, 1) := by decide +kernel
theorem dM_begin_70 : decode bM_begin 70 = .ok (.aload_n 0, 1) := by decide +kernel
theorem dM_begin_71 : decode bM_begin 71 = .ok (.iload_n 2, 1) := by decide +kernel
theorem dM_begin_72 : decode bM_begin 72 = .ok (.invokevirtual 94, 3) := by decide +kernel
theorem kM_m94 : Cond.methodLink RM 94 yM_attach ∈ lw_g := lw_in (List.mem_append_right _ (List.mem_of_getElem? (i := 1214) (by decide +kernel))) rfl
theorem dM_begin_75 : decode bM_begin 75 = .ok (.aload_n 0, 1) := by decide +kernel
theorem dM_begin_76 : decode bM_begin 76 = .ok (.iconst 4, 1) := by decide +kernel
theorem dM_begin_77 : decode bM_begin 77 = .ok (.putfield 87, 3) := by decide +kernel
theorem dM_begin_80 : decode bM_begin 80 = .ok (.iconst 1, 1) := by decide +kernel
theorem dM_begin_81 : decode bM_begin 81 = .ok (.ireturn, 1) := by decide +kernel
theorem dM_begin_82 : decode bM_begin 82 = .ok (.iload_n 1, 1) := by decide +kernel
theorem dM_begin_83 : decode bM_begin 83 = .ok (.bipush 97, 2) := by decide +kernel
theorem dM_begin_85 : decode bM_begin 85 = .ok (.if_icmp .lt 9, 3) := by decide +kernel
theorem dM_begin_88 : decode bM_begin 88 = .ok (.iload_n 1, 1) := by decide +kernel
theorem dM_begin_89 : decode bM_begin 89 = .ok (.bipush 122, 2) := by decide +kernel
theorem dM_begin_91 : decode bM_begin 91 = .ok (.if_icmp .le 9, 3) := by decide +kernel
theorem dM_begin_94 : decode bM_begin 94 = .ok (.iload_n 1, 1) := by decide +kernel
theorem dM_begin_95 : decode bM_begin 95 = .ok (.bipush 95, 2) := by decide +kernel
theorem dM_begin_97 : decode bM_begin 97 = .ok (.if_icmp .ne 38, 3) := by decide +kernel
theorem dM_begin_100 : decode bM_begin 100 = .ok (.aload_n 0, 1) := by decide +kernel
theorem dM_begin_101 : decode bM_begin 101 = .ok (.iload_n 1, 1) := by decide +kernel
theorem dM_begin_102 : decode bM_begin 102 = .ok (.bipush 95, 2) := by decide +kernel
theorem dM_begin_104 : decode bM_begin 104 = .ok (.if_icmp .ne 8, 3) := by decide +kernel
theorem dM_begin_107 : decode bM_begin 107 = .ok (.bipush 95, 2) := by decide +kernel
theorem dM_begin_109 : decode bM_begin 109 = .ok (.goto 5, 3) := by decide +kernel
theorem dM_begin_112 : decode bM_begin 112 = .ok (.bipush 110, 2) := by decide +kernel
theorem dM_begin_114 : decode bM_begin 114 = .ok (.invokevirtual 90, 3) := by decide +kernel
theorem dM_begin_117 : decode bM_begin 117 = .ok (.istore_n 2, 1) := by decide +kernel
theorem dM_begin_118 : decode bM_begin 118 = .ok (.aload_n 0, 1) := by decide +kernel
theorem dM_begin_119 : decode bM_begin 119 = .ok (.getfield 28, 3) := by decide +kernel
theorem dM_begin_122 : decode bM_begin 122 = .ok (.iload_n 2, 1) := by decide +kernel
theorem dM_begin_123 : decode bM_begin 123 = .ok (.iload_n 1, 1) := by decide +kernel
theorem dM_begin_124 : decode bM_begin 124 = .ok (.bipush 97, 2) := by decide +kernel
theorem dM_begin_126 : decode bM_begin 126 = .ok (.isub, 1) := by decide +kernel
theorem dM_begin_127 : decode bM_begin 127 = .ok (.iastore, 1) := by decide +kernel
theorem dM_begin_128 : decode bM_begin 128 = .ok (.aload_n 0, 1) := by decide +kernel
theorem dM_begin_129 : decode bM_begin 129 = .ok (.iload_n 2, 1) := by decide +kernel
theorem dM_begin_130 : decode bM_begin 130 = .ok (.invokevirtual 94, 3) := by decide +kernel
theorem dM_begin_133 : decode bM_begin 133 = .ok (.iconst 1, 1) := by decide +kernel
theorem dM_begin_134 : decode bM_begin 134 = .ok (.ireturn, 1) := by decide +kernel
theorem dM_begin_135 : decode bM_begin 135 = .ok (.iload_n 1, 1) := by decide +kernel
theorem dM_begin_136 : decode bM_begin 136 = .ok (.bipush 40, 2) := by decide +kernel
theorem dM_begin_138 : decode bM_begin 138 = .ok (.if_icmp .ne 12, 3) := by decide +kernel
theorem dM_begin_141 : decode bM_begin 141 = .ok (.aload_n 0, 1) := by decide +kernel
theorem dM_begin_142 : decode bM_begin 142 = .ok (.getfield 84, 3) := by decide +kernel
theorem dM_begin_145 : decode bM_begin 145 = .ok (.bipush 12, 2) := by decide +kernel
theorem dM_begin_147 : decode bM_begin 147 = .ok (.if_icmp .ne 5, 3) := by decide +kernel
theorem dM_begin_150 : decode bM_begin 150 = .ok (.iconst 0, 1) := by decide +kernel
theorem dM_begin_151 : decode bM_begin 151 = .ok (.ireturn, 1) := by decide +kernel
theorem dM_begin_152 : decode bM_begin 152 = .ok (.aload_n 0, 1) := by decide +kernel
theorem dM_begin_153 : decode bM_begin 153 = .ok (.getfield 13, 3) := by decide +kernel
theorem dM_begin_156 : decode bM_begin 156 = .ok (.aload_n 0, 1) := by decide +kernel
theorem dM_begin_157 : decode bM_begin 157 = .ok (.getfield 84, 3) := by decide +kernel
theorem dM_begin_160 : decode bM_begin 160 = .ok (.aload_n 0, 1) := by decide +kernel
theorem dM_begin_161 : decode bM_begin 161 = .ok (.bipush 40, 2) := by decide +kernel
theorem dM_begin_163 : decode bM_begin 163 = .ok (.invokevirtual 90, 3) := by decide +kernel
theorem dM_begin_166 : decode bM_begin 166 = .ok (.iastore, 1) := by decide +kernel
theorem dM_begin_167 : decode bM_begin 167 = .ok (.aload_n 0, 1) := by decide +kernel
theorem dM_begin_168 : decode bM_begin 168 = .ok (.getfield 16, 3) := by decide +kernel
theorem dM_begin_171 : decode bM_begin 171 = .ok (.aload_n 0, 1) := by decide +kernel
theorem dM_begin_172 : decode bM_begin 172 = .ok (.getfield 84, 3) := by decide +kernel
theorem dM_begin_175 : decode bM_begin 175 = .ok (.iconst 0, 1) := by decide +kernel
theorem dM_begin_176 : decode bM_begin 176 = .ok (.iastore, 1) := by decide +kernel
theorem dM_begin_177 : decode bM_begin 177 = .ok (.aload_n 0, 1) := by decide +kernel
theorem dM_begin_178 : decode bM_begin 178 = .ok (.getfield 19, 3) := by decide +kernel
theorem dM_begin_181 : decode bM_begin 181 = .ok (.aload_n 0, 1) := by decide +kernel
theorem dM_begin_182 : decode bM_begin 182 = .ok (.getfield 84, 3) := by decide +kernel
theorem dM_begin_185 : decode bM_begin 185 = .ok (.iconst 1, 1) := by decide +kernel
theorem dM_begin_186 : decode bM_begin 186 = .ok (.iastore, 1) := by decide +kernel
theorem dM_begin_187 : decode bM_begin 187 = .ok (.aload_n 0, 1) := by decide +kernel
theorem dM_begin_188 : decode bM_begin 188 = .ok (.getfield 22, 3) := by decide +kernel
theorem dM_begin_191 : decode bM_begin 191 = .ok (.aload_n 0, 1) := by decide +kernel
theorem dM_begin_192 : decode bM_begin 192 = .ok (.getfield 84, 3) := by decide +kernel
theorem dM_begin_195 : decode bM_begin 195 = .ok (.iconst 4, 1) := by decide +kernel
theorem dM_begin_196 : decode bM_begin 196 = .ok (.iastore, 1) := by decide +kernel
theorem dM_begin_197 : decode bM_begin 197 = .ok (.aload_n 0, 1) := by decide +kernel
theorem dM_begin_198 : decode bM_begin 198 = .ok (.dup, 1) := by decide +kernel
theorem dM_begin_199 : decode bM_begin 199 = .ok (.getfield 84, 3) := by decide +kernel
theorem dM_begin_202 : decode bM_begin 202 = .ok (.iconst 1, 1) := by decide +kernel
theorem dM_begin_203 : decode bM_begin 203 = .ok (.iadd, 1) := by decide +kernel
theorem dM_begin_204 : decode bM_begin 204 = .ok (.putfield 84, 3) := by decide +kernel
theorem dM_begin_207 : decode bM_begin 207 = .ok (.aload_n 0, 1) := by decide +kernel
theorem dM_begin_208 : decode bM_begin 208 = .ok (.iconst 1, 1) := by decide +kernel
theorem dM_begin_209 : decode bM_begin 209 = .ok (.putfield 87, 3) := by decide +kernel
theorem dM_begin_212 : decode bM_begin 212 = .ok (.iconst 1, 1) := by decide +kernel
theorem dM_begin_213 : decode bM_begin 213 = .ok (.ireturn, 1) := by decide +kernel
theorem kM_i_begin : Cond.instanceMethod yM_begin ∈ lw_g := lw_in (List.mem_append_right _ (List.mem_of_getElem? (i := 1208) (by decide +kernel))) rfl
theorem kM_s_begin : Cond.selects RM yM_begin yM_begin ∈ lw_g := lw_in (List.mem_append_left _ (List.mem_map.mpr ⟨(yM_begin, 40), by decide +kernel, rfl⟩)) rfl
-- arity: maxLocals 2, ret (some .int)
theorem kM_c_arity : Cond.code yM_arity bM_arity 2 (some .int) ∈ lw_g := lw_in (List.mem_append_right _ (List.mem_of_getElem? (i := 1225) (by decide +kernel))) rfl
theorem dM_arity_0 : decode bM_arity 0 = .ok (.iload_n 1, 1) := by decide +kernel
theorem dM_arity_1 : decode bM_arity 1 = .ok (.bipush 43, 2) := by decide +kernel
theorem dM_arity_3 : decode bM_arity 3 = .ok (.if_icmp .eq 57, 3) := by decide +kernel
theorem dM_arity_6 : decode bM_arity 6 = .ok (.iload_n 1, 1) := by decide +kernel
theorem dM_arity_7 : decode bM_arity 7 = .ok (.bipush 45, 2) := by decide +kernel
theorem dM_arity_9 : decode bM_arity 9 = .ok (.if_icmp .eq 51, 3) := by decide +kernel
theorem dM_arity_12 : decode bM_arity 12 = .ok (.iload_n 1, 1) := by decide +kernel
theorem dM_arity_13 : decode bM_arity 13 = .ok (.bipush 42, 2) := by decide +kernel
theorem dM_arity_15 : decode bM_arity 15 = .ok (.if_icmp .eq 45, 3) := by decide +kernel
theorem dM_arity_18 : decode bM_arity 18 = .ok (.iload_n 1, 1) := by decide +kernel
theorem dM_arity_19 : decode bM_arity 19 = .ok (.bipush 47, 2) := by decide +kernel
theorem dM_arity_21 : decode bM_arity 21 = .ok (.if_icmp .eq 39, 3) := by decide +kernel
theorem dM_arity_24 : decode bM_arity 24 = .ok (.iload_n 1, 1) := by decide +kernel
theorem dM_arity_25 : decode bM_arity 25 = .ok (.bipush 60, 2) := by decide +kernel
theorem dM_arity_27 : decode bM_arity 27 = .ok (.if_icmp .eq 33, 3) := by decide +kernel
theorem dM_arity_30 : decode bM_arity 30 = .ok (.iload_n 1, 1) := by decide +kernel
theorem dM_arity_31 : decode bM_arity 31 = .ok (.bipush 61, 2) := by decide +kernel
theorem dM_arity_33 : decode bM_arity 33 = .ok (.if_icmp .eq 27, 3) := by decide +kernel
theorem dM_arity_36 : decode bM_arity 36 = .ok (.iload_n 1, 1) := by decide +kernel
theorem dM_arity_37 : decode bM_arity 37 = .ok (.bipush 58, 2) := by decide +kernel
theorem dM_arity_39 : decode bM_arity 39 = .ok (.if_icmp .eq 21, 3) := by decide +kernel
theorem dM_arity_42 : decode bM_arity 42 = .ok (.iload_n 1, 1) := by decide +kernel
theorem dM_arity_43 : decode bM_arity 43 = .ok (.bipush 38, 2) := by decide +kernel
theorem dM_arity_45 : decode bM_arity 45 = .ok (.if_icmp .eq 15, 3) := by decide +kernel
theorem dM_arity_48 : decode bM_arity 48 = .ok (.iload_n 1, 1) := by decide +kernel
theorem dM_arity_49 : decode bM_arity 49 = .ok (.bipush 64, 2) := by decide +kernel
theorem dM_arity_51 : decode bM_arity 51 = .ok (.if_icmp .eq 9, 3) := by decide +kernel
theorem dM_arity_54 : decode bM_arity 54 = .ok (.iload_n 1, 1) := by decide +kernel
theorem dM_arity_55 : decode bM_arity 55 = .ok (.bipush 37, 2) := by decide +kernel
theorem dM_arity_57 : decode bM_arity 57 = .ok (.if_icmp .ne 5, 3) := by decide +kernel
theorem dM_arity_60 : decode bM_arity 60 = .ok (.iconst 2, 1) := by decide +kernel
theorem dM_arity_61 : decode bM_arity 61 = .ok (.ireturn, 1) := by decide +kernel
theorem dM_arity_62 : decode bM_arity 62 = .ok (.iload_n 1, 1) := by decide +kernel
theorem dM_arity_63 : decode bM_arity 63 = .ok (.bipush 65, 2) := by decide +kernel
theorem dM_arity_65 : decode bM_arity 65 = .ok (.if_icmp .eq 33, 3) := by decide +kernel
theorem dM_arity_68 : decode bM_arity 68 = .ok (.iload_n 1, 1) := by decide +kernel
theorem dM_arity_69 : decode bM_arity 69 = .ok (.bipush 68, 2) := by decide +kernel
theorem dM_arity_71 : decode bM_arity 71 = .ok (.if_icmp .eq 27, 3) := by decide +kernel
theorem dM_arity_74 : decode bM_arity 74 = .ok (.iload_n 1, 1) := by decide +kernel
theorem dM_arity_75 : decode bM_arity 75 = .ok (.bipush 80, 2) := by decide +kernel
theorem dM_arity_77 : decode bM_arity 77 = .ok (.if_icmp .eq 21, 3) := by decide +kernel
theorem dM_arity_80 : decode bM_arity 80 = .ok (.iload_n 1, 1) := by decide +kernel
theorem dM_arity_81 : decode bM_arity 81 = .ok (.bipush 94, 2) := by decide +kernel
theorem dM_arity_83 : decode bM_arity 83 = .ok (.if_icmp .eq 15, 3) := by decide +kernel
theorem dM_arity_86 : decode bM_arity 86 = .ok (.iload_n 1, 1) := by decide +kernel
theorem dM_arity_87 : decode bM_arity 87 = .ok (.bipush 33, 2) := by decide +kernel
theorem dM_arity_89 : decode bM_arity 89 = .ok (.if_icmp .eq 9, 3) := by decide +kernel
theorem dM_arity_92 : decode bM_arity 92 = .ok (.iload_n 1, 1) := by decide +kernel
theorem dM_arity_93 : decode bM_arity 93 = .ok (.bipush 92, 2) := by decide +kernel
theorem dM_arity_95 : decode bM_arity 95 = .ok (.if_icmp .ne 5, 3) := by decide +kernel
theorem dM_arity_98 : decode bM_arity 98 = .ok (.iconst 1, 1) := by decide +kernel
theorem dM_arity_99 : decode bM_arity 99 = .ok (.ireturn, 1) := by decide +kernel
theorem dM_arity_100 : decode bM_arity 100 = .ok (.iload_n 1, 1) := by decide +kernel
theorem dM_arity_101 : decode bM_arity 101 = .ok (.bipush 63, 2) := by decide +kernel
theorem dM_arity_103 : decode bM_arity 103 = .ok (.if_icmp .ne 7, 3) := by decide +kernel
theorem dM_arity_106 : decode bM_arity 106 = .ok (.iconst 3, 1) := by decide +kernel
theorem dM_arity_107 : decode bM_arity 107 = .ok (.goto 4, 3) := by decide +kernel
theorem dM_arity_110 : decode bM_arity 110 = .ok (.iconst 0, 1) := by decide +kernel
theorem dM_arity_111 : decode bM_arity 111 = .ok (.ireturn, 1) := by decide +kernel
theorem kM_i_arity : Cond.instanceMethod yM_arity ∈ lw_g := lw_in (List.mem_append_right _ (List.mem_of_getElem? (i := 1224) (by decide +kernel))) rfl
theorem kM_s_arity : Cond.selects RM yM_arity yM_arity ∈ lw_g := lw_in (List.mem_append_left _ (List.mem_map.mpr ⟨(yM_arity, 40), by decide +kernel, rfl⟩)) rfl
-- operator: maxLocals 4, ret (some .boolean)
theorem kM_c_operator : Cond.code yM_operator bM_operator 4 (some .boolean) ∈ lw_g := lw_in (List.mem_append_right _ (List.mem_of_getElem? (i := 1221) (by decide +kernel))) rfl
theorem dM_operator_0 : decode bM_operator 0 = .ok (.aload_n 0, 1) := by decide +kernel
theorem dM_operator_1 : decode bM_operator 1 = .ok (.iload_n 1, 1) := by decide +kernel
theorem dM_operator_2 : decode bM_operator 2 = .ok (.invokevirtual 98, 3) := by decide +kernel
theorem kM_m98 : Cond.methodLink RM 98 yM_arity ∈ lw_g := lw_in (List.mem_append_right _ (List.mem_of_getElem? (i := 1222) (by decide +kernel))) rfl
theorem dM_operator_5 : decode bM_operator 5 = .ok (.istore_n 2, 1) := by decide +kernel
theorem dM_operator_6 : decode bM_operator 6 = .ok (.iload_n 2, 1) := by decide +kernel
theorem dM_operator_7 : decode bM_operator 7 = .ok (.ifCond .ne 5, 3) := by decide +kernel
theorem dM_operator_10 : decode bM_operator 10 = .ok (.iconst 0, 1) := by decide +kernel
theorem dM_operator_11 : decode bM_operator 11 = .ok (.ireturn, 1) := by decide +kernel
theorem dM_operator_12 : decode bM_operator 12 = .ok (.aload_n 0, 1) := by decide +kernel
theorem dM_operator_13 : decode bM_operator 13 = .ok (.getfield 84, 3) := by decide +kernel
theorem dM_operator_16 : decode bM_operator 16 = .ok (.iconst 1, 1) := by decide +kernel
theorem dM_operator_17 : decode bM_operator 17 = .ok (.isub, 1) := by decide +kernel
theorem dM_operator_18 : decode bM_operator 18 = .ok (.istore_n 3, 1) := by decide +kernel
theorem dM_operator_19 : decode bM_operator 19 = .ok (.aload_n 0, 1) := by decide +kernel
theorem dM_operator_20 : decode bM_operator 20 = .ok (.getfield 25, 3) := by decide +kernel
theorem dM_operator_23 : decode bM_operator 23 = .ok (.aload_n 0, 1) := by decide +kernel
theorem dM_operator_24 : decode bM_operator 24 = .ok (.getfield 13, 3) := by decide +kernel
theorem dM_operator_27 : decode bM_operator 27 = .ok (.iload_n 3, 1) := by decide +kernel
theorem dM_operator_28 : decode bM_operator 28 = .ok (.iaload, 1) := by decide +kernel
theorem dM_operator_29 : decode bM_operator 29 = .ok (.iload_n 1, 1) := by decide +kernel
theorem dM_operator_30 : decode bM_operator 30 = .ok (.iastore, 1) := by decide +kernel
theorem dM_operator_31 : decode bM_operator 31 = .ok (.aload_n 0, 1) := by decide +kernel
theorem dM_operator_32 : decode bM_operator 32 = .ok (.getfield 19, 3) := by decide +kernel
theorem dM_operator_35 : decode bM_operator 35 = .ok (.iload_n 3, 1) := by decide +kernel
theorem dM_operator_36 : decode bM_operator 36 = .ok (.iload_n 2, 1) := by decide +kernel
theorem dM_operator_37 : decode bM_operator 37 = .ok (.iastore, 1) := by decide +kernel
theorem dM_operator_38 : decode bM_operator 38 = .ok (.aload_n 0, 1) := by decide +kernel
theorem dM_operator_39 : decode bM_operator 39 = .ok (.getfield 22, 3) := by decide +kernel
theorem dM_operator_42 : decode bM_operator 42 = .ok (.iload_n 3, 1) := by decide +kernel
theorem dM_operator_43 : decode bM_operator 43 = .ok (.iload_n 2, 1) := by decide +kernel
theorem dM_operator_44 : decode bM_operator 44 = .ok (.iastore, 1) := by decide +kernel
theorem dM_operator_45 : decode bM_operator 45 = .ok (.aload_n 0, 1) := by decide +kernel
theorem dM_operator_46 : decode bM_operator 46 = .ok (.iload_n 1, 1) := by decide +kernel
theorem dM_operator_47 : decode bM_operator 47 = .ok (.bipush 92, 2) := by decide +kernel
theorem dM_operator_49 : decode bM_operator 49 = .ok (.if_icmp .ne 7, 3) := by decide +kernel
theorem dM_operator_52 : decode bM_operator 52 = .ok (.iconst 3, 1) := by decide +kernel
theorem dM_operator_53 : decode bM_operator 53 = .ok (.goto 26, 3) := by decide +kernel
theorem dM_operator_56 : decode bM_operator 56 = .ok (.iload_n 1, 1) := by decide +kernel
theorem dM_operator_57 : decode bM_operator 57 = .ok (.bipush 33, 2) := by decide +kernel
theorem dM_operator_59 : decode bM_operator 59 = .ok (.if_icmp .eq 15, 3) := by decide +kernel
theorem dM_operator_62 : decode bM_operator 62 = .ok (.iload_n 1, 1) := by decide +kernel
theorem dM_operator_63 : decode bM_operator 63 = .ok (.bipush 64, 2) := by decide +kernel
theorem dM_operator_65 : decode bM_operator 65 = .ok (.if_icmp .eq 9, 3) := by decide +kernel
theorem dM_operator_68 : decode bM_operator 68 = .ok (.iload_n 1, 1) := by decide +kernel
theorem dM_operator_69 : decode bM_operator 69 = .ok (.bipush 37, 2) := by decide +kernel
theorem dM_operator_71 : decode bM_operator 71 = .ok (.if_icmp .ne 7, 3) := by decide +kernel
theorem dM_operator_74 : decode bM_operator 74 = .ok (.iconst 2, 1) := by decide +kernel
theorem dM_operator_75 : decode bM_operator 75 = .ok (.goto 4, 3) := by decide +kernel
theorem dM_operator_78 : decode bM_operator 78 = .ok (.iconst 0, 1) := by decide +kernel
theorem dM_operator_79 : decode bM_operator 79 = .ok (.putfield 87, 3) := by decide +kernel
theorem dM_operator_82 : decode bM_operator 82 = .ok (.iconst 1, 1) := by decide +kernel
theorem dM_operator_83 : decode bM_operator 83 = .ok (.ireturn, 1) := by decide +kernel
theorem kM_i_operator : Cond.instanceMethod yM_operator ∈ lw_g := lw_in (List.mem_append_right _ (List.mem_of_getElem? (i := 1220) (by decide +kernel))) rfl
theorem kM_s_operator : Cond.selects RM yM_operator yM_operator ∈ lw_g := lw_in (List.mem_append_left _ (List.mem_map.mpr ⟨(yM_operator, 40), by decide +kernel, rfl⟩)) rfl
-- closureSign: maxLocals 5, ret (some .boolean)
theorem kM_c_closureSign : Cond.code yM_closureSign bM_closureSign 5 (some .boolean) ∈ lw_g := lw_in (List.mem_append_right _ (List.mem_of_getElem? (i := 1204) (by decide +kernel))) rfl
theorem dM_closureSign_0 : decode bM_closureSign 0 = .ok (.aload_n 0, 1) := by decide +kernel
theorem dM_closureSign_1 : decode bM_closureSign 1 = .ok (.getfield 13, 3) := by decide +kernel
theorem dM_closureSign_4 : decode bM_closureSign 4 = .ok (.aload_n 0, 1) := by decide +kernel
theorem dM_closureSign_5 : decode bM_closureSign 5 = .ok (.getfield 84, 3) := by decide +kernel
theorem dM_closureSign_8 : decode bM_closureSign 8 = .ok (.iconst 1, 1) := by decide +kernel
theorem dM_closureSign_9 : decode bM_closureSign 9 = .ok (.isub, 1) := by decide +kernel
theorem dM_closureSign_10 : decode bM_closureSign 10 = .ok (.iaload, 1) := by decide +kernel
theorem dM_closureSign_11 : decode bM_closureSign 11 = .ok (.istore_n 2, 1) := by decide +kernel
theorem dM_closureSign_12 : decode bM_closureSign 12 = .ok (.aload_n 0, 1) := by decide +kernel
theorem dM_closureSign_13 : decode bM_closureSign 13 = .ok (.getfield 31, 3) := by decide +kernel
theorem dM_closureSign_16 : decode bM_closureSign 16 = .ok (.iload_n 2, 1) := by decide +kernel
theorem dM_closureSign_17 : decode bM_closureSign 17 = .ok (.iaload, 1) := by decide +kernel
theorem dM_closureSign_18 : decode bM_closureSign 18 = .ok (.bipush 20, 2) := by decide +kernel
theorem dM_closureSign_20 : decode bM_closureSign 20 = .ok (.ishr, 1) := by decide +kernel
theorem dM_closureSign_21 : decode bM_closureSign 21 = .ok (.istore_n 3, 1) := by decide +kernel
theorem dM_closureSign_22 : decode bM_closureSign 22 = .ok (.iload_n 1, 1) := by decide +kernel
theorem dM_closureSign_23 : decode bM_closureSign 23 = .ok (.bipush 46, 2) := by decide +kernel
theorem dM_closureSign_25 : decode bM_closureSign 25 = .ok (.if_icmp .ne 10, 3) := by decide +kernel
theorem dM_closureSign_28 : decode bM_closureSign 28 = .ok (.aload_n 0, 1) := by decide +kernel
theorem dM_closureSign_29 : decode bM_closureSign 29 = .ok (.iconst 0, 1) := by decide +kernel
theorem dM_closureSign_30 : decode bM_closureSign 30 = .ok (.putfield 87, 3) := by decide +kernel
theorem dM_closureSign_33 : decode bM_closureSign 33 = .ok (.iconst 1, 1) := by decide +kernel
theorem dM_closureSign_34 : decode bM_closureSign 34 = .ok (.ireturn, 1) := by decide +kernel
theorem dM_closureSign_35 : decode bM_closureSign 35 = .ok (.iload_n 1, 1) := by decide +kernel
theorem dM_closureSign_36 : decode bM_closureSign 36 = .ok (.bipush 97, 2) := by decide +kernel
theorem dM_closureSign_38 : decode bM_closureSign 38 = .ok (.if_icmp .lt 14, 3) := by decide +kernel
theorem dM_closureSign_41 : decode bM_closureSign 41 = .ok (.iload_n 1, 1) := by decide +kernel
theorem dM_closureSign_42 : decode bM_closureSign 42 = .ok (.bipush 122, 2) := by decide +kernel
theorem dM_closureSign_44 : decode bM_closureSign 44 = .ok (.if_icmp .gt 8, 3) := by decide +kernel
theorem dM_closureSign_47 : decode bM_closureSign 47 = .ok (.iload_n 3, 1) := by decide +kernel
theorem dM_closureSign_48 : decode bM_closureSign 48 = .ok (.iconst 3, 1) := by decide +kernel
theorem dM_closureSign_49 : decode bM_closureSign 49 = .ok (.if_icmp .ne 5, 3) := by decide +kernel
theorem dM_closureSign_52 : decode bM_closureSign 52 = .ok (.iconst 0, 1) := by decide +kernel
theorem dM_closureSign_53 : decode bM_closureSign 53 = .ok (.ireturn, 1) := by decide +kernel
theorem dM_closureSign_54 : decode bM_closureSign 54 = .ok (.iconst 0, 1) := by decide +kernel
theorem dM_closureSign_55 : decode bM_closureSign 55 = .ok (.istore 4, 2) := by decide +kernel
theorem dM_closureSign_57 : decode bM_closureSign 57 = .ok (.iload 4, 2) := by decide +kernel
theorem dM_closureSign_59 : decode bM_closureSign 59 = .ok (.iload_n 3, 1) := by decide +kernel
theorem dM_closureSign_60 : decode bM_closureSign 60 = .ok (.if_icmp .ge 32, 3) := by decide +kernel
theorem dM_closureSign_63 : decode bM_closureSign 63 = .ok (.aload_n 0, 1) := by decide +kernel
theorem dM_closureSign_64 : decode bM_closureSign 64 = .ok (.getfield 31, 3) := by decide +kernel
theorem dM_closureSign_67 : decode bM_closureSign 67 = .ok (.iload_n 2, 1) := by decide +kernel
theorem dM_closureSign_68 : decode bM_closureSign 68 = .ok (.iaload, 1) := by decide +kernel
theorem dM_closureSign_69 : decode bM_closureSign 69 = .ok (.iconst 5, 1) := by decide +kernel
theorem dM_closureSign_70 : decode bM_closureSign 70 = .ok (.iload 4, 2) := by decide +kernel
theorem dM_closureSign_72 : decode bM_closureSign 72 = .ok (.imul, 1) := by decide +kernel
theorem dM_closureSign_73 : decode bM_closureSign 73 = .ok (.ishr, 1) := by decide +kernel
theorem dM_closureSign_74 : decode bM_closureSign 74 = .ok (.bipush 31, 2) := by decide +kernel
theorem dM_closureSign_76 : decode bM_closureSign 76 = .ok (.iand, 1) := by decide +kernel
theorem dM_closureSign_77 : decode bM_closureSign 77 = .ok (.iload_n 1, 1) := by decide +kernel
theorem dM_closureSign_78 : decode bM_closureSign 78 = .ok (.bipush 97, 2) := by decide +kernel
theorem dM_closureSign_80 : decode bM_closureSign 80 = .ok (.isub, 1) := by decide +kernel
theorem dM_closureSign_81 : decode bM_closureSign 81 = .ok (.if_icmp .ne 5, 3) := by decide +kernel
theorem dM_closureSign_84 : decode bM_closureSign 84 = .ok (.iconst 0, 1) := by decide +kernel
theorem dM_closureSign_85 : decode bM_closureSign 85 = .ok (.ireturn, 1) := by decide +kernel
theorem dM_closureSign_86 : decode bM_closureSign 86 = .ok (.iinc 4 1, 3) := by decide +kernel
theorem dM_closureSign_89 : decode bM_closureSign 89 = .ok (.goto (-32), 3) := by decide +kernel
theorem dM_closureSign_92 : decode bM_closureSign 92 = .ok (.aload_n 0, 1) := by decide +kernel
theorem dM_closureSign_93 : decode bM_closureSign 93 = .ok (.getfield 31, 3) := by decide +kernel
theorem dM_closureSign_96 : decode bM_closureSign 96 = .ok (.iload_n 2, 1) := by decide +kernel
theorem dM_closureSign_97 : decode bM_closureSign 97 = .ok (.dup2, 1) := by decide +kernel
theorem dM_closureSign_98 : decode bM_closureSign 98 = .ok (.iaload, 1) := by decide +kernel
theorem dM_closureSign_99 : decode bM_closureSign 99 = .ok (.ldc 101, 2) := by decide +kernel
theorem dM_closureSign_101 : decode bM_closureSign 101 = .ok (.iload_n 1, 1) := by decide +kernel
theorem dM_closureSign_102 : decode bM_closureSign 102 = .ok (.bipush 97, 2) := by decide +kernel
theorem dM_closureSign_104 : decode bM_closureSign 104 = .ok (.isub, 1) := by decide +kernel
theorem dM_closureSign_105 : decode bM_closureSign 105 = .ok (.iconst 5, 1) := by decide +kernel
theorem dM_closureSign_106 : decode bM_closureSign 106 = .ok (.iload_n 3, 1) := by decide +kernel
theorem dM_closureSign_107 : decode bM_closureSign 107 = .ok (.imul, 1) := by decide +kernel
theorem dM_closureSign_108 : decode bM_closureSign 108 = .ok (.ishl, 1) := by decide +kernel
theorem dM_closureSign_109 : decode bM_closureSign 109 = .ok (.iadd, 1) := by decide +kernel
theorem dM_closureSign_110 : decode bM_closureSign 110 = .ok (.iadd, 1) := by decide +kernel
theorem dM_closureSign_111 : decode bM_closureSign 111 = .ok (.iastore, 1) := by decide +kernel
theorem dM_closureSign_112 : decode bM_closureSign 112 = .ok (.iconst 1, 1) := by decide +kernel
theorem dM_closureSign_113 : decode bM_closureSign 113 = .ok (.ireturn, 1) := by decide +kernel
theorem kM_i_closureSign : Cond.instanceMethod yM_closureSign ∈ lw_g := lw_in (List.mem_append_right _ (List.mem_of_getElem? (i := 1203) (by decide +kernel))) rfl
theorem kM_s_closureSign : Cond.selects RM yM_closureSign yM_closureSign ∈ lw_g := lw_in (List.mem_append_left _ (List.mem_map.mpr ⟨(yM_closureSign, 40), by decide +kernel, rfl⟩)) rfl
-- signOne: maxLocals 3, ret (some .boolean)
theorem kM_c_signOne : Cond.code yM_signOne bM_signOne 3 (some .boolean) ∈ lw_g := lw_in (List.mem_append_right _ (List.mem_of_getElem? (i := 1200) (by decide +kernel))) rfl
theorem dM_signOne_0 : decode bM_signOne 0 = .ok (.aload_n 0, 1) := by decide +kernel
theorem dM_signOne_1 : decode bM_signOne 1 = .ok (.getfield 87, 3) := by decide +kernel
theorem dM_signOne_4 : decode bM_signOne 4 = .ok (.bipush 6, 2) := by decide +kernel
theorem dM_signOne_6 : decode bM_signOne 6 = .ok (.if_icmp .ne 5, 3) := by decide +kernel
theorem dM_signOne_9 : decode bM_signOne 9 = .ok (.iconst 0, 1) := by decide +kernel
theorem dM_signOne_10 : decode bM_signOne 10 = .ok (.ireturn, 1) := by decide +kernel
theorem dM_signOne_11 : decode bM_signOne 11 = .ok (.aload_n 0, 1) := by decide +kernel
theorem dM_signOne_12 : decode bM_signOne 12 = .ok (.getfield 87, 3) := by decide +kernel
theorem dM_signOne_15 : decode bM_signOne 15 = .ok (.iconst 2, 1) := by decide +kernel
theorem dM_signOne_16 : decode bM_signOne 16 = .ok (.if_icmp .ne 46, 3) := by decide +kernel
theorem dM_signOne_19 : decode bM_signOne 19 = .ok (.aload_n 0, 1) := by decide +kernel
theorem dM_signOne_20 : decode bM_signOne 20 = .ok (.getfield 28, 3) := by decide +kernel
theorem dM_signOne_23 : decode bM_signOne 23 = .ok (.aload_n 0, 1) := by decide +kernel
theorem dM_signOne_24 : decode bM_signOne 24 = .ok (.getfield 13, 3) := by decide +kernel
theorem dM_signOne_27 : decode bM_signOne 27 = .ok (.aload_n 0, 1) := by decide +kernel
theorem dM_signOne_28 : decode bM_signOne 28 = .ok (.getfield 84, 3) := by decide +kernel
theorem dM_signOne_31 : decode bM_signOne 31 = .ok (.iconst 1, 1) := by decide +kernel
theorem dM_signOne_32 : decode bM_signOne 32 = .ok (.isub, 1) := by decide +kernel
theorem dM_signOne_33 : decode bM_signOne 33 = .ok (.iaload, 1) := by decide +kernel
theorem dM_signOne_34 : decode bM_signOne 34 = .ok (.iload_n 1, 1) := by decide +kernel
theorem dM_signOne_35 : decode bM_signOne 35 = .ok (.bipush 97, 2) := by decide +kernel
theorem dM_signOne_37 : decode bM_signOne 37 = .ok (.isub, 1) := by decide +kernel
theorem dM_signOne_38 : decode bM_signOne 38 = .ok (.iastore, 1) := by decide +kernel
theorem dM_signOne_39 : decode bM_signOne 39 = .ok (.aload_n 0, 1) := by decide +kernel
theorem dM_signOne_40 : decode bM_signOne 40 = .ok (.iconst 0, 1) := by decide +kernel
theorem dM_signOne_41 : decode bM_signOne 41 = .ok (.putfield 87, 3) := by decide +kernel
theorem dM_signOne_44 : decode bM_signOne 44 = .ok (.iload_n 1, 1) := by decide +kernel
theorem dM_signOne_45 : decode bM_signOne 45 = .ok (.bipush 97, 2) := by decide +kernel
theorem dM_signOne_47 : decode bM_signOne 47 = .ok (.if_icmp .lt 13, 3) := by decide +kernel
theorem dM_signOne_50 : decode bM_signOne 50 = .ok (.iload_n 1, 1) := by decide +kernel
theorem dM_signOne_51 : decode bM_signOne 51 = .ok (.bipush 122, 2) := by decide +kernel
theorem dM_signOne_53 : decode bM_signOne 53 = .ok (.if_icmp .gt 7, 3) := by decide +kernel
theorem dM_signOne_56 : decode bM_signOne 56 = .ok (.iconst 1, 1) := by decide +kernel
theorem dM_signOne_57 : decode bM_signOne 57 = .ok (.goto 4, 3) := by decide +kernel
theorem dM_signOne_60 : decode bM_signOne 60 = .ok (.iconst 0, 1) := by decide +kernel
theorem dM_signOne_61 : decode bM_signOne 61 = .ok (.ireturn, 1) := by decide +kernel
theorem dM_signOne_62 : decode bM_signOne 62 = .ok (.aload_n 0, 1) := by decide +kernel
theorem dM_signOne_63 : decode bM_signOne 63 = .ok (.getfield 87, 3) := by decide +kernel
theorem dM_signOne_66 : decode bM_signOne 66 = .ok (.iconst 3, 1) := by decide +kernel
theorem dM_signOne_67 : decode bM_signOne 67 = .ok (.if_icmp .ne 9, 3) := by decide +kernel
theorem dM_signOne_70 : decode bM_signOne 70 = .ok (.aload_n 0, 1) := by decide +kernel
theorem dM_signOne_71 : decode bM_signOne 71 = .ok (.iload_n 1, 1) := by decide +kernel
theorem dM_signOne_72 : decode bM_signOne 72 = .ok (.invokevirtual 102, 3) := by decide +kernel
theorem kM_m102 : Cond.methodLink RM 102 yM_closureSign ∈ lw_g := lw_in (List.mem_append_right _ (List.mem_of_getElem? (i := 1201) (by decide +kernel))) rfl
theorem dM_signOne_75 : decode bM_signOne 75 = .ok (.ireturn, 1) := by decide +kernel
theorem dM_signOne_76 : decode bM_signOne 76 = .ok (.aload_n 0, 1) := by decide +kernel
theorem dM_signOne_77 : decode bM_signOne 77 = .ok (.getfield 87, 3) := by decide +kernel
theorem dM_signOne_80 : decode bM_signOne 80 = .ok (.iconst 4, 1) := by decide +kernel
theorem dM_signOne_81 : decode bM_signOne 81 = .ok (.if_icmp .ne 68, 3) := by decide +kernel
theorem dM_signOne_84 : decode bM_signOne 84 = .ok (.iload_n 1, 1) := by decide +kernel
theorem dM_signOne_85 : decode bM_signOne 85 = .ok (.bipush 48, 2) := by decide +kernel
theorem dM_signOne_87 : decode bM_signOne 87 = .ok (.if_icmp .lt 62, 3) := by decide +kernel
theorem dM_signOne_90 : decode bM_signOne 90 = .ok (.iload_n 1, 1) := by decide +kernel
theorem dM_signOne_91 : decode bM_signOne 91 = .ok (.bipush 57, 2) := by decide +kernel
theorem dM_signOne_93 : decode bM_signOne 93 = .ok (.if_icmp .gt 56, 3) := by decide +kernel
theorem dM_signOne_96 : decode bM_signOne 96 = .ok (.aload_n 0, 1) := by decide +kernel
theorem dM_signOne_97 : decode bM_signOne 97 = .ok (.getfield 81, 3) := by decide +kernel
theorem dM_signOne_100 : decode bM_signOne 100 = .ok (.iconst 1, 1) := by decide +kernel
theorem dM_signOne_101 : decode bM_signOne 101 = .ok (.isub, 1) := by decide +kernel
theorem dM_signOne_102 : decode bM_signOne 102 = .ok (.istore_n 2, 1) := by decide +kernel
theorem dM_signOne_103 : decode bM_signOne 103 = .ok (.aload_n 0, 1) := by decide +kernel
theorem dM_signOne_104 : decode bM_signOne 104 = .ok (.getfield 28, 3) := by decide +kernel
theorem dM_signOne_107 : decode bM_signOne 107 = .ok (.iload_n 2, 1) := by decide +kernel
theorem dM_signOne_108 : decode bM_signOne 108 = .ok (.aload_n 0, 1) := by decide +kernel
theorem dM_signOne_109 : decode bM_signOne 109 = .ok (.getfield 28, 3) := by decide +kernel
theorem dM_signOne_112 : decode bM_signOne 112 = .ok (.iload_n 2, 1) := by decide +kernel
theorem dM_signOne_113 : decode bM_signOne 113 = .ok (.iaload, 1) := by decide +kernel
theorem dM_signOne_114 : decode bM_signOne 114 = .ok (.bipush 10, 2) := by decide +kernel
theorem dM_signOne_116 : decode bM_signOne 116 = .ok (.imul, 1) := by decide +kernel
theorem dM_signOne_117 : decode bM_signOne 117 = .ok (.iload_n 1, 1) := by decide +kernel
theorem dM_signOne_118 : decode bM_signOne 118 = .ok (.iadd, 1) := by decide +kernel
theorem dM_signOne_119 : decode bM_signOne 119 = .ok (.bipush 48, 2) := by decide +kernel
theorem dM_signOne_121 : decode bM_signOne 121 = .ok (.isub, 1) := by decide +kernel
theorem dM_signOne_122 : decode bM_signOne 122 = .ok (.iastore, 1) := by decide +kernel
theorem dM_signOne_123 : decode bM_signOne 123 = .ok (.aload_n 0, 1) := by decide +kernel
theorem dM_signOne_124 : decode bM_signOne 124 = .ok (.getfield 31, 3) := by decide +kernel
theorem dM_signOne_127 : decode bM_signOne 127 = .ok (.iload_n 2, 1) := by decide +kernel
theorem dM_signOne_128 : decode bM_signOne 128 = .ok (.dup2, 1) := by decide +kernel
theorem dM_signOne_129 : decode bM_signOne 129 = .ok (.iaload, 1) := by decide +kernel
theorem dM_signOne_130 : decode bM_signOne 130 = .ok (.iconst 1, 1) := by decide +kernel
theorem dM_signOne_131 : decode bM_signOne 131 = .ok (.iadd, 1) := by decide +kernel
theorem dM_signOne_132 : decode bM_signOne 132 = .ok (.iastore, 1) := by decide +kernel
theorem dM_signOne_133 : decode bM_signOne 133 = .ok (.aload_n 0, 1) := by decide +kernel
theorem dM_signOne_134 : decode bM_signOne 134 = .ok (.getfield 31, 3) := by decide +kernel
theorem dM_signOne_137 : decode bM_signOne 137 = .ok (.iload_n 2, 1) := by decide +kernel
theorem dM_signOne_138 : decode bM_signOne 138 = .ok (.iaload, 1) := by decide +kernel
theorem dM_signOne_139 : decode bM_signOne 139 = .ok (.iconst 4, 1) := by decide +kernel
theorem dM_signOne_140 : decode bM_signOne 140 = .ok (.if_icmp .gt 7, 3) := by decide +kernel
theorem dM_signOne_143 : decode bM_signOne 143 = .ok (.iconst 1, 1) := by decide +kernel
theorem dM_signOne_144 : decode bM_signOne 144 = .ok (.goto 4, 3) := by decide +kernel
theorem dM_signOne_147 : decode bM_signOne 147 = .ok (.iconst 0, 1) := by decide +kernel
theorem dM_signOne_148 : decode bM_signOne 148 = .ok (.ireturn, 1) := by decide +kernel
theorem dM_signOne_149 : decode bM_signOne 149 = .ok (.aload_n 0, 1) := by decide +kernel
theorem dM_signOne_150 : decode bM_signOne 150 = .ok (.getfield 84, 3) := by decide +kernel
theorem dM_signOne_153 : decode bM_signOne 153 = .ok (.ifCond .ne 24, 3) := by decide +kernel
theorem dM_signOne_156 : decode bM_signOne 156 = .ok (.aload_n 0, 1) := by decide +kernel
theorem dM_signOne_157 : decode bM_signOne 157 = .ok (.getfield 87, 3) := by decide +kernel
theorem dM_signOne_160 : decode bM_signOne 160 = .ok (.ifCond .ne 15, 3) := by decide +kernel
theorem dM_signOne_163 : decode bM_signOne 163 = .ok (.aload_n 0, 1) := by decide +kernel
theorem dM_signOne_164 : decode bM_signOne 164 = .ok (.iload_n 1, 1) := by decide +kernel
theorem dM_signOne_165 : decode bM_signOne 165 = .ok (.invokevirtual 106, 3) := by decide +kernel
theorem kM_m106 : Cond.methodLink RM 106 yM_begin ∈ lw_g := lw_in (List.mem_append_right _ (List.mem_of_getElem? (i := 1206) (by decide +kernel))) rfl
theorem dM_signOne_168 : decode bM_signOne 168 = .ok (.ifCond .eq 7, 3) := by decide +kernel
theorem dM_signOne_171 : decode bM_signOne 171 = .ok (.iconst 1, 1) := by decide +kernel
theorem dM_signOne_172 : decode bM_signOne 172 = .ok (.goto 4, 3) := by decide +kernel
theorem dM_signOne_175 : decode bM_signOne 175 = .ok (.iconst 0, 1) := by decide +kernel
theorem dM_signOne_176 : decode bM_signOne 176 = .ok (.ireturn, 1) := by decide +kernel
theorem dM_signOne_177 : decode bM_signOne 177 = .ok (.aload_n 0, 1) := by decide +kernel
theorem dM_signOne_178 : decode bM_signOne 178 = .ok (.getfield 87, 3) := by decide +kernel
theorem dM_signOne_181 : decode bM_signOne 181 = .ok (.iconst 1, 1) := by decide +kernel
theorem dM_signOne_182 : decode bM_signOne 182 = .ok (.if_icmp .ne 19, 3) := by decide +kernel
theorem dM_signOne_185 : decode bM_signOne 185 = .ok (.iload_n 1, 1) := by decide +kernel
theorem dM_signOne_186 : decode bM_signOne 186 = .ok (.bipush 32, 2) := by decide +kernel
theorem dM_signOne_188 : decode bM_signOne 188 = .ok (.if_icmp .eq 13, 3) := by decide +kernel
theorem dM_signOne_191 : decode bM_signOne 191 = .ok (.aload_n 0, 1) := by decide +kernel
theorem dM_signOne_192 : decode bM_signOne 192 = .ok (.iload_n 1, 1) := by decide +kernel
theorem dM_signOne_193 : decode bM_signOne 193 = .ok (.invokevirtual 109, 3) := by decide +kernel
theorem kM_m109 : Cond.methodLink RM 109 yM_operator ∈ lw_g := lw_in (List.mem_append_right _ (List.mem_of_getElem? (i := 1218) (by decide +kernel))) rfl
theorem dM_signOne_196 : decode bM_signOne 196 = .ok (.ifCond .eq 5, 3) := by decide +kernel
theorem dM_signOne_199 : decode bM_signOne 199 = .ok (.iconst 1, 1) := by decide +kernel
theorem dM_signOne_200 : decode bM_signOne 200 = .ok (.ireturn, 1) := by decide +kernel
theorem dM_signOne_201 : decode bM_signOne 201 = .ok (.aload_n 0, 1) := by decide +kernel
theorem dM_signOne_202 : decode bM_signOne 202 = .ok (.getfield 87, 3) := by decide +kernel
theorem dM_signOne_205 : decode bM_signOne 205 = .ok (.iconst 1, 1) := by decide +kernel
theorem dM_signOne_206 : decode bM_signOne 206 = .ok (.if_icmp .eq 61, 3) := by decide +kernel
theorem dM_signOne_209 : decode bM_signOne 209 = .ok (.iload_n 1, 1) := by decide +kernel
theorem dM_signOne_210 : decode bM_signOne 210 = .ok (.bipush 41, 2) := by decide +kernel
theorem dM_signOne_212 : decode bM_signOne 212 = .ok (.if_icmp .ne 55, 3) := by decide +kernel
theorem dM_signOne_215 : decode bM_signOne 215 = .ok (.aload_n 0, 1) := by decide +kernel
theorem dM_signOne_216 : decode bM_signOne 216 = .ok (.getfield 16, 3) := by decide +kernel
theorem dM_signOne_219 : decode bM_signOne 219 = .ok (.aload_n 0, 1) := by decide +kernel
theorem dM_signOne_220 : decode bM_signOne 220 = .ok (.getfield 84, 3) := by decide +kernel
theorem dM_signOne_223 : decode bM_signOne 223 = .ok (.iconst 1, 1) := by decide +kernel
theorem dM_signOne_224 : decode bM_signOne 224 = .ok (.isub, 1) := by decide +kernel
theorem dM_signOne_225 : decode bM_signOne 225 = .ok (.iaload, 1) := by decide +kernel
theorem dM_signOne_226 : decode bM_signOne 226 = .ok (.aload_n 0, 1) := by decide +kernel
theorem dM_signOne_227 : decode bM_signOne 227 = .ok (.getfield 19, 3) := by decide +kernel
theorem dM_signOne_230 : decode bM_signOne 230 = .ok (.aload_n 0, 1) := by decide +kernel
theorem dM_signOne_231 : decode bM_signOne 231 = .ok (.getfield 84, 3) := by decide +kernel
theorem dM_signOne_234 : decode bM_signOne 234 = .ok (.iconst 1, 1) := by decide +kernel
theorem dM_signOne_235 : decode bM_signOne 235 = .ok (.isub, 1) := by decide +kernel
theorem dM_signOne_236 : decode bM_signOne 236 = .ok (.iaload, 1) := by decide +kernel
theorem dM_signOne_237 : decode bM_signOne 237 = .ok (.if_icmp .ge 5, 3) := by decide +kernel
theorem dM_signOne_240 : decode bM_signOne 240 = .ok (.iconst 0, 1) := by decide +kernel
theorem dM_signOne_241 : decode bM_signOne 241 = .ok (.ireturn, 1) := by decide +kernel
theorem dM_signOne_242 : decode bM_signOne 242 = .ok (.aload_n 0, 1) := by decide +kernel
theorem dM_signOne_243 : decode bM_signOne 243 = .ok (.dup, 1) := by decide +kernel
theorem dM_signOne_244 : decode bM_signOne 244 = .ok (.getfield 84, 3) := by decide +kernel
theorem dM_signOne_247 : decode bM_signOne 247 = .ok (.iconst 1, 1) := by decide +kernel
theorem dM_signOne_248 : decode bM_signOne 248 = .ok (.isub, 1) := by decide +kernel
theorem dM_signOne_249 : decode bM_signOne 249 = .ok (.putfield 84, 3) := by decide +kernel
theorem dM_signOne_252 : decode bM_signOne 252 = .ok (.aload_n 0, 1) := by decide +kernel
theorem dM_signOne_253 : decode bM_signOne 253 = .ok (.aload_n 0, 1) := by decide +kernel
theorem dM_signOne_254 : decode bM_signOne 254 = .ok (.getfield 13, 3) := by decide +kernel
theorem dM_signOne_257 : decode bM_signOne 257 = .ok (.aload_n 0, 1) := by decide +kernel
theorem dM_signOne_258 : decode bM_signOne 258 = .ok (.getfield 84, 3) := by decide +kernel
theorem dM_signOne_261 : decode bM_signOne 261 = .ok (.iaload, 1) := by decide +kernel
theorem dM_signOne_262 : decode bM_signOne 262 = .ok (.invokevirtual 94, 3) := by decide +kernel
theorem dM_signOne_265 : decode bM_signOne 265 = .ok (.iconst 1, 1) := by decide +kernel
theorem dM_signOne_266 : decode bM_signOne 266 = .ok (.ireturn, 1) := by decide +kernel
theorem dM_signOne_267 : decode bM_signOne 267 = .ok (.aload_n 0, 1) := by decide +kernel
theorem dM_signOne_268 : decode bM_signOne 268 = .ok (.iconst 0, 1) := by decide +kernel
theorem dM_signOne_269 : decode bM_signOne 269 = .ok (.putfield 87, 3) := by decide +kernel
theorem dM_signOne_272 : decode bM_signOne 272 = .ok (.iload_n 1, 1) := by decide +kernel
theorem dM_signOne_273 : decode bM_signOne 273 = .ok (.bipush 32, 2) := by decide +kernel
theorem dM_signOne_275 : decode bM_signOne 275 = .ok (.if_icmp .eq 11, 3) := by decide +kernel
theorem dM_signOne_278 : decode bM_signOne 278 = .ok (.aload_n 0, 1) := by decide +kernel
theorem dM_signOne_279 : decode bM_signOne 279 = .ok (.iload_n 1, 1) := by decide +kernel
theorem dM_signOne_280 : decode bM_signOne 280 = .ok (.invokevirtual 106, 3) := by decide +kernel
theorem dM_signOne_283 : decode bM_signOne 283 = .ok (.ifCond .eq 7, 3) := by decide +kernel
theorem dM_signOne_286 : decode bM_signOne 286 = .ok (.iconst 1, 1) := by decide +kernel
theorem dM_signOne_287 : decode bM_signOne 287 = .ok (.goto 4, 3) := by decide +kernel
theorem dM_signOne_290 : decode bM_signOne 290 = .ok (.iconst 0, 1) := by decide +kernel
theorem dM_signOne_291 : decode bM_signOne 291 = .ok (.ireturn, 1) := by decide +kernel
theorem kM_i_signOne : Cond.instanceMethod yM_signOne ∈ lw_g := lw_in (List.mem_append_right _ (List.mem_of_getElem? (i := 1199) (by decide +kernel))) rfl
theorem kM_s_signOne : Cond.selects RM yM_signOne yM_signOne ∈ lw_g := lw_in (List.mem_append_left _ (List.mem_map.mpr ⟨(yM_signOne, 40), by decide +kernel, rfl⟩)) rfl
-- scan: maxLocals 3, ret (some .boolean)
theorem kM_c_scan : Cond.code yM_scan bM_scan 3 (some .boolean) ∈ lw_g := lw_in (List.mem_append_right _ (List.mem_of_getElem? (i := 1196) (by decide +kernel))) rfl
theorem dM_scan_0 : decode bM_scan 0 = .ok (.aload_n 0, 1) := by decide +kernel
theorem dM_scan_1 : decode bM_scan 1 = .ok (.iconst 0, 1) := by decide +kernel
theorem dM_scan_2 : decode bM_scan 2 = .ok (.putfield 84, 3) := by decide +kernel
theorem dM_scan_5 : decode bM_scan 5 = .ok (.aload_n 0, 1) := by decide +kernel
theorem dM_scan_6 : decode bM_scan 6 = .ok (.iconst 0, 1) := by decide +kernel
theorem dM_scan_7 : decode bM_scan 7 = .ok (.putfield 87, 3) := by decide +kernel
theorem dM_scan_10 : decode bM_scan 10 = .ok (.aload_n 0, 1) := by decide +kernel
theorem dM_scan_11 : decode bM_scan 11 = .ok (.iconst 0, 1) := by decide +kernel
theorem dM_scan_12 : decode bM_scan 12 = .ok (.putfield 81, 3) := by decide +kernel
theorem dM_scan_15 : decode bM_scan 15 = .ok (.iconst 0, 1) := by decide +kernel
theorem dM_scan_16 : decode bM_scan 16 = .ok (.istore_n 2, 1) := by decide +kernel
theorem dM_scan_17 : decode bM_scan 17 = .ok (.iload_n 2, 1) := by decide +kernel
theorem dM_scan_18 : decode bM_scan 18 = .ok (.iload_n 1, 1) := by decide +kernel
theorem dM_scan_19 : decode bM_scan 19 = .ok (.if_icmp .ge 24, 3) := by decide +kernel
theorem dM_scan_22 : decode bM_scan 22 = .ok (.aload_n 0, 1) := by decide +kernel
theorem dM_scan_23 : decode bM_scan 23 = .ok (.aload_n 0, 1) := by decide +kernel
theorem dM_scan_24 : decode bM_scan 24 = .ok (.getfield 7, 3) := by decide +kernel
theorem dM_scan_27 : decode bM_scan 27 = .ok (.iload_n 2, 1) := by decide +kernel
theorem dM_scan_28 : decode bM_scan 28 = .ok (.iaload, 1) := by decide +kernel
theorem dM_scan_29 : decode bM_scan 29 = .ok (.invokevirtual 112, 3) := by decide +kernel
theorem kM_m112 : Cond.methodLink RM 112 yM_signOne ∈ lw_g := lw_in (List.mem_append_right _ (List.mem_of_getElem? (i := 1197) (by decide +kernel))) rfl
theorem dM_scan_32 : decode bM_scan 32 = .ok (.ifCond .ne 5, 3) := by decide +kernel
theorem dM_scan_35 : decode bM_scan 35 = .ok (.iconst 0, 1) := by decide +kernel
theorem dM_scan_36 : decode bM_scan 36 = .ok (.ireturn, 1) := by decide +kernel
theorem dM_scan_37 : decode bM_scan 37 = .ok (.iinc 2 1, 3) := by decide +kernel
theorem dM_scan_40 : decode bM_scan 40 = .ok (.goto (-23), 3) := by decide +kernel
theorem dM_scan_43 : decode bM_scan 43 = .ok (.iconst 1, 1) := by decide +kernel
theorem dM_scan_44 : decode bM_scan 44 = .ok (.ireturn, 1) := by decide +kernel
theorem kM_i_scan : Cond.instanceMethod yM_scan ∈ lw_g := lw_in (List.mem_append_right _ (List.mem_of_getElem? (i := 1195) (by decide +kernel))) rfl
theorem kM_s_scan : Cond.selects RM yM_scan yM_scan ∈ lw_g := lw_in (List.mem_append_left _ (List.mem_map.mpr ⟨(yM_scan, 40), by decide +kernel, rfl⟩)) rfl
-- text: maxLocals 6, ret (some .int)
theorem kM_c_text : Cond.code yM_text bM_text 6 (some .int) ∈ lw_g := lw_in (List.mem_append_right _ (List.mem_of_getElem? (i := 1188) (by decide +kernel))) rfl
theorem dM_text_0 : decode bM_text 0 = .ok (.aload_n 0, 1) := by decide +kernel
theorem dM_text_1 : decode bM_text 1 = .ok (.iconst 0, 1) := by decide +kernel
theorem dM_text_2 : decode bM_text 2 = .ok (.putfield 77, 3) := by decide +kernel
theorem dM_text_5 : decode bM_text 5 = .ok (.aload_n 0, 1) := by decide +kernel
theorem dM_text_6 : decode bM_text 6 = .ok (.getfield 115, 3) := by decide +kernel
theorem kM_f115 : Cond.fieldLink RM 115 "ContinuationCoreModel" "status" "I" ∈ lw_g := lw_in (List.mem_append_right _ (List.mem_of_getElem? (i := 1087) (by decide +kernel))) rfl
theorem dM_text_9 : decode bM_text 9 = .ok (.iconst 1, 1) := by decide +kernel
theorem dM_text_10 : decode bM_text 10 = .ok (.if_icmp .ne 9, 3) := by decide +kernel
theorem dM_text_13 : decode bM_text 13 = .ok (.aload_n 0, 1) := by decide +kernel
theorem dM_text_14 : decode bM_text 14 = .ok (.iconst 1, 1) := by decide +kernel
theorem dM_text_15 : decode bM_text 15 = .ok (.invokevirtual 118, 3) := by decide +kernel
theorem kM_m118 : Cond.methodLink RM 118 yM_fail ∈ lw_g := lw_in (List.mem_append_right _ (List.mem_of_getElem? (i := 1189) (by decide +kernel))) rfl
theorem dM_text_18 : decode bM_text 18 = .ok (.ireturn, 1) := by decide +kernel
theorem dM_text_19 : decode bM_text 19 = .ok (.aload_n 0, 1) := by decide +kernel
theorem dM_text_20 : decode bM_text 20 = .ok (.getfield 121, 3) := by decide +kernel
theorem kM_f121 : Cond.fieldLink RM 121 "ContinuationCoreModel" "length" "I" ∈ lw_g := lw_in (List.mem_append_right _ (List.mem_of_getElem? (i := 1061) (by decide +kernel))) rfl
theorem dM_text_23 : decode bM_text 23 = .ok (.istore_n 3, 1) := by decide +kernel
theorem dM_text_24 : decode bM_text 24 = .ok (.bipush 7, 2) := by decide +kernel
theorem dM_text_26 : decode bM_text 26 = .ok (.istore 4, 2) := by decide +kernel
theorem dM_text_28 : decode bM_text 28 = .ok (.iload 4, 2) := by decide +kernel
theorem dM_text_30 : decode bM_text 30 = .ok (.ifCond .lt 65, 3) := by decide +kernel
theorem dM_text_33 : decode bM_text 33 = .ok (.lload_n 1, 1) := by decide +kernel
theorem dM_text_34 : decode bM_text 34 = .ok (.bipush 8, 2) := by decide +kernel
theorem dM_text_36 : decode bM_text 36 = .ok (.iload 4, 2) := by decide +kernel
theorem dM_text_38 : decode bM_text 38 = .ok (.imul, 1) := by decide +kernel
theorem dM_text_39 : decode bM_text 39 = .ok (.lshr, 1) := by decide +kernel
theorem dM_text_40 : decode bM_text 40 = .ok (.l2i, 1) := by decide +kernel
theorem dM_text_41 : decode bM_text 41 = .ok (.sipush 255, 3) := by decide +kernel
theorem dM_text_44 : decode bM_text 44 = .ok (.iand, 1) := by decide +kernel
theorem dM_text_45 : decode bM_text 45 = .ok (.istore 5, 2) := by decide +kernel
theorem dM_text_47 : decode bM_text 47 = .ok (.iload 5, 2) := by decide +kernel
theorem dM_text_49 : decode bM_text 49 = .ok (.ifCond .eq 40, 3) := by decide +kernel
theorem dM_text_52 : decode bM_text 52 = .ok (.iload 5, 2) := by decide +kernel
theorem dM_text_54 : decode bM_text 54 = .ok (.bipush 32, 2) := by decide +kernel
theorem dM_text_56 : decode bM_text 56 = .ok (.if_icmp .lt 16, 3) := by decide +kernel
theorem dM_text_59 : decode bM_text 59 = .ok (.iload 5, 2) := by decide +kernel
theorem dM_text_61 : decode bM_text 61 = .ok (.bipush 126, 2) := by decide +kernel
theorem dM_text_63 : decode bM_text 63 = .ok (.if_icmp .gt 9, 3) := by decide +kernel
theorem dM_text_66 : decode bM_text 66 = .ok (.iload_n 3, 1) := by decide +kernel
theorem dM_text_67 : decode bM_text 67 = .ok (.bipush 120, 2) := by decide +kernel
theorem dM_text_69 : decode bM_text 69 = .ok (.if_icmp .ne 9, 3) := by decide +kernel
theorem dM_text_72 : decode bM_text 72 = .ok (.aload_n 0, 1) := by decide +kernel
theorem dM_text_73 : decode bM_text 73 = .ok (.iconst 2, 1) := by decide +kernel
theorem dM_text_74 : decode bM_text 74 = .ok (.invokevirtual 118, 3) := by decide +kernel
theorem dM_text_77 : decode bM_text 77 = .ok (.ireturn, 1) := by decide +kernel
theorem dM_text_78 : decode bM_text 78 = .ok (.aload_n 0, 1) := by decide +kernel
theorem dM_text_79 : decode bM_text 79 = .ok (.getfield 7, 3) := by decide +kernel
theorem dM_text_82 : decode bM_text 82 = .ok (.iload_n 3, 1) := by decide +kernel
theorem dM_text_83 : decode bM_text 83 = .ok (.iload 5, 2) := by decide +kernel
theorem dM_text_85 : decode bM_text 85 = .ok (.iastore, 1) := by decide +kernel
theorem dM_text_86 : decode bM_text 86 = .ok (.iinc 3 1, 3) := by decide +kernel
theorem dM_text_89 : decode bM_text 89 = .ok (.iinc 4 (-1), 3) := by decide +kernel
theorem dM_text_92 : decode bM_text 92 = .ok (.goto (-64), 3) := by decide +kernel
theorem dM_text_95 : decode bM_text 95 = .ok (.aload_n 0, 1) := by decide +kernel
theorem dM_text_96 : decode bM_text 96 = .ok (.iload_n 3, 1) := by decide +kernel
theorem dM_text_97 : decode bM_text 97 = .ok (.invokevirtual 124, 3) := by decide +kernel
theorem kM_m124 : Cond.methodLink RM 124 yM_scan ∈ lw_g := lw_in (List.mem_append_right _ (List.mem_of_getElem? (i := 1193) (by decide +kernel))) rfl
theorem dM_text_100 : decode bM_text 100 = .ok (.ifCond .ne 9, 3) := by decide +kernel
theorem dM_text_103 : decode bM_text 103 = .ok (.aload_n 0, 1) := by decide +kernel
theorem dM_text_104 : decode bM_text 104 = .ok (.iconst 2, 1) := by decide +kernel
theorem dM_text_105 : decode bM_text 105 = .ok (.invokevirtual 118, 3) := by decide +kernel
theorem dM_text_108 : decode bM_text 108 = .ok (.ireturn, 1) := by decide +kernel
theorem dM_text_109 : decode bM_text 109 = .ok (.aload_n 0, 1) := by decide +kernel
theorem dM_text_110 : decode bM_text 110 = .ok (.iload_n 3, 1) := by decide +kernel
theorem dM_text_111 : decode bM_text 111 = .ok (.putfield 121, 3) := by decide +kernel
theorem dM_text_114 : decode bM_text 114 = .ok (.aload_n 0, 1) := by decide +kernel
theorem dM_text_115 : decode bM_text 115 = .ok (.getfield 121, 3) := by decide +kernel
theorem dM_text_118 : decode bM_text 118 = .ok (.ireturn, 1) := by decide +kernel
theorem kM_i_text : Cond.instanceMethod yM_text ∈ lw_g := lw_in (List.mem_append_right _ (List.mem_of_getElem? (i := 1186) (by decide +kernel))) rfl
theorem kM_s_text : Cond.selects RM yM_text yM_text ∈ lw_g := lw_in (List.mem_append_right _ (List.mem_of_getElem? (i := 1187) (by decide +kernel))) rfl
-- clear: maxLocals 2, ret (some .int)
theorem kM_c_clear : Cond.code yM_clear bM_clear 2 (some .int) ∈ lw_g := lw_in (List.mem_append_right _ (List.mem_of_getElem? (i := 1229) (by decide +kernel))) rfl
theorem dM_clear_0 : decode bM_clear 0 = .ok (.aload_n 0, 1) := by decide +kernel
theorem dM_clear_1 : decode bM_clear 1 = .ok (.iconst 0, 1) := by decide +kernel
theorem dM_clear_2 : decode bM_clear 2 = .ok (.putfield 77, 3) := by decide +kernel
theorem dM_clear_5 : decode bM_clear 5 = .ok (.aload_n 0, 1) := by decide +kernel
theorem dM_clear_6 : decode bM_clear 6 = .ok (.getfield 115, 3) := by decide +kernel
theorem dM_clear_9 : decode bM_clear 9 = .ok (.iconst 1, 1) := by decide +kernel
theorem dM_clear_10 : decode bM_clear 10 = .ok (.if_icmp .ne 9, 3) := by decide +kernel
theorem dM_clear_13 : decode bM_clear 13 = .ok (.aload_n 0, 1) := by decide +kernel
theorem dM_clear_14 : decode bM_clear 14 = .ok (.iconst 1, 1) := by decide +kernel
theorem dM_clear_15 : decode bM_clear 15 = .ok (.invokevirtual 118, 3) := by decide +kernel
theorem dM_clear_18 : decode bM_clear 18 = .ok (.ireturn, 1) := by decide +kernel
theorem dM_clear_19 : decode bM_clear 19 = .ok (.aload_n 0, 1) := by decide +kernel
theorem dM_clear_20 : decode bM_clear 20 = .ok (.getfield 121, 3) := by decide +kernel
theorem dM_clear_23 : decode bM_clear 23 = .ok (.istore_n 1, 1) := by decide +kernel
theorem dM_clear_24 : decode bM_clear 24 = .ok (.aload_n 0, 1) := by decide +kernel
theorem dM_clear_25 : decode bM_clear 25 = .ok (.iconst 0, 1) := by decide +kernel
theorem dM_clear_26 : decode bM_clear 26 = .ok (.putfield 121, 3) := by decide +kernel
theorem dM_clear_29 : decode bM_clear 29 = .ok (.iload_n 1, 1) := by decide +kernel
theorem dM_clear_30 : decode bM_clear 30 = .ok (.ireturn, 1) := by decide +kernel
theorem kM_i_clear : Cond.instanceMethod yM_clear ∈ lw_g := lw_in (List.mem_append_right _ (List.mem_of_getElem? (i := 1227) (by decide +kernel))) rfl
theorem kM_s_clear : Cond.selects RM yM_clear yM_clear ∈ lw_g := lw_in (List.mem_append_right _ (List.mem_of_getElem? (i := 1228) (by decide +kernel))) rfl
-- isWhole: maxLocals 1, ret (some .boolean)
theorem kM_c_isWhole : Cond.code yM_isWhole bM_isWhole 1 (some .boolean) ∈ lw_g := lw_in (List.mem_append_right _ (List.mem_of_getElem? (i := 1237) (by decide +kernel))) rfl
theorem dM_isWhole_0 : decode bM_isWhole 0 = .ok (.aload_n 0, 1) := by decide +kernel
theorem dM_isWhole_1 : decode bM_isWhole 1 = .ok (.aload_n 0, 1) := by decide +kernel
theorem dM_isWhole_2 : decode bM_isWhole 2 = .ok (.getfield 121, 3) := by decide +kernel
theorem dM_isWhole_5 : decode bM_isWhole 5 = .ok (.invokevirtual 124, 3) := by decide +kernel
theorem dM_isWhole_8 : decode bM_isWhole 8 = .ok (.ifCond .eq 31, 3) := by decide +kernel
theorem dM_isWhole_11 : decode bM_isWhole 11 = .ok (.aload_n 0, 1) := by decide +kernel
theorem dM_isWhole_12 : decode bM_isWhole 12 = .ok (.getfield 84, 3) := by decide +kernel
theorem dM_isWhole_15 : decode bM_isWhole 15 = .ok (.ifCond .ne 24, 3) := by decide +kernel
theorem dM_isWhole_18 : decode bM_isWhole 18 = .ok (.aload_n 0, 1) := by decide +kernel
theorem dM_isWhole_19 : decode bM_isWhole 19 = .ok (.getfield 87, 3) := by decide +kernel
theorem dM_isWhole_22 : decode bM_isWhole 22 = .ok (.bipush 6, 2) := by decide +kernel
theorem dM_isWhole_24 : decode bM_isWhole 24 = .ok (.if_icmp .eq 11, 3) := by decide +kernel
theorem dM_isWhole_27 : decode bM_isWhole 27 = .ok (.aload_n 0, 1) := by decide +kernel
theorem dM_isWhole_28 : decode bM_isWhole 28 = .ok (.getfield 87, 3) := by decide +kernel
theorem dM_isWhole_31 : decode bM_isWhole 31 = .ok (.iconst 4, 1) := by decide +kernel
theorem dM_isWhole_32 : decode bM_isWhole 32 = .ok (.if_icmp .ne 7, 3) := by decide +kernel
theorem dM_isWhole_35 : decode bM_isWhole 35 = .ok (.iconst 1, 1) := by decide +kernel
theorem dM_isWhole_36 : decode bM_isWhole 36 = .ok (.goto 4, 3) := by decide +kernel
theorem dM_isWhole_39 : decode bM_isWhole 39 = .ok (.iconst 0, 1) := by decide +kernel
theorem dM_isWhole_40 : decode bM_isWhole 40 = .ok (.ireturn, 1) := by decide +kernel
theorem kM_i_isWhole : Cond.instanceMethod yM_isWhole ∈ lw_g := lw_in (List.mem_append_right _ (List.mem_of_getElem? (i := 1236) (by decide +kernel))) rfl
theorem kM_s_isWhole : Cond.selects RM yM_isWhole yM_isWhole ∈ lw_g := lw_in (List.mem_append_left _ (List.mem_map.mpr ⟨(yM_isWhole, 40), by decide +kernel, rfl⟩)) rfl
-- whole: maxLocals 1, ret (some .int)
theorem kM_c_whole : Cond.code yM_whole bM_whole 1 (some .int) ∈ lw_g := lw_in (List.mem_append_right _ (List.mem_of_getElem? (i := 1233) (by decide +kernel))) rfl
theorem dM_whole_0 : decode bM_whole 0 = .ok (.aload_n 0, 1) := by decide +kernel
theorem dM_whole_1 : decode bM_whole 1 = .ok (.iconst 0, 1) := by decide +kernel
theorem dM_whole_2 : decode bM_whole 2 = .ok (.putfield 77, 3) := by decide +kernel
theorem dM_whole_5 : decode bM_whole 5 = .ok (.aload_n 0, 1) := by decide +kernel
theorem dM_whole_6 : decode bM_whole 6 = .ok (.invokevirtual 127, 3) := by decide +kernel
theorem kM_m127 : Cond.methodLink RM 127 yM_isWhole ∈ lw_g := lw_in (List.mem_append_right _ (List.mem_of_getElem? (i := 1234) (by decide +kernel))) rfl
theorem dM_whole_9 : decode bM_whole 9 = .ok (.ifCond .eq 7, 3) := by decide +kernel
theorem dM_whole_12 : decode bM_whole 12 = .ok (.iconst 1, 1) := by decide +kernel
theorem dM_whole_13 : decode bM_whole 13 = .ok (.goto 4, 3) := by decide +kernel
theorem dM_whole_16 : decode bM_whole 16 = .ok (.iconst 0, 1) := by decide +kernel
theorem dM_whole_17 : decode bM_whole 17 = .ok (.ireturn, 1) := by decide +kernel
theorem kM_i_whole : Cond.instanceMethod yM_whole ∈ lw_g := lw_in (List.mem_append_right _ (List.mem_of_getElem? (i := 1231) (by decide +kernel))) rfl
theorem kM_s_whole : Cond.selects RM yM_whole yM_whole ∈ lw_g := lw_in (List.mem_append_right _ (List.mem_of_getElem? (i := 1232) (by decide +kernel))) rfl
-- given: maxLocals 5, ret (some .int)
theorem kM_c_given : Cond.code yM_given bM_given 5 (some .int) ∈ lw_g := lw_in (List.mem_append_right _ (List.mem_of_getElem? (i := 1241) (by decide +kernel))) rfl
theorem dM_given_0 : decode bM_given 0 = .ok (.aload_n 0, 1) := by decide +kernel
theorem dM_given_1 : decode bM_given 1 = .ok (.iconst 0, 1) := by decide +kernel
theorem dM_given_2 : decode bM_given 2 = .ok (.putfield 77, 3) := by decide +kernel
theorem dM_given_5 : decode bM_given 5 = .ok (.iload_n 1, 1) := by decide +kernel
theorem dM_given_6 : decode bM_given 6 = .ok (.ifCond .lt 9, 3) := by decide +kernel
theorem dM_given_9 : decode bM_given 9 = .ok (.iload_n 1, 1) := by decide +kernel
theorem dM_given_10 : decode bM_given 10 = .ok (.bipush 25, 2) := by decide +kernel
theorem dM_given_12 : decode bM_given 12 = .ok (.if_icmp .le 9, 3) := by decide +kernel
theorem dM_given_15 : decode bM_given 15 = .ok (.aload_n 0, 1) := by decide +kernel
theorem dM_given_16 : decode bM_given 16 = .ok (.iconst 2, 1) := by decide +kernel
theorem dM_given_17 : decode bM_given 17 = .ok (.invokevirtual 118, 3) := by decide +kernel
theorem dM_given_20 : decode bM_given 20 = .ok (.ireturn, 1) := by decide +kernel
theorem dM_given_21 : decode bM_given 21 = .ok (.aload_n 0, 1) := by decide +kernel
theorem dM_given_22 : decode bM_given 22 = .ok (.getfield 115, 3) := by decide +kernel
theorem dM_given_25 : decode bM_given 25 = .ok (.iconst 1, 1) := by decide +kernel
theorem dM_given_26 : decode bM_given 26 = .ok (.if_icmp .ne 9, 3) := by decide +kernel
theorem dM_given_29 : decode bM_given 29 = .ok (.aload_n 0, 1) := by decide +kernel
theorem dM_given_30 : decode bM_given 30 = .ok (.iconst 1, 1) := by decide +kernel
theorem dM_given_31 : decode bM_given 31 = .ok (.invokevirtual 118, 3) := by decide +kernel
theorem dM_given_34 : decode bM_given 34 = .ok (.ireturn, 1) := by decide +kernel
theorem dM_given_35 : decode bM_given 35 = .ok (.aload_n 0, 1) := by decide +kernel
theorem dM_given_36 : decode bM_given 36 = .ok (.getfield 37, 3) := by decide +kernel
theorem dM_given_39 : decode bM_given 39 = .ok (.iload_n 1, 1) := by decide +kernel
theorem dM_given_40 : decode bM_given 40 = .ok (.iload_n 2, 1) := by decide +kernel
theorem dM_given_41 : decode bM_given 41 = .ok (.iastore, 1) := by decide +kernel
theorem dM_given_42 : decode bM_given 42 = .ok (.aload_n 0, 1) := by decide +kernel
theorem dM_given_43 : decode bM_given 43 = .ok (.getfield 40, 3) := by decide +kernel
theorem dM_given_46 : decode bM_given 46 = .ok (.iload_n 1, 1) := by decide +kernel
theorem dM_given_47 : decode bM_given 47 = .ok (.iconst 1, 1) := by decide +kernel
theorem dM_given_48 : decode bM_given 48 = .ok (.bastore, 1) := by decide +kernel
theorem dM_given_49 : decode bM_given 49 = .ok (.iconst 0, 1) := by decide +kernel
theorem dM_given_50 : decode bM_given 50 = .ok (.istore_n 3, 1) := by decide +kernel
theorem dM_given_51 : decode bM_given 51 = .ok (.iconst 0, 1) := by decide +kernel
theorem dM_given_52 : decode bM_given 52 = .ok (.istore 4, 2) := by decide +kernel
theorem dM_given_54 : decode bM_given 54 = .ok (.iload 4, 2) := by decide +kernel
theorem dM_given_56 : decode bM_given 56 = .ok (.bipush 26, 2) := by decide +kernel
theorem dM_given_58 : decode bM_given 58 = .ok (.if_icmp .ge 27, 3) := by decide +kernel
theorem dM_given_61 : decode bM_given 61 = .ok (.iload_n 3, 1) := by decide +kernel
theorem dM_given_62 : decode bM_given 62 = .ok (.aload_n 0, 1) := by decide +kernel
theorem dM_given_63 : decode bM_given 63 = .ok (.getfield 40, 3) := by decide +kernel
theorem dM_given_66 : decode bM_given 66 = .ok (.iload 4, 2) := by decide +kernel
theorem dM_given_68 : decode bM_given 68 = .ok (.baload, 1) := by decide +kernel
theorem dM_given_69 : decode bM_given 69 = .ok (.ifCond .eq 7, 3) := by decide +kernel
theorem dM_given_72 : decode bM_given 72 = .ok (.iconst 1, 1) := by decide +kernel
theorem dM_given_73 : decode bM_given 73 = .ok (.goto 4, 3) := by decide +kernel
theorem dM_given_76 : decode bM_given 76 = .ok (.iconst 0, 1) := by decide +kernel
theorem dM_given_77 : decode bM_given 77 = .ok (.iadd, 1) := by decide +kernel
theorem dM_given_78 : decode bM_given 78 = .ok (.istore_n 3, 1) := by decide +kernel
theorem dM_given_79 : decode bM_given 79 = .ok (.iinc 4 1, 3) := by decide +kernel
theorem dM_given_82 : decode bM_given 82 = .ok (.goto (-28), 3) := by decide +kernel
theorem dM_given_85 : decode bM_given 85 = .ok (.iload_n 3, 1) := by decide +kernel
theorem dM_given_86 : decode bM_given 86 = .ok (.ireturn, 1) := by decide +kernel
theorem kM_i_given : Cond.instanceMethod yM_given ∈ lw_g := lw_in (List.mem_append_right _ (List.mem_of_getElem? (i := 1239) (by decide +kernel))) rfl
theorem kM_s_given : Cond.selects RM yM_given yM_given ∈ lw_g := lw_in (List.mem_append_right _ (List.mem_of_getElem? (i := 1240) (by decide +kernel))) rfl
-- start: maxLocals 2, ret (some .int)
theorem kM_c_start : Cond.code yM_start bM_start 2 (some .int) ∈ lw_g := lw_in (List.mem_append_right _ (List.mem_of_getElem? (i := 1245) (by decide +kernel))) rfl
theorem dM_start_0 : decode bM_start 0 = .ok (.aload_n 0, 1) := by decide +kernel
theorem dM_start_1 : decode bM_start 1 = .ok (.iconst 0, 1) := by decide +kernel
theorem dM_start_2 : decode bM_start 2 = .ok (.putfield 77, 3) := by decide +kernel
theorem dM_start_5 : decode bM_start 5 = .ok (.aload_n 0, 1) := by decide +kernel
theorem dM_start_6 : decode bM_start 6 = .ok (.getfield 115, 3) := by decide +kernel
theorem dM_start_9 : decode bM_start 9 = .ok (.iconst 1, 1) := by decide +kernel
theorem dM_start_10 : decode bM_start 10 = .ok (.if_icmp .eq 10, 3) := by decide +kernel
theorem dM_start_13 : decode bM_start 13 = .ok (.aload_n 0, 1) := by decide +kernel
theorem dM_start_14 : decode bM_start 14 = .ok (.invokevirtual 127, 3) := by decide +kernel
theorem dM_start_17 : decode bM_start 17 = .ok (.ifCond .ne 9, 3) := by decide +kernel
theorem dM_start_20 : decode bM_start 20 = .ok (.aload_n 0, 1) := by decide +kernel
theorem dM_start_21 : decode bM_start 21 = .ok (.iconst 1, 1) := by decide +kernel
theorem dM_start_22 : decode bM_start 22 = .ok (.invokevirtual 118, 3) := by decide +kernel
theorem dM_start_25 : decode bM_start 25 = .ok (.ireturn, 1) := by decide +kernel
theorem dM_start_26 : decode bM_start 26 = .ok (.iconst 0, 1) := by decide +kernel
theorem dM_start_27 : decode bM_start 27 = .ok (.istore_n 1, 1) := by decide +kernel
theorem dM_start_28 : decode bM_start 28 = .ok (.iload_n 1, 1) := by decide +kernel
theorem dM_start_29 : decode bM_start 29 = .ok (.bipush 26, 2) := by decide +kernel
theorem dM_start_31 : decode bM_start 31 = .ok (.if_icmp .ge 47, 3) := by decide +kernel
theorem dM_start_34 : decode bM_start 34 = .ok (.aload_n 0, 1) := by decide +kernel
theorem dM_start_35 : decode bM_start 35 = .ok (.getfield 44, 3) := by decide +kernel
theorem dM_start_38 : decode bM_start 38 = .ok (.bipush 121, 2) := by decide +kernel
theorem dM_start_40 : decode bM_start 40 = .ok (.iload_n 1, 1) := by decide +kernel
theorem dM_start_41 : decode bM_start 41 = .ok (.iadd, 1) := by decide +kernel
theorem dM_start_42 : decode bM_start 42 = .ok (.aload_n 0, 1) := by decide +kernel
theorem dM_start_43 : decode bM_start 43 = .ok (.getfield 40, 3) := by decide +kernel
theorem dM_start_46 : decode bM_start 46 = .ok (.iload_n 1, 1) := by decide +kernel
theorem dM_start_47 : decode bM_start 47 = .ok (.baload, 1) := by decide +kernel
theorem dM_start_48 : decode bM_start 48 = .ok (.ifCond .eq 7, 3) := by decide +kernel
theorem dM_start_51 : decode bM_start 51 = .ok (.iconst 1, 1) := by decide +kernel
theorem dM_start_52 : decode bM_start 52 = .ok (.goto 4, 3) := by decide +kernel
theorem dM_start_55 : decode bM_start 55 = .ok (.iconst 0, 1) := by decide +kernel
theorem dM_start_56 : decode bM_start 56 = .ok (.iastore, 1) := by decide +kernel
theorem dM_start_57 : decode bM_start 57 = .ok (.aload_n 0, 1) := by decide +kernel
theorem dM_start_58 : decode bM_start 58 = .ok (.getfield 47, 3) := by decide +kernel
theorem dM_start_61 : decode bM_start 61 = .ok (.bipush 121, 2) := by decide +kernel
theorem dM_start_63 : decode bM_start 63 = .ok (.iload_n 1, 1) := by decide +kernel
theorem dM_start_64 : decode bM_start 64 = .ok (.iadd, 1) := by decide +kernel
theorem dM_start_65 : decode bM_start 65 = .ok (.aload_n 0, 1) := by decide +kernel
theorem dM_start_66 : decode bM_start 66 = .ok (.getfield 37, 3) := by decide +kernel
theorem dM_start_69 : decode bM_start 69 = .ok (.iload_n 1, 1) := by decide +kernel
theorem dM_start_70 : decode bM_start 70 = .ok (.iaload, 1) := by decide +kernel
theorem dM_start_71 : decode bM_start 71 = .ok (.iastore, 1) := by decide +kernel
theorem dM_start_72 : decode bM_start 72 = .ok (.iinc 1 1, 3) := by decide +kernel
theorem dM_start_75 : decode bM_start 75 = .ok (.goto (-47), 3) := by decide +kernel
theorem dM_start_78 : decode bM_start 78 = .ok (.aload_n 0, 1) := by decide +kernel
theorem dM_start_79 : decode bM_start 79 = .ok (.iconst 0, 1) := by decide +kernel
theorem dM_start_80 : decode bM_start 80 = .ok (.putfield 131, 3) := by decide +kernel
theorem kM_f131 : Cond.fieldLink RM 131 "ContinuationCoreModel" "bindings" "I" ∈ lw_g := lw_in (List.mem_append_right _ (List.mem_of_getElem? (i := 1079) (by decide +kernel))) rfl
theorem dM_start_83 : decode bM_start 83 = .ok (.aload_n 0, 1) := by decide +kernel
theorem dM_start_84 : decode bM_start 84 = .ok (.iconst 0, 1) := by decide +kernel
theorem dM_start_85 : decode bM_start 85 = .ok (.putfield 134, 3) := by decide +kernel
theorem kM_f134 : Cond.fieldLink RM 134 "ContinuationCoreModel" "pairs" "I" ∈ lw_g := lw_in (List.mem_append_right _ (List.mem_of_getElem? (i := 1082) (by decide +kernel))) rfl
theorem dM_start_88 : decode bM_start 88 = .ok (.aload_n 0, 1) := by decide +kernel
theorem dM_start_89 : decode bM_start 89 = .ok (.iconst 1, 1) := by decide +kernel
theorem dM_start_90 : decode bM_start 90 = .ok (.putfield 137, 3) := by decide +kernel
theorem kM_f137 : Cond.fieldLink RM 137 "ContinuationCoreModel" "records" "I" ∈ lw_g := lw_in (List.mem_append_right _ (List.mem_of_getElem? (i := 1086) (by decide +kernel))) rfl
theorem dM_start_93 : decode bM_start 93 = .ok (.aload_n 0, 1) := by decide +kernel
theorem dM_start_94 : decode bM_start 94 = .ok (.iconst 0, 1) := by decide +kernel
theorem dM_start_95 : decode bM_start 95 = .ok (.putfield 140, 3) := by decide +kernel
theorem kM_f140 : Cond.fieldLink RM 140 "ContinuationCoreModel" "closures" "I" ∈ lw_g := lw_in (List.mem_append_right _ (List.mem_of_getElem? (i := 1090) (by decide +kernel))) rfl
theorem dM_start_98 : decode bM_start 98 = .ok (.aload_n 0, 1) := by decide +kernel
theorem dM_start_99 : decode bM_start 99 = .ok (.iconst 0, 1) := by decide +kernel
theorem dM_start_100 : decode bM_start 100 = .ok (.putfield 143, 3) := by decide +kernel
theorem kM_f143 : Cond.fieldLink RM 143 "ContinuationCoreModel" "steps" "I" ∈ lw_g := lw_in (List.mem_append_right _ (List.mem_of_getElem? (i := 1088) (by decide +kernel))) rfl
theorem dM_start_103 : decode bM_start 103 = .ok (.aload_n 0, 1) := by decide +kernel
theorem dM_start_104 : decode bM_start 104 = .ok (.iconst 0, 1) := by decide +kernel
theorem dM_start_105 : decode bM_start 105 = .ok (.putfield 146, 3) := by decide +kernel
theorem kM_f146 : Cond.fieldLink RM 146 "ContinuationCoreModel" "fault" "I" ∈ lw_g := lw_in (List.mem_append_right _ (List.mem_of_getElem? (i := 1089) (by decide +kernel))) rfl
theorem dM_start_108 : decode bM_start 108 = .ok (.aload_n 0, 1) := by decide +kernel
theorem dM_start_109 : decode bM_start 109 = .ok (.iconst 1, 1) := by decide +kernel
theorem dM_start_110 : decode bM_start 110 = .ok (.putfield 115, 3) := by decide +kernel
theorem dM_start_113 : decode bM_start 113 = .ok (.aload_n 0, 1) := by decide +kernel
theorem dM_start_114 : decode bM_start 114 = .ok (.iconst 1, 1) := by decide +kernel
theorem dM_start_115 : decode bM_start 115 = .ok (.putfield 149, 3) := by decide +kernel
theorem kM_f149 : Cond.fieldLink RM 149 "ContinuationCoreModel" "begins" "Z" ∈ lw_g := lw_in (List.mem_append_right _ (List.mem_of_getElem? (i := 1091) (by decide +kernel))) rfl
theorem dM_start_118 : decode bM_start 118 = .ok (.aload_n 0, 1) := by decide +kernel
theorem dM_start_119 : decode bM_start 119 = .ok (.aload_n 0, 1) := by decide +kernel
theorem dM_start_120 : decode bM_start 120 = .ok (.invokevirtual 153, 3) := by decide +kernel
theorem kM_m153 : Cond.methodLink RM 153 yM_rootNode ∈ lw_g := lw_in (List.mem_append_right _ (List.mem_of_getElem? (i := 1246) (by decide +kernel))) rfl
theorem dM_start_123 : decode bM_start 123 = .ok (.putfield 157, 3) := by decide +kernel
theorem kM_f157 : Cond.fieldLink RM 157 "ContinuationCoreModel" "node" "I" ∈ lw_g := lw_in (List.mem_append_right _ (List.mem_of_getElem? (i := 1092) (by decide +kernel))) rfl
theorem dM_start_126 : decode bM_start 126 = .ok (.aload_n 0, 1) := by decide +kernel
theorem dM_start_127 : decode bM_start 127 = .ok (.iconst 0, 1) := by decide +kernel
theorem dM_start_128 : decode bM_start 128 = .ok (.putfield 160, 3) := by decide +kernel
theorem kM_f160 : Cond.fieldLink RM 160 "ContinuationCoreModel" "scope" "I" ∈ lw_g := lw_in (List.mem_append_right _ (List.mem_of_getElem? (i := 1093) (by decide +kernel))) rfl
theorem dM_start_131 : decode bM_start 131 = .ok (.aload_n 0, 1) := by decide +kernel
theorem dM_start_132 : decode bM_start 132 = .ok (.iconst 0, 1) := by decide +kernel
theorem dM_start_133 : decode bM_start 133 = .ok (.putfield 163, 3) := by decide +kernel
theorem kM_f163 : Cond.fieldLink RM 163 "ContinuationCoreModel" "chain" "I" ∈ lw_g := lw_in (List.mem_append_right _ (List.mem_of_getElem? (i := 1094) (by decide +kernel))) rfl
theorem dM_start_136 : decode bM_start 136 = .ok (.aload_n 0, 1) := by decide +kernel
theorem dM_start_137 : decode bM_start 137 = .ok (.getfield 81, 3) := by decide +kernel
theorem dM_start_140 : decode bM_start 140 = .ok (.ireturn, 1) := by decide +kernel
theorem kM_i_start : Cond.instanceMethod yM_start ∈ lw_g := lw_in (List.mem_append_right _ (List.mem_of_getElem? (i := 1243) (by decide +kernel))) rfl
theorem kM_s_start : Cond.selects RM yM_start yM_start ∈ lw_g := lw_in (List.mem_append_right _ (List.mem_of_getElem? (i := 1244) (by decide +kernel))) rfl
-- rootNode: maxLocals 1, ret (some .int)
theorem kM_c_rootNode : Cond.code yM_rootNode bM_rootNode 1 (some .int) ∈ lw_g := lw_in (List.mem_append_right _ (List.mem_of_getElem? (i := 1249) (by decide +kernel))) rfl
theorem dM_rootNode_0 : decode bM_rootNode 0 = .ok (.iconst 0, 1) := by decide +kernel
theorem dM_rootNode_1 : decode bM_rootNode 1 = .ok (.ireturn, 1) := by decide +kernel
theorem kM_i_rootNode : Cond.instanceMethod yM_rootNode ∈ lw_g := lw_in (List.mem_append_right _ (List.mem_of_getElem? (i := 1248) (by decide +kernel))) rfl
theorem kM_s_rootNode : Cond.selects RM yM_rootNode yM_rootNode ∈ lw_g := lw_in (List.mem_append_left _ (List.mem_map.mpr ⟨(yM_rootNode, 40), by decide +kernel, rfl⟩)) rfl
-- stopBy: maxLocals 2, ret none
theorem kM_c_stopBy : Cond.code yM_stopBy bM_stopBy 2 none ∈ lw_g := lw_in (List.mem_append_right _ (List.mem_of_getElem? (i := 1277) (by decide +kernel))) rfl
theorem dM_stopBy_0 : decode bM_stopBy 0 = .ok (.aload_n 0, 1) := by decide +kernel
theorem dM_stopBy_1 : decode bM_stopBy 1 = .ok (.iload_n 1, 1) := by decide +kernel
theorem dM_stopBy_2 : decode bM_stopBy 2 = .ok (.putfield 146, 3) := by decide +kernel
theorem dM_stopBy_5 : decode bM_stopBy 5 = .ok (.aload_n 0, 1) := by decide +kernel
theorem dM_stopBy_6 : decode bM_stopBy 6 = .ok (.iconst 3, 1) := by decide +kernel
theorem dM_stopBy_7 : decode bM_stopBy 7 = .ok (.putfield 115, 3) := by decide +kernel
theorem dM_stopBy_10 : decode bM_stopBy 10 = .ok (.return_, 1) := by decide +kernel
theorem kM_i_stopBy : Cond.instanceMethod yM_stopBy ∈ lw_g := lw_in (List.mem_append_right _ (List.mem_of_getElem? (i := 1276) (by decide +kernel))) rfl
theorem kM_s_stopBy : Cond.selects RM yM_stopBy yM_stopBy ∈ lw_g := lw_in (List.mem_append_left _ (List.mem_map.mpr ⟨(yM_stopBy, 40), by decide +kernel, rfl⟩)) rfl
-- depthOf: maxLocals 4, ret (some .int)
theorem kM_c_depthOf : Cond.code yM_depthOf bM_depthOf 4 (some .int) ∈ lw_g := lw_in (List.mem_append_right _ (List.mem_of_getElem? (i := 1289) (by decide +kernel))) rfl
theorem dM_depthOf_0 : decode bM_depthOf 0 = .ok (.iconst 0, 1) := by decide +kernel
theorem dM_depthOf_1 : decode bM_depthOf 1 = .ok (.istore_n 2, 1) := by decide +kernel
theorem dM_depthOf_2 : decode bM_depthOf 2 = .ok (.iload_n 1, 1) := by decide +kernel
theorem dM_depthOf_3 : decode bM_depthOf 3 = .ok (.istore_n 3, 1) := by decide +kernel
theorem dM_depthOf_4 : decode bM_depthOf 4 = .ok (.iload_n 3, 1) := by decide +kernel
theorem dM_depthOf_5 : decode bM_depthOf 5 = .ok (.ifCond .le 19, 3) := by decide +kernel
theorem dM_depthOf_8 : decode bM_depthOf 8 = .ok (.iinc 2 1, 3) := by decide +kernel
theorem dM_depthOf_11 : decode bM_depthOf 11 = .ok (.aload_n 0, 1) := by decide +kernel
theorem dM_depthOf_12 : decode bM_depthOf 12 = .ok (.getfield 62, 3) := by decide +kernel
theorem dM_depthOf_15 : decode bM_depthOf 15 = .ok (.iload_n 3, 1) := by decide +kernel
theorem dM_depthOf_16 : decode bM_depthOf 16 = .ok (.iaload, 1) := by decide +kernel
theorem dM_depthOf_17 : decode bM_depthOf 17 = .ok (.bipush 18, 2) := by decide +kernel
theorem dM_depthOf_19 : decode bM_depthOf 19 = .ok (.ishr, 1) := by decide +kernel
theorem dM_depthOf_20 : decode bM_depthOf 20 = .ok (.istore_n 3, 1) := by decide +kernel
theorem dM_depthOf_21 : decode bM_depthOf 21 = .ok (.goto (-17), 3) := by decide +kernel
theorem dM_depthOf_24 : decode bM_depthOf 24 = .ok (.iload_n 2, 1) := by decide +kernel
theorem dM_depthOf_25 : decode bM_depthOf 25 = .ok (.ireturn, 1) := by decide +kernel
theorem kM_i_depthOf : Cond.instanceMethod yM_depthOf ∈ lw_g := lw_in (List.mem_append_right _ (List.mem_of_getElem? (i := 1288) (by decide +kernel))) rfl
theorem kM_s_depthOf : Cond.selects RM yM_depthOf yM_depthOf ∈ lw_g := lw_in (List.mem_append_left _ (List.mem_map.mpr ⟨(yM_depthOf, 40), by decide +kernel, rfl⟩)) rfl
-- find: maxLocals 4, ret (some .int)
theorem kM_c_find : Cond.code yM_find bM_find 4 (some .int) ∈ lw_g := lw_in (List.mem_append_right _ (List.mem_of_getElem? (i := 1273) (by decide +kernel))) rfl
theorem dM_find_0 : decode bM_find 0 = .ok (.iload_n 2, 1) := by decide +kernel
theorem dM_find_1 : decode bM_find 1 = .ok (.istore_n 3, 1) := by decide +kernel
theorem dM_find_2 : decode bM_find 2 = .ok (.iload_n 3, 1) := by decide +kernel
theorem dM_find_3 : decode bM_find 3 = .ok (.ifCond .le 23, 3) := by decide +kernel
theorem dM_find_6 : decode bM_find 6 = .ok (.aload_n 0, 1) := by decide +kernel
theorem dM_find_7 : decode bM_find 7 = .ok (.getfield 50, 3) := by decide +kernel
theorem dM_find_10 : decode bM_find 10 = .ok (.iload_n 3, 1) := by decide +kernel
theorem dM_find_11 : decode bM_find 11 = .ok (.iaload, 1) := by decide +kernel
theorem dM_find_12 : decode bM_find 12 = .ok (.iload_n 1, 1) := by decide +kernel
theorem dM_find_13 : decode bM_find 13 = .ok (.if_icmp .eq 13, 3) := by decide +kernel
theorem dM_find_16 : decode bM_find 16 = .ok (.aload_n 0, 1) := by decide +kernel
theorem dM_find_17 : decode bM_find 17 = .ok (.getfield 53, 3) := by decide +kernel
theorem dM_find_20 : decode bM_find 20 = .ok (.iload_n 3, 1) := by decide +kernel
theorem dM_find_21 : decode bM_find 21 = .ok (.iaload, 1) := by decide +kernel
theorem dM_find_22 : decode bM_find 22 = .ok (.istore_n 3, 1) := by decide +kernel
theorem dM_find_23 : decode bM_find 23 = .ok (.goto (-21), 3) := by decide +kernel
theorem dM_find_26 : decode bM_find 26 = .ok (.iload_n 3, 1) := by decide +kernel
theorem dM_find_27 : decode bM_find 27 = .ok (.ifCond .le 7, 3) := by decide +kernel
theorem dM_find_30 : decode bM_find 30 = .ok (.iload_n 3, 1) := by decide +kernel
theorem dM_find_31 : decode bM_find 31 = .ok (.goto 7, 3) := by decide +kernel
theorem dM_find_34 : decode bM_find 34 = .ok (.bipush 121, 2) := by decide +kernel
theorem dM_find_36 : decode bM_find 36 = .ok (.iload_n 1, 1) := by decide +kernel
theorem dM_find_37 : decode bM_find 37 = .ok (.iadd, 1) := by decide +kernel
theorem dM_find_38 : decode bM_find 38 = .ok (.ireturn, 1) := by decide +kernel
theorem kM_i_find : Cond.instanceMethod yM_find ∈ lw_g := lw_in (List.mem_append_right _ (List.mem_of_getElem? (i := 1272) (by decide +kernel))) rfl
theorem kM_s_find : Cond.selects RM yM_find yM_find ∈ lw_g := lw_in (List.mem_append_left _ (List.mem_map.mpr ⟨(yM_find, 40), by decide +kernel, rfl⟩)) rfl
-- bind: maxLocals 5, ret (some .int)
theorem kM_c_bind : Cond.code yM_bind bM_bind 5 (some .int) ∈ lw_g := lw_in (List.mem_append_right _ (List.mem_of_getElem? (i := 1281) (by decide +kernel))) rfl
theorem dM_bind_0 : decode bM_bind 0 = .ok (.aload_n 0, 1) := by decide +kernel
theorem dM_bind_1 : decode bM_bind 1 = .ok (.getfield 131, 3) := by decide +kernel
theorem dM_bind_4 : decode bM_bind 4 = .ok (.bipush 120, 2) := by decide +kernel
theorem dM_bind_6 : decode bM_bind 6 = .ok (.if_icmp .ne 10, 3) := by decide +kernel
theorem dM_bind_9 : decode bM_bind 9 = .ok (.aload_n 0, 1) := by decide +kernel
theorem dM_bind_10 : decode bM_bind 10 = .ok (.iconst 5, 1) := by decide +kernel
theorem dM_bind_11 : decode bM_bind 11 = .ok (.invokevirtual 166, 3) := by decide +kernel
theorem kM_m166 : Cond.methodLink RM 166 yM_stopBy ∈ lw_g := lw_in (List.mem_append_right _ (List.mem_of_getElem? (i := 1274) (by decide +kernel))) rfl
theorem dM_bind_14 : decode bM_bind 14 = .ok (.iconst 0, 1) := by decide +kernel
theorem dM_bind_15 : decode bM_bind 15 = .ok (.ireturn, 1) := by decide +kernel
theorem dM_bind_16 : decode bM_bind 16 = .ok (.aload_n 0, 1) := by decide +kernel
theorem dM_bind_17 : decode bM_bind 17 = .ok (.dup, 1) := by decide +kernel
theorem dM_bind_18 : decode bM_bind 18 = .ok (.getfield 131, 3) := by decide +kernel
theorem dM_bind_21 : decode bM_bind 21 = .ok (.iconst 1, 1) := by decide +kernel
theorem dM_bind_22 : decode bM_bind 22 = .ok (.iadd, 1) := by decide +kernel
theorem dM_bind_23 : decode bM_bind 23 = .ok (.putfield 131, 3) := by decide +kernel
theorem dM_bind_26 : decode bM_bind 26 = .ok (.aload_n 0, 1) := by decide +kernel
theorem dM_bind_27 : decode bM_bind 27 = .ok (.getfield 50, 3) := by decide +kernel
theorem dM_bind_30 : decode bM_bind 30 = .ok (.aload_n 0, 1) := by decide +kernel
theorem dM_bind_31 : decode bM_bind 31 = .ok (.getfield 131, 3) := by decide +kernel
theorem dM_bind_34 : decode bM_bind 34 = .ok (.iload_n 1, 1) := by decide +kernel
theorem dM_bind_35 : decode bM_bind 35 = .ok (.iastore, 1) := by decide +kernel
theorem dM_bind_36 : decode bM_bind 36 = .ok (.aload_n 0, 1) := by decide +kernel
theorem dM_bind_37 : decode bM_bind 37 = .ok (.getfield 53, 3) := by decide +kernel
theorem dM_bind_40 : decode bM_bind 40 = .ok (.aload_n 0, 1) := by decide +kernel
theorem dM_bind_41 : decode bM_bind 41 = .ok (.getfield 131, 3) := by decide +kernel
theorem dM_bind_44 : decode bM_bind 44 = .ok (.iload_n 2, 1) := by decide +kernel
theorem dM_bind_45 : decode bM_bind 45 = .ok (.iastore, 1) := by decide +kernel
theorem dM_bind_46 : decode bM_bind 46 = .ok (.aload_n 0, 1) := by decide +kernel
theorem dM_bind_47 : decode bM_bind 47 = .ok (.getfield 44, 3) := by decide +kernel
theorem dM_bind_50 : decode bM_bind 50 = .ok (.aload_n 0, 1) := by decide +kernel
theorem dM_bind_51 : decode bM_bind 51 = .ok (.getfield 131, 3) := by decide +kernel
theorem dM_bind_54 : decode bM_bind 54 = .ok (.iload_n 3, 1) := by decide +kernel
theorem dM_bind_55 : decode bM_bind 55 = .ok (.iastore, 1) := by decide +kernel
theorem dM_bind_56 : decode bM_bind 56 = .ok (.aload_n 0, 1) := by decide +kernel
theorem dM_bind_57 : decode bM_bind 57 = .ok (.getfield 47, 3) := by decide +kernel
theorem dM_bind_60 : decode bM_bind 60 = .ok (.aload_n 0, 1) := by decide +kernel
theorem dM_bind_61 : decode bM_bind 61 = .ok (.getfield 131, 3) := by decide +kernel
theorem dM_bind_64 : decode bM_bind 64 = .ok (.iload 4, 2) := by decide +kernel
theorem dM_bind_66 : decode bM_bind 66 = .ok (.iastore, 1) := by decide +kernel
theorem dM_bind_67 : decode bM_bind 67 = .ok (.aload_n 0, 1) := by decide +kernel
theorem dM_bind_68 : decode bM_bind 68 = .ok (.getfield 131, 3) := by decide +kernel
theorem dM_bind_71 : decode bM_bind 71 = .ok (.ireturn, 1) := by decide +kernel
theorem kM_i_bind : Cond.instanceMethod yM_bind ∈ lw_g := lw_in (List.mem_append_right _ (List.mem_of_getElem? (i := 1280) (by decide +kernel))) rfl
theorem kM_s_bind : Cond.selects RM yM_bind yM_bind ∈ lw_g := lw_in (List.mem_append_left _ (List.mem_map.mpr ⟨(yM_bind, 40), by decide +kernel, rfl⟩)) rfl
-- value: maxLocals 3, ret none
theorem kM_c_value : Cond.code yM_value bM_value 3 none ∈ lw_g := lw_in (List.mem_append_right _ (List.mem_of_getElem? (i := 1269) (by decide +kernel))) rfl
theorem dM_value_0 : decode bM_value 0 = .ok (.aload_n 0, 1) := by decide +kernel
theorem dM_value_1 : decode bM_value 1 = .ok (.iconst 0, 1) := by decide +kernel
theorem dM_value_2 : decode bM_value 2 = .ok (.putfield 149, 3) := by decide +kernel
theorem dM_value_5 : decode bM_value 5 = .ok (.aload_n 0, 1) := by decide +kernel
theorem dM_value_6 : decode bM_value 6 = .ok (.iload_n 1, 1) := by decide +kernel
theorem dM_value_7 : decode bM_value 7 = .ok (.putfield 169, 3) := by decide +kernel
theorem kM_f169 : Cond.fieldLink RM 169 "ContinuationCoreModel" "vKind" "I" ∈ lw_g := lw_in (List.mem_append_right _ (List.mem_of_getElem? (i := 1095) (by decide +kernel))) rfl
theorem dM_value_10 : decode bM_value 10 = .ok (.aload_n 0, 1) := by decide +kernel
theorem dM_value_11 : decode bM_value 11 = .ok (.iload_n 2, 1) := by decide +kernel
theorem dM_value_12 : decode bM_value 12 = .ok (.putfield 172, 3) := by decide +kernel
theorem kM_f172 : Cond.fieldLink RM 172 "ContinuationCoreModel" "v" "I" ∈ lw_g := lw_in (List.mem_append_right _ (List.mem_of_getElem? (i := 1096) (by decide +kernel))) rfl
theorem dM_value_15 : decode bM_value 15 = .ok (.return_, 1) := by decide +kernel
theorem kM_i_value : Cond.instanceMethod yM_value ∈ lw_g := lw_in (List.mem_append_right _ (List.mem_of_getElem? (i := 1268) (by decide +kernel))) rfl
theorem kM_s_value : Cond.selects RM yM_value yM_value ∈ lw_g := lw_in (List.mem_append_left _ (List.mem_map.mpr ⟨(yM_value, 40), by decide +kernel, rfl⟩)) rfl
-- last: maxLocals 3, ret none
theorem kM_c_last : Cond.code yM_last bM_last 3 none ∈ lw_g := lw_in (List.mem_append_right _ (List.mem_of_getElem? (i := 1293) (by decide +kernel))) rfl
theorem dM_last_0 : decode bM_last 0 = .ok (.aload_n 0, 1) := by decide +kernel
theorem dM_last_1 : decode bM_last 1 = .ok (.iconst 1, 1) := by decide +kernel
theorem dM_last_2 : decode bM_last 2 = .ok (.putfield 149, 3) := by decide +kernel
theorem dM_last_5 : decode bM_last 5 = .ok (.aload_n 0, 1) := by decide +kernel
theorem dM_last_6 : decode bM_last 6 = .ok (.iload_n 1, 1) := by decide +kernel
theorem dM_last_7 : decode bM_last 7 = .ok (.putfield 157, 3) := by decide +kernel
theorem dM_last_10 : decode bM_last 10 = .ok (.aload_n 0, 1) := by decide +kernel
theorem dM_last_11 : decode bM_last 11 = .ok (.iload_n 2, 1) := by decide +kernel
theorem dM_last_12 : decode bM_last 12 = .ok (.putfield 160, 3) := by decide +kernel
theorem dM_last_15 : decode bM_last 15 = .ok (.return_, 1) := by decide +kernel
theorem kM_i_last : Cond.instanceMethod yM_last ∈ lw_g := lw_in (List.mem_append_right _ (List.mem_of_getElem? (i := 1292) (by decide +kernel))) rfl
theorem kM_s_last : Cond.selects RM yM_last yM_last ∈ lw_g := lw_in (List.mem_append_left _ (List.mem_map.mpr ⟨(yM_last, 40), by decide +kernel, rfl⟩)) rfl
-- await: maxLocals 8, ret none
theorem kM_c_await : Cond.code yM_await bM_await 8 none ∈ lw_g := lw_in (List.mem_append_right _ (List.mem_of_getElem? (i := 1285) (by decide +kernel))) rfl
theorem dM_await_0 : decode bM_await 0 = .ok (.aload_n 0, 1) := by decide +kernel
theorem dM_await_1 : decode bM_await 1 = .ok (.iload 4, 2) := by decide +kernel
theorem dM_await_3 : decode bM_await 3 = .ok (.invokevirtual 175, 3) := by decide +kernel
theorem kM_m175 : Cond.methodLink RM 175 yM_depthOf ∈ lw_g := lw_in (List.mem_append_right _ (List.mem_of_getElem? (i := 1286) (by decide +kernel))) rfl
theorem dM_await_6 : decode bM_await 6 = .ok (.bipush 24, 2) := by decide +kernel
theorem dM_await_8 : decode bM_await 8 = .ok (.if_icmp .ne 9, 3) := by decide +kernel
theorem dM_await_11 : decode bM_await 11 = .ok (.aload_n 0, 1) := by decide +kernel
theorem dM_await_12 : decode bM_await 12 = .ok (.iconst 5, 1) := by decide +kernel
theorem dM_await_13 : decode bM_await 13 = .ok (.invokevirtual 166, 3) := by decide +kernel
theorem dM_await_16 : decode bM_await 16 = .ok (.return_, 1) := by decide +kernel
theorem dM_await_17 : decode bM_await 17 = .ok (.aload_n 0, 1) := by decide +kernel
theorem dM_await_18 : decode bM_await 18 = .ok (.getfield 62, 3) := by decide +kernel
theorem dM_await_21 : decode bM_await 21 = .ok (.aload_n 0, 1) := by decide +kernel
theorem dM_await_22 : decode bM_await 22 = .ok (.getfield 137, 3) := by decide +kernel
theorem dM_await_25 : decode bM_await 25 = .ok (.iload_n 1, 1) := by decide +kernel
theorem dM_await_26 : decode bM_await 26 = .ok (.iload_n 2, 1) := by decide +kernel
theorem dM_await_27 : decode bM_await 27 = .ok (.bipush 7, 2) := by decide +kernel
theorem dM_await_29 : decode bM_await 29 = .ok (.ishl, 1) := by decide +kernel
theorem dM_await_30 : decode bM_await 30 = .ok (.ior, 1) := by decide +kernel
theorem dM_await_31 : decode bM_await 31 = .ok (.iload_n 3, 1) := by decide +kernel
theorem dM_await_32 : decode bM_await 32 = .ok (.bipush 10, 2) := by decide +kernel
theorem dM_await_34 : decode bM_await 34 = .ok (.ishl, 1) := by decide +kernel
theorem dM_await_35 : decode bM_await 35 = .ok (.ior, 1) := by decide +kernel
theorem dM_await_36 : decode bM_await 36 = .ok (.iload 4, 2) := by decide +kernel
theorem dM_await_38 : decode bM_await 38 = .ok (.bipush 18, 2) := by decide +kernel
theorem dM_await_40 : decode bM_await 40 = .ok (.ishl, 1) := by decide +kernel
theorem dM_await_41 : decode bM_await 41 = .ok (.ior, 1) := by decide +kernel
theorem dM_await_42 : decode bM_await 42 = .ok (.iastore, 1) := by decide +kernel
theorem dM_await_43 : decode bM_await 43 = .ok (.aload_n 0, 1) := by decide +kernel
theorem dM_await_44 : decode bM_await 44 = .ok (.getfield 65, 3) := by decide +kernel
theorem dM_await_47 : decode bM_await 47 = .ok (.aload_n 0, 1) := by decide +kernel
theorem dM_await_48 : decode bM_await 48 = .ok (.getfield 137, 3) := by decide +kernel
theorem dM_await_51 : decode bM_await 51 = .ok (.iload 7, 2) := by decide +kernel
theorem dM_await_53 : decode bM_await 53 = .ok (.iastore, 1) := by decide +kernel
theorem dM_await_54 : decode bM_await 54 = .ok (.aload_n 0, 1) := by decide +kernel
theorem dM_await_55 : decode bM_await 55 = .ok (.getfield 68, 3) := by decide +kernel
theorem dM_await_58 : decode bM_await 58 = .ok (.aload_n 0, 1) := by decide +kernel
theorem dM_await_59 : decode bM_await 59 = .ok (.getfield 137, 3) := by decide +kernel
theorem dM_await_62 : decode bM_await 62 = .ok (.iload 5, 2) := by decide +kernel
theorem dM_await_64 : decode bM_await 64 = .ok (.iload 6, 2) := by decide +kernel
theorem dM_await_66 : decode bM_await 66 = .ok (.bipush 13, 2) := by decide +kernel
theorem dM_await_68 : decode bM_await 68 = .ok (.ishl, 1) := by decide +kernel
theorem dM_await_69 : decode bM_await 69 = .ok (.ior, 1) := by decide +kernel
theorem dM_await_70 : decode bM_await 70 = .ok (.iastore, 1) := by decide +kernel
theorem dM_await_71 : decode bM_await 71 = .ok (.aload_n 0, 1) := by decide +kernel
theorem dM_await_72 : decode bM_await 72 = .ok (.aload_n 0, 1) := by decide +kernel
theorem dM_await_73 : decode bM_await 73 = .ok (.getfield 137, 3) := by decide +kernel
theorem dM_await_76 : decode bM_await 76 = .ok (.putfield 163, 3) := by decide +kernel
theorem dM_await_79 : decode bM_await 79 = .ok (.aload_n 0, 1) := by decide +kernel
theorem dM_await_80 : decode bM_await 80 = .ok (.dup, 1) := by decide +kernel
theorem dM_await_81 : decode bM_await 81 = .ok (.getfield 137, 3) := by decide +kernel
theorem dM_await_84 : decode bM_await 84 = .ok (.iconst 1, 1) := by decide +kernel
theorem dM_await_85 : decode bM_await 85 = .ok (.iadd, 1) := by decide +kernel
theorem dM_await_86 : decode bM_await 86 = .ok (.putfield 137, 3) := by decide +kernel
theorem dM_await_89 : decode bM_await 89 = .ok (.aload_n 0, 1) := by decide +kernel
theorem dM_await_90 : decode bM_await 90 = .ok (.aload_n 0, 1) := by decide +kernel
theorem dM_await_91 : decode bM_await 91 = .ok (.getfield 34, 3) := by decide +kernel
theorem dM_await_94 : decode bM_await 94 = .ok (.iconst 4, 1) := by decide +kernel
theorem dM_await_95 : decode bM_await 95 = .ok (.iload_n 1, 1) := by decide +kernel
theorem dM_await_96 : decode bM_await 96 = .ok (.imul, 1) := by decide +kernel
theorem dM_await_97 : decode bM_await 97 = .ok (.iload_n 2, 1) := by decide +kernel
theorem dM_await_98 : decode bM_await 98 = .ok (.iadd, 1) := by decide +kernel
theorem dM_await_99 : decode bM_await 99 = .ok (.iaload, 1) := by decide +kernel
theorem dM_await_100 : decode bM_await 100 = .ok (.iload_n 3, 1) := by decide +kernel
theorem dM_await_101 : decode bM_await 101 = .ok (.invokevirtual 178, 3) := by decide +kernel
theorem kM_m178 : Cond.methodLink RM 178 yM_last ∈ lw_g := lw_in (List.mem_append_right _ (List.mem_of_getElem? (i := 1290) (by decide +kernel))) rfl
theorem dM_await_104 : decode bM_await 104 = .ok (.return_, 1) := by decide +kernel
theorem kM_i_await : Cond.instanceMethod yM_await ∈ lw_g := lw_in (List.mem_append_right _ (List.mem_of_getElem? (i := 1284) (by decide +kernel))) rfl
theorem kM_s_await : Cond.selects RM yM_await yM_await ∈ lw_g := lw_in (List.mem_append_left _ (List.mem_map.mpr ⟨(yM_await, 40), by decide +kernel, rfl⟩)) rfl
-- beginOne: maxLocals 4, ret none
theorem kM_c_beginOne : Cond.code yM_beginOne bM_beginOne 4 none ∈ lw_g := lw_in (List.mem_append_right _ (List.mem_of_getElem? (i := 1265) (by decide +kernel))) rfl
theorem dM_beginOne_0 : decode bM_beginOne 0 = .ok (.aload_n 0, 1) := by decide +kernel
theorem dM_beginOne_1 : decode bM_beginOne 1 = .ok (.getfield 157, 3) := by decide +kernel
theorem dM_beginOne_4 : decode bM_beginOne 4 = .ok (.istore_n 1, 1) := by decide +kernel
theorem dM_beginOne_5 : decode bM_beginOne 5 = .ok (.aload_n 0, 1) := by decide +kernel
theorem dM_beginOne_6 : decode bM_beginOne 6 = .ok (.getfield 25, 3) := by decide +kernel
theorem dM_beginOne_9 : decode bM_beginOne 9 = .ok (.iload_n 1, 1) := by decide +kernel
theorem dM_beginOne_10 : decode bM_beginOne 10 = .ok (.iaload, 1) := by decide +kernel
theorem dM_beginOne_11 : decode bM_beginOne 11 = .ok (.istore_n 2, 1) := by decide +kernel
theorem dM_beginOne_12 : decode bM_beginOne 12 = .ok (.iload_n 2, 1) := by decide +kernel
theorem dM_beginOne_13 : decode bM_beginOne 13 = .ok (.bipush 48, 2) := by decide +kernel
theorem dM_beginOne_15 : decode bM_beginOne 15 = .ok (.if_icmp .ne 17, 3) := by decide +kernel
theorem dM_beginOne_18 : decode bM_beginOne 18 = .ok (.aload_n 0, 1) := by decide +kernel
theorem dM_beginOne_19 : decode bM_beginOne 19 = .ok (.iconst 1, 1) := by decide +kernel
theorem dM_beginOne_20 : decode bM_beginOne 20 = .ok (.aload_n 0, 1) := by decide +kernel
theorem dM_beginOne_21 : decode bM_beginOne 21 = .ok (.getfield 28, 3) := by decide +kernel
theorem dM_beginOne_24 : decode bM_beginOne 24 = .ok (.iload_n 1, 1) := by decide +kernel
theorem dM_beginOne_25 : decode bM_beginOne 25 = .ok (.iaload, 1) := by decide +kernel
theorem dM_beginOne_26 : decode bM_beginOne 26 = .ok (.invokevirtual 182, 3) := by decide +kernel
theorem kM_m182 : Cond.methodLink RM 182 yM_value ∈ lw_g := lw_in (List.mem_append_right _ (List.mem_of_getElem? (i := 1266) (by decide +kernel))) rfl
theorem dM_beginOne_29 : decode bM_beginOne 29 = .ok (.goto 177, 3) := by decide +kernel
theorem dM_beginOne_32 : decode bM_beginOne 32 = .ok (.iload_n 2, 1) := by decide +kernel
theorem dM_beginOne_33 : decode bM_beginOne 33 = .ok (.bipush 95, 2) := by decide +kernel
theorem dM_beginOne_35 : decode bM_beginOne 35 = .ok (.if_icmp .ne 12, 3) := by decide +kernel
theorem dM_beginOne_38 : decode bM_beginOne 38 = .ok (.aload_n 0, 1) := by decide +kernel
theorem dM_beginOne_39 : decode bM_beginOne 39 = .ok (.iconst 2, 1) := by decide +kernel
theorem dM_beginOne_40 : decode bM_beginOne 40 = .ok (.iconst 0, 1) := by decide +kernel
theorem dM_beginOne_41 : decode bM_beginOne 41 = .ok (.invokevirtual 182, 3) := by decide +kernel
theorem dM_beginOne_44 : decode bM_beginOne 44 = .ok (.goto 162, 3) := by decide +kernel
theorem dM_beginOne_47 : decode bM_beginOne 47 = .ok (.iload_n 2, 1) := by decide +kernel
theorem dM_beginOne_48 : decode bM_beginOne 48 = .ok (.bipush 110, 2) := by decide +kernel
theorem dM_beginOne_50 : decode bM_beginOne 50 = .ok (.if_icmp .ne 54, 3) := by decide +kernel
theorem dM_beginOne_53 : decode bM_beginOne 53 = .ok (.aload_n 0, 1) := by decide +kernel
theorem dM_beginOne_54 : decode bM_beginOne 54 = .ok (.aload_n 0, 1) := by decide +kernel
theorem dM_beginOne_55 : decode bM_beginOne 55 = .ok (.getfield 28, 3) := by decide +kernel
theorem dM_beginOne_58 : decode bM_beginOne 58 = .ok (.iload_n 1, 1) := by decide +kernel
theorem dM_beginOne_59 : decode bM_beginOne 59 = .ok (.iaload, 1) := by decide +kernel
theorem dM_beginOne_60 : decode bM_beginOne 60 = .ok (.aload_n 0, 1) := by decide +kernel
theorem dM_beginOne_61 : decode bM_beginOne 61 = .ok (.getfield 160, 3) := by decide +kernel
theorem dM_beginOne_64 : decode bM_beginOne 64 = .ok (.invokevirtual 185, 3) := by decide +kernel
theorem kM_m185 : Cond.methodLink RM 185 yM_find ∈ lw_g := lw_in (List.mem_append_right _ (List.mem_of_getElem? (i := 1270) (by decide +kernel))) rfl
theorem dM_beginOne_67 : decode bM_beginOne 67 = .ok (.istore_n 3, 1) := by decide +kernel
theorem dM_beginOne_68 : decode bM_beginOne 68 = .ok (.aload_n 0, 1) := by decide +kernel
theorem dM_beginOne_69 : decode bM_beginOne 69 = .ok (.getfield 44, 3) := by decide +kernel
theorem dM_beginOne_72 : decode bM_beginOne 72 = .ok (.iload_n 3, 1) := by decide +kernel
theorem dM_beginOne_73 : decode bM_beginOne 73 = .ok (.iaload, 1) := by decide +kernel
theorem dM_beginOne_74 : decode bM_beginOne 74 = .ok (.ifCond .ne 11, 3) := by decide +kernel
theorem dM_beginOne_77 : decode bM_beginOne 77 = .ok (.aload_n 0, 1) := by decide +kernel
theorem dM_beginOne_78 : decode bM_beginOne 78 = .ok (.iconst 1, 1) := by decide +kernel
theorem dM_beginOne_79 : decode bM_beginOne 79 = .ok (.invokevirtual 166, 3) := by decide +kernel
theorem dM_beginOne_82 : decode bM_beginOne 82 = .ok (.goto 19, 3) := by decide +kernel
theorem dM_beginOne_85 : decode bM_beginOne 85 = .ok (.aload_n 0, 1) := by decide +kernel
theorem dM_beginOne_86 : decode bM_beginOne 86 = .ok (.aload_n 0, 1) := by decide +kernel
theorem dM_beginOne_87 : decode bM_beginOne 87 = .ok (.getfield 44, 3) := by decide +kernel
theorem dM_beginOne_90 : decode bM_beginOne 90 = .ok (.iload_n 3, 1) := by decide +kernel
theorem dM_beginOne_91 : decode bM_beginOne 91 = .ok (.iaload, 1) := by decide +kernel
theorem dM_beginOne_92 : decode bM_beginOne 92 = .ok (.aload_n 0, 1) := by decide +kernel
theorem dM_beginOne_93 : decode bM_beginOne 93 = .ok (.getfield 47, 3) := by decide +kernel
theorem dM_beginOne_96 : decode bM_beginOne 96 = .ok (.iload_n 3, 1) := by decide +kernel
theorem dM_beginOne_97 : decode bM_beginOne 97 = .ok (.iaload, 1) := by decide +kernel
theorem dM_beginOne_98 : decode bM_beginOne 98 = .ok (.invokevirtual 182, 3) := by decide +kernel
theorem dM_beginOne_101 : decode bM_beginOne 101 = .ok (.goto 105, 3) := by decide +kernel
theorem dM_beginOne_104 : decode bM_beginOne 104 = .ok (.iload_n 2, 1) := by decide +kernel
theorem dM_beginOne_105 : decode bM_beginOne 105 = .ok (.bipush 92, 2) := by decide +kernel
theorem dM_beginOne_107 : decode bM_beginOne 107 = .ok (.if_icmp .ne 38, 3) := by decide +kernel
theorem dM_beginOne_110 : decode bM_beginOne 110 = .ok (.aload_n 0, 1) := by decide +kernel
theorem dM_beginOne_111 : decode bM_beginOne 111 = .ok (.dup, 1) := by decide +kernel
theorem dM_beginOne_112 : decode bM_beginOne 112 = .ok (.getfield 140, 3) := by decide +kernel
theorem dM_beginOne_115 : decode bM_beginOne 115 = .ok (.iconst 1, 1) := by decide +kernel
theorem dM_beginOne_116 : decode bM_beginOne 116 = .ok (.iadd, 1) := by decide +kernel
theorem dM_beginOne_117 : decode bM_beginOne 117 = .ok (.putfield 140, 3) := by decide +kernel
theorem dM_beginOne_120 : decode bM_beginOne 120 = .ok (.aload_n 0, 1) := by decide +kernel
theorem dM_beginOne_121 : decode bM_beginOne 121 = .ok (.iconst 4, 1) := by decide +kernel
theorem dM_beginOne_122 : decode bM_beginOne 122 = .ok (.aload_n 0, 1) := by decide +kernel
theorem dM_beginOne_123 : decode bM_beginOne 123 = .ok (.getfield 140, 3) := by decide +kernel
theorem dM_beginOne_126 : decode bM_beginOne 126 = .ok (.bipush 15, 2) := by decide +kernel
theorem dM_beginOne_128 : decode bM_beginOne 128 = .ok (.ishl, 1) := by decide +kernel
theorem dM_beginOne_129 : decode bM_beginOne 129 = .ok (.iload_n 1, 1) := by decide +kernel
theorem dM_beginOne_130 : decode bM_beginOne 130 = .ok (.bipush 8, 2) := by decide +kernel
theorem dM_beginOne_132 : decode bM_beginOne 132 = .ok (.ishl, 1) := by decide +kernel
theorem dM_beginOne_133 : decode bM_beginOne 133 = .ok (.ior, 1) := by decide +kernel
theorem dM_beginOne_134 : decode bM_beginOne 134 = .ok (.aload_n 0, 1) := by decide +kernel
theorem dM_beginOne_135 : decode bM_beginOne 135 = .ok (.getfield 160, 3) := by decide +kernel
theorem dM_beginOne_138 : decode bM_beginOne 138 = .ok (.ior, 1) := by decide +kernel
theorem dM_beginOne_139 : decode bM_beginOne 139 = .ok (.invokevirtual 182, 3) := by decide +kernel
theorem dM_beginOne_142 : decode bM_beginOne 142 = .ok (.goto 64, 3) := by decide +kernel
theorem dM_beginOne_145 : decode bM_beginOne 145 = .ok (.iload_n 2, 1) := by decide +kernel
theorem dM_beginOne_146 : decode bM_beginOne 146 = .ok (.bipush 37, 2) := by decide +kernel
theorem dM_beginOne_148 : decode bM_beginOne 148 = .ok (.if_icmp .ne 41, 3) := by decide +kernel
theorem dM_beginOne_151 : decode bM_beginOne 151 = .ok (.aload_n 0, 1) := by decide +kernel
theorem dM_beginOne_152 : decode bM_beginOne 152 = .ok (.aload_n 0, 1) := by decide +kernel
theorem dM_beginOne_153 : decode bM_beginOne 153 = .ok (.getfield 28, 3) := by decide +kernel
theorem dM_beginOne_156 : decode bM_beginOne 156 = .ok (.iload_n 1, 1) := by decide +kernel
theorem dM_beginOne_157 : decode bM_beginOne 157 = .ok (.iaload, 1) := by decide +kernel
theorem dM_beginOne_158 : decode bM_beginOne 158 = .ok (.aload_n 0, 1) := by decide +kernel
theorem dM_beginOne_159 : decode bM_beginOne 159 = .ok (.getfield 160, 3) := by decide +kernel
theorem dM_beginOne_162 : decode bM_beginOne 162 = .ok (.iconst 0, 1) := by decide +kernel
theorem dM_beginOne_163 : decode bM_beginOne 163 = .ok (.iconst 0, 1) := by decide +kernel
theorem dM_beginOne_164 : decode bM_beginOne 164 = .ok (.invokevirtual 189, 3) := by decide +kernel
theorem kM_m189 : Cond.methodLink RM 189 yM_bind ∈ lw_g := lw_in (List.mem_append_right _ (List.mem_of_getElem? (i := 1278) (by decide +kernel))) rfl
theorem dM_beginOne_167 : decode bM_beginOne 167 = .ok (.istore_n 3, 1) := by decide +kernel
theorem dM_beginOne_168 : decode bM_beginOne 168 = .ok (.iload_n 3, 1) := by decide +kernel
theorem dM_beginOne_169 : decode bM_beginOne 169 = .ok (.ifCond .le 17, 3) := by decide +kernel
theorem dM_beginOne_172 : decode bM_beginOne 172 = .ok (.aload_n 0, 1) := by decide +kernel
theorem dM_beginOne_173 : decode bM_beginOne 173 = .ok (.iload_n 1, 1) := by decide +kernel
theorem dM_beginOne_174 : decode bM_beginOne 174 = .ok (.iconst 0, 1) := by decide +kernel
theorem dM_beginOne_175 : decode bM_beginOne 175 = .ok (.iload_n 3, 1) := by decide +kernel
theorem dM_beginOne_176 : decode bM_beginOne 176 = .ok (.aload_n 0, 1) := by decide +kernel
theorem dM_beginOne_177 : decode bM_beginOne 177 = .ok (.getfield 163, 3) := by decide +kernel
theorem dM_beginOne_180 : decode bM_beginOne 180 = .ok (.iconst 0, 1) := by decide +kernel
theorem dM_beginOne_181 : decode bM_beginOne 181 = .ok (.iconst 0, 1) := by decide +kernel
theorem dM_beginOne_182 : decode bM_beginOne 182 = .ok (.iconst 0, 1) := by decide +kernel
theorem dM_beginOne_183 : decode bM_beginOne 183 = .ok (.invokevirtual 193, 3) := by decide +kernel
theorem kM_m193 : Cond.methodLink RM 193 yM_await ∈ lw_g := lw_in (List.mem_append_right _ (List.mem_of_getElem? (i := 1282) (by decide +kernel))) rfl
theorem dM_beginOne_186 : decode bM_beginOne 186 = .ok (.goto 20, 3) := by decide +kernel
theorem dM_beginOne_189 : decode bM_beginOne 189 = .ok (.aload_n 0, 1) := by decide +kernel
theorem dM_beginOne_190 : decode bM_beginOne 190 = .ok (.iload_n 1, 1) := by decide +kernel
theorem dM_beginOne_191 : decode bM_beginOne 191 = .ok (.iconst 0, 1) := by decide +kernel
theorem dM_beginOne_192 : decode bM_beginOne 192 = .ok (.aload_n 0, 1) := by decide +kernel
theorem dM_beginOne_193 : decode bM_beginOne 193 = .ok (.getfield 160, 3) := by decide +kernel
theorem dM_beginOne_196 : decode bM_beginOne 196 = .ok (.aload_n 0, 1) := by decide +kernel
theorem dM_beginOne_197 : decode bM_beginOne 197 = .ok (.getfield 163, 3) := by decide +kernel
theorem dM_beginOne_200 : decode bM_beginOne 200 = .ok (.iconst 0, 1) := by decide +kernel
theorem dM_beginOne_201 : decode bM_beginOne 201 = .ok (.iconst 0, 1) := by decide +kernel
theorem dM_beginOne_202 : decode bM_beginOne 202 = .ok (.iconst 0, 1) := by decide +kernel
theorem dM_beginOne_203 : decode bM_beginOne 203 = .ok (.invokevirtual 193, 3) := by decide +kernel
theorem dM_beginOne_206 : decode bM_beginOne 206 = .ok (.return_, 1) := by decide +kernel
theorem kM_i_beginOne : Cond.instanceMethod yM_beginOne ∈ lw_g := lw_in (List.mem_append_right _ (List.mem_of_getElem? (i := 1264) (by decide +kernel))) rfl
theorem kM_s_beginOne : Cond.selects RM yM_beginOne yM_beginOne ∈ lw_g := lw_in (List.mem_append_left _ (List.mem_map.mpr ⟨(yM_beginOne, 40), by decide +kernel, rfl⟩)) rfl
-- binary: maxLocals 4, ret none
theorem kM_c_binary : Cond.code yM_binary bM_binary 4 none ∈ lw_g := lw_in (List.mem_append_right _ (List.mem_of_getElem? (i := 1317) (by decide +kernel))) rfl
theorem dM_binary_0 : decode bM_binary 0 = .ok (.iload_n 1, 1) := by decide +kernel
theorem dM_binary_1 : decode bM_binary 1 = .ok (.bipush 58, 2) := by decide +kernel
theorem dM_binary_3 : decode bM_binary 3 = .ok (.if_icmp .ne 98, 3) := by decide +kernel
theorem dM_binary_6 : decode bM_binary 6 = .ok (.aload_n 0, 1) := by decide +kernel
theorem dM_binary_7 : decode bM_binary 7 = .ok (.getfield 134, 3) := by decide +kernel
theorem dM_binary_10 : decode bM_binary 10 = .ok (.bipush 60, 2) := by decide +kernel
theorem dM_binary_12 : decode bM_binary 12 = .ok (.if_icmp .ne 9, 3) := by decide +kernel
theorem dM_binary_15 : decode bM_binary 15 = .ok (.aload_n 0, 1) := by decide +kernel
theorem dM_binary_16 : decode bM_binary 16 = .ok (.iconst 5, 1) := by decide +kernel
theorem dM_binary_17 : decode bM_binary 17 = .ok (.invokevirtual 166, 3) := by decide +kernel
theorem dM_binary_20 : decode bM_binary 20 = .ok (.return_, 1) := by decide +kernel
theorem dM_binary_21 : decode bM_binary 21 = .ok (.aload_n 0, 1) := by decide +kernel
theorem dM_binary_22 : decode bM_binary 22 = .ok (.dup, 1) := by decide +kernel
theorem dM_binary_23 : decode bM_binary 23 = .ok (.getfield 134, 3) := by decide +kernel
theorem dM_binary_26 : decode bM_binary 26 = .ok (.iconst 1, 1) := by decide +kernel
theorem dM_binary_27 : decode bM_binary 27 = .ok (.iadd, 1) := by decide +kernel
theorem dM_binary_28 : decode bM_binary 28 = .ok (.putfield 134, 3) := by decide +kernel
theorem dM_binary_31 : decode bM_binary 31 = .ok (.aload_n 0, 1) := by decide +kernel
theorem dM_binary_32 : decode bM_binary 32 = .ok (.getfield 56, 3) := by decide +kernel
theorem dM_binary_35 : decode bM_binary 35 = .ok (.iconst 2, 1) := by decide +kernel
theorem dM_binary_36 : decode bM_binary 36 = .ok (.aload_n 0, 1) := by decide +kernel
theorem dM_binary_37 : decode bM_binary 37 = .ok (.getfield 134, 3) := by decide +kernel
theorem dM_binary_40 : decode bM_binary 40 = .ok (.imul, 1) := by decide +kernel
theorem dM_binary_41 : decode bM_binary 41 = .ok (.iload_n 2, 1) := by decide +kernel
theorem dM_binary_42 : decode bM_binary 42 = .ok (.iastore, 1) := by decide +kernel
theorem dM_binary_43 : decode bM_binary 43 = .ok (.aload_n 0, 1) := by decide +kernel
theorem dM_binary_44 : decode bM_binary 44 = .ok (.getfield 59, 3) := by decide +kernel
theorem dM_binary_47 : decode bM_binary 47 = .ok (.iconst 2, 1) := by decide +kernel
theorem dM_binary_48 : decode bM_binary 48 = .ok (.aload_n 0, 1) := by decide +kernel
theorem dM_binary_49 : decode bM_binary 49 = .ok (.getfield 134, 3) := by decide +kernel
theorem dM_binary_52 : decode bM_binary 52 = .ok (.imul, 1) := by decide +kernel
theorem dM_binary_53 : decode bM_binary 53 = .ok (.iload_n 3, 1) := by decide +kernel
theorem dM_binary_54 : decode bM_binary 54 = .ok (.iastore, 1) := by decide +kernel
theorem dM_binary_55 : decode bM_binary 55 = .ok (.aload_n 0, 1) := by decide +kernel
theorem dM_binary_56 : decode bM_binary 56 = .ok (.getfield 56, 3) := by decide +kernel
theorem dM_binary_59 : decode bM_binary 59 = .ok (.iconst 2, 1) := by decide +kernel
theorem dM_binary_60 : decode bM_binary 60 = .ok (.aload_n 0, 1) := by decide +kernel
theorem dM_binary_61 : decode bM_binary 61 = .ok (.getfield 134, 3) := by decide +kernel
theorem dM_binary_64 : decode bM_binary 64 = .ok (.imul, 1) := by decide +kernel
theorem dM_binary_65 : decode bM_binary 65 = .ok (.iconst 1, 1) := by decide +kernel
theorem dM_binary_66 : decode bM_binary 66 = .ok (.iadd, 1) := by decide +kernel
theorem dM_binary_67 : decode bM_binary 67 = .ok (.aload_n 0, 1) := by decide +kernel
theorem dM_binary_68 : decode bM_binary 68 = .ok (.getfield 169, 3) := by decide +kernel
theorem dM_binary_71 : decode bM_binary 71 = .ok (.iastore, 1) := by decide +kernel
theorem dM_binary_72 : decode bM_binary 72 = .ok (.aload_n 0, 1) := by decide +kernel
theorem dM_binary_73 : decode bM_binary 73 = .ok (.getfield 59, 3) := by decide +kernel
theorem dM_binary_76 : decode bM_binary 76 = .ok (.iconst 2, 1) := by decide +kernel
theorem dM_binary_77 : decode bM_binary 77 = .ok (.aload_n 0, 1) := by decide +kernel
theorem dM_binary_78 : decode bM_binary 78 = .ok (.getfield 134, 3) := by decide +kernel
theorem dM_binary_81 : decode bM_binary 81 = .ok (.imul, 1) := by decide +kernel
theorem dM_binary_82 : decode bM_binary 82 = .ok (.iconst 1, 1) := by decide +kernel
theorem dM_binary_83 : decode bM_binary 83 = .ok (.iadd, 1) := by decide +kernel
theorem dM_binary_84 : decode bM_binary 84 = .ok (.aload_n 0, 1) := by decide +kernel
theorem dM_binary_85 : decode bM_binary 85 = .ok (.getfield 172, 3) := by decide +kernel
theorem dM_binary_88 : decode bM_binary 88 = .ok (.iastore, 1) := by decide +kernel
theorem dM_binary_89 : decode bM_binary 89 = .ok (.aload_n 0, 1) := by decide +kernel
theorem dM_binary_90 : decode bM_binary 90 = .ok (.iconst 3, 1) := by decide +kernel
theorem dM_binary_91 : decode bM_binary 91 = .ok (.aload_n 0, 1) := by decide +kernel
theorem dM_binary_92 : decode bM_binary 92 = .ok (.getfield 134, 3) := by decide +kernel
theorem dM_binary_95 : decode bM_binary 95 = .ok (.invokevirtual 182, 3) := by decide +kernel
theorem dM_binary_98 : decode bM_binary 98 = .ok (.goto 163, 3) := by decide +kernel
theorem dM_binary_101 : decode bM_binary 101 = .ok (.iload_n 1, 1) := by decide +kernel
theorem dM_binary_102 : decode bM_binary 102 = .ok (.bipush 61, 2) := by decide +kernel
theorem dM_binary_104 : decode bM_binary 104 = .ok (.if_icmp .ne 37, 3) := by decide +kernel
theorem dM_binary_107 : decode bM_binary 107 = .ok (.aload_n 0, 1) := by decide +kernel
theorem dM_binary_108 : decode bM_binary 108 = .ok (.iconst 1, 1) := by decide +kernel
theorem dM_binary_109 : decode bM_binary 109 = .ok (.iload_n 2, 1) := by decide +kernel
theorem dM_binary_110 : decode bM_binary 110 = .ok (.aload_n 0, 1) := by decide +kernel
theorem dM_binary_111 : decode bM_binary 111 = .ok (.getfield 169, 3) := by decide +kernel
theorem dM_binary_114 : decode bM_binary 114 = .ok (.if_icmp .ne 20, 3) := by decide +kernel
theorem dM_binary_117 : decode bM_binary 117 = .ok (.iload_n 2, 1) := by decide +kernel
theorem dM_binary_118 : decode bM_binary 118 = .ok (.iconst 2, 1) := by decide +kernel
theorem dM_binary_119 : decode bM_binary 119 = .ok (.if_icmp .eq 11, 3) := by decide +kernel
theorem dM_binary_122 : decode bM_binary 122 = .ok (.iload_n 3, 1) := by decide +kernel
theorem dM_binary_123 : decode bM_binary 123 = .ok (.aload_n 0, 1) := by decide +kernel
theorem dM_binary_124 : decode bM_binary 124 = .ok (.getfield 172, 3) := by decide +kernel
theorem dM_binary_127 : decode bM_binary 127 = .ok (.if_icmp .ne 7, 3) := by decide +kernel
theorem dM_binary_130 : decode bM_binary 130 = .ok (.iconst 1, 1) := by decide +kernel
theorem dM_binary_131 : decode bM_binary 131 = .ok (.goto 4, 3) := by decide +kernel
theorem dM_binary_134 : decode bM_binary 134 = .ok (.iconst 0, 1) := by decide +kernel
theorem dM_binary_135 : decode bM_binary 135 = .ok (.invokevirtual 182, 3) := by decide +kernel
theorem dM_binary_138 : decode bM_binary 138 = .ok (.goto 123, 3) := by decide +kernel
theorem dM_binary_141 : decode bM_binary 141 = .ok (.iload_n 2, 1) := by decide +kernel
theorem dM_binary_142 : decode bM_binary 142 = .ok (.iconst 1, 1) := by decide +kernel
theorem dM_binary_143 : decode bM_binary 143 = .ok (.if_icmp .ne 11, 3) := by decide +kernel
theorem dM_binary_146 : decode bM_binary 146 = .ok (.aload_n 0, 1) := by decide +kernel
theorem dM_binary_147 : decode bM_binary 147 = .ok (.getfield 169, 3) := by decide +kernel
theorem dM_binary_150 : decode bM_binary 150 = .ok (.iconst 1, 1) := by decide +kernel
theorem dM_binary_151 : decode bM_binary 151 = .ok (.if_icmp .eq 11, 3) := by decide +kernel
theorem dM_binary_154 : decode bM_binary 154 = .ok (.aload_n 0, 1) := by decide +kernel
theorem dM_binary_155 : decode bM_binary 155 = .ok (.iconst 2, 1) := by decide +kernel
theorem dM_binary_156 : decode bM_binary 156 = .ok (.invokevirtual 166, 3) := by decide +kernel
theorem dM_binary_159 : decode bM_binary 159 = .ok (.goto 102, 3) := by decide +kernel
theorem dM_binary_162 : decode bM_binary 162 = .ok (.iload_n 1, 1) := by decide +kernel
theorem dM_binary_163 : decode bM_binary 163 = .ok (.bipush 47, 2) := by decide +kernel
theorem dM_binary_165 : decode bM_binary 165 = .ok (.if_icmp .ne 18, 3) := by decide +kernel
theorem dM_binary_168 : decode bM_binary 168 = .ok (.aload_n 0, 1) := by decide +kernel
theorem dM_binary_169 : decode bM_binary 169 = .ok (.getfield 172, 3) := by decide +kernel
theorem dM_binary_172 : decode bM_binary 172 = .ok (.ifCond .ne 11, 3) := by decide +kernel
theorem dM_binary_175 : decode bM_binary 175 = .ok (.aload_n 0, 1) := by decide +kernel
theorem dM_binary_176 : decode bM_binary 176 = .ok (.iconst 3, 1) := by decide +kernel
theorem dM_binary_177 : decode bM_binary 177 = .ok (.invokevirtual 166, 3) := by decide +kernel
theorem dM_binary_180 : decode bM_binary 180 = .ok (.goto 81, 3) := by decide +kernel
theorem dM_binary_183 : decode bM_binary 183 = .ok (.aload_n 0, 1) := by decide +kernel
theorem dM_binary_184 : decode bM_binary 184 = .ok (.iconst 1, 1) := by decide +kernel
theorem dM_binary_185 : decode bM_binary 185 = .ok (.iload_n 1, 1) := by decide +kernel
theorem dM_binary_186 : decode bM_binary 186 = .ok (.bipush 43, 2) := by decide +kernel
theorem dM_binary_188 : decode bM_binary 188 = .ok (.if_icmp .ne 12, 3) := by decide +kernel
theorem dM_binary_191 : decode bM_binary 191 = .ok (.iload_n 3, 1) := by decide +kernel
theorem dM_binary_192 : decode bM_binary 192 = .ok (.aload_n 0, 1) := by decide +kernel
theorem dM_binary_193 : decode bM_binary 193 = .ok (.getfield 172, 3) := by decide +kernel
theorem dM_binary_196 : decode bM_binary 196 = .ok (.iadd, 1) := by decide +kernel
theorem dM_binary_197 : decode bM_binary 197 = .ok (.goto 61, 3) := by decide +kernel
theorem dM_binary_200 : decode bM_binary 200 = .ok (.iload_n 1, 1) := by decide +kernel
theorem dM_binary_201 : decode bM_binary 201 = .ok (.bipush 45, 2) := by decide +kernel
theorem dM_binary_203 : decode bM_binary 203 = .ok (.if_icmp .ne 12, 3) := by decide +kernel
theorem dM_binary_206 : decode bM_binary 206 = .ok (.iload_n 3, 1) := by decide +kernel
theorem dM_binary_207 : decode bM_binary 207 = .ok (.aload_n 0, 1) := by decide +kernel
theorem dM_binary_208 : decode bM_binary 208 = .ok (.getfield 172, 3) := by decide +kernel
theorem dM_binary_211 : decode bM_binary 211 = .ok (.isub, 1) := by decide +kernel
theorem dM_binary_212 : decode bM_binary 212 = .ok (.goto 46, 3) := by decide +kernel
theorem dM_binary_215 : decode bM_binary 215 = .ok (.iload_n 1, 1) := by decide +kernel
theorem dM_binary_216 : decode bM_binary 216 = .ok (.bipush 42, 2) := by decide +kernel
theorem dM_binary_218 : decode bM_binary 218 = .ok (.if_icmp .ne 12, 3) := by decide +kernel
theorem dM_binary_221 : decode bM_binary 221 = .ok (.iload_n 3, 1) := by decide +kernel
theorem dM_binary_222 : decode bM_binary 222 = .ok (.aload_n 0, 1) := by decide +kernel
theorem dM_binary_223 : decode bM_binary 223 = .ok (.getfield 172, 3) := by decide +kernel
theorem dM_binary_226 : decode bM_binary 226 = .ok (.imul, 1) := by decide +kernel
theorem dM_binary_227 : decode bM_binary 227 = .ok (.goto 31, 3) := by decide +kernel
theorem dM_binary_230 : decode bM_binary 230 = .ok (.iload_n 1, 1) := by decide +kernel
theorem dM_binary_231 : decode bM_binary 231 = .ok (.bipush 47, 2) := by decide +kernel
theorem dM_binary_233 : decode bM_binary 233 = .ok (.if_icmp .ne 12, 3) := by decide +kernel
theorem dM_binary_236 : decode bM_binary 236 = .ok (.iload_n 3, 1) := by decide +kernel
theorem dM_binary_237 : decode bM_binary 237 = .ok (.aload_n 0, 1) := by decide +kernel
theorem dM_binary_238 : decode bM_binary 238 = .ok (.getfield 172, 3) := by decide +kernel
theorem dM_binary_241 : decode bM_binary 241 = .ok (.idiv, 1) := by decide +kernel
theorem dM_binary_242 : decode bM_binary 242 = .ok (.goto 16, 3) := by decide +kernel
theorem dM_binary_245 : decode bM_binary 245 = .ok (.iload_n 3, 1) := by decide +kernel
theorem dM_binary_246 : decode bM_binary 246 = .ok (.aload_n 0, 1) := by decide +kernel
theorem dM_binary_247 : decode bM_binary 247 = .ok (.getfield 172, 3) := by decide +kernel
theorem dM_binary_250 : decode bM_binary 250 = .ok (.if_icmp .ge 7, 3) := by decide +kernel
theorem dM_binary_253 : decode bM_binary 253 = .ok (.iconst 1, 1) := by decide +kernel
theorem dM_binary_254 : decode bM_binary 254 = .ok (.goto 4, 3) := by decide +kernel
theorem dM_binary_257 : decode bM_binary 257 = .ok (.iconst 0, 1) := by decide +kernel
theorem dM_binary_258 : decode bM_binary 258 = .ok (.invokevirtual 182, 3) := by decide +kernel
theorem dM_binary_261 : decode bM_binary 261 = .ok (.return_, 1) := by decide +kernel
theorem kM_i_binary : Cond.instanceMethod yM_binary ∈ lw_g := lw_in (List.mem_append_right _ (List.mem_of_getElem? (i := 1316) (by decide +kernel))) rfl
theorem kM_s_binary : Cond.selects RM yM_binary yM_binary ∈ lw_g := lw_in (List.mem_append_left _ (List.mem_map.mpr ⟨(yM_binary, 40), by decide +kernel, rfl⟩)) rfl
-- unary: maxLocals 3, ret none
theorem kM_c_unary : Cond.code yM_unary bM_unary 3 none ∈ lw_g := lw_in (List.mem_append_right _ (List.mem_of_getElem? (i := 1313) (by decide +kernel))) rfl
theorem dM_unary_0 : decode bM_unary 0 = .ok (.iload_n 1, 1) := by decide +kernel
theorem dM_unary_1 : decode bM_unary 1 = .ok (.bipush 80, 2) := by decide +kernel
theorem dM_unary_3 : decode bM_unary 3 = .ok (.if_icmp .ne 24, 3) := by decide +kernel
theorem dM_unary_6 : decode bM_unary 6 = .ok (.aload_n 0, 1) := by decide +kernel
theorem dM_unary_7 : decode bM_unary 7 = .ok (.iconst 1, 1) := by decide +kernel
theorem dM_unary_8 : decode bM_unary 8 = .ok (.aload_n 0, 1) := by decide +kernel
theorem dM_unary_9 : decode bM_unary 9 = .ok (.getfield 169, 3) := by decide +kernel
theorem dM_unary_12 : decode bM_unary 12 = .ok (.iconst 3, 1) := by decide +kernel
theorem dM_unary_13 : decode bM_unary 13 = .ok (.if_icmp .ne 7, 3) := by decide +kernel
theorem dM_unary_16 : decode bM_unary 16 = .ok (.iconst 1, 1) := by decide +kernel
theorem dM_unary_17 : decode bM_unary 17 = .ok (.goto 4, 3) := by decide +kernel
theorem dM_unary_20 : decode bM_unary 20 = .ok (.iconst 0, 1) := by decide +kernel
theorem dM_unary_21 : decode bM_unary 21 = .ok (.invokevirtual 182, 3) := by decide +kernel
theorem dM_unary_24 : decode bM_unary 24 = .ok (.goto 54, 3) := by decide +kernel
theorem dM_unary_27 : decode bM_unary 27 = .ok (.aload_n 0, 1) := by decide +kernel
theorem dM_unary_28 : decode bM_unary 28 = .ok (.getfield 169, 3) := by decide +kernel
theorem dM_unary_31 : decode bM_unary 31 = .ok (.iconst 3, 1) := by decide +kernel
theorem dM_unary_32 : decode bM_unary 32 = .ok (.if_icmp .eq 11, 3) := by decide +kernel
theorem dM_unary_35 : decode bM_unary 35 = .ok (.aload_n 0, 1) := by decide +kernel
theorem dM_unary_36 : decode bM_unary 36 = .ok (.iconst 2, 1) := by decide +kernel
theorem dM_unary_37 : decode bM_unary 37 = .ok (.invokevirtual 166, 3) := by decide +kernel
theorem dM_unary_40 : decode bM_unary 40 = .ok (.goto 38, 3) := by decide +kernel
theorem dM_unary_43 : decode bM_unary 43 = .ok (.iconst 2, 1) := by decide +kernel
theorem dM_unary_44 : decode bM_unary 44 = .ok (.aload_n 0, 1) := by decide +kernel
theorem dM_unary_45 : decode bM_unary 45 = .ok (.getfield 172, 3) := by decide +kernel
theorem dM_unary_48 : decode bM_unary 48 = .ok (.imul, 1) := by decide +kernel
theorem dM_unary_49 : decode bM_unary 49 = .ok (.iload_n 1, 1) := by decide +kernel
theorem dM_unary_50 : decode bM_unary 50 = .ok (.bipush 68, 2) := by decide +kernel
theorem dM_unary_52 : decode bM_unary 52 = .ok (.if_icmp .ne 7, 3) := by decide +kernel
theorem dM_unary_55 : decode bM_unary 55 = .ok (.iconst 1, 1) := by decide +kernel
theorem dM_unary_56 : decode bM_unary 56 = .ok (.goto 4, 3) := by decide +kernel
theorem dM_unary_59 : decode bM_unary 59 = .ok (.iconst 0, 1) := by decide +kernel
theorem dM_unary_60 : decode bM_unary 60 = .ok (.iadd, 1) := by decide +kernel
theorem dM_unary_61 : decode bM_unary 61 = .ok (.istore_n 2, 1) := by decide +kernel
theorem dM_unary_62 : decode bM_unary 62 = .ok (.aload_n 0, 1) := by decide +kernel
theorem dM_unary_63 : decode bM_unary 63 = .ok (.aload_n 0, 1) := by decide +kernel
theorem dM_unary_64 : decode bM_unary 64 = .ok (.getfield 56, 3) := by decide +kernel
theorem dM_unary_67 : decode bM_unary 67 = .ok (.iload_n 2, 1) := by decide +kernel
theorem dM_unary_68 : decode bM_unary 68 = .ok (.iaload, 1) := by decide +kernel
theorem dM_unary_69 : decode bM_unary 69 = .ok (.aload_n 0, 1) := by decide +kernel
theorem dM_unary_70 : decode bM_unary 70 = .ok (.getfield 59, 3) := by decide +kernel
theorem dM_unary_73 : decode bM_unary 73 = .ok (.iload_n 2, 1) := by decide +kernel
theorem dM_unary_74 : decode bM_unary 74 = .ok (.iaload, 1) := by decide +kernel
theorem dM_unary_75 : decode bM_unary 75 = .ok (.invokevirtual 182, 3) := by decide +kernel
theorem dM_unary_78 : decode bM_unary 78 = .ok (.return_, 1) := by decide +kernel
theorem kM_i_unary : Cond.instanceMethod yM_unary ∈ lw_g := lw_in (List.mem_append_right _ (List.mem_of_getElem? (i := 1312) (by decide +kernel))) rfl
theorem kM_s_unary : Cond.selects RM yM_unary yM_unary ∈ lw_g := lw_in (List.mem_append_left _ (List.mem_map.mpr ⟨(yM_unary, 40), by decide +kernel, rfl⟩)) rfl
-- call: maxLocals 14, ret none
theorem kM_c_call : Cond.code yM_call bM_call 14 none ∈ lw_g := lw_in (List.mem_append_right _ (List.mem_of_getElem? (i := 1309) (by decide +kernel))) rfl
theorem dM_call_0 : decode bM_call 0 = .ok (.iload_n 1, 1) := by decide +kernel
theorem dM_call_1 : decode bM_call 1 = .ok (.iconst 4, 1) := by decide +kernel
theorem dM_call_2 : decode bM_call 2 = .ok (.if_icmp .eq 14, 3) := by decide +kernel
theorem dM_call_5 : decode bM_call 5 = .ok (.iload_n 1, 1) := by decide +kernel
theorem dM_call_6 : decode bM_call 6 = .ok (.iconst 5, 1) := by decide +kernel
theorem dM_call_7 : decode bM_call 7 = .ok (.if_icmp .eq 9, 3) := by decide +kernel
theorem dM_call_10 : decode bM_call 10 = .ok (.aload_n 0, 1) := by decide +kernel
theorem dM_call_11 : decode bM_call 11 = .ok (.iconst 2, 1) := by decide +kernel
theorem dM_call_12 : decode bM_call 12 = .ok (.invokevirtual 166, 3) := by decide +kernel
theorem dM_call_15 : decode bM_call 15 = .ok (.return_, 1) := by decide +kernel
theorem dM_call_16 : decode bM_call 16 = .ok (.iload_n 1, 1) := by decide +kernel
theorem dM_call_17 : decode bM_call 17 = .ok (.iconst 5, 1) := by decide +kernel
theorem dM_call_18 : decode bM_call 18 = .ok (.if_icmp .ne 7, 3) := by decide +kernel
theorem dM_call_21 : decode bM_call 21 = .ok (.iconst 1, 1) := by decide +kernel
theorem dM_call_22 : decode bM_call 22 = .ok (.goto 18, 3) := by decide +kernel
theorem dM_call_25 : decode bM_call 25 = .ok (.aload_n 0, 1) := by decide +kernel
theorem dM_call_26 : decode bM_call 26 = .ok (.getfield 31, 3) := by decide +kernel
theorem dM_call_29 : decode bM_call 29 = .ok (.iload_n 2, 1) := by decide +kernel
theorem dM_call_30 : decode bM_call 30 = .ok (.bipush 8, 2) := by decide +kernel
theorem dM_call_32 : decode bM_call 32 = .ok (.ishr, 1) := by decide +kernel
theorem dM_call_33 : decode bM_call 33 = .ok (.bipush 127, 2) := by decide +kernel
theorem dM_call_35 : decode bM_call 35 = .ok (.iand, 1) := by decide +kernel
theorem dM_call_36 : decode bM_call 36 = .ok (.iaload, 1) := by decide +kernel
theorem dM_call_37 : decode bM_call 37 = .ok (.bipush 20, 2) := by decide +kernel
theorem dM_call_39 : decode bM_call 39 = .ok (.ishr, 1) := by decide +kernel
theorem dM_call_40 : decode bM_call 40 = .ok (.istore 5, 2) := by decide +kernel
theorem dM_call_42 : decode bM_call 42 = .ok (.iload_n 3, 1) := by decide +kernel
theorem dM_call_43 : decode bM_call 43 = .ok (.iload 5, 2) := by decide +kernel
theorem dM_call_45 : decode bM_call 45 = .ok (.if_icmp .eq 9, 3) := by decide +kernel
theorem dM_call_48 : decode bM_call 48 = .ok (.aload_n 0, 1) := by decide +kernel
theorem dM_call_49 : decode bM_call 49 = .ok (.iconst 4, 1) := by decide +kernel
theorem dM_call_50 : decode bM_call 50 = .ok (.invokevirtual 166, 3) := by decide +kernel
theorem dM_call_53 : decode bM_call 53 = .ok (.return_, 1) := by decide +kernel
theorem dM_call_54 : decode bM_call 54 = .ok (.iload_n 1, 1) := by decide +kernel
theorem dM_call_55 : decode bM_call 55 = .ok (.iconst 5, 1) := by decide +kernel
theorem dM_call_56 : decode bM_call 56 = .ok (.if_icmp .ne 18, 3) := by decide +kernel
theorem dM_call_59 : decode bM_call 59 = .ok (.aload_n 0, 1) := by decide +kernel
theorem dM_call_60 : decode bM_call 60 = .ok (.iload_n 2, 1) := by decide +kernel
theorem dM_call_61 : decode bM_call 61 = .ok (.sipush 8191, 3) := by decide +kernel
theorem dM_call_64 : decode bM_call 64 = .ok (.iand, 1) := by decide +kernel
theorem dM_call_65 : decode bM_call 65 = .ok (.putfield 163, 3) := by decide +kernel
theorem dM_call_68 : decode bM_call 68 = .ok (.aload_n 0, 1) := by decide +kernel
theorem dM_call_69 : decode bM_call 69 = .ok (.iconst 0, 1) := by decide +kernel
theorem dM_call_70 : decode bM_call 70 = .ok (.putfield 149, 3) := by decide +kernel
theorem dM_call_73 : decode bM_call 73 = .ok (.return_, 1) := by decide +kernel
theorem dM_call_74 : decode bM_call 74 = .ok (.iload_n 2, 1) := by decide +kernel
theorem dM_call_75 : decode bM_call 75 = .ok (.bipush 8, 2) := by decide +kernel
theorem dM_call_77 : decode bM_call 77 = .ok (.ishr, 1) := by decide +kernel
theorem dM_call_78 : decode bM_call 78 = .ok (.bipush 127, 2) := by decide +kernel
theorem dM_call_80 : decode bM_call 80 = .ok (.iand, 1) := by decide +kernel
theorem dM_call_81 : decode bM_call 81 = .ok (.istore 6, 2) := by decide +kernel
theorem dM_call_83 : decode bM_call 83 = .ok (.iload_n 2, 1) := by decide +kernel
theorem dM_call_84 : decode bM_call 84 = .ok (.sipush 255, 3) := by decide +kernel
theorem dM_call_87 : decode bM_call 87 = .ok (.iand, 1) := by decide +kernel
theorem dM_call_88 : decode bM_call 88 = .ok (.istore 7, 2) := by decide +kernel
theorem dM_call_90 : decode bM_call 90 = .ok (.aload_n 0, 1) := by decide +kernel
theorem dM_call_91 : decode bM_call 91 = .ok (.getfield 169, 3) := by decide +kernel
theorem dM_call_94 : decode bM_call 94 = .ok (.istore 8, 2) := by decide +kernel
theorem dM_call_96 : decode bM_call 96 = .ok (.aload_n 0, 1) := by decide +kernel
theorem dM_call_97 : decode bM_call 97 = .ok (.getfield 172, 3) := by decide +kernel
theorem dM_call_100 : decode bM_call 100 = .ok (.istore 9, 2) := by decide +kernel
theorem dM_call_102 : decode bM_call 102 = .ok (.iconst 0, 1) := by decide +kernel
theorem dM_call_103 : decode bM_call 103 = .ok (.istore 10, 2) := by decide +kernel
theorem dM_call_105 : decode bM_call 105 = .ok (.iload 10, 2) := by decide +kernel
theorem dM_call_107 : decode bM_call 107 = .ok (.iload_n 3, 1) := by decide +kernel
theorem dM_call_108 : decode bM_call 108 = .ok (.if_icmp .ge 131, 3) := by decide +kernel
theorem dM_call_111 : decode bM_call 111 = .ok (.aload_n 0, 1) := by decide +kernel
theorem dM_call_112 : decode bM_call 112 = .ok (.getfield 115, 3) := by decide +kernel
theorem dM_call_115 : decode bM_call 115 = .ok (.iconst 1, 1) := by decide +kernel
theorem dM_call_116 : decode bM_call 116 = .ok (.if_icmp .ne 123, 3) := by decide +kernel
theorem dM_call_119 : decode bM_call 119 = .ok (.iload 4, 2) := by decide +kernel
theorem dM_call_121 : decode bM_call 121 = .ok (.istore 11, 2) := by decide +kernel
theorem dM_call_123 : decode bM_call 123 = .ok (.iload_n 3, 1) := by decide +kernel
theorem dM_call_124 : decode bM_call 124 = .ok (.iconst 2, 1) := by decide +kernel
theorem dM_call_125 : decode bM_call 125 = .ok (.isub, 1) := by decide +kernel
theorem dM_call_126 : decode bM_call 126 = .ok (.istore 12, 2) := by decide +kernel
theorem dM_call_128 : decode bM_call 128 = .ok (.iload 12, 2) := by decide +kernel
theorem dM_call_130 : decode bM_call 130 = .ok (.iload 10, 2) := by decide +kernel
theorem dM_call_132 : decode bM_call 132 = .ok (.if_icmp .le 22, 3) := by decide +kernel
theorem dM_call_135 : decode bM_call 135 = .ok (.aload_n 0, 1) := by decide +kernel
theorem dM_call_136 : decode bM_call 136 = .ok (.getfield 68, 3) := by decide +kernel
theorem dM_call_139 : decode bM_call 139 = .ok (.iload 11, 2) := by decide +kernel
theorem dM_call_141 : decode bM_call 141 = .ok (.iaload, 1) := by decide +kernel
theorem dM_call_142 : decode bM_call 142 = .ok (.sipush 8191, 3) := by decide +kernel
theorem dM_call_145 : decode bM_call 145 = .ok (.iand, 1) := by decide +kernel
theorem dM_call_146 : decode bM_call 146 = .ok (.istore 11, 2) := by decide +kernel
theorem dM_call_148 : decode bM_call 148 = .ok (.iinc 12 (-1), 3) := by decide +kernel
theorem dM_call_151 : decode bM_call 151 = .ok (.goto (-23), 3) := by decide +kernel
theorem dM_call_154 : decode bM_call 154 = .ok (.iload 10, 2) := by decide +kernel
theorem dM_call_156 : decode bM_call 156 = .ok (.iload_n 3, 1) := by decide +kernel
theorem dM_call_157 : decode bM_call 157 = .ok (.iconst 1, 1) := by decide +kernel
theorem dM_call_158 : decode bM_call 158 = .ok (.isub, 1) := by decide +kernel
theorem dM_call_159 : decode bM_call 159 = .ok (.if_icmp .ne 7, 3) := by decide +kernel
theorem dM_call_162 : decode bM_call 162 = .ok (.iconst 1, 1) := by decide +kernel
theorem dM_call_163 : decode bM_call 163 = .ok (.goto 4, 3) := by decide +kernel
theorem dM_call_166 : decode bM_call 166 = .ok (.iconst 0, 1) := by decide +kernel
theorem dM_call_167 : decode bM_call 167 = .ok (.istore 12, 2) := by decide +kernel
theorem dM_call_169 : decode bM_call 169 = .ok (.aload_n 0, 1) := by decide +kernel
theorem dM_call_170 : decode bM_call 170 = .ok (.getfield 31, 3) := by decide +kernel
theorem dM_call_173 : decode bM_call 173 = .ok (.iload 6, 2) := by decide +kernel
theorem dM_call_175 : decode bM_call 175 = .ok (.iaload, 1) := by decide +kernel
theorem dM_call_176 : decode bM_call 176 = .ok (.iconst 5, 1) := by decide +kernel
theorem dM_call_177 : decode bM_call 177 = .ok (.iload 10, 2) := by decide +kernel
theorem dM_call_179 : decode bM_call 179 = .ok (.imul, 1) := by decide +kernel
theorem dM_call_180 : decode bM_call 180 = .ok (.ishr, 1) := by decide +kernel
theorem dM_call_181 : decode bM_call 181 = .ok (.bipush 31, 2) := by decide +kernel
theorem dM_call_183 : decode bM_call 183 = .ok (.iand, 1) := by decide +kernel
theorem dM_call_184 : decode bM_call 184 = .ok (.istore 13, 2) := by decide +kernel
theorem dM_call_186 : decode bM_call 186 = .ok (.aload_n 0, 1) := by decide +kernel
theorem dM_call_187 : decode bM_call 187 = .ok (.iload 13, 2) := by decide +kernel
theorem dM_call_189 : decode bM_call 189 = .ok (.iload 7, 2) := by decide +kernel
theorem dM_call_191 : decode bM_call 191 = .ok (.iload 12, 2) := by decide +kernel
theorem dM_call_193 : decode bM_call 193 = .ok (.ifCond .eq 8, 3) := by decide +kernel
theorem dM_call_196 : decode bM_call 196 = .ok (.iload 8, 2) := by decide +kernel
theorem dM_call_198 : decode bM_call 198 = .ok (.goto 13, 3) := by decide +kernel
theorem dM_call_201 : decode bM_call 201 = .ok (.aload_n 0, 1) := by decide +kernel
theorem dM_call_202 : decode bM_call 202 = .ok (.getfield 68, 3) := by decide +kernel
theorem dM_call_205 : decode bM_call 205 = .ok (.iload 11, 2) := by decide +kernel
theorem dM_call_207 : decode bM_call 207 = .ok (.iaload, 1) := by decide +kernel
theorem dM_call_208 : decode bM_call 208 = .ok (.bipush 13, 2) := by decide +kernel
theorem dM_call_210 : decode bM_call 210 = .ok (.ishr, 1) := by decide +kernel
theorem dM_call_211 : decode bM_call 211 = .ok (.iload 12, 2) := by decide +kernel
theorem dM_call_213 : decode bM_call 213 = .ok (.ifCond .eq 8, 3) := by decide +kernel
theorem dM_call_216 : decode bM_call 216 = .ok (.iload 9, 2) := by decide +kernel
theorem dM_call_218 : decode bM_call 218 = .ok (.goto 10, 3) := by decide +kernel
theorem dM_call_221 : decode bM_call 221 = .ok (.aload_n 0, 1) := by decide +kernel
theorem dM_call_222 : decode bM_call 222 = .ok (.getfield 65, 3) := by decide +kernel
theorem dM_call_225 : decode bM_call 225 = .ok (.iload 11, 2) := by decide +kernel
theorem dM_call_227 : decode bM_call 227 = .ok (.iaload, 1) := by decide +kernel
theorem dM_call_228 : decode bM_call 228 = .ok (.invokevirtual 189, 3) := by decide +kernel
theorem dM_call_231 : decode bM_call 231 = .ok (.istore 7, 2) := by decide +kernel
theorem dM_call_233 : decode bM_call 233 = .ok (.iinc 10 1, 3) := by decide +kernel
theorem dM_call_236 : decode bM_call 236 = .ok (.goto (-131), 3) := by decide +kernel
theorem dM_call_239 : decode bM_call 239 = .ok (.aload_n 0, 1) := by decide +kernel
theorem dM_call_240 : decode bM_call 240 = .ok (.getfield 115, 3) := by decide +kernel
theorem dM_call_243 : decode bM_call 243 = .ok (.iconst 1, 1) := by decide +kernel
theorem dM_call_244 : decode bM_call 244 = .ok (.if_icmp .ne 18, 3) := by decide +kernel
theorem dM_call_247 : decode bM_call 247 = .ok (.aload_n 0, 1) := by decide +kernel
theorem dM_call_248 : decode bM_call 248 = .ok (.aload_n 0, 1) := by decide +kernel
theorem dM_call_249 : decode bM_call 249 = .ok (.getfield 34, 3) := by decide +kernel
theorem dM_call_252 : decode bM_call 252 = .ok (.iconst 4, 1) := by decide +kernel
theorem dM_call_253 : decode bM_call 253 = .ok (.iload 6, 2) := by decide +kernel
theorem dM_call_255 : decode bM_call 255 = .ok (.imul, 1) := by decide +kernel
theorem dM_call_256 : decode bM_call 256 = .ok (.iaload, 1) := by decide +kernel
theorem dM_call_257 : decode bM_call 257 = .ok (.iload 7, 2) := by decide +kernel
theorem dM_call_259 : decode bM_call 259 = .ok (.invokevirtual 178, 3) := by decide +kernel
theorem dM_call_262 : decode bM_call 262 = .ok (.return_, 1) := by decide +kernel
theorem kM_i_call : Cond.instanceMethod yM_call ∈ lw_g := lw_in (List.mem_append_right _ (List.mem_of_getElem? (i := 1308) (by decide +kernel))) rfl
theorem kM_s_call : Cond.selects RM yM_call yM_call ∈ lw_g := lw_in (List.mem_append_left _ (List.mem_map.mpr ⟨(yM_call, 40), by decide +kernel, rfl⟩)) rfl
-- partsOf: maxLocals 2, ret (some .int)
theorem kM_c_partsOf : Cond.code yM_partsOf bM_partsOf 2 (some .int) ∈ lw_g := lw_in (List.mem_append_right _ (List.mem_of_getElem? (i := 1305) (by decide +kernel))) rfl
theorem dM_partsOf_0 : decode bM_partsOf 0 = .ok (.aload_n 0, 1) := by decide +kernel
theorem dM_partsOf_1 : decode bM_partsOf 1 = .ok (.getfield 28, 3) := by decide +kernel
theorem dM_partsOf_4 : decode bM_partsOf 4 = .ok (.iload_n 1, 1) := by decide +kernel
theorem dM_partsOf_5 : decode bM_partsOf 5 = .ok (.iaload, 1) := by decide +kernel
theorem dM_partsOf_6 : decode bM_partsOf 6 = .ok (.ireturn, 1) := by decide +kernel
theorem kM_i_partsOf : Cond.instanceMethod yM_partsOf ∈ lw_g := lw_in (List.mem_append_right _ (List.mem_of_getElem? (i := 1304) (by decide +kernel))) rfl
theorem kM_s_partsOf : Cond.selects RM yM_partsOf yM_partsOf ∈ lw_g := lw_in (List.mem_append_left _ (List.mem_map.mpr ⟨(yM_partsOf, 40), by decide +kernel, rfl⟩)) rfl
-- apply: maxLocals 8, ret none
theorem kM_c_apply : Cond.code yM_apply bM_apply 8 none ∈ lw_g := lw_in (List.mem_append_right _ (List.mem_of_getElem? (i := 1301) (by decide +kernel))) rfl
theorem dM_apply_0 : decode bM_apply 0 = .ok (.iload_n 3, 1) := by decide +kernel
theorem dM_apply_1 : decode bM_apply 1 = .ok (.iconst 1, 1) := by decide +kernel
theorem dM_apply_2 : decode bM_apply 2 = .ok (.iadd, 1) := by decide +kernel
theorem dM_apply_3 : decode bM_apply 3 = .ok (.aload_n 0, 1) := by decide +kernel
theorem dM_apply_4 : decode bM_apply 4 = .ok (.iload_n 2, 1) := by decide +kernel
theorem dM_apply_5 : decode bM_apply 5 = .ok (.invokevirtual 197, 3) := by decide +kernel
theorem kM_m197 : Cond.methodLink RM 197 yM_partsOf ∈ lw_g := lw_in (List.mem_append_right _ (List.mem_of_getElem? (i := 1302) (by decide +kernel))) rfl
theorem dM_apply_8 : decode bM_apply 8 = .ok (.if_icmp .ge 25, 3) := by decide +kernel
theorem dM_apply_11 : decode bM_apply 11 = .ok (.aload_n 0, 1) := by decide +kernel
theorem dM_apply_12 : decode bM_apply 12 = .ok (.iload_n 2, 1) := by decide +kernel
theorem dM_apply_13 : decode bM_apply 13 = .ok (.iload_n 3, 1) := by decide +kernel
theorem dM_apply_14 : decode bM_apply 14 = .ok (.iconst 1, 1) := by decide +kernel
theorem dM_apply_15 : decode bM_apply 15 = .ok (.iadd, 1) := by decide +kernel
theorem dM_apply_16 : decode bM_apply 16 = .ok (.iload 4, 2) := by decide +kernel
theorem dM_apply_18 : decode bM_apply 18 = .ok (.iload 5, 2) := by decide +kernel
theorem dM_apply_20 : decode bM_apply 20 = .ok (.iload_n 1, 1) := by decide +kernel
theorem dM_apply_21 : decode bM_apply 21 = .ok (.aload_n 0, 1) := by decide +kernel
theorem dM_apply_22 : decode bM_apply 22 = .ok (.getfield 169, 3) := by decide +kernel
theorem dM_apply_25 : decode bM_apply 25 = .ok (.aload_n 0, 1) := by decide +kernel
theorem dM_apply_26 : decode bM_apply 26 = .ok (.getfield 172, 3) := by decide +kernel
theorem dM_apply_29 : decode bM_apply 29 = .ok (.invokevirtual 193, 3) := by decide +kernel
theorem dM_apply_32 : decode bM_apply 32 = .ok (.return_, 1) := by decide +kernel
theorem dM_apply_33 : decode bM_apply 33 = .ok (.aload_n 0, 1) := by decide +kernel
theorem dM_apply_34 : decode bM_apply 34 = .ok (.iload 5, 2) := by decide +kernel
theorem dM_apply_36 : decode bM_apply 36 = .ok (.putfield 163, 3) := by decide +kernel
theorem dM_apply_39 : decode bM_apply 39 = .ok (.iload_n 3, 1) := by decide +kernel
theorem dM_apply_40 : decode bM_apply 40 = .ok (.ifCond .ne 18, 3) := by decide +kernel
theorem dM_apply_43 : decode bM_apply 43 = .ok (.aload_n 0, 1) := by decide +kernel
theorem dM_apply_44 : decode bM_apply 44 = .ok (.aload_n 0, 1) := by decide +kernel
theorem dM_apply_45 : decode bM_apply 45 = .ok (.getfield 169, 3) := by decide +kernel
theorem dM_apply_48 : decode bM_apply 48 = .ok (.aload_n 0, 1) := by decide +kernel
theorem dM_apply_49 : decode bM_apply 49 = .ok (.getfield 172, 3) := by decide +kernel
theorem dM_apply_52 : decode bM_apply 52 = .ok (.iconst 0, 1) := by decide +kernel
theorem dM_apply_53 : decode bM_apply 53 = .ok (.iconst 0, 1) := by decide +kernel
theorem dM_apply_54 : decode bM_apply 54 = .ok (.invokevirtual 200, 3) := by decide +kernel
theorem kM_m200 : Cond.methodLink RM 200 yM_call ∈ lw_g := lw_in (List.mem_append_right _ (List.mem_of_getElem? (i := 1306) (by decide +kernel))) rfl
theorem dM_apply_57 : decode bM_apply 57 = .ok (.return_, 1) := by decide +kernel
theorem dM_apply_58 : decode bM_apply 58 = .ok (.iload_n 1, 1) := by decide +kernel
theorem dM_apply_59 : decode bM_apply 59 = .ok (.istore 6, 2) := by decide +kernel
theorem dM_apply_61 : decode bM_apply 61 = .ok (.iload_n 3, 1) := by decide +kernel
theorem dM_apply_62 : decode bM_apply 62 = .ok (.istore 7, 2) := by decide +kernel
theorem dM_apply_64 : decode bM_apply 64 = .ok (.iload 7, 2) := by decide +kernel
theorem dM_apply_66 : decode bM_apply 66 = .ok (.iconst 1, 1) := by decide +kernel
theorem dM_apply_67 : decode bM_apply 67 = .ok (.if_icmp .le 22, 3) := by decide +kernel
theorem dM_apply_70 : decode bM_apply 70 = .ok (.aload_n 0, 1) := by decide +kernel
theorem dM_apply_71 : decode bM_apply 71 = .ok (.getfield 68, 3) := by decide +kernel
theorem dM_apply_74 : decode bM_apply 74 = .ok (.iload 6, 2) := by decide +kernel
theorem dM_apply_76 : decode bM_apply 76 = .ok (.iaload, 1) := by decide +kernel
theorem dM_apply_77 : decode bM_apply 77 = .ok (.sipush 8191, 3) := by decide +kernel
theorem dM_apply_80 : decode bM_apply 80 = .ok (.iand, 1) := by decide +kernel
theorem dM_apply_81 : decode bM_apply 81 = .ok (.istore 6, 2) := by decide +kernel
theorem dM_apply_83 : decode bM_apply 83 = .ok (.iinc 7 (-1), 3) := by decide +kernel
theorem dM_apply_86 : decode bM_apply 86 = .ok (.goto (-22), 3) := by decide +kernel
theorem dM_apply_89 : decode bM_apply 89 = .ok (.aload_n 0, 1) := by decide +kernel
theorem dM_apply_90 : decode bM_apply 90 = .ok (.aload_n 0, 1) := by decide +kernel
theorem dM_apply_91 : decode bM_apply 91 = .ok (.getfield 68, 3) := by decide +kernel
theorem dM_apply_94 : decode bM_apply 94 = .ok (.iload 6, 2) := by decide +kernel
theorem dM_apply_96 : decode bM_apply 96 = .ok (.iaload, 1) := by decide +kernel
theorem dM_apply_97 : decode bM_apply 97 = .ok (.bipush 13, 2) := by decide +kernel
theorem dM_apply_99 : decode bM_apply 99 = .ok (.ishr, 1) := by decide +kernel
theorem dM_apply_100 : decode bM_apply 100 = .ok (.aload_n 0, 1) := by decide +kernel
theorem dM_apply_101 : decode bM_apply 101 = .ok (.getfield 65, 3) := by decide +kernel
theorem dM_apply_104 : decode bM_apply 104 = .ok (.iload 6, 2) := by decide +kernel
theorem dM_apply_106 : decode bM_apply 106 = .ok (.iaload, 1) := by decide +kernel
theorem dM_apply_107 : decode bM_apply 107 = .ok (.iload_n 3, 1) := by decide +kernel
theorem dM_apply_108 : decode bM_apply 108 = .ok (.iload_n 1, 1) := by decide +kernel
theorem dM_apply_109 : decode bM_apply 109 = .ok (.invokevirtual 200, 3) := by decide +kernel
theorem dM_apply_112 : decode bM_apply 112 = .ok (.return_, 1) := by decide +kernel
theorem kM_i_apply : Cond.instanceMethod yM_apply ∈ lw_g := lw_in (List.mem_append_right _ (List.mem_of_getElem? (i := 1300) (by decide +kernel))) rfl
theorem kM_s_apply : Cond.selects RM yM_apply yM_apply ∈ lw_g := lw_in (List.mem_append_left _ (List.mem_map.mpr ⟨(yM_apply, 40), by decide +kernel, rfl⟩)) rfl
-- goOn: maxLocals 9, ret none
theorem kM_c_goOn : Cond.code yM_goOn bM_goOn 9 none ∈ lw_g := lw_in (List.mem_append_right _ (List.mem_of_getElem? (i := 1297) (by decide +kernel))) rfl
theorem dM_goOn_0 : decode bM_goOn 0 = .ok (.aload_n 0, 1) := by decide +kernel
theorem dM_goOn_1 : decode bM_goOn 1 = .ok (.getfield 163, 3) := by decide +kernel
theorem dM_goOn_4 : decode bM_goOn 4 = .ok (.istore_n 1, 1) := by decide +kernel
theorem dM_goOn_5 : decode bM_goOn 5 = .ok (.aload_n 0, 1) := by decide +kernel
theorem dM_goOn_6 : decode bM_goOn 6 = .ok (.getfield 62, 3) := by decide +kernel
theorem dM_goOn_9 : decode bM_goOn 9 = .ok (.iload_n 1, 1) := by decide +kernel
theorem dM_goOn_10 : decode bM_goOn 10 = .ok (.iaload, 1) := by decide +kernel
theorem dM_goOn_11 : decode bM_goOn 11 = .ok (.bipush 127, 2) := by decide +kernel
theorem dM_goOn_13 : decode bM_goOn 13 = .ok (.iand, 1) := by decide +kernel
theorem dM_goOn_14 : decode bM_goOn 14 = .ok (.istore_n 2, 1) := by decide +kernel
theorem dM_goOn_15 : decode bM_goOn 15 = .ok (.aload_n 0, 1) := by decide +kernel
theorem dM_goOn_16 : decode bM_goOn 16 = .ok (.getfield 62, 3) := by decide +kernel
theorem dM_goOn_19 : decode bM_goOn 19 = .ok (.iload_n 1, 1) := by decide +kernel
theorem dM_goOn_20 : decode bM_goOn 20 = .ok (.iaload, 1) := by decide +kernel
theorem dM_goOn_21 : decode bM_goOn 21 = .ok (.bipush 7, 2) := by decide +kernel
theorem dM_goOn_23 : decode bM_goOn 23 = .ok (.ishr, 1) := by decide +kernel
theorem dM_goOn_24 : decode bM_goOn 24 = .ok (.bipush 7, 2) := by decide +kernel
theorem dM_goOn_26 : decode bM_goOn 26 = .ok (.iand, 1) := by decide +kernel
theorem dM_goOn_27 : decode bM_goOn 27 = .ok (.istore_n 3, 1) := by decide +kernel
theorem dM_goOn_28 : decode bM_goOn 28 = .ok (.aload_n 0, 1) := by decide +kernel
theorem dM_goOn_29 : decode bM_goOn 29 = .ok (.getfield 62, 3) := by decide +kernel
theorem dM_goOn_32 : decode bM_goOn 32 = .ok (.iload_n 1, 1) := by decide +kernel
theorem dM_goOn_33 : decode bM_goOn 33 = .ok (.iaload, 1) := by decide +kernel
theorem dM_goOn_34 : decode bM_goOn 34 = .ok (.bipush 10, 2) := by decide +kernel
theorem dM_goOn_36 : decode bM_goOn 36 = .ok (.ishr, 1) := by decide +kernel
theorem dM_goOn_37 : decode bM_goOn 37 = .ok (.sipush 255, 3) := by decide +kernel
theorem dM_goOn_40 : decode bM_goOn 40 = .ok (.iand, 1) := by decide +kernel
theorem dM_goOn_41 : decode bM_goOn 41 = .ok (.istore 4, 2) := by decide +kernel
theorem dM_goOn_43 : decode bM_goOn 43 = .ok (.aload_n 0, 1) := by decide +kernel
theorem dM_goOn_44 : decode bM_goOn 44 = .ok (.getfield 62, 3) := by decide +kernel
theorem dM_goOn_47 : decode bM_goOn 47 = .ok (.iload_n 1, 1) := by decide +kernel
theorem dM_goOn_48 : decode bM_goOn 48 = .ok (.iaload, 1) := by decide +kernel
theorem dM_goOn_49 : decode bM_goOn 49 = .ok (.bipush 18, 2) := by decide +kernel
theorem dM_goOn_51 : decode bM_goOn 51 = .ok (.ishr, 1) := by decide +kernel
theorem dM_goOn_52 : decode bM_goOn 52 = .ok (.istore 5, 2) := by decide +kernel
theorem dM_goOn_54 : decode bM_goOn 54 = .ok (.aload_n 0, 1) := by decide +kernel
theorem dM_goOn_55 : decode bM_goOn 55 = .ok (.getfield 25, 3) := by decide +kernel
theorem dM_goOn_58 : decode bM_goOn 58 = .ok (.iload_n 2, 1) := by decide +kernel
theorem dM_goOn_59 : decode bM_goOn 59 = .ok (.iaload, 1) := by decide +kernel
theorem dM_goOn_60 : decode bM_goOn 60 = .ok (.istore 6, 2) := by decide +kernel
theorem dM_goOn_62 : decode bM_goOn 62 = .ok (.aload_n 0, 1) := by decide +kernel
theorem dM_goOn_63 : decode bM_goOn 63 = .ok (.iload 5, 2) := by decide +kernel
theorem dM_goOn_65 : decode bM_goOn 65 = .ok (.putfield 163, 3) := by decide +kernel
theorem dM_goOn_68 : decode bM_goOn 68 = .ok (.iload 6, 2) := by decide +kernel
theorem dM_goOn_70 : decode bM_goOn 70 = .ok (.bipush 40, 2) := by decide +kernel
theorem dM_goOn_72 : decode bM_goOn 72 = .ok (.if_icmp .ne 17, 3) := by decide +kernel
theorem dM_goOn_75 : decode bM_goOn 75 = .ok (.aload_n 0, 1) := by decide +kernel
theorem dM_goOn_76 : decode bM_goOn 76 = .ok (.iload_n 1, 1) := by decide +kernel
theorem dM_goOn_77 : decode bM_goOn 77 = .ok (.iload_n 2, 1) := by decide +kernel
theorem dM_goOn_78 : decode bM_goOn 78 = .ok (.iload_n 3, 1) := by decide +kernel
theorem dM_goOn_79 : decode bM_goOn 79 = .ok (.iload 4, 2) := by decide +kernel
theorem dM_goOn_81 : decode bM_goOn 81 = .ok (.iload 5, 2) := by decide +kernel
theorem dM_goOn_83 : decode bM_goOn 83 = .ok (.invokevirtual 204, 3) := by decide +kernel
theorem kM_m204 : Cond.methodLink RM 204 yM_apply ∈ lw_g := lw_in (List.mem_append_right _ (List.mem_of_getElem? (i := 1298) (by decide +kernel))) rfl
theorem dM_goOn_86 : decode bM_goOn 86 = .ok (.goto 355, 3) := by decide +kernel
theorem dM_goOn_89 : decode bM_goOn 89 = .ok (.iload 6, 2) := by decide +kernel
theorem dM_goOn_91 : decode bM_goOn 91 = .ok (.bipush 94, 2) := by decide +kernel
theorem dM_goOn_93 : decode bM_goOn 93 = .ok (.if_icmp .ne 53, 3) := by decide +kernel
theorem dM_goOn_96 : decode bM_goOn 96 = .ok (.aload_n 0, 1) := by decide +kernel
theorem dM_goOn_97 : decode bM_goOn 97 = .ok (.getfield 169, 3) := by decide +kernel
theorem dM_goOn_100 : decode bM_goOn 100 = .ok (.istore 7, 2) := by decide +kernel
theorem dM_goOn_102 : decode bM_goOn 102 = .ok (.aload_n 0, 1) := by decide +kernel
theorem dM_goOn_103 : decode bM_goOn 103 = .ok (.getfield 172, 3) := by decide +kernel
theorem dM_goOn_106 : decode bM_goOn 106 = .ok (.istore 8, 2) := by decide +kernel
theorem dM_goOn_108 : decode bM_goOn 108 = .ok (.aload_n 0, 1) := by decide +kernel
theorem dM_goOn_109 : decode bM_goOn 109 = .ok (.dup, 1) := by decide +kernel
theorem dM_goOn_110 : decode bM_goOn 110 = .ok (.getfield 140, 3) := by decide +kernel
theorem dM_goOn_113 : decode bM_goOn 113 = .ok (.iconst 1, 1) := by decide +kernel
theorem dM_goOn_114 : decode bM_goOn 114 = .ok (.iadd, 1) := by decide +kernel
theorem dM_goOn_115 : decode bM_goOn 115 = .ok (.putfield 140, 3) := by decide +kernel
theorem dM_goOn_118 : decode bM_goOn 118 = .ok (.aload_n 0, 1) := by decide +kernel
theorem dM_goOn_119 : decode bM_goOn 119 = .ok (.iconst 5, 1) := by decide +kernel
theorem dM_goOn_120 : decode bM_goOn 120 = .ok (.aload_n 0, 1) := by decide +kernel
theorem dM_goOn_121 : decode bM_goOn 121 = .ok (.getfield 140, 3) := by decide +kernel
theorem dM_goOn_124 : decode bM_goOn 124 = .ok (.bipush 13, 2) := by decide +kernel
theorem dM_goOn_126 : decode bM_goOn 126 = .ok (.ishl, 1) := by decide +kernel
theorem dM_goOn_127 : decode bM_goOn 127 = .ok (.iload 5, 2) := by decide +kernel
theorem dM_goOn_129 : decode bM_goOn 129 = .ok (.ior, 1) := by decide +kernel
theorem dM_goOn_130 : decode bM_goOn 130 = .ok (.invokevirtual 182, 3) := by decide +kernel
theorem dM_goOn_133 : decode bM_goOn 133 = .ok (.aload_n 0, 1) := by decide +kernel
theorem dM_goOn_134 : decode bM_goOn 134 = .ok (.iload 7, 2) := by decide +kernel
theorem dM_goOn_136 : decode bM_goOn 136 = .ok (.iload 8, 2) := by decide +kernel
theorem dM_goOn_138 : decode bM_goOn 138 = .ok (.iconst 1, 1) := by decide +kernel
theorem dM_goOn_139 : decode bM_goOn 139 = .ok (.iconst 0, 1) := by decide +kernel
theorem dM_goOn_140 : decode bM_goOn 140 = .ok (.invokevirtual 200, 3) := by decide +kernel
theorem dM_goOn_143 : decode bM_goOn 143 = .ok (.goto 298, 3) := by decide +kernel
theorem dM_goOn_146 : decode bM_goOn 146 = .ok (.iload 6, 2) := by decide +kernel
theorem dM_goOn_148 : decode bM_goOn 148 = .ok (.bipush 65, 2) := by decide +kernel
theorem dM_goOn_150 : decode bM_goOn 150 = .ok (.if_icmp .eq 17, 3) := by decide +kernel
theorem dM_goOn_153 : decode bM_goOn 153 = .ok (.iload 6, 2) := by decide +kernel
theorem dM_goOn_155 : decode bM_goOn 155 = .ok (.bipush 68, 2) := by decide +kernel
theorem dM_goOn_157 : decode bM_goOn 157 = .ok (.if_icmp .eq 10, 3) := by decide +kernel
theorem dM_goOn_160 : decode bM_goOn 160 = .ok (.iload 6, 2) := by decide +kernel
theorem dM_goOn_162 : decode bM_goOn 162 = .ok (.bipush 80, 2) := by decide +kernel
theorem dM_goOn_164 : decode bM_goOn 164 = .ok (.if_icmp .ne 12, 3) := by decide +kernel
theorem dM_goOn_167 : decode bM_goOn 167 = .ok (.aload_n 0, 1) := by decide +kernel
theorem dM_goOn_168 : decode bM_goOn 168 = .ok (.iload 6, 2) := by decide +kernel
theorem dM_goOn_170 : decode bM_goOn 170 = .ok (.invokevirtual 208, 3) := by decide +kernel
theorem kM_m208 : Cond.methodLink RM 208 yM_unary ∈ lw_g := lw_in (List.mem_append_right _ (List.mem_of_getElem? (i := 1310) (by decide +kernel))) rfl
theorem dM_goOn_173 : decode bM_goOn 173 = .ok (.goto 268, 3) := by decide +kernel
theorem dM_goOn_176 : decode bM_goOn 176 = .ok (.iload 6, 2) := by decide +kernel
theorem dM_goOn_178 : decode bM_goOn 178 = .ok (.bipush 63, 2) := by decide +kernel
theorem dM_goOn_180 : decode bM_goOn 180 = .ok (.if_icmp .ne 41, 3) := by decide +kernel
theorem dM_goOn_183 : decode bM_goOn 183 = .ok (.aload_n 0, 1) := by decide +kernel
theorem dM_goOn_184 : decode bM_goOn 184 = .ok (.aload_n 0, 1) := by decide +kernel
theorem dM_goOn_185 : decode bM_goOn 185 = .ok (.getfield 34, 3) := by decide +kernel
theorem dM_goOn_188 : decode bM_goOn 188 = .ok (.iconst 4, 1) := by decide +kernel
theorem dM_goOn_189 : decode bM_goOn 189 = .ok (.iload_n 2, 1) := by decide +kernel
theorem dM_goOn_190 : decode bM_goOn 190 = .ok (.imul, 1) := by decide +kernel
theorem dM_goOn_191 : decode bM_goOn 191 = .ok (.aload_n 0, 1) := by decide +kernel
theorem dM_goOn_192 : decode bM_goOn 192 = .ok (.getfield 169, 3) := by decide +kernel
theorem dM_goOn_195 : decode bM_goOn 195 = .ok (.iconst 1, 1) := by decide +kernel
theorem dM_goOn_196 : decode bM_goOn 196 = .ok (.if_icmp .ne 14, 3) := by decide +kernel
theorem dM_goOn_199 : decode bM_goOn 199 = .ok (.aload_n 0, 1) := by decide +kernel
theorem dM_goOn_200 : decode bM_goOn 200 = .ok (.getfield 172, 3) := by decide +kernel
theorem dM_goOn_203 : decode bM_goOn 203 = .ok (.ifCond .ne 7, 3) := by decide +kernel
theorem dM_goOn_206 : decode bM_goOn 206 = .ok (.iconst 2, 1) := by decide +kernel
theorem dM_goOn_207 : decode bM_goOn 207 = .ok (.goto 4, 3) := by decide +kernel
theorem dM_goOn_210 : decode bM_goOn 210 = .ok (.iconst 1, 1) := by decide +kernel
theorem dM_goOn_211 : decode bM_goOn 211 = .ok (.iadd, 1) := by decide +kernel
theorem dM_goOn_212 : decode bM_goOn 212 = .ok (.iaload, 1) := by decide +kernel
theorem dM_goOn_213 : decode bM_goOn 213 = .ok (.iload 4, 2) := by decide +kernel
theorem dM_goOn_215 : decode bM_goOn 215 = .ok (.invokevirtual 178, 3) := by decide +kernel
theorem dM_goOn_218 : decode bM_goOn 218 = .ok (.goto 223, 3) := by decide +kernel
theorem dM_goOn_221 : decode bM_goOn 221 = .ok (.iload 6, 2) := by decide +kernel
theorem dM_goOn_223 : decode bM_goOn 223 = .ok (.bipush 38, 2) := by decide +kernel
theorem dM_goOn_225 : decode bM_goOn 225 = .ok (.if_icmp .ne 22, 3) := by decide +kernel
theorem dM_goOn_228 : decode bM_goOn 228 = .ok (.aload_n 0, 1) := by decide +kernel
theorem dM_goOn_229 : decode bM_goOn 229 = .ok (.aload_n 0, 1) := by decide +kernel
theorem dM_goOn_230 : decode bM_goOn 230 = .ok (.getfield 34, 3) := by decide +kernel
theorem dM_goOn_233 : decode bM_goOn 233 = .ok (.iconst 4, 1) := by decide +kernel
theorem dM_goOn_234 : decode bM_goOn 234 = .ok (.iload_n 2, 1) := by decide +kernel
theorem dM_goOn_235 : decode bM_goOn 235 = .ok (.imul, 1) := by decide +kernel
theorem dM_goOn_236 : decode bM_goOn 236 = .ok (.iconst 1, 1) := by decide +kernel
theorem dM_goOn_237 : decode bM_goOn 237 = .ok (.iadd, 1) := by decide +kernel
theorem dM_goOn_238 : decode bM_goOn 238 = .ok (.iaload, 1) := by decide +kernel
theorem dM_goOn_239 : decode bM_goOn 239 = .ok (.iload 4, 2) := by decide +kernel
theorem dM_goOn_241 : decode bM_goOn 241 = .ok (.invokevirtual 178, 3) := by decide +kernel
theorem dM_goOn_244 : decode bM_goOn 244 = .ok (.goto 197, 3) := by decide +kernel
theorem dM_goOn_247 : decode bM_goOn 247 = .ok (.iload 6, 2) := by decide +kernel
theorem dM_goOn_249 : decode bM_goOn 249 = .ok (.bipush 33, 2) := by decide +kernel
theorem dM_goOn_251 : decode bM_goOn 251 = .ok (.if_icmp .ne 42, 3) := by decide +kernel
theorem dM_goOn_254 : decode bM_goOn 254 = .ok (.aload_n 0, 1) := by decide +kernel
theorem dM_goOn_255 : decode bM_goOn 255 = .ok (.aload_n 0, 1) := by decide +kernel
theorem dM_goOn_256 : decode bM_goOn 256 = .ok (.getfield 28, 3) := by decide +kernel
theorem dM_goOn_259 : decode bM_goOn 259 = .ok (.iload_n 2, 1) := by decide +kernel
theorem dM_goOn_260 : decode bM_goOn 260 = .ok (.iaload, 1) := by decide +kernel
theorem dM_goOn_261 : decode bM_goOn 261 = .ok (.iload 4, 2) := by decide +kernel
theorem dM_goOn_263 : decode bM_goOn 263 = .ok (.invokevirtual 185, 3) := by decide +kernel
theorem dM_goOn_266 : decode bM_goOn 266 = .ok (.istore 7, 2) := by decide +kernel
theorem dM_goOn_268 : decode bM_goOn 268 = .ok (.aload_n 0, 1) := by decide +kernel
theorem dM_goOn_269 : decode bM_goOn 269 = .ok (.getfield 44, 3) := by decide +kernel
theorem dM_goOn_272 : decode bM_goOn 272 = .ok (.iload 7, 2) := by decide +kernel
theorem dM_goOn_274 : decode bM_goOn 274 = .ok (.aload_n 0, 1) := by decide +kernel
theorem dM_goOn_275 : decode bM_goOn 275 = .ok (.getfield 169, 3) := by decide +kernel
theorem dM_goOn_278 : decode bM_goOn 278 = .ok (.iastore, 1) := by decide +kernel
theorem dM_goOn_279 : decode bM_goOn 279 = .ok (.aload_n 0, 1) := by decide +kernel
theorem dM_goOn_280 : decode bM_goOn 280 = .ok (.getfield 47, 3) := by decide +kernel
theorem dM_goOn_283 : decode bM_goOn 283 = .ok (.iload 7, 2) := by decide +kernel
theorem dM_goOn_285 : decode bM_goOn 285 = .ok (.aload_n 0, 1) := by decide +kernel
theorem dM_goOn_286 : decode bM_goOn 286 = .ok (.getfield 172, 3) := by decide +kernel
theorem dM_goOn_289 : decode bM_goOn 289 = .ok (.iastore, 1) := by decide +kernel
theorem dM_goOn_290 : decode bM_goOn 290 = .ok (.goto 151, 3) := by decide +kernel
theorem dM_goOn_293 : decode bM_goOn 293 = .ok (.iload 6, 2) := by decide +kernel
theorem dM_goOn_295 : decode bM_goOn 295 = .ok (.bipush 64, 2) := by decide +kernel
theorem dM_goOn_297 : decode bM_goOn 297 = .ok (.if_icmp .ne 49, 3) := by decide +kernel
theorem dM_goOn_300 : decode bM_goOn 300 = .ok (.aload_n 0, 1) := by decide +kernel
theorem dM_goOn_301 : decode bM_goOn 301 = .ok (.aload_n 0, 1) := by decide +kernel
theorem dM_goOn_302 : decode bM_goOn 302 = .ok (.getfield 28, 3) := by decide +kernel
theorem dM_goOn_305 : decode bM_goOn 305 = .ok (.iload_n 2, 1) := by decide +kernel
theorem dM_goOn_306 : decode bM_goOn 306 = .ok (.iaload, 1) := by decide +kernel
theorem dM_goOn_307 : decode bM_goOn 307 = .ok (.iload 4, 2) := by decide +kernel
theorem dM_goOn_309 : decode bM_goOn 309 = .ok (.aload_n 0, 1) := by decide +kernel
theorem dM_goOn_310 : decode bM_goOn 310 = .ok (.getfield 169, 3) := by decide +kernel
theorem dM_goOn_313 : decode bM_goOn 313 = .ok (.aload_n 0, 1) := by decide +kernel
theorem dM_goOn_314 : decode bM_goOn 314 = .ok (.getfield 172, 3) := by decide +kernel
theorem dM_goOn_317 : decode bM_goOn 317 = .ok (.invokevirtual 189, 3) := by decide +kernel
theorem dM_goOn_320 : decode bM_goOn 320 = .ok (.istore 7, 2) := by decide +kernel
theorem dM_goOn_322 : decode bM_goOn 322 = .ok (.iload 7, 2) := by decide +kernel
theorem dM_goOn_324 : decode bM_goOn 324 = .ok (.ifCond .le 19, 3) := by decide +kernel
theorem dM_goOn_327 : decode bM_goOn 327 = .ok (.aload_n 0, 1) := by decide +kernel
theorem dM_goOn_328 : decode bM_goOn 328 = .ok (.aload_n 0, 1) := by decide +kernel
theorem dM_goOn_329 : decode bM_goOn 329 = .ok (.getfield 34, 3) := by decide +kernel
theorem dM_goOn_332 : decode bM_goOn 332 = .ok (.iconst 4, 1) := by decide +kernel
theorem dM_goOn_333 : decode bM_goOn 333 = .ok (.iload_n 2, 1) := by decide +kernel
theorem dM_goOn_334 : decode bM_goOn 334 = .ok (.imul, 1) := by decide +kernel
theorem dM_goOn_335 : decode bM_goOn 335 = .ok (.iconst 1, 1) := by decide +kernel
theorem dM_goOn_336 : decode bM_goOn 336 = .ok (.iadd, 1) := by decide +kernel
theorem dM_goOn_337 : decode bM_goOn 337 = .ok (.iaload, 1) := by decide +kernel
theorem dM_goOn_338 : decode bM_goOn 338 = .ok (.iload 7, 2) := by decide +kernel
theorem dM_goOn_340 : decode bM_goOn 340 = .ok (.invokevirtual 178, 3) := by decide +kernel
theorem dM_goOn_343 : decode bM_goOn 343 = .ok (.goto 98, 3) := by decide +kernel
theorem dM_goOn_346 : decode bM_goOn 346 = .ok (.iload 6, 2) := by decide +kernel
theorem dM_goOn_348 : decode bM_goOn 348 = .ok (.bipush 37, 2) := by decide +kernel
theorem dM_goOn_350 : decode bM_goOn 350 = .ok (.if_icmp .ne 44, 3) := by decide +kernel
theorem dM_goOn_353 : decode bM_goOn 353 = .ok (.aload_n 0, 1) := by decide +kernel
theorem dM_goOn_354 : decode bM_goOn 354 = .ok (.getfield 44, 3) := by decide +kernel
theorem dM_goOn_357 : decode bM_goOn 357 = .ok (.iload 4, 2) := by decide +kernel
theorem dM_goOn_359 : decode bM_goOn 359 = .ok (.aload_n 0, 1) := by decide +kernel
theorem dM_goOn_360 : decode bM_goOn 360 = .ok (.getfield 169, 3) := by decide +kernel
theorem dM_goOn_363 : decode bM_goOn 363 = .ok (.iastore, 1) := by decide +kernel
theorem dM_goOn_364 : decode bM_goOn 364 = .ok (.aload_n 0, 1) := by decide +kernel
theorem dM_goOn_365 : decode bM_goOn 365 = .ok (.getfield 47, 3) := by decide +kernel
theorem dM_goOn_368 : decode bM_goOn 368 = .ok (.iload 4, 2) := by decide +kernel
theorem dM_goOn_370 : decode bM_goOn 370 = .ok (.aload_n 0, 1) := by decide +kernel
theorem dM_goOn_371 : decode bM_goOn 371 = .ok (.getfield 172, 3) := by decide +kernel
theorem dM_goOn_374 : decode bM_goOn 374 = .ok (.iastore, 1) := by decide +kernel
theorem dM_goOn_375 : decode bM_goOn 375 = .ok (.aload_n 0, 1) := by decide +kernel
theorem dM_goOn_376 : decode bM_goOn 376 = .ok (.aload_n 0, 1) := by decide +kernel
theorem dM_goOn_377 : decode bM_goOn 377 = .ok (.getfield 34, 3) := by decide +kernel
theorem dM_goOn_380 : decode bM_goOn 380 = .ok (.iconst 4, 1) := by decide +kernel
theorem dM_goOn_381 : decode bM_goOn 381 = .ok (.iload_n 2, 1) := by decide +kernel
theorem dM_goOn_382 : decode bM_goOn 382 = .ok (.imul, 1) := by decide +kernel
theorem dM_goOn_383 : decode bM_goOn 383 = .ok (.iconst 1, 1) := by decide +kernel
theorem dM_goOn_384 : decode bM_goOn 384 = .ok (.iadd, 1) := by decide +kernel
theorem dM_goOn_385 : decode bM_goOn 385 = .ok (.iaload, 1) := by decide +kernel
theorem dM_goOn_386 : decode bM_goOn 386 = .ok (.iload 4, 2) := by decide +kernel
theorem dM_goOn_388 : decode bM_goOn 388 = .ok (.invokevirtual 178, 3) := by decide +kernel
theorem dM_goOn_391 : decode bM_goOn 391 = .ok (.goto 50, 3) := by decide +kernel
theorem dM_goOn_394 : decode bM_goOn 394 = .ok (.iload_n 3, 1) := by decide +kernel
theorem dM_goOn_395 : decode bM_goOn 395 = .ok (.ifCond .ne 25, 3) := by decide +kernel
theorem dM_goOn_398 : decode bM_goOn 398 = .ok (.aload_n 0, 1) := by decide +kernel
theorem dM_goOn_399 : decode bM_goOn 399 = .ok (.iload_n 2, 1) := by decide +kernel
theorem dM_goOn_400 : decode bM_goOn 400 = .ok (.iconst 1, 1) := by decide +kernel
theorem dM_goOn_401 : decode bM_goOn 401 = .ok (.iload 4, 2) := by decide +kernel
theorem dM_goOn_403 : decode bM_goOn 403 = .ok (.iload 5, 2) := by decide +kernel
theorem dM_goOn_405 : decode bM_goOn 405 = .ok (.iload_n 1, 1) := by decide +kernel
theorem dM_goOn_406 : decode bM_goOn 406 = .ok (.aload_n 0, 1) := by decide +kernel
theorem dM_goOn_407 : decode bM_goOn 407 = .ok (.getfield 169, 3) := by decide +kernel
theorem dM_goOn_410 : decode bM_goOn 410 = .ok (.aload_n 0, 1) := by decide +kernel
theorem dM_goOn_411 : decode bM_goOn 411 = .ok (.getfield 172, 3) := by decide +kernel
theorem dM_goOn_414 : decode bM_goOn 414 = .ok (.invokevirtual 193, 3) := by decide +kernel
theorem dM_goOn_417 : decode bM_goOn 417 = .ok (.goto 24, 3) := by decide +kernel
theorem dM_goOn_420 : decode bM_goOn 420 = .ok (.aload_n 0, 1) := by decide +kernel
theorem dM_goOn_421 : decode bM_goOn 421 = .ok (.iload 6, 2) := by decide +kernel
theorem dM_goOn_423 : decode bM_goOn 423 = .ok (.aload_n 0, 1) := by decide +kernel
theorem dM_goOn_424 : decode bM_goOn 424 = .ok (.getfield 68, 3) := by decide +kernel
theorem dM_goOn_427 : decode bM_goOn 427 = .ok (.iload_n 1, 1) := by decide +kernel
theorem dM_goOn_428 : decode bM_goOn 428 = .ok (.iaload, 1) := by decide +kernel
theorem dM_goOn_429 : decode bM_goOn 429 = .ok (.bipush 13, 2) := by decide +kernel
theorem dM_goOn_431 : decode bM_goOn 431 = .ok (.ishr, 1) := by decide +kernel
theorem dM_goOn_432 : decode bM_goOn 432 = .ok (.aload_n 0, 1) := by decide +kernel
theorem dM_goOn_433 : decode bM_goOn 433 = .ok (.getfield 65, 3) := by decide +kernel
theorem dM_goOn_436 : decode bM_goOn 436 = .ok (.iload_n 1, 1) := by decide +kernel
theorem dM_goOn_437 : decode bM_goOn 437 = .ok (.iaload, 1) := by decide +kernel
theorem dM_goOn_438 : decode bM_goOn 438 = .ok (.invokevirtual 211, 3) := by decide +kernel
theorem kM_m211 : Cond.methodLink RM 211 yM_binary ∈ lw_g := lw_in (List.mem_append_right _ (List.mem_of_getElem? (i := 1314) (by decide +kernel))) rfl
theorem dM_goOn_441 : decode bM_goOn 441 = .ok (.return_, 1) := by decide +kernel
theorem kM_i_goOn : Cond.instanceMethod yM_goOn ∈ lw_g := lw_in (List.mem_append_right _ (List.mem_of_getElem? (i := 1296) (by decide +kernel))) rfl
theorem kM_s_goOn : Cond.selects RM yM_goOn yM_goOn ∈ lw_g := lw_in (List.mem_append_left _ (List.mem_map.mpr ⟨(yM_goOn, 40), by decide +kernel, rfl⟩)) rfl
-- one: maxLocals 1, ret none
theorem kM_c_one : Cond.code yM_one bM_one 1 none ∈ lw_g := lw_in (List.mem_append_right _ (List.mem_of_getElem? (i := 1261) (by decide +kernel))) rfl
theorem dM_one_0 : decode bM_one 0 = .ok (.aload_n 0, 1) := by decide +kernel
theorem dM_one_1 : decode bM_one 1 = .ok (.dup, 1) := by decide +kernel
theorem dM_one_2 : decode bM_one 2 = .ok (.getfield 143, 3) := by decide +kernel
theorem dM_one_5 : decode bM_one 5 = .ok (.iconst 1, 1) := by decide +kernel
theorem dM_one_6 : decode bM_one 6 = .ok (.iadd, 1) := by decide +kernel
theorem dM_one_7 : decode bM_one 7 = .ok (.putfield 143, 3) := by decide +kernel
theorem dM_one_10 : decode bM_one 10 = .ok (.aload_n 0, 1) := by decide +kernel
theorem dM_one_11 : decode bM_one 11 = .ok (.invokevirtual 215, 3) := by decide +kernel
theorem kM_m215 : Cond.methodLink RM 215 yM_beginOne ∈ lw_g := lw_in (List.mem_append_right _ (List.mem_of_getElem? (i := 1262) (by decide +kernel))) rfl
theorem dM_one_14 : decode bM_one 14 = .ok (.aload_n 0, 1) := by decide +kernel
theorem dM_one_15 : decode bM_one 15 = .ok (.getfield 115, 3) := by decide +kernel
theorem dM_one_18 : decode bM_one 18 = .ok (.iconst 1, 1) := by decide +kernel
theorem dM_one_19 : decode bM_one 19 = .ok (.if_icmp .ne 32, 3) := by decide +kernel
theorem dM_one_22 : decode bM_one 22 = .ok (.aload_n 0, 1) := by decide +kernel
theorem dM_one_23 : decode bM_one 23 = .ok (.getfield 149, 3) := by decide +kernel
theorem dM_one_26 : decode bM_one 26 = .ok (.ifCond .ne 25, 3) := by decide +kernel
theorem dM_one_29 : decode bM_one 29 = .ok (.aload_n 0, 1) := by decide +kernel
theorem dM_one_30 : decode bM_one 30 = .ok (.getfield 163, 3) := by decide +kernel
theorem dM_one_33 : decode bM_one 33 = .ok (.ifCond .ne 11, 3) := by decide +kernel
theorem dM_one_36 : decode bM_one 36 = .ok (.aload_n 0, 1) := by decide +kernel
theorem dM_one_37 : decode bM_one 37 = .ok (.iconst 2, 1) := by decide +kernel
theorem dM_one_38 : decode bM_one 38 = .ok (.putfield 115, 3) := by decide +kernel
theorem dM_one_41 : decode bM_one 41 = .ok (.goto (-27), 3) := by decide +kernel
theorem dM_one_44 : decode bM_one 44 = .ok (.aload_n 0, 1) := by decide +kernel
theorem dM_one_45 : decode bM_one 45 = .ok (.invokevirtual 218, 3) := by decide +kernel
theorem kM_m218 : Cond.methodLink RM 218 yM_goOn ∈ lw_g := lw_in (List.mem_append_right _ (List.mem_of_getElem? (i := 1294) (by decide +kernel))) rfl
theorem dM_one_48 : decode bM_one 48 = .ok (.goto (-34), 3) := by decide +kernel
theorem dM_one_51 : decode bM_one 51 = .ok (.return_, 1) := by decide +kernel
theorem kM_i_one : Cond.instanceMethod yM_one ∈ lw_g := lw_in (List.mem_append_right _ (List.mem_of_getElem? (i := 1260) (by decide +kernel))) rfl
theorem kM_s_one : Cond.selects RM yM_one yM_one ∈ lw_g := lw_in (List.mem_append_left _ (List.mem_map.mpr ⟨(yM_one, 40), by decide +kernel, rfl⟩)) rfl
-- run: maxLocals 4, ret (some .int)
theorem kM_c_run : Cond.code yM_run bM_run 4 (some .int) ∈ lw_g := lw_in (List.mem_append_right _ (List.mem_of_getElem? (i := 1253) (by decide +kernel))) rfl
theorem dM_run_0 : decode bM_run 0 = .ok (.aload_n 0, 1) := by decide +kernel
theorem dM_run_1 : decode bM_run 1 = .ok (.iconst 0, 1) := by decide +kernel
theorem dM_run_2 : decode bM_run 2 = .ok (.putfield 77, 3) := by decide +kernel
theorem dM_run_5 : decode bM_run 5 = .ok (.iload_n 1, 1) := by decide +kernel
theorem dM_run_6 : decode bM_run 6 = .ok (.iconst 1, 1) := by decide +kernel
theorem dM_run_7 : decode bM_run 7 = .ok (.if_icmp .lt 9, 3) := by decide +kernel
theorem dM_run_10 : decode bM_run 10 = .ok (.iload_n 1, 1) := by decide +kernel
theorem dM_run_11 : decode bM_run 11 = .ok (.bipush 10, 2) := by decide +kernel
theorem dM_run_13 : decode bM_run 13 = .ok (.if_icmp .le 9, 3) := by decide +kernel
theorem dM_run_16 : decode bM_run 16 = .ok (.aload_n 0, 1) := by decide +kernel
theorem dM_run_17 : decode bM_run 17 = .ok (.iconst 2, 1) := by decide +kernel
theorem dM_run_18 : decode bM_run 18 = .ok (.invokevirtual 118, 3) := by decide +kernel
theorem dM_run_21 : decode bM_run 21 = .ok (.ireturn, 1) := by decide +kernel
theorem dM_run_22 : decode bM_run 22 = .ok (.aload_n 0, 1) := by decide +kernel
theorem dM_run_23 : decode bM_run 23 = .ok (.getfield 115, 3) := by decide +kernel
theorem dM_run_26 : decode bM_run 26 = .ok (.iconst 1, 1) := by decide +kernel
theorem dM_run_27 : decode bM_run 27 = .ok (.if_icmp .eq 9, 3) := by decide +kernel
theorem dM_run_30 : decode bM_run 30 = .ok (.aload_n 0, 1) := by decide +kernel
theorem dM_run_31 : decode bM_run 31 = .ok (.iconst 1, 1) := by decide +kernel
theorem dM_run_32 : decode bM_run 32 = .ok (.invokevirtual 118, 3) := by decide +kernel
theorem dM_run_35 : decode bM_run 35 = .ok (.ireturn, 1) := by decide +kernel
theorem dM_run_36 : decode bM_run 36 = .ok (.aload_n 0, 1) := by decide +kernel
theorem dM_run_37 : decode bM_run 37 = .ok (.aload_n 0, 1) := by decide +kernel
theorem dM_run_38 : decode bM_run 38 = .ok (.getfield 121, 3) := by decide +kernel
theorem dM_run_41 : decode bM_run 41 = .ok (.invokevirtual 124, 3) := by decide +kernel
theorem dM_run_44 : decode bM_run 44 = .ok (.istore_n 2, 1) := by decide +kernel
theorem dM_run_45 : decode bM_run 45 = .ok (.aload_n 0, 1) := by decide +kernel
theorem dM_run_46 : decode bM_run 46 = .ok (.invokevirtual 221, 3) := by decide +kernel
theorem kM_m221 : Cond.methodLink RM 221 yM_countParts ∈ lw_g := lw_in (List.mem_append_right _ (List.mem_of_getElem? (i := 1254) (by decide +kernel))) rfl
theorem dM_run_49 : decode bM_run 49 = .ok (.iconst 0, 1) := by decide +kernel
theorem dM_run_50 : decode bM_run 50 = .ok (.istore_n 3, 1) := by decide +kernel
theorem dM_run_51 : decode bM_run 51 = .ok (.iload_n 3, 1) := by decide +kernel
theorem dM_run_52 : decode bM_run 52 = .ok (.iload_n 1, 1) := by decide +kernel
theorem dM_run_53 : decode bM_run 53 = .ok (.if_icmp .ge 21, 3) := by decide +kernel
theorem dM_run_56 : decode bM_run 56 = .ok (.aload_n 0, 1) := by decide +kernel
theorem dM_run_57 : decode bM_run 57 = .ok (.getfield 115, 3) := by decide +kernel
theorem dM_run_60 : decode bM_run 60 = .ok (.iconst 1, 1) := by decide +kernel
theorem dM_run_61 : decode bM_run 61 = .ok (.if_icmp .ne 13, 3) := by decide +kernel
theorem dM_run_64 : decode bM_run 64 = .ok (.aload_n 0, 1) := by decide +kernel
theorem dM_run_65 : decode bM_run 65 = .ok (.invokevirtual 224, 3) := by decide +kernel
theorem kM_m224 : Cond.methodLink RM 224 yM_one ∈ lw_g := lw_in (List.mem_append_right _ (List.mem_of_getElem? (i := 1258) (by decide +kernel))) rfl
theorem dM_run_68 : decode bM_run 68 = .ok (.iinc 3 1, 3) := by decide +kernel
theorem dM_run_71 : decode bM_run 71 = .ok (.goto (-20), 3) := by decide +kernel
theorem dM_run_74 : decode bM_run 74 = .ok (.aload_n 0, 1) := by decide +kernel
theorem dM_run_75 : decode bM_run 75 = .ok (.getfield 115, 3) := by decide +kernel
theorem dM_run_78 : decode bM_run 78 = .ok (.iconst 3, 1) := by decide +kernel
theorem dM_run_79 : decode bM_run 79 = .ok (.if_icmp .eq 5, 3) := by decide +kernel
theorem dM_run_82 : decode bM_run 82 = .ok (.iload_n 3, 1) := by decide +kernel
theorem dM_run_83 : decode bM_run 83 = .ok (.ireturn, 1) := by decide +kernel
theorem dM_run_84 : decode bM_run 84 = .ok (.aload_n 0, 1) := by decide +kernel
theorem dM_run_85 : decode bM_run 85 = .ok (.aload_n 0, 1) := by decide +kernel
theorem dM_run_86 : decode bM_run 86 = .ok (.getfield 146, 3) := by decide +kernel
theorem dM_run_89 : decode bM_run 89 = .ok (.iconst 1, 1) := by decide +kernel
theorem dM_run_90 : decode bM_run 90 = .ok (.if_icmp .ne 7, 3) := by decide +kernel
theorem dM_run_93 : decode bM_run 93 = .ok (.iconst 1, 1) := by decide +kernel
theorem dM_run_94 : decode bM_run 94 = .ok (.goto 28, 3) := by decide +kernel
theorem dM_run_97 : decode bM_run 97 = .ok (.aload_n 0, 1) := by decide +kernel
theorem dM_run_98 : decode bM_run 98 = .ok (.getfield 146, 3) := by decide +kernel
theorem dM_run_101 : decode bM_run 101 = .ok (.iconst 2, 1) := by decide +kernel
theorem dM_run_102 : decode bM_run 102 = .ok (.if_icmp .ne 7, 3) := by decide +kernel
theorem dM_run_105 : decode bM_run 105 = .ok (.iconst 4, 1) := by decide +kernel
theorem dM_run_106 : decode bM_run 106 = .ok (.goto 16, 3) := by decide +kernel
theorem dM_run_109 : decode bM_run 109 = .ok (.aload_n 0, 1) := by decide +kernel
theorem dM_run_110 : decode bM_run 110 = .ok (.getfield 146, 3) := by decide +kernel
theorem dM_run_113 : decode bM_run 113 = .ok (.iconst 3, 1) := by decide +kernel
theorem dM_run_114 : decode bM_run 114 = .ok (.if_icmp .ne 7, 3) := by decide +kernel
theorem dM_run_117 : decode bM_run 117 = .ok (.iconst 3, 1) := by decide +kernel
theorem dM_run_118 : decode bM_run 118 = .ok (.goto 4, 3) := by decide +kernel
theorem dM_run_121 : decode bM_run 121 = .ok (.iconst 2, 1) := by decide +kernel
theorem dM_run_122 : decode bM_run 122 = .ok (.invokevirtual 118, 3) := by decide +kernel
theorem dM_run_125 : decode bM_run 125 = .ok (.ireturn, 1) := by decide +kernel
theorem kM_i_run : Cond.instanceMethod yM_run ∈ lw_g := lw_in (List.mem_append_right _ (List.mem_of_getElem? (i := 1251) (by decide +kernel))) rfl
theorem kM_s_run : Cond.selects RM yM_run yM_run ∈ lw_g := lw_in (List.mem_append_right _ (List.mem_of_getElem? (i := 1252) (by decide +kernel))) rfl
-- countParts: maxLocals 6, ret none
theorem kM_c_countParts : Cond.code yM_countParts bM_countParts 6 none ∈ lw_g := lw_in (List.mem_append_right _ (List.mem_of_getElem? (i := 1257) (by decide +kernel))) rfl
theorem dM_countParts_0 : decode bM_countParts 0 = .ok (.aload_n 0, 1) := by decide +kernel
theorem dM_countParts_1 : decode bM_countParts 1 = .ok (.iconst 0, 1) := by decide +kernel
theorem dM_countParts_2 : decode bM_countParts 2 = .ok (.putfield 84, 3) := by decide +kernel
theorem dM_countParts_5 : decode bM_countParts 5 = .ok (.aload_n 0, 1) := by decide +kernel
theorem dM_countParts_6 : decode bM_countParts 6 = .ok (.iconst 0, 1) := by decide +kernel
theorem dM_countParts_7 : decode bM_countParts 7 = .ok (.putfield 87, 3) := by decide +kernel
theorem dM_countParts_10 : decode bM_countParts 10 = .ok (.aload_n 0, 1) := by decide +kernel
theorem dM_countParts_11 : decode bM_countParts 11 = .ok (.iconst 0, 1) := by decide +kernel
theorem dM_countParts_12 : decode bM_countParts 12 = .ok (.putfield 81, 3) := by decide +kernel
theorem dM_countParts_15 : decode bM_countParts 15 = .ok (.iconst 0, 1) := by decide +kernel
theorem dM_countParts_16 : decode bM_countParts 16 = .ok (.istore_n 1, 1) := by decide +kernel
theorem dM_countParts_17 : decode bM_countParts 17 = .ok (.iload_n 1, 1) := by decide +kernel
theorem dM_countParts_18 : decode bM_countParts 18 = .ok (.aload_n 0, 1) := by decide +kernel
theorem dM_countParts_19 : decode bM_countParts 19 = .ok (.getfield 121, 3) := by decide +kernel
theorem dM_countParts_22 : decode bM_countParts 22 = .ok (.if_icmp .ge 88, 3) := by decide +kernel
theorem dM_countParts_25 : decode bM_countParts 25 = .ok (.aload_n 0, 1) := by decide +kernel
theorem dM_countParts_26 : decode bM_countParts 26 = .ok (.getfield 84, 3) := by decide +kernel
theorem dM_countParts_29 : decode bM_countParts 29 = .ok (.istore_n 2, 1) := by decide +kernel
theorem dM_countParts_30 : decode bM_countParts 30 = .ok (.iload_n 2, 1) := by decide +kernel
theorem dM_countParts_31 : decode bM_countParts 31 = .ok (.ifCond .le 14, 3) := by decide +kernel
theorem dM_countParts_34 : decode bM_countParts 34 = .ok (.aload_n 0, 1) := by decide +kernel
theorem dM_countParts_35 : decode bM_countParts 35 = .ok (.getfield 13, 3) := by decide +kernel
theorem dM_countParts_38 : decode bM_countParts 38 = .ok (.iload_n 2, 1) := by decide +kernel
theorem dM_countParts_39 : decode bM_countParts 39 = .ok (.iconst 1, 1) := by decide +kernel
theorem dM_countParts_40 : decode bM_countParts 40 = .ok (.isub, 1) := by decide +kernel
theorem dM_countParts_41 : decode bM_countParts 41 = .ok (.iaload, 1) := by decide +kernel
theorem dM_countParts_42 : decode bM_countParts 42 = .ok (.goto 4, 3) := by decide +kernel
theorem dM_countParts_45 : decode bM_countParts 45 = .ok (.iconst 0, 1) := by decide +kernel
theorem dM_countParts_46 : decode bM_countParts 46 = .ok (.istore_n 3, 1) := by decide +kernel
theorem dM_countParts_47 : decode bM_countParts 47 = .ok (.iload_n 2, 1) := by decide +kernel
theorem dM_countParts_48 : decode bM_countParts 48 = .ok (.ifCond .le 14, 3) := by decide +kernel
theorem dM_countParts_51 : decode bM_countParts 51 = .ok (.aload_n 0, 1) := by decide +kernel
theorem dM_countParts_52 : decode bM_countParts 52 = .ok (.getfield 16, 3) := by decide +kernel
theorem dM_countParts_55 : decode bM_countParts 55 = .ok (.iload_n 2, 1) := by decide +kernel
theorem dM_countParts_56 : decode bM_countParts 56 = .ok (.iconst 1, 1) := by decide +kernel
theorem dM_countParts_57 : decode bM_countParts 57 = .ok (.isub, 1) := by decide +kernel
theorem dM_countParts_58 : decode bM_countParts 58 = .ok (.iaload, 1) := by decide +kernel
theorem dM_countParts_59 : decode bM_countParts 59 = .ok (.goto 4, 3) := by decide +kernel
theorem dM_countParts_62 : decode bM_countParts 62 = .ok (.iconst 0, 1) := by decide +kernel
theorem dM_countParts_63 : decode bM_countParts 63 = .ok (.istore 4, 2) := by decide +kernel
theorem dM_countParts_65 : decode bM_countParts 65 = .ok (.aload_n 0, 1) := by decide +kernel
theorem dM_countParts_66 : decode bM_countParts 66 = .ok (.aload_n 0, 1) := by decide +kernel
theorem dM_countParts_67 : decode bM_countParts 67 = .ok (.getfield 7, 3) := by decide +kernel
theorem dM_countParts_70 : decode bM_countParts 70 = .ok (.iload_n 1, 1) := by decide +kernel
theorem dM_countParts_71 : decode bM_countParts 71 = .ok (.iaload, 1) := by decide +kernel
theorem dM_countParts_72 : decode bM_countParts 72 = .ok (.invokevirtual 112, 3) := by decide +kernel
theorem dM_countParts_75 : decode bM_countParts 75 = .ok (.istore 5, 2) := by decide +kernel
theorem dM_countParts_77 : decode bM_countParts 77 = .ok (.aload_n 0, 1) := by decide +kernel
theorem dM_countParts_78 : decode bM_countParts 78 = .ok (.getfield 84, 3) := by decide +kernel
theorem dM_countParts_81 : decode bM_countParts 81 = .ok (.iload_n 2, 1) := by decide +kernel
theorem dM_countParts_82 : decode bM_countParts 82 = .ok (.if_icmp .ge 22, 3) := by decide +kernel
theorem dM_countParts_85 : decode bM_countParts 85 = .ok (.aload_n 0, 1) := by decide +kernel
theorem dM_countParts_86 : decode bM_countParts 86 = .ok (.getfield 25, 3) := by decide +kernel
theorem dM_countParts_89 : decode bM_countParts 89 = .ok (.iload_n 3, 1) := by decide +kernel
theorem dM_countParts_90 : decode bM_countParts 90 = .ok (.iaload, 1) := by decide +kernel
theorem dM_countParts_91 : decode bM_countParts 91 = .ok (.bipush 40, 2) := by decide +kernel
theorem dM_countParts_93 : decode bM_countParts 93 = .ok (.if_icmp .ne 11, 3) := by decide +kernel
theorem dM_countParts_96 : decode bM_countParts 96 = .ok (.aload_n 0, 1) := by decide +kernel
theorem dM_countParts_97 : decode bM_countParts 97 = .ok (.getfield 28, 3) := by decide +kernel
theorem dM_countParts_100 : decode bM_countParts 100 = .ok (.iload_n 3, 1) := by decide +kernel
theorem dM_countParts_101 : decode bM_countParts 101 = .ok (.iload 4, 2) := by decide +kernel
theorem dM_countParts_103 : decode bM_countParts 103 = .ok (.iastore, 1) := by decide +kernel
theorem dM_countParts_104 : decode bM_countParts 104 = .ok (.iinc 1 1, 3) := by decide +kernel
theorem dM_countParts_107 : decode bM_countParts 107 = .ok (.goto (-90), 3) := by decide +kernel
theorem dM_countParts_110 : decode bM_countParts 110 = .ok (.return_, 1) := by decide +kernel
theorem kM_i_countParts : Cond.instanceMethod yM_countParts ∈ lw_g := lw_in (List.mem_append_right _ (List.mem_of_getElem? (i := 1256) (by decide +kernel))) rfl
theorem kM_s_countParts : Cond.selects RM yM_countParts yM_countParts ∈ lw_g := lw_in (List.mem_append_left _ (List.mem_map.mpr ⟨(yM_countParts, 40), by decide +kernel, rfl⟩)) rfl
-- stop: maxLocals 1, ret (some .int)
theorem kM_c_stop : Cond.code yM_stop bM_stop 1 (some .int) ∈ lw_g := lw_in (List.mem_append_right _ (List.mem_of_getElem? (i := 1321) (by decide +kernel))) rfl
theorem dM_stop_0 : decode bM_stop 0 = .ok (.aload_n 0, 1) := by decide +kernel
theorem dM_stop_1 : decode bM_stop 1 = .ok (.iconst 0, 1) := by decide +kernel
theorem dM_stop_2 : decode bM_stop 2 = .ok (.putfield 77, 3) := by decide +kernel
theorem dM_stop_5 : decode bM_stop 5 = .ok (.aload_n 0, 1) := by decide +kernel
theorem dM_stop_6 : decode bM_stop 6 = .ok (.getfield 115, 3) := by decide +kernel
theorem dM_stop_9 : decode bM_stop 9 = .ok (.iconst 1, 1) := by decide +kernel
theorem dM_stop_10 : decode bM_stop 10 = .ok (.if_icmp .eq 9, 3) := by decide +kernel
theorem dM_stop_13 : decode bM_stop 13 = .ok (.aload_n 0, 1) := by decide +kernel
theorem dM_stop_14 : decode bM_stop 14 = .ok (.iconst 1, 1) := by decide +kernel
theorem dM_stop_15 : decode bM_stop 15 = .ok (.invokevirtual 118, 3) := by decide +kernel
theorem dM_stop_18 : decode bM_stop 18 = .ok (.ireturn, 1) := by decide +kernel
theorem dM_stop_19 : decode bM_stop 19 = .ok (.aload_n 0, 1) := by decide +kernel
theorem dM_stop_20 : decode bM_stop 20 = .ok (.iconst 0, 1) := by decide +kernel
theorem dM_stop_21 : decode bM_stop 21 = .ok (.putfield 115, 3) := by decide +kernel
theorem dM_stop_24 : decode bM_stop 24 = .ok (.aload_n 0, 1) := by decide +kernel
theorem dM_stop_25 : decode bM_stop 25 = .ok (.getfield 143, 3) := by decide +kernel
theorem dM_stop_28 : decode bM_stop 28 = .ok (.ireturn, 1) := by decide +kernel
theorem kM_i_stop : Cond.instanceMethod yM_stop ∈ lw_g := lw_in (List.mem_append_right _ (List.mem_of_getElem? (i := 1319) (by decide +kernel))) rfl
theorem kM_s_stop : Cond.selects RM yM_stop yM_stop ∈ lw_g := lw_in (List.mem_append_right _ (List.mem_of_getElem? (i := 1320) (by decide +kernel))) rfl
-- state: maxLocals 2, ret (some .int)
theorem kM_c_state : Cond.code yM_state bM_state 2 (some .int) ∈ lw_g := lw_in (List.mem_append_right _ (List.mem_of_getElem? (i := 1325) (by decide +kernel))) rfl
theorem dM_state_0 : decode bM_state 0 = .ok (.aload_n 0, 1) := by decide +kernel
theorem dM_state_1 : decode bM_state 1 = .ok (.iconst 0, 1) := by decide +kernel
theorem dM_state_2 : decode bM_state 2 = .ok (.putfield 77, 3) := by decide +kernel
theorem dM_state_5 : decode bM_state 5 = .ok (.iload_n 1, 1) := by decide +kernel
theorem dM_state_6 : decode bM_state 6 = .ok (.tableswitch 96 0 5 #[38, 43, 48, 53, 58, 79], 38) := by decide +kernel
theorem dM_state_44 : decode bM_state 44 = .ok (.aload_n 0, 1) := by decide +kernel
theorem dM_state_45 : decode bM_state 45 = .ok (.getfield 115, 3) := by decide +kernel
theorem dM_state_48 : decode bM_state 48 = .ok (.ireturn, 1) := by decide +kernel
theorem dM_state_49 : decode bM_state 49 = .ok (.aload_n 0, 1) := by decide +kernel
theorem dM_state_50 : decode bM_state 50 = .ok (.getfield 143, 3) := by decide +kernel
theorem dM_state_53 : decode bM_state 53 = .ok (.ireturn, 1) := by decide +kernel
theorem dM_state_54 : decode bM_state 54 = .ok (.aload_n 0, 1) := by decide +kernel
theorem dM_state_55 : decode bM_state 55 = .ok (.getfield 134, 3) := by decide +kernel
theorem dM_state_58 : decode bM_state 58 = .ok (.ireturn, 1) := by decide +kernel
theorem dM_state_59 : decode bM_state 59 = .ok (.aload_n 0, 1) := by decide +kernel
theorem dM_state_60 : decode bM_state 60 = .ok (.getfield 131, 3) := by decide +kernel
theorem dM_state_63 : decode bM_state 63 = .ok (.ireturn, 1) := by decide +kernel
theorem dM_state_64 : decode bM_state 64 = .ok (.aload_n 0, 1) := by decide +kernel
theorem dM_state_65 : decode bM_state 65 = .ok (.getfield 115, 3) := by decide +kernel
theorem dM_state_68 : decode bM_state 68 = .ok (.iconst 1, 1) := by decide +kernel
theorem dM_state_69 : decode bM_state 69 = .ok (.if_icmp .ne 14, 3) := by decide +kernel
theorem dM_state_72 : decode bM_state 72 = .ok (.aload_n 0, 1) := by decide +kernel
theorem dM_state_73 : decode bM_state 73 = .ok (.aload_n 0, 1) := by decide +kernel
theorem dM_state_74 : decode bM_state 74 = .ok (.getfield 163, 3) := by decide +kernel
theorem dM_state_77 : decode bM_state 77 = .ok (.invokevirtual 175, 3) := by decide +kernel
theorem dM_state_80 : decode bM_state 80 = .ok (.goto 4, 3) := by decide +kernel
theorem dM_state_83 : decode bM_state 83 = .ok (.iconst 0, 1) := by decide +kernel
theorem dM_state_84 : decode bM_state 84 = .ok (.ireturn, 1) := by decide +kernel
theorem dM_state_85 : decode bM_state 85 = .ok (.aload_n 0, 1) := by decide +kernel
theorem dM_state_86 : decode bM_state 86 = .ok (.getfield 115, 3) := by decide +kernel
theorem dM_state_89 : decode bM_state 89 = .ok (.iconst 3, 1) := by decide +kernel
theorem dM_state_90 : decode bM_state 90 = .ok (.if_icmp .ne 10, 3) := by decide +kernel
theorem dM_state_93 : decode bM_state 93 = .ok (.aload_n 0, 1) := by decide +kernel
theorem dM_state_94 : decode bM_state 94 = .ok (.getfield 146, 3) := by decide +kernel
theorem dM_state_97 : decode bM_state 97 = .ok (.goto 4, 3) := by decide +kernel
theorem dM_state_100 : decode bM_state 100 = .ok (.iconst 0, 1) := by decide +kernel
theorem dM_state_101 : decode bM_state 101 = .ok (.ireturn, 1) := by decide +kernel
theorem dM_state_102 : decode bM_state 102 = .ok (.aload_n 0, 1) := by decide +kernel
theorem dM_state_103 : decode bM_state 103 = .ok (.iconst 1, 1) := by decide +kernel
theorem dM_state_104 : decode bM_state 104 = .ok (.invokevirtual 118, 3) := by decide +kernel
theorem dM_state_107 : decode bM_state 107 = .ok (.ireturn, 1) := by decide +kernel
theorem kM_i_state : Cond.instanceMethod yM_state ∈ lw_g := lw_in (List.mem_append_right _ (List.mem_of_getElem? (i := 1323) (by decide +kernel))) rfl
theorem kM_s_state : Cond.selects RM yM_state yM_state ∈ lw_g := lw_in (List.mem_append_right _ (List.mem_of_getElem? (i := 1324) (by decide +kernel))) rfl
-- digit: maxLocals 10, ret (some .int)
theorem kM_c_digit : Cond.code yM_digit bM_digit 10 (some .int) ∈ lw_g := lw_in (List.mem_append_right _ (List.mem_of_getElem? (i := 1337) (by decide +kernel))) rfl
theorem dM_digit_0 : decode bM_digit 0 = .ok (.iload_n 1, 1) := by decide +kernel
theorem dM_digit_1 : decode bM_digit 1 = .ok (.ifCond .ge 9, 3) := by decide +kernel
theorem dM_digit_4 : decode bM_digit 4 = .ok (.iload_n 1, 1) := by decide +kernel
theorem dM_digit_5 : decode bM_digit 5 = .ok (.i2l, 1) := by decide +kernel
theorem dM_digit_6 : decode bM_digit 6 = .ok (.lneg, 1) := by decide +kernel
theorem dM_digit_7 : decode bM_digit 7 = .ok (.goto 5, 3) := by decide +kernel
theorem dM_digit_10 : decode bM_digit 10 = .ok (.iload_n 1, 1) := by decide +kernel
theorem dM_digit_11 : decode bM_digit 11 = .ok (.i2l, 1) := by decide +kernel
theorem dM_digit_12 : decode bM_digit 12 = .ok (.lstore_n 3, 1) := by decide +kernel
theorem dM_digit_13 : decode bM_digit 13 = .ok (.iconst 1, 1) := by decide +kernel
theorem dM_digit_14 : decode bM_digit 14 = .ok (.istore 5, 2) := by decide +kernel
theorem dM_digit_16 : decode bM_digit 16 = .ok (.ldc2_w 227, 3) := by decide +kernel
theorem dM_digit_19 : decode bM_digit 19 = .ok (.lstore 6, 2) := by decide +kernel
theorem dM_digit_21 : decode bM_digit 21 = .ok (.lload 6, 2) := by decide +kernel
theorem dM_digit_23 : decode bM_digit 23 = .ok (.lload_n 3, 1) := by decide +kernel
theorem dM_digit_24 : decode bM_digit 24 = .ok (.lcmp, 1) := by decide +kernel
theorem dM_digit_25 : decode bM_digit 25 = .ok (.ifCond .gt 24, 3) := by decide +kernel
theorem dM_digit_28 : decode bM_digit 28 = .ok (.iload 5, 2) := by decide +kernel
theorem dM_digit_30 : decode bM_digit 30 = .ok (.bipush 11, 2) := by decide +kernel
theorem dM_digit_32 : decode bM_digit 32 = .ok (.if_icmp .ge 17, 3) := by decide +kernel
theorem dM_digit_35 : decode bM_digit 35 = .ok (.lload 6, 2) := by decide +kernel
theorem dM_digit_37 : decode bM_digit 37 = .ok (.ldc2_w 227, 3) := by decide +kernel
theorem dM_digit_40 : decode bM_digit 40 = .ok (.lmul, 1) := by decide +kernel
theorem dM_digit_41 : decode bM_digit 41 = .ok (.lstore 6, 2) := by decide +kernel
theorem dM_digit_43 : decode bM_digit 43 = .ok (.iinc 5 1, 3) := by decide +kernel
theorem dM_digit_46 : decode bM_digit 46 = .ok (.goto (-25), 3) := by decide +kernel
theorem dM_digit_49 : decode bM_digit 49 = .ok (.iload_n 1, 1) := by decide +kernel
theorem dM_digit_50 : decode bM_digit 50 = .ok (.ifCond .ge 7, 3) := by decide +kernel
theorem dM_digit_53 : decode bM_digit 53 = .ok (.iconst 1, 1) := by decide +kernel
theorem dM_digit_54 : decode bM_digit 54 = .ok (.goto 4, 3) := by decide +kernel
theorem dM_digit_57 : decode bM_digit 57 = .ok (.iconst 0, 1) := by decide +kernel
theorem dM_digit_58 : decode bM_digit 58 = .ok (.istore 8, 2) := by decide +kernel
theorem dM_digit_60 : decode bM_digit 60 = .ok (.aload_n 0, 1) := by decide +kernel
theorem dM_digit_61 : decode bM_digit 61 = .ok (.iload 5, 2) := by decide +kernel
theorem dM_digit_63 : decode bM_digit 63 = .ok (.iload 8, 2) := by decide +kernel
theorem dM_digit_65 : decode bM_digit 65 = .ok (.iadd, 1) := by decide +kernel
theorem dM_digit_66 : decode bM_digit 66 = .ok (.putfield 84, 3) := by decide +kernel
theorem dM_digit_69 : decode bM_digit 69 = .ok (.iload_n 2, 1) := by decide +kernel
theorem dM_digit_70 : decode bM_digit 70 = .ok (.iload 8, 2) := by decide +kernel
theorem dM_digit_72 : decode bM_digit 72 = .ok (.if_icmp .ge 6, 3) := by decide +kernel
theorem dM_digit_75 : decode bM_digit 75 = .ok (.bipush 45, 2) := by decide +kernel
theorem dM_digit_77 : decode bM_digit 77 = .ok (.ireturn, 1) := by decide +kernel
theorem dM_digit_78 : decode bM_digit 78 = .ok (.iload 5, 2) := by decide +kernel
theorem dM_digit_80 : decode bM_digit 80 = .ok (.iconst 1, 1) := by decide +kernel
theorem dM_digit_81 : decode bM_digit 81 = .ok (.isub, 1) := by decide +kernel
theorem dM_digit_82 : decode bM_digit 82 = .ok (.iload 8, 2) := by decide +kernel
theorem dM_digit_84 : decode bM_digit 84 = .ok (.iadd, 1) := by decide +kernel
theorem dM_digit_85 : decode bM_digit 85 = .ok (.istore 9, 2) := by decide +kernel
theorem dM_digit_87 : decode bM_digit 87 = .ok (.iload 9, 2) := by decide +kernel
theorem dM_digit_89 : decode bM_digit 89 = .ok (.iload_n 2, 1) := by decide +kernel
theorem dM_digit_90 : decode bM_digit 90 = .ok (.if_icmp .le 15, 3) := by decide +kernel
theorem dM_digit_93 : decode bM_digit 93 = .ok (.lload_n 3, 1) := by decide +kernel
theorem dM_digit_94 : decode bM_digit 94 = .ok (.ldc2_w 227, 3) := by decide +kernel
theorem dM_digit_97 : decode bM_digit 97 = .ok (.ldiv, 1) := by decide +kernel
theorem dM_digit_98 : decode bM_digit 98 = .ok (.lstore_n 3, 1) := by decide +kernel
theorem dM_digit_99 : decode bM_digit 99 = .ok (.iinc 9 (-1), 3) := by decide +kernel
theorem dM_digit_102 : decode bM_digit 102 = .ok (.goto (-15), 3) := by decide +kernel
theorem dM_digit_105 : decode bM_digit 105 = .ok (.ldc2_w 229, 3) := by decide +kernel
theorem dM_digit_108 : decode bM_digit 108 = .ok (.lload_n 3, 1) := by decide +kernel
theorem dM_digit_109 : decode bM_digit 109 = .ok (.ldc2_w 227, 3) := by decide +kernel
theorem dM_digit_112 : decode bM_digit 112 = .ok (.lrem, 1) := by decide +kernel
theorem dM_digit_113 : decode bM_digit 113 = .ok (.ladd, 1) := by decide +kernel
theorem dM_digit_114 : decode bM_digit 114 = .ok (.l2i, 1) := by decide +kernel
theorem dM_digit_115 : decode bM_digit 115 = .ok (.ireturn, 1) := by decide +kernel
theorem kM_i_digit : Cond.instanceMethod yM_digit ∈ lw_g := lw_in (List.mem_append_right _ (List.mem_of_getElem? (i := 1336) (by decide +kernel))) rfl
theorem kM_s_digit : Cond.selects RM yM_digit yM_digit ∈ lw_g := lw_in (List.mem_append_left _ (List.mem_map.mpr ⟨(yM_digit, 40), by decide +kernel, rfl⟩)) rfl
-- show: maxLocals 4, ret none
theorem kM_c_show : Cond.code yM_show bM_show 4 none ∈ lw_g := lw_in (List.mem_append_right _ (List.mem_of_getElem? (i := 1333) (by decide +kernel))) rfl
theorem dM_show_0 : decode bM_show 0 = .ok (.aload_n 0, 1) := by decide +kernel
theorem dM_show_1 : decode bM_show 1 = .ok (.getfield 71, 3) := by decide +kernel
theorem dM_show_4 : decode bM_show 4 = .ok (.iload_n 1, 1) := by decide +kernel
theorem dM_show_5 : decode bM_show 5 = .ok (.iload_n 2, 1) := by decide +kernel
theorem dM_show_6 : decode bM_show 6 = .ok (.iastore, 1) := by decide +kernel
theorem dM_show_7 : decode bM_show 7 = .ok (.aload_n 0, 1) := by decide +kernel
theorem dM_show_8 : decode bM_show 8 = .ok (.getfield 74, 3) := by decide +kernel
theorem dM_show_11 : decode bM_show 11 = .ok (.iload_n 1, 1) := by decide +kernel
theorem dM_show_12 : decode bM_show 12 = .ok (.iload_n 3, 1) := by decide +kernel
theorem dM_show_13 : decode bM_show 13 = .ok (.iastore, 1) := by decide +kernel
theorem dM_show_14 : decode bM_show 14 = .ok (.return_, 1) := by decide +kernel
theorem kM_i_show : Cond.instanceMethod yM_show ∈ lw_g := lw_in (List.mem_append_right _ (List.mem_of_getElem? (i := 1332) (by decide +kernel))) rfl
theorem kM_s_show : Cond.selects RM yM_show yM_show ∈ lw_g := lw_in (List.mem_append_left _ (List.mem_map.mpr ⟨(yM_show, 40), by decide +kernel, rfl⟩)) rfl
-- sign: maxLocals 8, ret (some .int)
theorem kM_c_sign : Cond.code yM_sign bM_sign 8 (some .int) ∈ lw_g := lw_in (List.mem_append_right _ (List.mem_of_getElem? (i := 1329) (by decide +kernel))) rfl
theorem dM_sign_0 : decode bM_sign 0 = .ok (.aload_n 0, 1) := by decide +kernel
theorem dM_sign_1 : decode bM_sign 1 = .ok (.iconst 0, 1) := by decide +kernel
theorem dM_sign_2 : decode bM_sign 2 = .ok (.putfield 77, 3) := by decide +kernel
theorem dM_sign_5 : decode bM_sign 5 = .ok (.iload_n 1, 1) := by decide +kernel
theorem dM_sign_6 : decode bM_sign 6 = .ok (.ifCond .lt 9, 3) := by decide +kernel
theorem dM_sign_9 : decode bM_sign 9 = .ok (.iload_n 1, 1) := by decide +kernel
theorem dM_sign_10 : decode bM_sign 10 = .ok (.bipush 59, 2) := by decide +kernel
theorem dM_sign_12 : decode bM_sign 12 = .ok (.if_icmp .le 9, 3) := by decide +kernel
theorem dM_sign_15 : decode bM_sign 15 = .ok (.aload_n 0, 1) := by decide +kernel
theorem dM_sign_16 : decode bM_sign 16 = .ok (.iconst 2, 1) := by decide +kernel
theorem dM_sign_17 : decode bM_sign 17 = .ok (.invokevirtual 118, 3) := by decide +kernel
theorem dM_sign_20 : decode bM_sign 20 = .ok (.ireturn, 1) := by decide +kernel
theorem dM_sign_21 : decode bM_sign 21 = .ok (.aload_n 0, 1) := by decide +kernel
theorem dM_sign_22 : decode bM_sign 22 = .ok (.getfield 115, 3) := by decide +kernel
theorem dM_sign_25 : decode bM_sign 25 = .ok (.iconst 2, 1) := by decide +kernel
theorem dM_sign_26 : decode bM_sign 26 = .ok (.if_icmp .eq 9, 3) := by decide +kernel
theorem dM_sign_29 : decode bM_sign 29 = .ok (.aload_n 0, 1) := by decide +kernel
theorem dM_sign_30 : decode bM_sign 30 = .ok (.iconst 1, 1) := by decide +kernel
theorem dM_sign_31 : decode bM_sign 31 = .ok (.invokevirtual 118, 3) := by decide +kernel
theorem dM_sign_34 : decode bM_sign 34 = .ok (.ireturn, 1) := by decide +kernel
theorem dM_sign_35 : decode bM_sign 35 = .ok (.iload_n 1, 1) := by decide +kernel
theorem dM_sign_36 : decode bM_sign 36 = .ok (.istore_n 2, 1) := by decide +kernel
theorem dM_sign_37 : decode bM_sign 37 = .ok (.iconst 1, 1) := by decide +kernel
theorem dM_sign_38 : decode bM_sign 38 = .ok (.istore_n 3, 1) := by decide +kernel
theorem dM_sign_39 : decode bM_sign 39 = .ok (.aload_n 0, 1) := by decide +kernel
theorem dM_sign_40 : decode bM_sign 40 = .ok (.iconst 0, 1) := by decide +kernel
theorem dM_sign_41 : decode bM_sign 41 = .ok (.aload_n 0, 1) := by decide +kernel
theorem dM_sign_42 : decode bM_sign 42 = .ok (.getfield 169, 3) := by decide +kernel
theorem dM_sign_45 : decode bM_sign 45 = .ok (.aload_n 0, 1) := by decide +kernel
theorem dM_sign_46 : decode bM_sign 46 = .ok (.getfield 172, 3) := by decide +kernel
theorem dM_sign_49 : decode bM_sign 49 = .ok (.invokevirtual 231, 3) := by decide +kernel
theorem kM_m231 : Cond.methodLink RM 231 yM_show ∈ lw_g := lw_in (List.mem_append_right _ (List.mem_of_getElem? (i := 1330) (by decide +kernel))) rfl
theorem dM_sign_52 : decode bM_sign 52 = .ok (.iload_n 3, 1) := by decide +kernel
theorem dM_sign_53 : decode bM_sign 53 = .ok (.ifCond .le 191, 3) := by decide +kernel
theorem dM_sign_56 : decode bM_sign 56 = .ok (.iinc 3 (-1), 3) := by decide +kernel
theorem dM_sign_59 : decode bM_sign 59 = .ok (.aload_n 0, 1) := by decide +kernel
theorem dM_sign_60 : decode bM_sign 60 = .ok (.getfield 71, 3) := by decide +kernel
theorem dM_sign_63 : decode bM_sign 63 = .ok (.iload_n 3, 1) := by decide +kernel
theorem dM_sign_64 : decode bM_sign 64 = .ok (.iaload, 1) := by decide +kernel
theorem dM_sign_65 : decode bM_sign 65 = .ok (.istore 4, 2) := by decide +kernel
theorem dM_sign_67 : decode bM_sign 67 = .ok (.aload_n 0, 1) := by decide +kernel
theorem dM_sign_68 : decode bM_sign 68 = .ok (.getfield 74, 3) := by decide +kernel
theorem dM_sign_71 : decode bM_sign 71 = .ok (.iload_n 3, 1) := by decide +kernel
theorem dM_sign_72 : decode bM_sign 72 = .ok (.iaload, 1) := by decide +kernel
theorem dM_sign_73 : decode bM_sign 73 = .ok (.istore 5, 2) := by decide +kernel
theorem dM_sign_75 : decode bM_sign 75 = .ok (.iconst 1, 1) := by decide +kernel
theorem dM_sign_76 : decode bM_sign 76 = .ok (.istore 6, 2) := by decide +kernel
theorem dM_sign_78 : decode bM_sign 78 = .ok (.iload 4, 2) := by decide +kernel
theorem dM_sign_80 : decode bM_sign 80 = .ok (.ifCond .ne 8, 3) := by decide +kernel
theorem dM_sign_83 : decode bM_sign 83 = .ok (.iload 5, 2) := by decide +kernel
theorem dM_sign_85 : decode bM_sign 85 = .ok (.goto 38, 3) := by decide +kernel
theorem dM_sign_88 : decode bM_sign 88 = .ok (.iload 4, 2) := by decide +kernel
theorem dM_sign_90 : decode bM_sign 90 = .ok (.iconst 2, 1) := by decide +kernel
theorem dM_sign_91 : decode bM_sign 91 = .ok (.if_icmp .ne 8, 3) := by decide +kernel
theorem dM_sign_94 : decode bM_sign 94 = .ok (.bipush 95, 2) := by decide +kernel
theorem dM_sign_96 : decode bM_sign 96 = .ok (.goto 27, 3) := by decide +kernel
theorem dM_sign_99 : decode bM_sign 99 = .ok (.iload 4, 2) := by decide +kernel
theorem dM_sign_101 : decode bM_sign 101 = .ok (.iconst 4, 1) := by decide +kernel
theorem dM_sign_102 : decode bM_sign 102 = .ok (.if_icmp .ne 8, 3) := by decide +kernel
theorem dM_sign_105 : decode bM_sign 105 = .ok (.bipush 76, 2) := by decide +kernel
theorem dM_sign_107 : decode bM_sign 107 = .ok (.goto 16, 3) := by decide +kernel
theorem dM_sign_110 : decode bM_sign 110 = .ok (.iload 4, 2) := by decide +kernel
theorem dM_sign_112 : decode bM_sign 112 = .ok (.iconst 5, 1) := by decide +kernel
theorem dM_sign_113 : decode bM_sign 113 = .ok (.if_icmp .ne 8, 3) := by decide +kernel
theorem dM_sign_116 : decode bM_sign 116 = .ok (.bipush 75, 2) := by decide +kernel
theorem dM_sign_118 : decode bM_sign 118 = .ok (.goto 5, 3) := by decide +kernel
theorem dM_sign_121 : decode bM_sign 121 = .ok (.bipush 40, 2) := by decide +kernel
theorem dM_sign_123 : decode bM_sign 123 = .ok (.istore 7, 2) := by decide +kernel
theorem dM_sign_125 : decode bM_sign 125 = .ok (.iload 4, 2) := by decide +kernel
theorem dM_sign_127 : decode bM_sign 127 = .ok (.iconst 1, 1) := by decide +kernel
theorem dM_sign_128 : decode bM_sign 128 = .ok (.if_icmp .ne 18, 3) := by decide +kernel
theorem dM_sign_131 : decode bM_sign 131 = .ok (.aload_n 0, 1) := by decide +kernel
theorem dM_sign_132 : decode bM_sign 132 = .ok (.iload 5, 2) := by decide +kernel
theorem dM_sign_134 : decode bM_sign 134 = .ok (.iload_n 2, 1) := by decide +kernel
theorem dM_sign_135 : decode bM_sign 135 = .ok (.invokevirtual 234, 3) := by decide +kernel
theorem kM_m234 : Cond.methodLink RM 234 yM_digit ∈ lw_g := lw_in (List.mem_append_right _ (List.mem_of_getElem? (i := 1334) (by decide +kernel))) rfl
theorem dM_sign_138 : decode bM_sign 138 = .ok (.istore 7, 2) := by decide +kernel
theorem dM_sign_140 : decode bM_sign 140 = .ok (.aload_n 0, 1) := by decide +kernel
theorem dM_sign_141 : decode bM_sign 141 = .ok (.getfield 84, 3) := by decide +kernel
theorem dM_sign_144 : decode bM_sign 144 = .ok (.istore 6, 2) := by decide +kernel
theorem dM_sign_146 : decode bM_sign 146 = .ok (.iload_n 2, 1) := by decide +kernel
theorem dM_sign_147 : decode bM_sign 147 = .ok (.iload 6, 2) := by decide +kernel
theorem dM_sign_149 : decode bM_sign 149 = .ok (.if_icmp .ge 6, 3) := by decide +kernel
theorem dM_sign_152 : decode bM_sign 152 = .ok (.iload 7, 2) := by decide +kernel
theorem dM_sign_154 : decode bM_sign 154 = .ok (.ireturn, 1) := by decide +kernel
theorem dM_sign_155 : decode bM_sign 155 = .ok (.iload_n 2, 1) := by decide +kernel
theorem dM_sign_156 : decode bM_sign 156 = .ok (.iload 6, 2) := by decide +kernel
theorem dM_sign_158 : decode bM_sign 158 = .ok (.isub, 1) := by decide +kernel
theorem dM_sign_159 : decode bM_sign 159 = .ok (.istore_n 2, 1) := by decide +kernel
theorem dM_sign_160 : decode bM_sign 160 = .ok (.iload 4, 2) := by decide +kernel
theorem dM_sign_162 : decode bM_sign 162 = .ok (.iconst 3, 1) := by decide +kernel
theorem dM_sign_163 : decode bM_sign 163 = .ok (.if_icmp .ne 78, 3) := by decide +kernel
theorem dM_sign_166 : decode bM_sign 166 = .ok (.aload_n 0, 1) := by decide +kernel
theorem dM_sign_167 : decode bM_sign 167 = .ok (.iload_n 3, 1) := by decide +kernel
theorem dM_sign_168 : decode bM_sign 168 = .ok (.iconst 0, 1) := by decide +kernel
theorem dM_sign_169 : decode bM_sign 169 = .ok (.bipush 41, 2) := by decide +kernel
theorem dM_sign_171 : decode bM_sign 171 = .ok (.invokevirtual 231, 3) := by decide +kernel
theorem dM_sign_174 : decode bM_sign 174 = .ok (.aload_n 0, 1) := by decide +kernel
theorem dM_sign_175 : decode bM_sign 175 = .ok (.iload_n 3, 1) := by decide +kernel
theorem dM_sign_176 : decode bM_sign 176 = .ok (.iconst 1, 1) := by decide +kernel
theorem dM_sign_177 : decode bM_sign 177 = .ok (.iadd, 1) := by decide +kernel
theorem dM_sign_178 : decode bM_sign 178 = .ok (.aload_n 0, 1) := by decide +kernel
theorem dM_sign_179 : decode bM_sign 179 = .ok (.getfield 56, 3) := by decide +kernel
theorem dM_sign_182 : decode bM_sign 182 = .ok (.iconst 2, 1) := by decide +kernel
theorem dM_sign_183 : decode bM_sign 183 = .ok (.iload 5, 2) := by decide +kernel
theorem dM_sign_185 : decode bM_sign 185 = .ok (.imul, 1) := by decide +kernel
theorem dM_sign_186 : decode bM_sign 186 = .ok (.iconst 1, 1) := by decide +kernel
theorem dM_sign_187 : decode bM_sign 187 = .ok (.iadd, 1) := by decide +kernel
theorem dM_sign_188 : decode bM_sign 188 = .ok (.iaload, 1) := by decide +kernel
theorem dM_sign_189 : decode bM_sign 189 = .ok (.aload_n 0, 1) := by decide +kernel
theorem dM_sign_190 : decode bM_sign 190 = .ok (.getfield 59, 3) := by decide +kernel
theorem dM_sign_193 : decode bM_sign 193 = .ok (.iconst 2, 1) := by decide +kernel
theorem dM_sign_194 : decode bM_sign 194 = .ok (.iload 5, 2) := by decide +kernel
theorem dM_sign_196 : decode bM_sign 196 = .ok (.imul, 1) := by decide +kernel
theorem dM_sign_197 : decode bM_sign 197 = .ok (.iconst 1, 1) := by decide +kernel
theorem dM_sign_198 : decode bM_sign 198 = .ok (.iadd, 1) := by decide +kernel
theorem dM_sign_199 : decode bM_sign 199 = .ok (.iaload, 1) := by decide +kernel
theorem dM_sign_200 : decode bM_sign 200 = .ok (.invokevirtual 231, 3) := by decide +kernel
theorem dM_sign_203 : decode bM_sign 203 = .ok (.aload_n 0, 1) := by decide +kernel
theorem dM_sign_204 : decode bM_sign 204 = .ok (.iload_n 3, 1) := by decide +kernel
theorem dM_sign_205 : decode bM_sign 205 = .ok (.iconst 2, 1) := by decide +kernel
theorem dM_sign_206 : decode bM_sign 206 = .ok (.iadd, 1) := by decide +kernel
theorem dM_sign_207 : decode bM_sign 207 = .ok (.iconst 0, 1) := by decide +kernel
theorem dM_sign_208 : decode bM_sign 208 = .ok (.bipush 46, 2) := by decide +kernel
theorem dM_sign_210 : decode bM_sign 210 = .ok (.invokevirtual 231, 3) := by decide +kernel
theorem dM_sign_213 : decode bM_sign 213 = .ok (.aload_n 0, 1) := by decide +kernel
theorem dM_sign_214 : decode bM_sign 214 = .ok (.iload_n 3, 1) := by decide +kernel
theorem dM_sign_215 : decode bM_sign 215 = .ok (.iconst 3, 1) := by decide +kernel
theorem dM_sign_216 : decode bM_sign 216 = .ok (.iadd, 1) := by decide +kernel
theorem dM_sign_217 : decode bM_sign 217 = .ok (.aload_n 0, 1) := by decide +kernel
theorem dM_sign_218 : decode bM_sign 218 = .ok (.getfield 56, 3) := by decide +kernel
theorem dM_sign_221 : decode bM_sign 221 = .ok (.iconst 2, 1) := by decide +kernel
theorem dM_sign_222 : decode bM_sign 222 = .ok (.iload 5, 2) := by decide +kernel
theorem dM_sign_224 : decode bM_sign 224 = .ok (.imul, 1) := by decide +kernel
theorem dM_sign_225 : decode bM_sign 225 = .ok (.iaload, 1) := by decide +kernel
theorem dM_sign_226 : decode bM_sign 226 = .ok (.aload_n 0, 1) := by decide +kernel
theorem dM_sign_227 : decode bM_sign 227 = .ok (.getfield 59, 3) := by decide +kernel
theorem dM_sign_230 : decode bM_sign 230 = .ok (.iconst 2, 1) := by decide +kernel
theorem dM_sign_231 : decode bM_sign 231 = .ok (.iload 5, 2) := by decide +kernel
theorem dM_sign_233 : decode bM_sign 233 = .ok (.imul, 1) := by decide +kernel
theorem dM_sign_234 : decode bM_sign 234 = .ok (.iaload, 1) := by decide +kernel
theorem dM_sign_235 : decode bM_sign 235 = .ok (.invokevirtual 231, 3) := by decide +kernel
theorem dM_sign_238 : decode bM_sign 238 = .ok (.iinc 3 4, 3) := by decide +kernel
theorem dM_sign_241 : decode bM_sign 241 = .ok (.goto (-189), 3) := by decide +kernel
theorem dM_sign_244 : decode bM_sign 244 = .ok (.iconst (-1), 1) := by decide +kernel
theorem dM_sign_245 : decode bM_sign 245 = .ok (.ireturn, 1) := by decide +kernel
theorem kM_i_sign : Cond.instanceMethod yM_sign ∈ lw_g := lw_in (List.mem_append_right _ (List.mem_of_getElem? (i := 1327) (by decide +kernel))) rfl
theorem kM_s_sign : Cond.selects RM yM_sign yM_sign ∈ lw_g := lw_in (List.mem_append_right _ (List.mem_of_getElem? (i := 1328) (by decide +kernel))) rfl
-- global: maxLocals 2, ret (some .int)
theorem kM_c_global : Cond.code yM_global bM_global 2 (some .int) ∈ lw_g := lw_in (List.mem_append_right _ (List.mem_of_getElem? (i := 1343) (by decide +kernel))) rfl
theorem dM_global_0 : decode bM_global 0 = .ok (.aload_n 0, 1) := by decide +kernel
theorem dM_global_1 : decode bM_global 1 = .ok (.iconst 0, 1) := by decide +kernel
theorem dM_global_2 : decode bM_global 2 = .ok (.putfield 77, 3) := by decide +kernel
theorem dM_global_5 : decode bM_global 5 = .ok (.iload_n 1, 1) := by decide +kernel
theorem dM_global_6 : decode bM_global 6 = .ok (.ifCond .lt 9, 3) := by decide +kernel
theorem dM_global_9 : decode bM_global 9 = .ok (.iload_n 1, 1) := by decide +kernel
theorem dM_global_10 : decode bM_global 10 = .ok (.bipush 25, 2) := by decide +kernel
theorem dM_global_12 : decode bM_global 12 = .ok (.if_icmp .le 9, 3) := by decide +kernel
theorem dM_global_15 : decode bM_global 15 = .ok (.aload_n 0, 1) := by decide +kernel
theorem dM_global_16 : decode bM_global 16 = .ok (.iconst 1, 1) := by decide +kernel
theorem dM_global_17 : decode bM_global 17 = .ok (.invokevirtual 118, 3) := by decide +kernel
theorem dM_global_20 : decode bM_global 20 = .ok (.ireturn, 1) := by decide +kernel
theorem dM_global_21 : decode bM_global 21 = .ok (.aload_n 0, 1) := by decide +kernel
theorem dM_global_22 : decode bM_global 22 = .ok (.getfield 44, 3) := by decide +kernel
theorem dM_global_25 : decode bM_global 25 = .ok (.bipush 121, 2) := by decide +kernel
theorem dM_global_27 : decode bM_global 27 = .ok (.iload_n 1, 1) := by decide +kernel
theorem dM_global_28 : decode bM_global 28 = .ok (.iadd, 1) := by decide +kernel
theorem dM_global_29 : decode bM_global 29 = .ok (.iaload, 1) := by decide +kernel
theorem dM_global_30 : decode bM_global 30 = .ok (.iconst 1, 1) := by decide +kernel
theorem dM_global_31 : decode bM_global 31 = .ok (.if_icmp .eq 9, 3) := by decide +kernel
theorem dM_global_34 : decode bM_global 34 = .ok (.aload_n 0, 1) := by decide +kernel
theorem dM_global_35 : decode bM_global 35 = .ok (.iconst 2, 1) := by decide +kernel
theorem dM_global_36 : decode bM_global 36 = .ok (.invokevirtual 118, 3) := by decide +kernel
theorem dM_global_39 : decode bM_global 39 = .ok (.ireturn, 1) := by decide +kernel
theorem dM_global_40 : decode bM_global 40 = .ok (.aload_n 0, 1) := by decide +kernel
theorem dM_global_41 : decode bM_global 41 = .ok (.getfield 47, 3) := by decide +kernel
theorem dM_global_44 : decode bM_global 44 = .ok (.bipush 121, 2) := by decide +kernel
theorem dM_global_46 : decode bM_global 46 = .ok (.iload_n 1, 1) := by decide +kernel
theorem dM_global_47 : decode bM_global 47 = .ok (.iadd, 1) := by decide +kernel
theorem dM_global_48 : decode bM_global 48 = .ok (.iaload, 1) := by decide +kernel
theorem dM_global_49 : decode bM_global 49 = .ok (.ireturn, 1) := by decide +kernel
theorem kM_i_global : Cond.instanceMethod yM_global ∈ lw_g := lw_in (List.mem_append_right _ (List.mem_of_getElem? (i := 1341) (by decide +kernel))) rfl
theorem kM_s_global : Cond.selects RM yM_global yM_global ∈ lw_g := lw_in (List.mem_append_right _ (List.mem_of_getElem? (i := 1342) (by decide +kernel))) rfl
end
section
/-! THE WORLD AS A FUNCTION: h says of an address which cell lies there (of those that we speak of); A: where they may lie -/
def gw (D : va_G) (cl : List vw_C) (A : Nat → Prop) (h : Nat → Option va_E) (H : Heap) : Prop := ∀ (a : Nat) (e : va_E), h a = some e → A a ∧ va_at D cl (a, e) H
def gl (h : Nat → Option va_E) (n : Nat) : va_W := (List.range n).filterMap (fun a => (h a).map (fun e => (a, e)))
theorem gl_mem {h : Nat → Option va_E} {n : Nat} {q : Nat × va_E} (hq : q ∈ gl h n) : h q.1 = some q.2 := by
  obtain ⟨a, -, ha⟩ := List.mem_filterMap.mp hq
  cases he : h a with
  | none => rw [he] at ha; cases ha
  | some e => rw [he] at ha; cases ha; exact he
theorem gl_in {h : Nat → Option va_E} {n a : Nat} {e : va_E} (he : h a = some e) (hn : a < n) : ∃ k : Nat, (gl h n)[k]? = some (a, e) := by
  apply List.getElem?_of_mem
  refine List.mem_filterMap.mpr ⟨a, List.mem_range.mpr hn, ?_⟩
  rw [he]; rfl
theorem gw.lt {D : va_G} {cl : List vw_C} {A : Nat → Prop} {h : Nat → Option va_E} {H : Heap} (g : gw D cl A h H) {a : Nat} {e : va_E} (he : h a = some e) : a < H.size := (g a e he).2.lt
theorem gw.P {D : va_G} {cl : List vw_C} {A : Nat → Prop} {h : Nat → Option va_E} {H : Heap} (g : gw D cl A h H) (n : Nat) : va_P D cl (gl h n) H := fun _ q hk => (g q.1 q.2 (gl_mem (List.mem_of_getElem? hk))).2
theorem gl_pw (h : Nat → Option va_E) (n : Nat) : (gl h n).Pairwise (fun p q => p.1 < q.1) := by
  unfold gl
  rw [List.pairwise_filterMap]
  refine List.Pairwise.imp ?_ List.pairwise_lt_range
  intro a b hab p hp q hq
  cases ha : h a with
  | none => rw [ha] at hp; cases hp
  | some e =>
    cases hb : h b with
    | none => rw [hb] at hq; cases hq
    | some e2 =>
      rw [ha] at hp; rw [hb] at hq
      cases hp; cases hq
      exact hab
theorem gw.Dd {D : va_G} {cl : List vw_C} {A : Nat → Prop} {h : Nat → Option va_E} {H : Heap} (g : gw D cl A h H) (n : Nat) : va_D A (gl h n) := by
  refine ⟨fun i j p q hi hj hpq => ?_, fun k q hk => (g q.1 q.2 (gl_mem (List.mem_of_getElem? hk))).1⟩
  have pw := List.pairwise_iff_getElem.mp (gl_pw h n)
  obtain ⟨li, ei⟩ := List.getElem?_eq_some_iff.mp hi
  obtain ⟨lj, ej⟩ := List.getElem?_eq_some_iff.mp hj
  rcases Nat.lt_trichotomy i j with hl | hl | hl
  · have := pw i j li lj hl
    rw [ei, ej] at this
    omega
  · exact hl
  · have := pw j i lj li hl
    rw [ei, ej] at this
    omega
theorem gw.set {D : va_G} {cl : List vw_C} {A : Nat → Prop} {h : Nat → Option va_E} {H H1 : Heap} {n k a : Nat} {e e' : va_E} (g : gw D cl A h H) (hn : H.size ≤ n) (hk : (gl h n)[k]? = some (a, e)) (hP : va_P D cl ((gl h n).set k (a, e')) H1) : gw D cl A (va_up h a (some e')) H1 := by
  have hD := g.Dd n
  have hl := (List.getElem?_eq_some_iff.mp hk).1
  intro b x hx
  by_cases hb : b = a
  · subst hb
    rw [va_up_self] at hx
    cases hx
    exact ⟨hD.2 k _ hk, hP k (b, e') (by rw [List.getElem?_set_self hl])⟩
  · rw [va_up_ne _ _ hb] at hx
    obtain ⟨j, hj⟩ := gl_in hx (Nat.lt_of_lt_of_le (g.lt hx) hn)
    have hjk : j ≠ k := fun q => by
      subst q
      rw [hk] at hj
      exact hb (congrArg Prod.fst (Option.some.inj hj)).symm
    exact ⟨(g b x hx).1, hP j (b, x) (by rw [List.getElem?_set_ne (Ne.symm hjk)]; exact hj)⟩
theorem gw.push {D : va_G} {cl : List vw_C} {A : Nat → Prop} {h : Nat → Option va_E} {H H1 : Heap} {n q : Nat} {e : va_E} (g : gw D cl A h H) (hn : H.size ≤ n) (hP : va_P D cl (gl h n ++ [(q, e)]) H1) (hD : va_D A (gl h n ++ [(q, e)])) : h q = none ∧ gw D cl A (va_up h q (some e)) H1 := by
  have hlast : (gl h n ++ [(q, e)])[(gl h n).length]? = some (q, e) := by
    rw [List.getElem?_append_right (Nat.le_refl _), Nat.sub_self]; rfl
  have hold : ∀ (b : Nat) (x : va_E), h b = some x → ∃ j : Nat, j < (gl h n).length ∧ (gl h n ++ [(q, e)])[j]? = some (b, x) := fun b x hx => by
    obtain ⟨j, hj⟩ := gl_in hx (Nat.lt_of_lt_of_le (g.lt hx) hn)
    have hl := (List.getElem?_eq_some_iff.mp hj).1
    exact ⟨j, hl, by rw [List.getElem?_append_left hl]; exact hj⟩
  refine ⟨?_, fun b x hx => ?_⟩
  · cases hq : h q with
    | none => rfl
    | some x =>
      obtain ⟨j, hl, hj⟩ := hold q x hq
      have := hD.1 j _ _ _ hj hlast rfl
      omega
  · by_cases hb : b = q
    · subst hb
      rw [va_up_self] at hx
      cases hx
      exact ⟨hD.2 _ _ hlast, hP _ _ hlast⟩
    · rw [va_up_ne _ _ hb] at hx
      obtain ⟨j, -, hj⟩ := hold b x hx
      exact ⟨hD.2 _ _ hj, hP _ _ hj⟩
theorem gw.one {D : va_G} {cl : List vw_C} {A : Nat → Prop} {h : Nat → Option va_E} {H : Heap} (g : gw D cl A h H) {a : Nat} {e : va_E} (he : h a = some e) : va_P D cl [(a, e)] H := fun k q hk => by
  have hz : k < 1 := (List.getElem?_eq_some_iff.mp hk).1
  rw [show k = 0 by omega] at hk
  cases hk
  exact (g a e he).2
theorem gw.kept {D : va_G} {cl : List vw_C} {A A2 : Nat → Prop} {h : Nat → Option va_E} {H H1 : Heap} (g : gw D cl A h H) (hk : ∀ q : Nat, q < H.size → ¬ A2 q → H1[q]? = H[q]?) (hd : ∀ q, A q → ¬ A2 q) : gw D cl A h H1 := fun a e he => ⟨(g a e he).1, (g a e he).2.kept (hk a (g.lt he) (hd a (g a e he).1))⟩
theorem gw.weaken {D : va_G} {cl : List vw_C} {A A2 : Nat → Prop} {h : Nat → Option va_E} {H : Heap} (g : gw D cl A h H) (hd : ∀ (q : Nat) (e : va_E), h q = some e → A q → A2 q) : gw D cl A2 h H := fun a e he => ⟨hd a e he (g a e he).1, (g a e he).2⟩
/-- addresses with different cells differ -/
theorem g_ne {h : Nat → Option va_E} {a b : Nat} {x y : va_E} (ha : h a = some x) (hb : h b = some y) (hxy : x ≠ y) : a ≠ b := fun q => hxy (Option.some.inj (ha.symm.trans (by rw [q]; exact hb)))
theorem g_up {h : Nat → Option va_E} {a b : Nat} {x y : va_E} (v : Option va_E) (ha : h a = some x) (hb : h b = some y) (hxy : x ≠ y) : va_up h a v b = some y := by rw [va_up_ne _ _ (g_ne ha hb hxy).symm]; exact hb
theorem g_upn {h : Nat → Option va_E} {a b : Nat} {y : va_E} (v : Option va_E) (ha : h a = none) (hb : h b = some y) : va_up h a v b = some y := by
  rw [va_up_ne _ _ (fun q => by rw [q, ha] at hb; cases hb)]; exact hb
/-- a method's start and end in such a world -/
def gP (D : va_G) (cl : List vw_C) (tys : List (ClassId × FieldType)) (A : Nat → Prop) (h : Nat → Option va_E) : State → Prop := fun U => (∀ q, U.heap.size ≤ q → A q) ∧ gw D cl A h U.heap ∧ va_K D cl tys U
def gB (D : va_G) (cl : List vw_C) (tys : List (ClassId × FieldType)) (A : Nat → Prop) : (Nat → Option va_E) → State → Prop := fun h t => gw D cl A h t.heap ∧ va_K D cl tys t
theorem gP.blind {D : va_G} {cl : List vw_C} {tys : List (ClassId × FieldType)} {A : Nat → Prop} {h : Nat → Option va_E} {av : List Value} : FrameBlind (va_Pc av (gP D cl tys A h)) := fun a U g mk q => by
  obtain ⟨q0, q1, q2, q3⟩ := q
  exact ⟨q0, q1, q2, va_K.moved (u := U) (U := U.calling g mk a) (Vm.Alike.refl U.vm) q3⟩
theorem gP.S {D : va_G} {cl : List vw_C} {tys : List (ClassId × FieldType)} {A : Nat → Prop} {h : Nat → Option va_E} {s : State} {H : Heap} {av : List Value} (hA : ∀ q, H.size ≤ q → A q) (hg : gw D cl A h H) (hK : va_K D cl tys s) : PreS s H (va_Pc av (gP D cl tys A h)) av :=
  ⟨gP.blind, fun U hU hW => ⟨rfl, by rw [hU]; exact hA, by rw [hU]; exact hg, va_K.moved hW.alike hK⟩⟩
theorem gP.V {D : va_G} {cl : List vw_C} {tys : List (ClassId × FieldType)} {A : Nat → Prop} {h : Nat → Option va_E} {s : State} {H : Heap} {As : List Value} {b ci : Nat} {r : vw_C} {fs : List Value} (hA : ∀ q, H.size ≤ q → A q) (hg : gw D cl A h H) (hK : va_K D cl tys s) (hb : h b = some (.inr (ci, fs))) (hc : cl[ci]? = some r) : PreV s H r.1 b (va_Pc (.ref b :: As) (gP D cl tys A h)) As :=
  ⟨gP.blind, va_recv hK (hg.one hb) hc (q0 := 0) rfl, fun U hU hW => ⟨rfl, by rw [hU]; exact hA, by rw [hU]; exact hg, va_K.moved hW.alike hK⟩⟩
theorem va_S.ge {A : Nat → Prop} {H0 H : Heap} {locs : List Loc} (hS : va_S A H0 H locs) (hA : ∀ q, H0.size ≤ q → A q) : ∀ q, H.size ≤ q → A q := fun q h => hA q (Nat.le_trans hS.1 h)
section GROWS
variable {p : Program} {l : Launch} {e : Env} {R : Room} {s : State} {m : MethodId} {args : Array Value} {below : List Frame} {meth : Method} {c : Code} {H : Heap} {locs : List Loc} {cells slots : Nat} {Q : State → Prop}
variable {cc : ByteArray} {pc : Nat} {ls : Array Slot} {rest : List Value} {D : va_G} {cl : List vw_C} {A : Nat → Prop} {a : Nat} {tys : List (ClassId × FieldType)} {h : Nat → Option va_E} {H0 : Heap}
theorem g_get (hexec : p.tables.exec = Jvm.exec) (hb : c.code = cc) {own ref C : String} {T : u_T} {N ci index : Nat} {Ts : List Cond} (hts : ∀ w ∈ Ts, w.before args s = true) (hin : ∀ w ∈ u_ws C T N, w ∈ Ts) (hown : s.vm.findClass own = some m.cls) (hK : va_K D cl tys s) (hg : gw D cl A h H) {fs : List Value} (he : h a = some (.inr (ci, fs))) (hc : cl[ci]? = some (C, T, N)) (k : Nat) (hk : k < N) (hlink : (Cond.fieldLink own index ref (T k).2.1 (T k).2.2.1).before args s = true) (hsame : ∀ x, s.fieldFound? (T k).1 (T k).2.1 (T k).2.2.1 = some x → s.fieldFound? ref (T k).2.1 (T k).2.2.1 = some x) {v : Value} (hv : fs[k]? = some v) (hdg : decode cc pc = .ok (.getfield index, 3))
    (kk : W p l e R s m args below meth c H locs cells slots Q (F0 m (pc + 3) ls (v :: rest))) : W p l e R s m args below meth c H locs cells slots Q (F0 m pc ls (.ref a :: rest)) :=
  va_get hexec hb hts hin hown hK (hg.one he) 0 rfl hc k hk hlink hsame hv hdg kk
theorem g_put (hexec : p.tables.exec = Jvm.exec) (hb : c.code = cc) {own ref C : String} {T : u_T} {N ci index : Nat} {Ts : List Cond} (hts : ∀ w ∈ Ts, w.before args s = true) (hin : ∀ w ∈ u_ws C T N, w ∈ Ts) (ty0 : Nat → FieldType) (hty : ∀ k, k < N → parseFieldDescriptor (T k).2.2.1 = some (ty0 k)) (hnm : ∀ a, a < N → ∀ b, b < N → a ≠ b → (T a).2.1 ≠ (T b).2.1) (hown : s.vm.findClass own = some m.cls) (hK : va_K D cl tys s) (hg : gw D cl A h H) (hS0 : va_S A H0 H locs) {fs : List Value} (he : h a = some (.inr (ci, fs))) (hc : cl[ci]? = some (C, T, N)) (k : Nat) (hk : k < N) (hlink : (Cond.fieldLink own index ref (T k).2.1 (T k).2.2.1).before args s = true) (hsame : ∀ x, s.fieldFound? (T k).1 (T k).2.1 (T k).2.2.1 = some x → s.fieldFound? ref (T k).2.1 (T k).2.2.1 = some x) (hfin : (T k).2.2.2 = false) {ty : FieldType} {v : Value} (hd : parseFieldDescriptor (T k).2.2.1 = some ty) (hn : narrow ty v = v) (hfit : fits ty v = true) (hl : k < fs.length)
    (hdg : decode cc pc = .ok (.putfield index, 3)) (kk : ∀ (H1 : Heap) (locs1 : List Loc), gw D cl A (va_up h a (some (.inr (ci, fs.set k v)))) H1 → va_S A H0 H1 locs1 → W p l e R s m args below meth c H1 locs1 cells slots Q (F0 m (pc + 3) ls rest)) : W p l e R s m args below meth c H locs cells slots Q (F0 m pc ls (v :: .ref a :: rest)) := by
  obtain ⟨q0, hq⟩ := gl_in he (hg.lt he)
  exact va_put hexec hb hts hin ty0 hty hnm hown hK (hg.P H.size) (hg.Dd H.size) hS0 q0 hq hc k hk hlink hsame hfin hd hn hfit hl hdg (fun H1 locs1 p1 _ s1 => kk H1 locs1 (hg.set (Nat.le_refl _) hq p1) s1)
theorem g_putF (hexec : p.tables.exec = Jvm.exec) (hb : c.code = cc) {own ref C : String} {T : u_T} {N ci index : Nat} {Ts : List Cond} (hts : ∀ w ∈ Ts, w.before args s = true) (hin : ∀ w ∈ u_ws C T N, w ∈ Ts) (ty0 : Nat → FieldType) (hty : ∀ k, k < N → parseFieldDescriptor (T k).2.2.1 = some (ty0 k)) (hnm : ∀ a, a < N → ∀ b, b < N → a ≠ b → (T a).2.1 ≠ (T b).2.1) (hown : s.vm.findClass own = some m.cls) (hK : va_K D cl tys s) (hg : gw D cl A h H) (hS0 : va_S A H0 H locs) {fs : List Value} (he : h a = some (.inr (ci, fs))) (hc : cl[ci]? = some (C, T, N)) (k : Nat) (hk : k < N) (hlink : (Cond.fieldLink own index ref (T k).2.1 (T k).2.2.1).before args s = true) (hsame : ∀ x, s.fieldFound? (T k).1 (T k).2.1 (T k).2.2.1 = some x → s.fieldFound? ref (T k).2.1 (T k).2.2.1 = some x) (hfin : (T k).2.2.2 = true) (hin2 : meth.name = "<init>") (hdecl : (T k).1 = own) {ty : FieldType} {v : Value} (hd : parseFieldDescriptor (T k).2.2.1 = some ty) (hn : narrow ty v = v) (hfit : fits ty v = true) (hl : k < fs.length)
    (hdg : decode cc pc = .ok (.putfield index, 3)) (kk : ∀ (H1 : Heap) (locs1 : List Loc), gw D cl A (va_up h a (some (.inr (ci, fs.set k v)))) H1 → va_S A H0 H1 locs1 → W p l e R s m args below meth c H1 locs1 cells slots Q (F0 m (pc + 3) ls rest)) : W p l e R s m args below meth c H locs cells slots Q (F0 m pc ls (v :: .ref a :: rest)) := by
  obtain ⟨q0, hq⟩ := gl_in he (hg.lt he)
  exact va_putF hexec hb hts hin ty0 hty hnm hown hK (hg.P H.size) (hg.Dd H.size) hS0 q0 hq hc k hk hlink hsame hfin hin2 hdecl hd hn hfit hl hdg (fun H1 locs1 p1 _ s1 => kk H1 locs1 (hg.set (Nat.le_refl _) hq p1) s1)
theorem g_iald (hexec : p.tables.exec = Jvm.exec) (hb : c.code = cc) (hK : va_K D cl tys s) (hg : gw D cl A h H) (t0 : Nat) {cA : ClassId} {n : Nat} {f : Nat → Int32} (ha : h a = some (.inl (cA, n, .inl f))) (ht : tys[t0]? = some (cA, .int)) {i : Int32} (hin : vp_in i n) (hdg : decode cc pc = .ok (.iaload, 1))
    (kk : W p l e R s m args below meth c H locs cells slots Q (F0 m (pc + 1) ls (.int (f i.toNatClampNeg) :: rest))) : W p l e R s m args below meth c H locs cells slots Q (F0 m pc ls (.int i :: .ref a :: rest)) := va_iald hexec hb hK (hg.one ha) 0 t0 rfl ht hin hdg kk
theorem g_cald (hexec : p.tables.exec = Jvm.exec) (hb : c.code = cc) (hK : va_K D cl tys s) (hg : gw D cl A h H) (t0 : Nat) {cA : ClassId} {n : Nat} {f : Nat → Int32} (ha : h a = some (.inl (cA, n, .inl f))) (ht : tys[t0]? = some (cA, .char)) {i : Int32} (hin : vp_in i n) (hdg : decode cc pc = .ok (.caload, 1))
    (kk : W p l e R s m args below meth c H locs cells slots Q (F0 m (pc + 1) ls (.int (f i.toNatClampNeg) :: rest))) : W p l e R s m args below meth c H locs cells slots Q (F0 m pc ls (.int i :: .ref a :: rest)) := va_cald hexec hb hK (hg.one ha) 0 t0 rfl ht hin hdg kk
theorem g_bald (hexec : p.tables.exec = Jvm.exec) (hb : c.code = cc) (hK : va_K D cl tys s) (hg : gw D cl A h H) (t0 : Nat) {cA : ClassId} {n : Nat} {f : Nat → Int32} (ha : h a = some (.inl (cA, n, .inl f))) (ht : tys[t0]? = some (cA, .byte)) {i : Int32} (hin : vp_in i n) (hdg : decode cc pc = .ok (.baload, 1))
    (kk : W p l e R s m args below meth c H locs cells slots Q (F0 m (pc + 1) ls (.int (f i.toNatClampNeg) :: rest))) : W p l e R s m args below meth c H locs cells slots Q (F0 m pc ls (.int i :: .ref a :: rest)) := va_bald hexec hb hK (hg.one ha) 0 t0 rfl ht hin hdg kk
theorem g_zald (hexec : p.tables.exec = Jvm.exec) (hb : c.code = cc) (hK : va_K D cl tys s) (hg : gw D cl A h H) (t0 : Nat) {cA : ClassId} {n : Nat} {f : Nat → Int32} (ha : h a = some (.inl (cA, n, .inl f))) (ht : tys[t0]? = some (cA, .boolean)) {i : Int32} (hin : vp_in i n) (hdg : decode cc pc = .ok (.baload, 1))
    (kk : W p l e R s m args below meth c H locs cells slots Q (F0 m (pc + 1) ls (.int (f i.toNatClampNeg) :: rest))) : W p l e R s m args below meth c H locs cells slots Q (F0 m pc ls (.int i :: .ref a :: rest)) := va_zald hexec hb hK (hg.one ha) 0 t0 rfl ht hin hdg kk
theorem g_alen (hexec : p.tables.exec = Jvm.exec) (hb : c.code = cc) (hK : va_K D cl tys s) (hg : gw D cl A h H) (t0 : Nat) {cA : ClassId} {x : vp_A} (ha : h a = some (.inl (cA, x))) {ty : FieldType} (ht : tys[t0]? = some (cA, ty)) {v : Int32} (hv : Int32.ofNat x.1 = v) (hdg : decode cc pc = .ok (.arraylength, 1))
    (kk : W p l e R s m args below meth c H locs cells slots Q (F0 m (pc + 1) ls (.int v :: rest))) : W p l e R s m args below meth c H locs cells slots Q (F0 m pc ls (.ref a :: rest)) := va_alen hexec hb hK (hg.one ha) 0 t0 rfl ht hv hdg kk
theorem g_iast (hexec : p.tables.exec = Jvm.exec) (hb : c.code = cc) (hK : va_K D cl tys s) (hg : gw D cl A h H) (hS : va_S A H0 H locs) (t0 : Nat) {cA : ClassId} {n : Nat} {f : Nat → Int32} (ha : h a = some (.inl (cA, n, .inl f))) (ht : tys[t0]? = some (cA, .int)) {i : Int32} {x : Int32} (hin : vp_in i n) (hdg : decode cc pc = .ok (.iastore, 1))
    (kk : ∀ (H1 : Heap) (locs1 : List Loc), gw D cl A (va_up h a (some (.inl (cA, n, .inl (upd f i.toNatClampNeg x))))) H1 → va_S A H0 H1 locs1 → W p l e R s m args below meth c H1 locs1 cells slots Q (F0 m (pc + 1) ls rest)) : W p l e R s m args below meth c H locs cells slots Q (F0 m pc ls (.int x :: .int i :: .ref a :: rest)) := by
  obtain ⟨q0, hq⟩ := gl_in ha (hg.lt ha)
  exact va_iast hexec hb hK (hg.P H.size) (hg.Dd H.size) hS q0 t0 hq ht hin hdg (fun H1 locs1 p1 _ s1 => kk H1 locs1 (hg.set (Nat.le_refl _) hq p1) s1)
theorem g_cast (hexec : p.tables.exec = Jvm.exec) (hb : c.code = cc) (hK : va_K D cl tys s) (hg : gw D cl A h H) (hS : va_S A H0 H locs) (t0 : Nat) {cA : ClassId} {n : Nat} {f : Nat → Int32} (ha : h a = some (.inl (cA, n, .inl f))) (ht : tys[t0]? = some (cA, .char)) {i : Int32} {x : Int32} (hin : vp_in i n) (hdg : decode cc pc = .ok (.castore, 1))
    (kk : ∀ (H1 : Heap) (locs1 : List Loc), gw D cl A (va_up h a (some (.inl (cA, n, .inl (upd f i.toNatClampNeg (vp_nar .char x)))))) H1 → va_S A H0 H1 locs1 → W p l e R s m args below meth c H1 locs1 cells slots Q (F0 m (pc + 1) ls rest)) : W p l e R s m args below meth c H locs cells slots Q (F0 m pc ls (.int x :: .int i :: .ref a :: rest)) := by
  obtain ⟨q0, hq⟩ := gl_in ha (hg.lt ha)
  exact va_cast hexec hb hK (hg.P H.size) (hg.Dd H.size) hS q0 t0 hq ht hin hdg (fun H1 locs1 p1 _ s1 => kk H1 locs1 (hg.set (Nat.le_refl _) hq p1) s1)
theorem g_aldq (hexec : p.tables.exec = Jvm.exec) (hb : c.code = cc) (hK : va_K D cl tys s) (hg : gw D cl A h H) (t0 : Nat) {cA : ClassId} {C : String} {n : Nat} {f : Nat → Option Nat} (ha : h a = some (.inl (cA, n, .inr (.inr (.inr (.inr f)))))) (ht : tys[t0]? = some (cA, .object C)) {i : Int32} (hin : vp_in i n) (hdg : decode cc pc = .ok (.aaload, 1))
    (kk : W p l e R s m args below meth c H locs cells slots Q (F0 m (pc + 1) ls (va_rf (f i.toNatClampNeg) :: rest))) : W p l e R s m args below meth c H locs cells slots Q (F0 m pc ls (.int i :: .ref a :: rest)) := va_aldq hexec hb hK (hg.one ha) 0 t0 rfl ht hin hdg kk
theorem g_new {c0 : Code} (hexec : p.tables.exec = Jvm.exec) (hb : c0.code = cc) {own C : String} {T : u_T} {N ci index : Nat} {Ts : List Cond} (hts : ∀ w ∈ Ts, w.before args s = true) (hin : ∀ w ∈ u_ws C T N, w ∈ Ts) (ty : Nat → FieldType) (hty : ∀ k, k < N → parseFieldDescriptor (T k).2.2.1 = some (ty k)) (hown : s.vm.findClass own = some m.cls) (hcl : (Cond.classLink own index C).before args s = true) (hinst : (Cond.instantiable C N).before args s = true) (hini : (Cond.initialized C).before args s = true)
    (hK : va_K D cl tys s) (hg : gw D cl A h H) (hS : va_S A H0 H locs) (hA : ∀ q, H0.size ≤ q → A q) (hc : cl[ci]? = some (C, T, N)) {fs : List Value} (hfs : ∀ j, j < N → defaultValue (ty j) = vp_V fs j) (hcells : cells + 1 ≤ R.cells) (hslots : slots + N ≤ R.slots) (hdg : decode cc pc = .ok (.new index, 3))
    (kk : ∀ (q : Nat) (H1 : Heap), h q = none → gw D cl A (va_up h q (some (.inr (ci, fs)))) H1 → va_S A H0 H1 locs →
      W p l e R s m args below meth c0 H1 locs (cells + 1) (slots + N) Q (F0 m (pc + 3) ls (.ref q :: rest))) : W p l e R s m args below meth c0 H locs cells slots Q (F0 m pc ls rest) :=
  va_new hexec hb hts hin ty hty hown hcl hinst hini hK (hg.P H.size) (hg.Dd H.size) hS hA hc hfs hcells hslots hdg (fun q H1 p1 d1 s1 => kk q H1 (hg.push (Nat.le_refl _) p1 d1).1 (hg.push (Nat.le_refl _) p1 d1).2 s1)
end GROWS
end
section
-- field 0: int failed 
-- field 1: int[] text 120
-- field 2: int length 
-- field 3: int[] open 13
-- field 4: int[] parts 13
-- field 5: int[] fewest 13
-- field 6: int[] most 13
-- field 7: int depth 
-- field 8: int mode 
-- field 9: int[] kind 120
-- field 10: int[] number 120
-- field 11: int[] names 120
-- field 12: int[] part 480
-- field 13: int nodes 
-- field 14: int[] givenValue 26
-- field 15: boolean[] isGiven 26
-- field 16: int[] bKind 147
-- field 17: int[] bValue 147
-- field 18: int[] bName 147
-- field 19: int[] bNext 147
-- field 20: int bindings 
-- field 21: int[] pairKind 122
-- field 22: int[] pairValue 122
-- field 23: int pairs 
-- field 24: int[] rec 5200
-- field 25: int[] recValue 5200
-- field 26: int[] recMore 5200
-- field 27: int records 
-- field 28: int status 
-- field 29: int steps 
-- field 30: int fault 
-- field 31: int closures 
-- field 32: boolean begins 
-- field 33: int node 
-- field 34: int scope 
-- field 35: int chain 
-- field 36: int vKind 
-- field 37: int v 
-- field 38: int[] showKind 260
-- field 39: int[] showValue 260
def mdF (ad : Nat → Nat) (fi : Nat → Int32) : List Value := [.int (fi 0), .ref (ad 1), .int (fi 2), .ref (ad 3), .ref (ad 4), .ref (ad 5), .ref (ad 6), .int (fi 7), .int (fi 8), .ref (ad 9), .ref (ad 10), .ref (ad 11), .ref (ad 12), .int (fi 13), .ref (ad 14), .ref (ad 15), .ref (ad 16), .ref (ad 17), .ref (ad 18), .ref (ad 19), .int (fi 20), .ref (ad 21), .ref (ad 22), .int (fi 23), .ref (ad 24), .ref (ad 25), .ref (ad 26), .int (fi 27), .int (fi 28), .int (fi 29), .int (fi 30), .int (fi 31), .int (fi 32), .int (fi 33), .int (fi 34), .int (fi 35), .int (fi 36), .int (fi 37), .ref (ad 38), .ref (ad 39)]
def mdN : Nat → Bool := fun k => [0, 2, 7, 8, 13, 20, 23, 27, 28, 29, 30, 31, 33, 34, 35, 36, 37].contains k
def mdR : Nat → Bool := fun k => [1, 3, 4, 5, 6, 9, 10, 11, 12, 14, 15, 16, 17, 18, 19, 21, 22, 24, 25, 26, 38, 39].contains k
def mdI : Nat → Bool := fun k => [1, 3, 4, 5, 6, 9, 10, 11, 12, 14, 16, 17, 18, 19, 21, 22, 24, 25, 26, 38, 39].contains k
def mdZ : Nat → Nat := fun k => match k with
  | 1 => 120
  | 3 => 13
  | 4 => 13
  | 5 => 13
  | 6 => 13
  | 9 => 120
  | 10 => 120
  | 11 => 120
  | 12 => 480
  | 14 => 26
  | 15 => 26
  | 16 => 147
  | 17 => 147
  | 18 => 147
  | 19 => 147
  | 21 => 122
  | 22 => 122
  | 24 => 5200
  | 25 => 5200
  | 26 => 5200
  | 38 => 260
  | 39 => 260
  | _ => 0
def mdO : Nat → Nat := fun k => match k with
  | 1 => 1
  | 3 => 2
  | 4 => 3
  | 5 => 4
  | 6 => 5
  | 9 => 6
  | 10 => 7
  | 11 => 8
  | 12 => 9
  | 14 => 10
  | 15 => 11
  | 16 => 12
  | 17 => 13
  | 18 => 14
  | 19 => 15
  | 21 => 16
  | 22 => 17
  | 24 => 18
  | 25 => 19
  | 26 => 20
  | 38 => 21
  | 39 => 22
  | _ => 0
def mdL (ci : Nat) (cI cZ : ClassId) (o : Nat) (ad : Nat → Nat) (fi : Nat → Int32) (fa : Nat → Nat → Int32) : va_W := [(o, .inr (ci, mdF ad fi)), (ad 1, .inl (cI, 120, .inl (fa 1))), (ad 3, .inl (cI, 13, .inl (fa 3))), (ad 4, .inl (cI, 13, .inl (fa 4))), (ad 5, .inl (cI, 13, .inl (fa 5))), (ad 6, .inl (cI, 13, .inl (fa 6))), (ad 9, .inl (cI, 120, .inl (fa 9))), (ad 10, .inl (cI, 120, .inl (fa 10))), (ad 11, .inl (cI, 120, .inl (fa 11))), (ad 12, .inl (cI, 480, .inl (fa 12))), (ad 14, .inl (cI, 26, .inl (fa 14))), (ad 15, .inl (cZ, 26, .inl (fa 15))), (ad 16, .inl (cI, 147, .inl (fa 16))), (ad 17, .inl (cI, 147, .inl (fa 17))), (ad 18, .inl (cI, 147, .inl (fa 18))), (ad 19, .inl (cI, 147, .inl (fa 19))), (ad 21, .inl (cI, 122, .inl (fa 21))), (ad 22, .inl (cI, 122, .inl (fa 22))), (ad 24, .inl (cI, 5200, .inl (fa 24))), (ad 25, .inl (cI, 5200, .inl (fa 25))), (ad 26, .inl (cI, 5200, .inl (fa 26))), (ad 38, .inl (cI, 260, .inl (fa 38))), (ad 39, .inl (cI, 260, .inl (fa 39)))]
theorem mdF_N {ad : Nat → Nat} {fi : Nat → Int32} : ∀ (k : Nat), mdN k = true → (mdF ad fi)[k]? = some (.int (fi k))
  | 0, _ => rfl
  | 2, _ => rfl
  | 7, _ => rfl
  | 8, _ => rfl
  | 13, _ => rfl
  | 20, _ => rfl
  | 23, _ => rfl
  | 27, _ => rfl
  | 28, _ => rfl
  | 29, _ => rfl
  | 30, _ => rfl
  | 31, _ => rfl
  | 33, _ => rfl
  | 34, _ => rfl
  | 35, _ => rfl
  | 36, _ => rfl
  | 37, _ => rfl
  | 1, h => by simp [mdN] at h
  | 3, h => by simp [mdN] at h
  | 4, h => by simp [mdN] at h
  | 5, h => by simp [mdN] at h
  | 6, h => by simp [mdN] at h
  | 9, h => by simp [mdN] at h
  | 10, h => by simp [mdN] at h
  | 11, h => by simp [mdN] at h
  | 12, h => by simp [mdN] at h
  | 14, h => by simp [mdN] at h
  | 15, h => by simp [mdN] at h
  | 16, h => by simp [mdN] at h
  | 17, h => by simp [mdN] at h
  | 18, h => by simp [mdN] at h
  | 19, h => by simp [mdN] at h
  | 21, h => by simp [mdN] at h
  | 22, h => by simp [mdN] at h
  | 24, h => by simp [mdN] at h
  | 25, h => by simp [mdN] at h
  | 26, h => by simp [mdN] at h
  | 32, h => by simp [mdN] at h
  | 38, h => by simp [mdN] at h
  | 39, h => by simp [mdN] at h
  | k + 40, h => by simp [mdN] at h
theorem mdF_R {ad : Nat → Nat} {fi : Nat → Int32} : ∀ (k : Nat), mdR k = true → (mdF ad fi)[k]? = some (.ref (ad k))
  | 1, _ => rfl
  | 3, _ => rfl
  | 4, _ => rfl
  | 5, _ => rfl
  | 6, _ => rfl
  | 9, _ => rfl
  | 10, _ => rfl
  | 11, _ => rfl
  | 12, _ => rfl
  | 14, _ => rfl
  | 15, _ => rfl
  | 16, _ => rfl
  | 17, _ => rfl
  | 18, _ => rfl
  | 19, _ => rfl
  | 21, _ => rfl
  | 22, _ => rfl
  | 24, _ => rfl
  | 25, _ => rfl
  | 26, _ => rfl
  | 38, _ => rfl
  | 39, _ => rfl
  | 0, h => by simp [mdR] at h
  | 2, h => by simp [mdR] at h
  | 7, h => by simp [mdR] at h
  | 8, h => by simp [mdR] at h
  | 13, h => by simp [mdR] at h
  | 20, h => by simp [mdR] at h
  | 23, h => by simp [mdR] at h
  | 27, h => by simp [mdR] at h
  | 28, h => by simp [mdR] at h
  | 29, h => by simp [mdR] at h
  | 30, h => by simp [mdR] at h
  | 31, h => by simp [mdR] at h
  | 32, h => by simp [mdR] at h
  | 33, h => by simp [mdR] at h
  | 34, h => by simp [mdR] at h
  | 35, h => by simp [mdR] at h
  | 36, h => by simp [mdR] at h
  | 37, h => by simp [mdR] at h
  | k + 40, h => by simp [mdR] at h
theorem mdF_set {ad : Nat → Nat} {fi : Nat → Int32} {v : Int32} : ∀ (k : Nat), mdN k = true → (mdF ad fi).set k (.int v) = mdF ad (va_up fi k v)
  | 0, _ => rfl
  | 2, _ => rfl
  | 7, _ => rfl
  | 8, _ => rfl
  | 13, _ => rfl
  | 20, _ => rfl
  | 23, _ => rfl
  | 27, _ => rfl
  | 28, _ => rfl
  | 29, _ => rfl
  | 30, _ => rfl
  | 31, _ => rfl
  | 33, _ => rfl
  | 34, _ => rfl
  | 35, _ => rfl
  | 36, _ => rfl
  | 37, _ => rfl
  | 1, h => by simp [mdN] at h
  | 3, h => by simp [mdN] at h
  | 4, h => by simp [mdN] at h
  | 5, h => by simp [mdN] at h
  | 6, h => by simp [mdN] at h
  | 9, h => by simp [mdN] at h
  | 10, h => by simp [mdN] at h
  | 11, h => by simp [mdN] at h
  | 12, h => by simp [mdN] at h
  | 14, h => by simp [mdN] at h
  | 15, h => by simp [mdN] at h
  | 16, h => by simp [mdN] at h
  | 17, h => by simp [mdN] at h
  | 18, h => by simp [mdN] at h
  | 19, h => by simp [mdN] at h
  | 21, h => by simp [mdN] at h
  | 22, h => by simp [mdN] at h
  | 24, h => by simp [mdN] at h
  | 25, h => by simp [mdN] at h
  | 26, h => by simp [mdN] at h
  | 32, h => by simp [mdN] at h
  | 38, h => by simp [mdN] at h
  | 39, h => by simp [mdN] at h
  | k + 40, h => by simp [mdN] at h
theorem mdL_I {ci : Nat} {cI cZ : ClassId} {o : Nat} {ad : Nat → Nat} {fi : Nat → Int32} {fa : Nat → Nat → Int32} : ∀ (k : Nat), mdI k = true → (mdL ci cI cZ o ad fi fa)[mdO k]? = some (ad k, .inl (cI, mdZ k, .inl (fa k)))
  | 1, _ => rfl
  | 3, _ => rfl
  | 4, _ => rfl
  | 5, _ => rfl
  | 6, _ => rfl
  | 9, _ => rfl
  | 10, _ => rfl
  | 11, _ => rfl
  | 12, _ => rfl
  | 14, _ => rfl
  | 16, _ => rfl
  | 17, _ => rfl
  | 18, _ => rfl
  | 19, _ => rfl
  | 21, _ => rfl
  | 22, _ => rfl
  | 24, _ => rfl
  | 25, _ => rfl
  | 26, _ => rfl
  | 38, _ => rfl
  | 39, _ => rfl
  | 0, h => by simp [mdI] at h
  | 2, h => by simp [mdI] at h
  | 7, h => by simp [mdI] at h
  | 8, h => by simp [mdI] at h
  | 13, h => by simp [mdI] at h
  | 15, h => by simp [mdI] at h
  | 20, h => by simp [mdI] at h
  | 23, h => by simp [mdI] at h
  | 27, h => by simp [mdI] at h
  | 28, h => by simp [mdI] at h
  | 29, h => by simp [mdI] at h
  | 30, h => by simp [mdI] at h
  | 31, h => by simp [mdI] at h
  | 32, h => by simp [mdI] at h
  | 33, h => by simp [mdI] at h
  | 34, h => by simp [mdI] at h
  | 35, h => by simp [mdI] at h
  | 36, h => by simp [mdI] at h
  | 37, h => by simp [mdI] at h
  | k + 40, h => by simp [mdI] at h
theorem mdL_set {ci : Nat} {cI cZ : ClassId} {o : Nat} {ad : Nat → Nat} {fi : Nat → Int32} {fa : Nat → Nat → Int32} {g : Nat → Int32} : ∀ (k : Nat), mdI k = true → (mdL ci cI cZ o ad fi fa).set (mdO k) (ad k, .inl (cI, mdZ k, .inl g)) = mdL ci cI cZ o ad fi (va_up fa k g)
  | 1, _ => rfl
  | 3, _ => rfl
  | 4, _ => rfl
  | 5, _ => rfl
  | 6, _ => rfl
  | 9, _ => rfl
  | 10, _ => rfl
  | 11, _ => rfl
  | 12, _ => rfl
  | 14, _ => rfl
  | 16, _ => rfl
  | 17, _ => rfl
  | 18, _ => rfl
  | 19, _ => rfl
  | 21, _ => rfl
  | 22, _ => rfl
  | 24, _ => rfl
  | 25, _ => rfl
  | 26, _ => rfl
  | 38, _ => rfl
  | 39, _ => rfl
  | 0, h => by simp [mdI] at h
  | 2, h => by simp [mdI] at h
  | 7, h => by simp [mdI] at h
  | 8, h => by simp [mdI] at h
  | 13, h => by simp [mdI] at h
  | 15, h => by simp [mdI] at h
  | 20, h => by simp [mdI] at h
  | 23, h => by simp [mdI] at h
  | 27, h => by simp [mdI] at h
  | 28, h => by simp [mdI] at h
  | 29, h => by simp [mdI] at h
  | 30, h => by simp [mdI] at h
  | 31, h => by simp [mdI] at h
  | 32, h => by simp [mdI] at h
  | 33, h => by simp [mdI] at h
  | 34, h => by simp [mdI] at h
  | 35, h => by simp [mdI] at h
  | 36, h => by simp [mdI] at h
  | 37, h => by simp [mdI] at h
  | k + 40, h => by simp [mdI] at h
/-- the reference's world -/
def mdW (D : va_G) (cl : List vw_C) (A : Nat → Prop) (ci : Nat) (cI cZ : ClassId) (o : Nat) (ad : Nat → Nat) (fi : Nat → Int32) (fa : Nat → Nat → Int32) (H : Heap) : Prop := va_P D cl (mdL ci cI cZ o ad fi fa) H ∧ va_D A (mdL ci cI cZ o ad fi fa)
/-- what stands around a walk of a method of the reference -/
def mdC (D : va_G) (cl : List vw_C) (tys : List (ClassId × FieldType)) (ci tI tZ : Nat) (cI cZ : ClassId) (s : State) (m : MethodId) (args : Array Value) : Prop :=
  (∀ w ∈ lw_g, w.before args s = true) ∧ s.vm.findClass RM = some m.cls ∧ va_K D cl tys s ∧ cl[ci]? = some (RM, TM, 40) ∧ tys[tI]? = some (cI, .int) ∧ tys[tZ]? = some (cZ, .boolean)
section MROWS
variable {p : Program} {l : Launch} {e : Env} {R : Room} {s : State} {m : MethodId} {args : Array Value} {below : List Frame} {meth : Method} {c : Code} {H : Heap} {locs : List Loc} {cells slots : Nat} {Q : State → Prop}
variable {cc : ByteArray} {pc : Nat} {ls : Array Slot} {rest : List Value} {D : va_G} {cl : List vw_C} {A : Nat → Prop} {tys : List (ClassId × FieldType)} {H0 : Heap} {ci tI tZ : Nat} {cI cZ : ClassId} {o : Nat} {ad : Nat → Nat} {fi : Nat → Int32} {fa : Nat → Nat → Int32}
theorem M_geti (hx : p.tables.exec = Jvm.exec) (hb : c.code = cc) (K : mdC D cl tys ci tI tZ cI cZ s m args) (hM : mdW D cl A ci cI cZ o ad fi fa H) (k : Nat) {idx : Nat} (hl : Cond.fieldLink RM idx "ContinuationCoreModel" (TM k).2.1 (TM k).2.2.1 ∈ lw_g) (hdg : decode cc pc = .ok (.getfield idx, 3)) (hk : mdN k = true := by rfl) (h40 : k < 40 := by decide) (hT : (TM k).1 = "ContinuationCoreModel" := by rfl)
    (kk : W p l e R s m args below meth c H locs cells slots Q (F0 m (pc + 3) ls (.int (fi k) :: rest))) : W p l e R s m args below meth c H locs cells slots Q (F0 m pc ls (.ref o :: rest)) :=
  va_get (q0 := 0) hx hb K.1 inM K.2.1 K.2.2.1 hM.1 rfl K.2.2.2.1 k h40 (K.1 _ hl) (fun _ h => by rw [hT] at h; exact h) (mdF_N k hk) hdg kk
theorem M_geta (hx : p.tables.exec = Jvm.exec) (hb : c.code = cc) (K : mdC D cl tys ci tI tZ cI cZ s m args) (hM : mdW D cl A ci cI cZ o ad fi fa H) (k : Nat) {idx : Nat} (hl : Cond.fieldLink RM idx "ContinuationCoreModel" (TM k).2.1 (TM k).2.2.1 ∈ lw_g) (hdg : decode cc pc = .ok (.getfield idx, 3)) (hk : mdR k = true := by rfl) (h40 : k < 40 := by decide) (hT : (TM k).1 = "ContinuationCoreModel" := by rfl)
    (kk : W p l e R s m args below meth c H locs cells slots Q (F0 m (pc + 3) ls (.ref (ad k) :: rest))) : W p l e R s m args below meth c H locs cells slots Q (F0 m pc ls (.ref o :: rest)) :=
  va_get (q0 := 0) hx hb K.1 inM K.2.1 K.2.2.1 hM.1 rfl K.2.2.2.1 k h40 (K.1 _ hl) (fun _ h => by rw [hT] at h; exact h) (mdF_R k hk) hdg kk
theorem M_puti (hx : p.tables.exec = Jvm.exec) (hb : c.code = cc) (K : mdC D cl tys ci tI tZ cI cZ s m args) (hM : mdW D cl A ci cI cZ o ad fi fa H) (hS : va_S A H0 H locs) (k : Nat) {idx : Nat} {v : Int32} (hl : Cond.fieldLink RM idx "ContinuationCoreModel" (TM k).2.1 (TM k).2.2.1 ∈ lw_g) (hdg : decode cc pc = .ok (.putfield idx, 3)) (hk : mdN k = true := by rfl) (h40 : k < 40 := by decide) (hT : (TM k).1 = "ContinuationCoreModel" := by rfl) (hf : (TM k).2.2.2 = false := by rfl) (hd : parseFieldDescriptor (TM k).2.2.1 = some .int := by decide +kernel)
    (kk : ∀ (H1 : Heap) (locs1 : List Loc), mdW D cl A ci cI cZ o ad (va_up fi k v) fa H1 → va_S A H0 H1 locs1 → W p l e R s m args below meth c H1 locs1 cells slots Q (F0 m (pc + 3) ls rest)) : W p l e R s m args below meth c H locs cells slots Q (F0 m pc ls (.int v :: .ref o :: rest)) := by
  refine va_put (q0 := 0) hx hb K.1 inM tyM tyM_ok nmM K.2.1 K.2.2.1 hM.1 hM.2 hS rfl K.2.2.2.1 k h40 (K.1 _ hl) (fun _ h => by rw [hT] at h; exact h) hf hd rfl rfl (by show k < 40; exact h40) hdg (fun H1 locs1 p1 d1 s1 => kk H1 locs1 ⟨?_, ?_⟩ s1)
  · rw [mdF_set k hk] at p1; exact p1
  · rw [mdF_set k hk] at d1; exact d1
theorem M_ald (hx : p.tables.exec = Jvm.exec) (hb : c.code = cc) (K : mdC D cl tys ci tI tZ cI cZ s m args) (hM : mdW D cl A ci cI cZ o ad fi fa H) (k : Nat) {i : Int32} (hin : vp_in i (mdZ k)) (hdg : decode cc pc = .ok (.iaload, 1)) (hk : mdI k = true := by rfl)
    (kk : W p l e R s m args below meth c H locs cells slots Q (F0 m (pc + 1) ls (.int (fa k i.toNatClampNeg) :: rest))) : W p l e R s m args below meth c H locs cells slots Q (F0 m pc ls (.int i :: .ref (ad k) :: rest)) :=
  va_iald hx hb K.2.2.1 hM.1 (mdO k) tI (mdL_I k hk) K.2.2.2.2.1 hin hdg kk
theorem M_ast (hx : p.tables.exec = Jvm.exec) (hb : c.code = cc) (K : mdC D cl tys ci tI tZ cI cZ s m args) (hM : mdW D cl A ci cI cZ o ad fi fa H) (hS : va_S A H0 H locs) (k : Nat) {i x : Int32} (hin : vp_in i (mdZ k)) (hdg : decode cc pc = .ok (.iastore, 1)) (hk : mdI k = true := by rfl)
    (kk : ∀ (H1 : Heap) (locs1 : List Loc), mdW D cl A ci cI cZ o ad fi (va_up fa k (upd (fa k) i.toNatClampNeg x)) H1 → va_S A H0 H1 locs1 → W p l e R s m args below meth c H1 locs1 cells slots Q (F0 m (pc + 1) ls rest)) : W p l e R s m args below meth c H locs cells slots Q (F0 m pc ls (.int x :: .int i :: .ref (ad k) :: rest)) :=
  va_iast hx hb K.2.2.1 hM.1 hM.2 hS (mdO k) tI (mdL_I k hk) K.2.2.2.2.1 hin hdg (fun H1 locs1 p1 d1 s1 => kk H1 locs1 ⟨by rw [mdL_set k hk] at p1; exact p1, by rw [mdL_set k hk] at d1; exact d1⟩ s1)
end MROWS
/-- a method of the reference: its start, its end -/
def mdPre (D : va_G) (cl : List vw_C) (tys : List (ClassId × FieldType)) (A : Nat → Prop) (ci tI tZ : Nat) (cI cZ : ClassId) (o : Nat) (ad : Nat → Nat) (fi : Nat → Int32) (fa : Nat → Nat → Int32) : State → Prop := fun U => mdW D cl A ci cI cZ o ad fi fa U.heap ∧ va_K D cl tys U ∧ cl[ci]? = some (RM, TM, 40) ∧ tys[tI]? = some (cI, .int) ∧ tys[tZ]? = some (cZ, .boolean)
def mdB (D : va_G) (cl : List vw_C) (tys : List (ClassId × FieldType)) (A : Nat → Prop) (ci : Nat) (cI cZ : ClassId) (o : Nat) (ad : Nat → Nat) : (Nat → Int32) × (Nat → Nat → Int32) → State → Prop := fun S t => mdW D cl A ci cI cZ o ad S.1 S.2 t.heap ∧ va_K D cl tys t
theorem lw_goodIn (c0 : Cond) {c1 : Cond} (h : c1 ∈ lw_g) : GoodIn (c0 :: lw_g) (c1 :: lw_g) := fun w hw => by
  have hm : w ∈ lw_g := by
    rcases List.mem_cons.mp hw with e | e
    · rw [e]; exact h
    · exact e
  exact ⟨List.mem_cons_of_mem _ hm, good_of_word (lw_good hm)⟩
theorem mdPre.blind {D : va_G} {cl : List vw_C} {tys : List (ClassId × FieldType)} {A : Nat → Prop} {ci tI tZ : Nat} {cI cZ : ClassId} {o : Nat} {ad : Nat → Nat} {fi : Nat → Int32} {fa : Nat → Nat → Int32} {av : List Value} : FrameBlind (va_Pc av (mdPre D cl tys A ci tI tZ cI cZ o ad fi fa)) := fun a U g mk q => by
  obtain ⟨q0, q1, q2, q3⟩ := q
  exact ⟨q0, q1, va_K.moved (u := U) (U := U.calling g mk a) (Vm.Alike.refl U.vm) q2, q3⟩
section MCALLS
variable {p : Program} {l : Launch} {e : Env} {R : Room} {s : State} {m : MethodId} {args : Array Value} {below : List Frame} {meth : Method} {c : Code} {H : Heap} {locs : List Loc} {cells slots : Nat} {Q : State → Prop}
variable {cc : ByteArray} {pc : Nat} {ls : Array Slot} {rest : List Value} {D : va_G} {cl : List vw_C} {A : Nat → Prop} {tys : List (ClassId × FieldType)} {H0 : Heap} {ci tI tZ : Nat} {cI cZ : ClassId} {o : Nat} {ad : Nat → Nat} {fi : Nat → Int32} {fa : Nat → Nat → Int32}
/-- a call of a method of the reference's own, by itself -/
theorem M_run {y : MethodName} {bytes : ByteArray} {maxL idx n nL mc ms : Nat} {ret : Option FieldType} {rm : Room} {Qc : Array Value → State → Outcome → State → Prop} {As : List Value} (hx : p.tables.exec = Jvm.exec) (hb : c.code = cc) (hml : c.maxLocals = nL) (K : mdC D cl tys ci tI tZ cI cZ s m args) (hM : mdW D cl A ci cI cZ o ad fi fa H)
    (hC : Met l y (.code y bytes maxL ret :: lw_g) rm (va_Pc (.ref o :: As) (mdPre D cl tys A ci tI tZ cI cZ o ad fi fa)) Qc mc ms A)
    (hcode : Cond.code y bytes maxL ret ∈ lw_g) (hlink : Cond.methodLink RM idx y ∈ lw_g) (hins : Cond.instanceMethod y ∈ lw_g) (hsel : Cond.selects RM y y ∈ lw_g) (hrc : rm.cells = mc) (hrs : rm.slots = ms) (hd : y.cls = RM ∧ (parseMethodDescriptor y.desc).map (fun d => d.parameters.length) = some n) (hR : rm.frames + 1 ≤ R.frames ∧ 8 + (maxL + 11) + rm.locals ≤ R.locals)
    (hn : As.length = n) (hsize : ls.size = nL) {st : List Value} (hst : st = As.reverse ++ .ref o :: rest) (hW : 2 * (F0 m pc ls st).monitorRoom + (rest.map fun v => v.category).sum ≤ 8) (hdg : decode cc pc = .ok (.invokevirtual idx, 3)) (hf : cells + mc ≤ R.cells ∧ slots + ms ≤ R.slots) :
    va_Run p l e R s m args below meth c H locs cells slots mc ms (F0 m pc ls st) rest (Qc (Value.ref o :: As).toArray) A := by
  obtain ⟨hts, hown, hK, hc, hI, hZ⟩ := K
  have hmh : y.cls ≠ "java/lang/invoke/MethodHandle" ∧ y.cls ≠ "java/lang/invoke/VarHandle" := by rw [hd.1]; decide
  refine va_runV (Ts := .code y bytes maxL ret :: lw_g) (own := RM) (C := RM) (nL := nL) (bytes := bytes) (maxL := maxL) (ret := ret) (n := n) ⟨hx, hb, hml, hown, fun w h => ?_⟩ hC ⟨callB_of n (Ts := .code y bytes maxL ret :: lw_g) (fun w h => ?_) (lw_goodIn _ hcode) rfl hrc hrs ?_ (hts _ hlink) ⟨hmh.1, hmh.2, hd.2⟩ hR, hts _ hins, hts _ hsel⟩ ⟨mdPre.blind, va_recv hK hM.1 hc (q0 := 0) rfl, fun U hU hW => ⟨rfl, by rw [hU]; exact hM, va_K.moved hW.alike hK, hc, hI, hZ⟩⟩ rfl hn hsize hst hW hdg hf
  · rcases List.mem_cons.mp h with e | e
    · rw [e]; exact hts _ hcode
    · exact hts w e
  · rcases List.mem_cons.mp h with e | e
    · rw [e]; exact hts _ hcode
    · exact hts w e
  · rw [hd.1]; exact hts _ kM_ini
end MCALLS
end
section
section MROW2
variable {p : Program} {l : Launch} {e : Env} {R : Room} {s : State} {m : MethodId} {args : Array Value} {below : List Frame} {meth : Method} {c : Code} {H : Heap} {locs : List Loc} {cells slots : Nat} {Q : State → Prop}
variable {cc : ByteArray} {pc : Nat} {ls : Array Slot} {rest : List Value} {D : va_G} {cl : List vw_C} {A : Nat → Prop} {tys : List (ClassId × FieldType)} {H0 : Heap} {ci tI tZ : Nat} {cI cZ : ClassId} {o : Nat} {ad : Nat → Nat} {fi : Nat → Int32} {fa : Nat → Nat → Int32}
theorem lv_as {z v : Int32} (hv : z = v) (k : W p l e R s m args below meth c H locs cells slots Q (F0 m pc ls (.int v :: rest))) : W p l e R s m args below meth c H locs cells slots Q (F0 m pc ls (.int z :: rest)) := by rw [hv]; exact k
theorem M_getv (hx : p.tables.exec = Jvm.exec) (hb : c.code = cc) (K : mdC D cl tys ci tI tZ cI cZ s m args) (hM : mdW D cl A ci cI cZ o ad fi fa H) (k : Nat) {v : Int32} (hv : fi k = v) {idx : Nat} (hl : Cond.fieldLink RM idx "ContinuationCoreModel" (TM k).2.1 (TM k).2.2.1 ∈ lw_g) (hdg : decode cc pc = .ok (.getfield idx, 3)) (hk : mdN k = true := by rfl) (h40 : k < 40 := by decide) (hT : (TM k).1 = "ContinuationCoreModel" := by rfl)
    (kk : W p l e R s m args below meth c H locs cells slots Q (F0 m (pc + 3) ls (.int v :: rest))) : W p l e R s m args below meth c H locs cells slots Q (F0 m pc ls (.ref o :: rest)) := by
  subst hv
  exact M_geti hx hb K hM k hl hdg hk h40 hT kk
theorem M_aldn (hx : p.tables.exec = Jvm.exec) (hb : c.code = cc) (K : mdC D cl tys ci tI tZ cI cZ s m args) (hM : mdW D cl A ci cI cZ o ad fi fa H) (k : Nat) {j : Nat} (hj : j < mdZ k) {v : Int32} (hv : fa k j = v) (hdg : decode cc pc = .ok (.iaload, 1)) (hk : mdI k = true := by rfl) (hz : mdZ k < 2 ^ 31 := by decide)
    (kk : W p l e R s m args below meth c H locs cells slots Q (F0 m (pc + 1) ls (.int v :: rest))) : W p l e R s m args below meth c H locs cells slots Q (F0 m pc ls (.int (nI j) :: .ref (ad k) :: rest)) := by
  subst hv
  refine M_ald hx hb K hM k (vp_in_nI hj hz) hdg hk ?_
  rw [nI_clamp (Nat.lt_trans hj hz)]
  exact kk
theorem M_astn (hx : p.tables.exec = Jvm.exec) (hb : c.code = cc) (K : mdC D cl tys ci tI tZ cI cZ s m args) (hM : mdW D cl A ci cI cZ o ad fi fa H) (hS : va_S A H0 H locs) (k : Nat) {j : Nat} {v : Int32} (hj : j < mdZ k) (hdg : decode cc pc = .ok (.iastore, 1)) (hk : mdI k = true := by rfl) (hz : mdZ k < 2 ^ 31 := by decide)
    (kk : ∀ (H1 : Heap) (locs1 : List Loc), mdW D cl A ci cI cZ o ad fi (va_up fa k (upd (fa k) j v)) H1 → va_S A H0 H1 locs1 → W p l e R s m args below meth c H1 locs1 cells slots Q (F0 m (pc + 1) ls rest)) : W p l e R s m args below meth c H locs cells slots Q (F0 m pc ls (.int v :: .int (nI j) :: .ref (ad k) :: rest)) := by
  refine M_ast hx hb K hM hS k (vp_in_nI hj hz) hdg hk (fun H1 locs1 h1 s1 => kk H1 locs1 ?_ s1)
  rw [nI_clamp (Nat.lt_trans hj hz)] at h1
  exact h1
theorem M_endi {post : Int32 → (Nat → Int32) × (Nat → Nat → Int32) → Prop} (hM : mdW D cl A ci cI cZ o ad fi fa H) (hK : va_K D cl tys s) (hS : va_S A s.heap H locs) {r : Int32} (hp : post r (fi, fa)) : ∀ t : State, t.heap = H → s.WarmedH t.vm → va_Qi post (mdB D cl tys A ci cI cZ o ad) A args s (.returned (some (.int r))) t := fun _ ht hW => ⟨⟨r, (fi, fa), rfl, hp, by rw [ht]; exact hM, va_K.moved hW.alike hK⟩, hS.F ht⟩
theorem M_endv {post : (Nat → Int32) × (Nat → Nat → Int32) → Prop} (hM : mdW D cl A ci cI cZ o ad fi fa H) (hK : va_K D cl tys s) (hS : va_S A s.heap H locs) (hp : post (fi, fa)) : ∀ t : State, t.heap = H → s.WarmedH t.vm → va_Qv post (mdB D cl tys A ci cI cZ o ad) A args s (.returned none) t := fun _ ht hW => ⟨⟨(fi, fa), rfl, hp, by rw [ht]; exact hM, va_K.moved hW.alike hK⟩, hS.F ht⟩
end MROW2
set_option maxHeartbeats 4000000 in
set_option maxRecDepth 100000 in
theorem c_fail (l : Launch) (D : va_G) (cl : List vw_C) (tys : List (ClassId × FieldType)) (A : Nat → Prop) (ci tI tZ : Nat) (cI cZ : ClassId) (o : Nat) (ad : Nat → Nat) (fi : Nat → Int32) (fa : Nat → Nat → Int32) (k : Int32) :
    Met l yM_fail (.code yM_fail bM_fail 2 (some .int) :: lw_g) ({ frames := 0, cells := 0, slots := 0, locals := 0 }) (va_Pc [.ref o, .int k] (mdPre D cl tys A ci tI tZ cI cZ o ad fi fa)) (va_Qi (fun r S => r = 0 ∧ S = (va_up fi 0 k, fa)) (mdB D cl tys A ci cI cZ o ad) A) 0 0 A := by
  refine Met.ofW (cc := bM_fail) (maxL := 2) (ret := (some .int)) (by decide) rfl ?_
  intro p e s m args below meth c s₁ B hml hv
  obtain ⟨rfl, hM, hK, hc, hI, hZ⟩ := hv
  have hx := B.exec
  have hb := B.bytes
  have hr := B.returns
  have hts := atoms_spec (ws := (.code yM_fail bM_fail 2 (some .int) :: lw_g)) B.pre
  have hown : s.vm.findClass RM = some m.cls := findClass_of_methodNamed B.named
  have K : mdC D cl tys ci tI tZ cI cZ s m _ := ⟨fun w h => hts w (List.mem_cons_of_mem _ h), hown, hK, hc, hI, hZ⟩
  have hlocks := B.notSynchronized
  have hS : va_S A s.heap s.heap [] := va_S.rf
  have hl := lv_entry ([.ref o, .int k]) (n := 2) (Nat.le_of_ble_eq_true rfl)
  rw [lg_entry_eq]
  generalize (lg_sl ([.ref o, .int k]) ++ List.replicate (2 - (lg_sl ([.ref o, .int k])).length) Slot.unset).toArray = ls at hl ⊢
  have hl : lv_has ls 2 [(0, .ref o), (1, .int k)] := hl
  refine lv_aload_n hx hb dM_fail_0 rfl (lv_at hl 0 rfl) ?_
  refine lv_iload_n hx hb dM_fail_1 rfl (lv_at hl 1 rfl) ?_
  refine M_puti hx hb K hM hS 0 kM_f77 dM_fail_2 (kk := fun H locs hM hS => ?_)
  refine lv_iconst (v := 0) hx hb dM_fail_5 (by decide) ?_
  refine W.iret (v := (0)) hx hb hr (M_endi hM hK hS ?_) hS.2.2 dM_fail_6
  exact ⟨rfl, rfl⟩
/-- a new node: its three rows -/
def md_node (fa : Nat → Nat → Int32) (n : Nat) (c : Int32) : Nat → Nat → Int32 := va_up (va_up (va_up fa 9 (upd (fa 9) n c)) 10 (upd (fa 10) n 0)) 11 (upd (fa 11) n 0)
set_option maxHeartbeats 4000000 in
set_option maxRecDepth 100000 in
theorem c_newNode (l : Launch) (D : va_G) (cl : List vw_C) (tys : List (ClassId × FieldType)) (A : Nat → Prop) (ci tI tZ : Nat) (cI cZ : ClassId) (o : Nat) (ad : Nat → Nat) (fi : Nat → Int32) (fa : Nat → Nat → Int32) (k : Int32) (n : Nat) (hn : fi 13 = nI n) (hlt : n < 120) :
    Met l yM_newNode (.code yM_newNode bM_newNode 2 (some .int) :: lw_g) ({ frames := 0, cells := 0, slots := 0, locals := 0 }) (va_Pc [.ref o, .int k] (mdPre D cl tys A ci tI tZ cI cZ o ad fi fa)) (va_Qi (fun r S => r = nI n ∧ S = (va_up fi 13 (nI (n + 1)), md_node fa n k)) (mdB D cl tys A ci cI cZ o ad) A) 0 0 A := by
  refine Met.ofW (cc := bM_newNode) (maxL := 2) (ret := (some .int)) (by decide) rfl ?_
  intro p e s m args below meth c s₁ B hml hv
  obtain ⟨rfl, hM, hK, hc, hI, hZ⟩ := hv
  have hx := B.exec
  have hb := B.bytes
  have hr := B.returns
  have hts := atoms_spec (ws := (.code yM_newNode bM_newNode 2 (some .int) :: lw_g)) B.pre
  have hown : s.vm.findClass RM = some m.cls := findClass_of_methodNamed B.named
  have K : mdC D cl tys ci tI tZ cI cZ s m _ := ⟨fun w h => hts w (List.mem_cons_of_mem _ h), hown, hK, hc, hI, hZ⟩
  have hlocks := B.notSynchronized
  have hS : va_S A s.heap s.heap [] := va_S.rf
  have hl := lv_entry ([.ref o, .int k]) (n := 2) (Nat.le_of_ble_eq_true rfl)
  rw [lg_entry_eq]
  generalize (lg_sl ([.ref o, .int k]) ++ List.replicate (2 - (lg_sl ([.ref o, .int k])).length) Slot.unset).toArray = ls at hl ⊢
  have hl : lv_has ls 2 [(0, .ref o), (1, .int k)] := hl
  refine lv_aload_n hx hb dM_newNode_0 rfl (lv_at hl 0 rfl) ?_
  refine M_geta hx hb K hM 9 kM_f25 dM_newNode_1 (kk := ?_)
  refine lv_aload_n hx hb dM_newNode_4 rfl (lv_at hl 0 rfl) ?_
  refine M_getv hx hb K hM 13 (v := nI n) hn kM_f81 dM_newNode_5 (kk := ?_)
  refine lv_iload_n hx hb dM_newNode_8 rfl (lv_at hl 1 rfl) ?_
  refine M_astn hx hb K hM hS 9 (j := n) hlt dM_newNode_9 (kk := fun H locs hM hS => ?_)
  refine lv_aload_n hx hb dM_newNode_10 rfl (lv_at hl 0 rfl) ?_
  refine M_geta hx hb K hM 10 kM_f28 dM_newNode_11 (kk := ?_)
  refine lv_aload_n hx hb dM_newNode_14 rfl (lv_at hl 0 rfl) ?_
  refine M_getv hx hb K hM 13 (v := nI n) hn kM_f81 dM_newNode_15 (kk := ?_)
  refine lv_iconst (v := 0) hx hb dM_newNode_18 (by decide) ?_
  refine M_astn hx hb K hM hS 10 (j := n) hlt dM_newNode_19 (kk := fun H locs hM hS => ?_)
  refine lv_aload_n hx hb dM_newNode_20 rfl (lv_at hl 0 rfl) ?_
  refine M_geta hx hb K hM 11 kM_f31 dM_newNode_21 (kk := ?_)
  refine lv_aload_n hx hb dM_newNode_24 rfl (lv_at hl 0 rfl) ?_
  refine M_getv hx hb K hM 13 (v := nI n) hn kM_f81 dM_newNode_25 (kk := ?_)
  refine lv_iconst (v := 0) hx hb dM_newNode_28 (by decide) ?_
  refine M_astn hx hb K hM hS 11 (j := n) hlt dM_newNode_29 (kk := fun H locs hM hS => ?_)
  refine lv_aload_n hx hb dM_newNode_30 rfl (lv_at hl 0 rfl) ?_
  refine lv_dup hx hb dM_newNode_31 rfl ?_
  refine M_getv hx hb K hM 13 (v := nI n) hn kM_f81 dM_newNode_32 (kk := ?_)
  refine lv_iconst (v := 1) hx hb dM_newNode_35 (by decide) ?_
  refine lv_iadd hx hb dM_newNode_36 ?_
  refine lv_as (v := nI (n + 1)) (nI_1 n) ?_
  refine M_puti hx hb K hM hS 13 kM_f81 dM_newNode_37 (kk := fun H locs hM hS => ?_)
  refine lv_aload_n hx hb dM_newNode_40 rfl (lv_at hl 0 rfl) ?_
  refine M_getv hx hb K hM 13 (v := nI (n + 1)) rfl kM_f81 dM_newNode_41 (kk := ?_)
  refine lv_iconst (v := 1) hx hb dM_newNode_44 (by decide) ?_
  refine lv_isub hx hb dM_newNode_45 ?_
  refine lv_as (v := nI n) (nI_pred n) ?_
  refine W.iret (v := (nI n)) hx hb hr (M_endi hM hK hS ?_) hS.2.2 dM_newNode_46
  exact ⟨rfl, rfl⟩
end
section
set_option maxHeartbeats 4000000 in
set_option maxRecDepth 100000 in
theorem c_attach0 (l : Launch) (D : va_G) (cl : List vw_C) (tys : List (ClassId × FieldType)) (A : Nat → Prop) (ci tI tZ : Nat) (cI cZ : ClassId) (o : Nat) (ad : Nat → Nat) (fi : Nat → Int32) (fa : Nat → Nat → Int32) (k : Int32) (hd : fi 7 = 0) :
    Met l yM_attach (.code yM_attach bM_attach 3 none :: lw_g) ({ frames := 0, cells := 0, slots := 0, locals := 0 }) (va_Pc [.ref o, .int k] (mdPre D cl tys A ci tI tZ cI cZ o ad fi fa)) (va_Qv (fun S => S = (va_up fi 8 6, fa)) (mdB D cl tys A ci cI cZ o ad) A) 0 0 A := by
  refine Met.ofW (cc := bM_attach) (maxL := 3) (ret := none) (by decide) rfl ?_
  intro p e s m args below meth c s₁ B hml hv
  obtain ⟨rfl, hM, hK, hc, hI, hZ⟩ := hv
  have hx := B.exec
  have hb := B.bytes
  have hr := B.returns
  have hts := atoms_spec (ws := (.code yM_attach bM_attach 3 none :: lw_g)) B.pre
  have hown : s.vm.findClass RM = some m.cls := findClass_of_methodNamed B.named
  have K : mdC D cl tys ci tI tZ cI cZ s m _ := ⟨fun w h => hts w (List.mem_cons_of_mem _ h), hown, hK, hc, hI, hZ⟩
  have hlocks := B.notSynchronized
  have hS : va_S A s.heap s.heap [] := va_S.rf
  have hl := lv_entry ([.ref o, .int k]) (n := 3) (Nat.le_of_ble_eq_true rfl)
  rw [lg_entry_eq]
  generalize (lg_sl ([.ref o, .int k]) ++ List.replicate (3 - (lg_sl ([.ref o, .int k])).length) Slot.unset).toArray = ls at hl ⊢
  have hl : lv_has ls 3 [(0, .ref o), (1, .int k)] := hl
  refine lv_aload_n hx hb dM_attach_0 rfl (lv_at hl 0 rfl) ?_
  refine M_getv hx hb K hM 7 (v := 0) hd kM_f84 dM_attach_1 (kk := ?_)
  refine lv_if_ne (tgt := 14) hx hb dM_attach_4 (by decide) (fun c_4 => absurd rfl c_4) (fun c_4 => ?_)
  refine lv_aload_n hx hb dM_attach_7 rfl (lv_at hl 0 rfl) ?_
  refine lv_bipush (v := 6) hx hb dM_attach_8 (by decide) ?_
  refine M_puti hx hb K hM hS 8 kM_f87 dM_attach_10 (kk := fun H locs hM hS => ?_)
  refine W.vret hx hb hr (M_endv hM hK hS ?_) hS.2.2 dM_attach_13
  exact rfl
set_option maxHeartbeats 4000000 in
set_option maxRecDepth 100000 in
theorem c_attachS (l : Launch) (D : va_G) (cl : List vw_C) (tys : List (ClassId × FieldType)) (A : Nat → Prop) (ci tI tZ : Nat) (cI cZ : ClassId) (o : Nat) (ad : Nat → Nat) (fi : Nat → Int32) (fa : Nat → Nat → Int32) (k : Int32) (d op pt : Nat) (hd : fi 7 = nI (d + 1)) (hd12 : d < 12) (hop : fa 3 d = nI op) (hop2 : op < 120) (hpt : fa 4 d = nI pt) (hpt4 : pt < 4) :
    Met l yM_attach (.code yM_attach bM_attach 3 none :: lw_g) ({ frames := 0, cells := 0, slots := 0, locals := 0 }) (va_Pc [.ref o, .int k] (mdPre D cl tys A ci tI tZ cI cZ o ad fi fa)) (va_Qv (fun S => ∃ g, S = (va_up fi 8 0, va_up (va_up fa 12 g) 4 (upd (fa 4) d (nI (pt + 1))))) (mdB D cl tys A ci cI cZ o ad) A) 0 0 A := by
  refine Met.ofW (cc := bM_attach) (maxL := 3) (ret := none) (by decide) rfl ?_
  intro p e s m args below meth c s₁ B hml hv
  obtain ⟨rfl, hM, hK, hc, hI, hZ⟩ := hv
  have hx := B.exec
  have hb := B.bytes
  have hr := B.returns
  have hts := atoms_spec (ws := (.code yM_attach bM_attach 3 none :: lw_g)) B.pre
  have hown : s.vm.findClass RM = some m.cls := findClass_of_methodNamed B.named
  have K : mdC D cl tys ci tI tZ cI cZ s m _ := ⟨fun w h => hts w (List.mem_cons_of_mem _ h), hown, hK, hc, hI, hZ⟩
  have hlocks := B.notSynchronized
  have hS : va_S A s.heap s.heap [] := va_S.rf
  have hl := lv_entry ([.ref o, .int k]) (n := 3) (Nat.le_of_ble_eq_true rfl)
  rw [lg_entry_eq]
  generalize (lg_sl ([.ref o, .int k]) ++ List.replicate (3 - (lg_sl ([.ref o, .int k])).length) Slot.unset).toArray = ls at hl ⊢
  have hl : lv_has ls 3 [(0, .ref o), (1, .int k)] := hl
  refine lv_aload_n hx hb dM_attach_0 rfl (lv_at hl 0 rfl) ?_
  refine M_getv hx hb K hM 7 (v := nI (d + 1)) hd kM_f84 dM_attach_1 (kk := ?_)
  refine lv_if_ne (tgt := 14) hx hb dM_attach_4 (by decide) (fun c_4 => ?_) (fun c_4 => absurd c_4 (nI_ne0 (Nat.succ_pos d) (by omega)))
  refine lv_aload_n hx hb dM_attach_14 rfl (lv_at hl 0 rfl) ?_
  refine M_getv hx hb K hM 7 (v := nI (d + 1)) hd kM_f84 dM_attach_15 (kk := ?_)
  refine lv_iconst (v := 1) hx hb dM_attach_18 (by decide) ?_
  refine lv_isub hx hb dM_attach_19 ?_
  refine lv_as (v := nI d) (nI_pred d) ?_
  refine lv_istore_n (lv' := [(2, .int (nI d)), (0, .ref o), (1, .int k)]) hx hb dM_attach_20 rfl hl (by decide) rfl (fun ls hl => ?_)
  refine lv_aload_n hx hb dM_attach_21 rfl (lv_at hl 1 rfl) ?_
  refine M_geta hx hb K hM 4 kM_f16 dM_attach_22 (kk := ?_)
  refine lv_iload_n hx hb dM_attach_25 rfl (lv_at hl 0 rfl) ?_
  refine M_aldn hx hb K hM 4 (j := d) (show d < 13 by omega) (v := nI pt) hpt dM_attach_26 (kk := ?_)
  refine lv_iconst (v := 4) hx hb dM_attach_27 (by decide) ?_
  refine lv_icmp_ge (tgt := 52) hx hb dM_attach_28 (by decide) (fun c_28 => absurd c_28 (nI_ge (b := 4) hpt4 (by decide))) (fun c_28 => ?_)
  refine lv_aload_n hx hb dM_attach_31 rfl (lv_at hl 1 rfl) ?_
  refine M_geta hx hb K hM 12 kM_f34 dM_attach_32 (kk := ?_)
  refine lv_iconst (v := 4) hx hb dM_attach_35 (by decide) ?_
  refine lv_aload_n hx hb dM_attach_36 rfl (lv_at hl 1 rfl) ?_
  refine M_geta hx hb K hM 3 kM_f13 dM_attach_37 (kk := ?_)
  refine lv_iload_n hx hb dM_attach_40 rfl (lv_at hl 0 rfl) ?_
  refine M_aldn hx hb K hM 3 (j := d) (show d < 13 by omega) (v := nI op) hop dM_attach_41 (kk := ?_)
  refine lv_imul hx hb dM_attach_42 ?_
  refine lv_as (v := nI (4 * op)) (pk_mul 4 op) ?_
  refine lv_aload_n hx hb dM_attach_43 rfl (lv_at hl 1 rfl) ?_
  refine M_geta hx hb K hM 4 kM_f16 dM_attach_44 (kk := ?_)
  refine lv_iload_n hx hb dM_attach_47 rfl (lv_at hl 0 rfl) ?_
  refine M_aldn hx hb K hM 4 (j := d) (show d < 13 by omega) (v := nI pt) hpt dM_attach_48 (kk := ?_)
  refine lv_iadd hx hb dM_attach_49 ?_
  refine lv_as (v := nI (4 * op + pt)) (nI_add _ _) ?_
  refine lv_iload_n hx hb dM_attach_50 rfl (lv_at hl 2 rfl) ?_
  refine M_astn hx hb K hM hS 12 (j := 4 * op + pt) (show 4 * op + pt < 480 by omega) dM_attach_51 (kk := fun H locs hM hS => ?_)
  refine lv_aload_n hx hb dM_attach_52 rfl (lv_at hl 1 rfl) ?_
  refine M_geta hx hb K hM 4 kM_f16 dM_attach_53 (kk := ?_)
  refine lv_iload_n hx hb dM_attach_56 rfl (lv_at hl 0 rfl) ?_
  refine lv_dup2_11 hx hb dM_attach_57 rfl rfl ?_
  refine M_aldn hx hb K hM 4 (j := d) (show d < 13 by omega) (v := nI pt) hpt dM_attach_58 (kk := ?_)
  refine lv_iconst (v := 1) hx hb dM_attach_59 (by decide) ?_
  refine lv_iadd hx hb dM_attach_60 ?_
  refine lv_as (v := nI (pt + 1)) (nI_1 pt) ?_
  refine M_astn hx hb K hM hS 4 (j := d) (show d < 13 by omega) dM_attach_61 (kk := fun H locs hM hS => ?_)
  refine lv_aload_n hx hb dM_attach_62 rfl (lv_at hl 1 rfl) ?_
  refine lv_iconst (v := 0) hx hb dM_attach_63 (by decide) ?_
  refine M_puti hx hb K hM hS 8 kM_f87 dM_attach_64 (kk := fun H locs hM hS => ?_)
  refine W.vret hx hb hr (M_endv hM hK hS ?_) hS.2.2 dM_attach_67
  exact ⟨_, rfl⟩
/-- how many parts a form with this sign has, 0: no such sign -/
def md_ar (c : Int32) : Int32 := if c = 43 ∨ c = 45 ∨ c = 42 ∨ c = 47 ∨ c = 60 ∨ c = 61 ∨ c = 58 ∨ c = 38 ∨ c = 64 ∨ c = 37 then 2 else if c = 65 ∨ c = 68 ∨ c = 80 ∨ c = 94 ∨ c = 33 ∨ c = 92 then 1 else if c = 63 then 3 else 0
set_option maxHeartbeats 4000000 in
set_option maxRecDepth 100000 in
theorem c_arity (l : Launch) (D : va_G) (cl : List vw_C) (tys : List (ClassId × FieldType)) (A : Nat → Prop) (ci tI tZ : Nat) (cI cZ : ClassId) (o : Nat) (ad : Nat → Nat) (fi : Nat → Int32) (fa : Nat → Nat → Int32) (k : Int32) :
    Met l yM_arity (.code yM_arity bM_arity 2 (some .int) :: lw_g) ({ frames := 0, cells := 0, slots := 0, locals := 0 }) (va_Pc [.ref o, .int k] (mdPre D cl tys A ci tI tZ cI cZ o ad fi fa)) (va_Qi (fun r S => r = md_ar k ∧ S = (fi, fa)) (mdB D cl tys A ci cI cZ o ad) A) 0 0 A := by
  refine Met.ofW (cc := bM_arity) (maxL := 2) (ret := (some .int)) (by decide) rfl ?_
  intro p e s m args below meth c s₁ B hml hv
  obtain ⟨rfl, hM, hK, hc, hI, hZ⟩ := hv
  have hx := B.exec
  have hb := B.bytes
  have hr := B.returns
  have hts := atoms_spec (ws := (.code yM_arity bM_arity 2 (some .int) :: lw_g)) B.pre
  have hown : s.vm.findClass RM = some m.cls := findClass_of_methodNamed B.named
  have K : mdC D cl tys ci tI tZ cI cZ s m _ := ⟨fun w h => hts w (List.mem_cons_of_mem _ h), hown, hK, hc, hI, hZ⟩
  have hlocks := B.notSynchronized
  have hS : va_S A s.heap s.heap [] := va_S.rf
  have hl := lv_entry ([.ref o, .int k]) (n := 2) (Nat.le_of_ble_eq_true rfl)
  rw [lg_entry_eq]
  generalize (lg_sl ([.ref o, .int k]) ++ List.replicate (2 - (lg_sl ([.ref o, .int k])).length) Slot.unset).toArray = ls at hl ⊢
  have hl : lv_has ls 2 [(0, .ref o), (1, .int k)] := hl
  refine lv_iload_n hx hb dM_arity_0 rfl (lv_at hl 1 rfl) ?_
  refine lv_bipush (v := 43) hx hb dM_arity_1 (by decide) ?_
  refine lv_icmp_eq (tgt := 60) hx hb dM_arity_3 (by decide) (fun c_3 => ?_) (fun c_3 => ?_)
  · skip
    refine lv_iconst (v := 2) hx hb dM_arity_60 (by decide) ?_
    refine W.iret (v := (2)) hx hb hr (M_endi hM hK hS ?_) hS.2.2 dM_arity_61
    exact ⟨by simp [md_ar, c_3], rfl⟩
  · skip
    refine lv_iload_n hx hb dM_arity_6 rfl (lv_at hl 1 rfl) ?_
    refine lv_bipush (v := 45) hx hb dM_arity_7 (by decide) ?_
    refine lv_icmp_eq (tgt := 60) hx hb dM_arity_9 (by decide) (fun c_9 => ?_) (fun c_9 => ?_)
    · skip
      refine lv_iconst (v := 2) hx hb dM_arity_60 (by decide) ?_
      refine W.iret (v := (2)) hx hb hr (M_endi hM hK hS ?_) hS.2.2 dM_arity_61
      exact ⟨by simp [md_ar, c_3, c_9], rfl⟩
    · skip
      refine lv_iload_n hx hb dM_arity_12 rfl (lv_at hl 1 rfl) ?_
      refine lv_bipush (v := 42) hx hb dM_arity_13 (by decide) ?_
      refine lv_icmp_eq (tgt := 60) hx hb dM_arity_15 (by decide) (fun c_15 => ?_) (fun c_15 => ?_)
      · skip
        refine lv_iconst (v := 2) hx hb dM_arity_60 (by decide) ?_
        refine W.iret (v := (2)) hx hb hr (M_endi hM hK hS ?_) hS.2.2 dM_arity_61
        exact ⟨by simp [md_ar, c_3, c_9, c_15], rfl⟩
      · skip
        refine lv_iload_n hx hb dM_arity_18 rfl (lv_at hl 1 rfl) ?_
        refine lv_bipush (v := 47) hx hb dM_arity_19 (by decide) ?_
        refine lv_icmp_eq (tgt := 60) hx hb dM_arity_21 (by decide) (fun c_21 => ?_) (fun c_21 => ?_)
        · skip
          refine lv_iconst (v := 2) hx hb dM_arity_60 (by decide) ?_
          refine W.iret (v := (2)) hx hb hr (M_endi hM hK hS ?_) hS.2.2 dM_arity_61
          exact ⟨by simp [md_ar, c_3, c_9, c_15, c_21], rfl⟩
        · skip
          refine lv_iload_n hx hb dM_arity_24 rfl (lv_at hl 1 rfl) ?_
          refine lv_bipush (v := 60) hx hb dM_arity_25 (by decide) ?_
          refine lv_icmp_eq (tgt := 60) hx hb dM_arity_27 (by decide) (fun c_27 => ?_) (fun c_27 => ?_)
          · skip
            refine lv_iconst (v := 2) hx hb dM_arity_60 (by decide) ?_
            refine W.iret (v := (2)) hx hb hr (M_endi hM hK hS ?_) hS.2.2 dM_arity_61
            exact ⟨by simp [md_ar, c_3, c_9, c_15, c_21, c_27], rfl⟩
          · skip
            refine lv_iload_n hx hb dM_arity_30 rfl (lv_at hl 1 rfl) ?_
            refine lv_bipush (v := 61) hx hb dM_arity_31 (by decide) ?_
            refine lv_icmp_eq (tgt := 60) hx hb dM_arity_33 (by decide) (fun c_33 => ?_) (fun c_33 => ?_)
            · skip
              refine lv_iconst (v := 2) hx hb dM_arity_60 (by decide) ?_
              refine W.iret (v := (2)) hx hb hr (M_endi hM hK hS ?_) hS.2.2 dM_arity_61
              exact ⟨by simp [md_ar, c_3, c_9, c_15, c_21, c_27, c_33], rfl⟩
            · skip
              refine lv_iload_n hx hb dM_arity_36 rfl (lv_at hl 1 rfl) ?_
              refine lv_bipush (v := 58) hx hb dM_arity_37 (by decide) ?_
              refine lv_icmp_eq (tgt := 60) hx hb dM_arity_39 (by decide) (fun c_39 => ?_) (fun c_39 => ?_)
              · skip
                refine lv_iconst (v := 2) hx hb dM_arity_60 (by decide) ?_
                refine W.iret (v := (2)) hx hb hr (M_endi hM hK hS ?_) hS.2.2 dM_arity_61
                exact ⟨by simp [md_ar, c_3, c_9, c_15, c_21, c_27, c_33, c_39], rfl⟩
              · skip
                refine lv_iload_n hx hb dM_arity_42 rfl (lv_at hl 1 rfl) ?_
                refine lv_bipush (v := 38) hx hb dM_arity_43 (by decide) ?_
                refine lv_icmp_eq (tgt := 60) hx hb dM_arity_45 (by decide) (fun c_45 => ?_) (fun c_45 => ?_)
                · skip
                  refine lv_iconst (v := 2) hx hb dM_arity_60 (by decide) ?_
                  refine W.iret (v := (2)) hx hb hr (M_endi hM hK hS ?_) hS.2.2 dM_arity_61
                  exact ⟨by simp [md_ar, c_3, c_9, c_15, c_21, c_27, c_33, c_39, c_45], rfl⟩
                · skip
                  refine lv_iload_n hx hb dM_arity_48 rfl (lv_at hl 1 rfl) ?_
                  refine lv_bipush (v := 64) hx hb dM_arity_49 (by decide) ?_
                  refine lv_icmp_eq (tgt := 60) hx hb dM_arity_51 (by decide) (fun c_51 => ?_) (fun c_51 => ?_)
                  · skip
                    refine lv_iconst (v := 2) hx hb dM_arity_60 (by decide) ?_
                    refine W.iret (v := (2)) hx hb hr (M_endi hM hK hS ?_) hS.2.2 dM_arity_61
                    exact ⟨by simp [md_ar, c_3, c_9, c_15, c_21, c_27, c_33, c_39, c_45, c_51], rfl⟩
                  · skip
                    refine lv_iload_n hx hb dM_arity_54 rfl (lv_at hl 1 rfl) ?_
                    refine lv_bipush (v := 37) hx hb dM_arity_55 (by decide) ?_
                    refine lv_icmp_ne (tgt := 62) hx hb dM_arity_57 (by decide) (fun c_57 => ?_) (fun c_57 => ?_)
                    · skip
                      refine lv_iload_n hx hb dM_arity_62 rfl (lv_at hl 1 rfl) ?_
                      refine lv_bipush (v := 65) hx hb dM_arity_63 (by decide) ?_
                      refine lv_icmp_eq (tgt := 98) hx hb dM_arity_65 (by decide) (fun c_65 => ?_) (fun c_65 => ?_)
                      · skip
                        refine lv_iconst (v := 1) hx hb dM_arity_98 (by decide) ?_
                        refine W.iret (v := (1)) hx hb hr (M_endi hM hK hS ?_) hS.2.2 dM_arity_99
                        exact ⟨by simp [md_ar, c_3, c_9, c_15, c_21, c_27, c_33, c_39, c_45, c_51, c_57, c_65], rfl⟩
                      · skip
                        refine lv_iload_n hx hb dM_arity_68 rfl (lv_at hl 1 rfl) ?_
                        refine lv_bipush (v := 68) hx hb dM_arity_69 (by decide) ?_
                        refine lv_icmp_eq (tgt := 98) hx hb dM_arity_71 (by decide) (fun c_71 => ?_) (fun c_71 => ?_)
                        · skip
                          refine lv_iconst (v := 1) hx hb dM_arity_98 (by decide) ?_
                          refine W.iret (v := (1)) hx hb hr (M_endi hM hK hS ?_) hS.2.2 dM_arity_99
                          exact ⟨by simp [md_ar, c_3, c_9, c_15, c_21, c_27, c_33, c_39, c_45, c_51, c_57, c_65, c_71], rfl⟩
                        · skip
                          refine lv_iload_n hx hb dM_arity_74 rfl (lv_at hl 1 rfl) ?_
                          refine lv_bipush (v := 80) hx hb dM_arity_75 (by decide) ?_
                          refine lv_icmp_eq (tgt := 98) hx hb dM_arity_77 (by decide) (fun c_77 => ?_) (fun c_77 => ?_)
                          · skip
                            refine lv_iconst (v := 1) hx hb dM_arity_98 (by decide) ?_
                            refine W.iret (v := (1)) hx hb hr (M_endi hM hK hS ?_) hS.2.2 dM_arity_99
                            exact ⟨by simp [md_ar, c_3, c_9, c_15, c_21, c_27, c_33, c_39, c_45, c_51, c_57, c_65, c_71, c_77], rfl⟩
                          · skip
                            refine lv_iload_n hx hb dM_arity_80 rfl (lv_at hl 1 rfl) ?_
                            refine lv_bipush (v := 94) hx hb dM_arity_81 (by decide) ?_
                            refine lv_icmp_eq (tgt := 98) hx hb dM_arity_83 (by decide) (fun c_83 => ?_) (fun c_83 => ?_)
                            · skip
                              refine lv_iconst (v := 1) hx hb dM_arity_98 (by decide) ?_
                              refine W.iret (v := (1)) hx hb hr (M_endi hM hK hS ?_) hS.2.2 dM_arity_99
                              exact ⟨by simp [md_ar, c_3, c_9, c_15, c_21, c_27, c_33, c_39, c_45, c_51, c_57, c_65, c_71, c_77, c_83], rfl⟩
                            · skip
                              refine lv_iload_n hx hb dM_arity_86 rfl (lv_at hl 1 rfl) ?_
                              refine lv_bipush (v := 33) hx hb dM_arity_87 (by decide) ?_
                              refine lv_icmp_eq (tgt := 98) hx hb dM_arity_89 (by decide) (fun c_89 => ?_) (fun c_89 => ?_)
                              · skip
                                refine lv_iconst (v := 1) hx hb dM_arity_98 (by decide) ?_
                                refine W.iret (v := (1)) hx hb hr (M_endi hM hK hS ?_) hS.2.2 dM_arity_99
                                exact ⟨by simp [md_ar, c_3, c_9, c_15, c_21, c_27, c_33, c_39, c_45, c_51, c_57, c_65, c_71, c_77, c_83, c_89], rfl⟩
                              · skip
                                refine lv_iload_n hx hb dM_arity_92 rfl (lv_at hl 1 rfl) ?_
                                refine lv_bipush (v := 92) hx hb dM_arity_93 (by decide) ?_
                                refine lv_icmp_ne (tgt := 100) hx hb dM_arity_95 (by decide) (fun c_95 => ?_) (fun c_95 => ?_)
                                · skip
                                  refine lv_iload_n hx hb dM_arity_100 rfl (lv_at hl 1 rfl) ?_
                                  refine lv_bipush (v := 63) hx hb dM_arity_101 (by decide) ?_
                                  refine lv_icmp_ne (tgt := 110) hx hb dM_arity_103 (by decide) (fun c_103 => ?_) (fun c_103 => ?_)
                                  · skip
                                    refine lv_iconst (v := 0) hx hb dM_arity_110 (by decide) ?_
                                    refine W.iret (v := (0)) hx hb hr (M_endi hM hK hS ?_) hS.2.2 dM_arity_111
                                    exact ⟨by simp [md_ar, c_3, c_9, c_15, c_21, c_27, c_33, c_39, c_45, c_51, c_57, c_65, c_71, c_77, c_83, c_89, c_95, c_103], rfl⟩
                                  · skip
                                    refine lv_iconst (v := 3) hx hb dM_arity_106 (by decide) ?_
                                    refine lv_goto (tgt := 111) hx hb dM_arity_107 (by decide) ?_
                                    refine W.iret (v := (3)) hx hb hr (M_endi hM hK hS ?_) hS.2.2 dM_arity_111
                                    exact ⟨by simp [md_ar, c_3, c_9, c_15, c_21, c_27, c_33, c_39, c_45, c_51, c_57, c_65, c_71, c_77, c_83, c_89, c_95, c_103], rfl⟩
                                · skip
                                  refine lv_iconst (v := 1) hx hb dM_arity_98 (by decide) ?_
                                  refine W.iret (v := (1)) hx hb hr (M_endi hM hK hS ?_) hS.2.2 dM_arity_99
                                  exact ⟨by simp [md_ar, c_3, c_9, c_15, c_21, c_27, c_33, c_39, c_45, c_51, c_57, c_65, c_71, c_77, c_83, c_89, c_95], rfl⟩
                    · skip
                      refine lv_iconst (v := 2) hx hb dM_arity_60 (by decide) ?_
                      refine W.iret (v := (2)) hx hb hr (M_endi hM hK hS ?_) hS.2.2 dM_arity_61
                      exact ⟨by simp [md_ar, c_3, c_9, c_15, c_21, c_27, c_33, c_39, c_45, c_51, c_57], rfl⟩
end
section
/-! THE REFERENCE'S SCANNER, as numbers: d brackets open, mode, n nodes, for each open level its parts, fewest, most; the names of the innermost closure, the digits of the number that the latest sign belongs to -/
def md_pk (nm : List Nat) : Nat := nm.length * 1048576 + nm.getD 0 0 + 32 * nm.getD 1 0 + 1024 * nm.getD 2 0
def mdQ (fi : Nat → Int32) (fa : Nat → Nat → Int32) (op : Nat → Nat) (d md n : Nat) (pt fw mo : Nat → Nat) (nm : List Nat) (dg : Nat) : Prop :=
  (fi 7 = nI d ∧ fi 8 = nI md ∧ fi 13 = nI n) ∧ (d ≤ 12 ∧ n ≤ 120 ∧ md ≤ 6 ∧ md ≠ 5) ∧
  (∀ j, j < d → (fa 3 j = nI (op j) ∧ op j < n) ∧ (fa 4 j = nI (pt j) ∧ fa 5 j = nI (fw j) ∧ fa 6 j = nI (mo j)) ∧ pt j ≤ mo j ∧ mo j ≤ 4 ∧ fw j ≤ 4) ∧
  (∀ j, j + 1 < d → pt j < mo j) ∧ (md = 3 → nm.length ≤ 3 ∧ (∀ a ∈ nm, a < 26) ∧ fa 11 (op (d - 1)) = nI (md_pk nm)) ∧ (md = 4 → 0 < n ∧ fa 11 (n - 1) = nI dg ∧ dg ≤ 4) ∧ (md = 1 ∨ md = 2 ∨ md = 3 → 0 < d) ∧ (md = 1 → fa 11 (op (d - 1)) = 0 ∧ pt (d - 1) = 0)
theorem upd_s {f : Nat → Int32} {k : Nat} {v : Int32} : upd f k v k = v := pk_us
theorem upd_n {f : Nat → Int32} {k j : Nat} {v : Int32} (h : j ≠ k) : upd f k v j = f j := pk_un h
theorem up_s {α : Type} (f : Nat → α) (k : Nat) (v : α) : va_up f k v k = v := va_up_self f k v
/-- a leaf at the outermost place -/
theorem mdQ_leaf0 {fi fi' : Nat → Int32} {fa fa' : Nat → Nat → Int32} {op : Nat → Nat} {md n : Nat} {pt fw mo : Nat → Nat} {nm : List Nat} {dg : Nat} (h : mdQ fi fa op 0 md n pt fw mo nm dg) (hn : n < 120) (m' dg' : Nat) (h7 : fi' 7 = fi 7) (h8 : fi' 8 = nI m') (h13 : fi' 13 = nI (n + 1)) (hm : m' = 6 ∨ (m' = 4 ∧ dg' ≤ 4 ∧ fa' 11 n = nI dg')) : mdQ fi' fa' op 0 m' (n + 1) pt fw mo nm dg' := by
  obtain ⟨⟨q1, q2, q3⟩, -⟩ := h
  refine ⟨⟨h7.trans q1, h8, h13⟩, ⟨by omega, by omega, by omega, by omega⟩, fun j hj => absurd hj (Nat.not_lt_zero j), fun j hj => absurd hj (Nat.not_lt_zero _), fun e => by omega, fun e => ?_, fun e => by omega, fun e => by omega⟩
  rcases hm with e2 | ⟨-, e2, e3⟩
  · omega
  · exact ⟨by omega, e3, e2⟩
/-- a leaf as a part of the innermost form -/
theorem mdQ_leafS {fi fi' : Nat → Int32} {fa fa' : Nat → Nat → Int32} {op : Nat → Nat} {d md n : Nat} {pt fw mo : Nat → Nat} {nm : List Nat} {dg : Nat} (h : mdQ fi fa op (d + 1) md n pt fw mo nm dg) (hn : n < 120) (hp : pt d < mo d) (m' dg' : Nat) (h7 : fi' 7 = fi 7) (h8 : fi' 8 = nI m') (h13 : fi' 13 = nI (n + 1))
    (h3 : fa' 3 = fa 3) (h4 : fa' 4 = upd (fa 4) d (nI (pt d + 1))) (h5 : fa' 5 = fa 5) (h6 : fa' 6 = fa 6) (hm : m' = 0 ∨ (m' = 4 ∧ dg' ≤ 4 ∧ fa' 11 n = nI dg')) : mdQ fi' fa' op (d + 1) m' (n + 1) (va_up pt d (pt d + 1)) fw mo nm dg' := by
  obtain ⟨⟨q1, q2, q3⟩, ⟨q4, q5, q6⟩, qL, qI, -⟩ := h
  refine ⟨⟨h7.trans q1, h8, h13⟩, ⟨q4, by omega, by omega, by omega⟩, fun j hj => ?_, fun j hj => ?_, fun e => by omega, fun e => ?_, fun e => by omega, fun e => by omega⟩
  · obtain ⟨⟨a1, a2⟩, ⟨a3, a4, a5⟩, a6, a7, a8⟩ := qL j hj
    rw [h3, h4, h5, h6]
    by_cases hj2 : j = d
    · subst hj2
      rw [up_s, upd_s]
      exact ⟨⟨a1, by omega⟩, ⟨rfl, a4, a5⟩, by omega, a7, a8⟩
    · rw [va_up_ne _ _ hj2, upd_n hj2]
      exact ⟨⟨a1, by omega⟩, ⟨a3, a4, a5⟩, a6, a7, a8⟩
  · have hj2 : j ≠ d := by omega
    rw [va_up_ne _ _ hj2]
    exact qI j hj
  · rcases hm with e2 | ⟨-, e2, e3⟩
    · omega
    · exact ⟨by omega, e3, e2⟩
/-- a form is opened -/
theorem mdQ_open {fi fi' : Nat → Int32} {fa fa' : Nat → Nat → Int32} {op : Nat → Nat} {d md n : Nat} {pt fw mo : Nat → Nat} {nm : List Nat} {dg : Nat} (h : mdQ fi fa op d md n pt fw mo nm dg) (hn : n < 120) (hd : d < 12) (hp : ∀ j, j + 1 = d → pt j < mo j) (h7 : fi' 7 = nI (d + 1)) (h8 : fi' 8 = nI 1) (h13 : fi' 13 = nI (n + 1))
    (h3 : fa' 3 = upd (fa 3) d (nI n)) (h4 : fa' 4 = upd (fa 4) d 0) (h5 : fa' 5 = upd (fa 5) d 1) (h6 : fa' 6 = upd (fa 6) d 4) (h11 : fa' 11 n = 0) : mdQ fi' fa' (va_up op d n) (d + 1) 1 (n + 1) (va_up pt d 0) (va_up fw d 1) (va_up mo d 4) nm dg := by
  obtain ⟨⟨q1, q2, q3⟩, ⟨q4, q5, q6⟩, qL, qI, -⟩ := h
  refine ⟨⟨h7, h8, h13⟩, ⟨by omega, by omega, by omega, by omega⟩, fun j hj => ?_, fun j hj => ?_, fun e => by omega, fun e => by omega, fun _ => by omega, fun _ => ?_⟩
  · rw [h3, h4, h5, h6]
    by_cases hj2 : j = d
    · subst hj2
      rw [up_s, up_s, up_s, up_s, upd_s, upd_s, upd_s, upd_s]
      exact ⟨⟨rfl, by omega⟩, ⟨rfl, rfl, rfl⟩, by omega, by omega, by omega⟩
    · obtain ⟨⟨a1, a2⟩, ⟨a3, a4, a5⟩, a6, a7, a8⟩ := qL j (by omega)
      rw [va_up_ne _ _ hj2, va_up_ne _ _ hj2, va_up_ne _ _ hj2, va_up_ne _ _ hj2, upd_n hj2, upd_n hj2, upd_n hj2, upd_n hj2]
      exact ⟨⟨a1, by omega⟩, ⟨a3, a4, a5⟩, a6, a7, a8⟩
  · have hj2 : j ≠ d := by omega
    rw [va_up_ne _ _ hj2, va_up_ne _ _ hj2]
    by_cases hj3 : j + 1 = d
    · exact hp j hj3
    · exact qI j (by omega)
  · show fa' 11 (va_up op d n (d + 1 - 1)) = 0 ∧ va_up pt d 0 (d + 1 - 1) = 0
    rw [Nat.add_sub_cancel, up_s, up_s]
    exact ⟨h11, rfl⟩
/-- the sign of a form -/
theorem mdQ_oper {fi fi' : Nat → Int32} {fa fa' : Nat → Nat → Int32} {op : Nat → Nat} {d n : Nat} {pt fw mo : Nat → Nat} {nm : List Nat} {dg : Nat} (h : mdQ fi fa op (d + 1) 1 n pt fw mo nm dg) (m' a : Nat) (hm : m' = 0 ∨ m' = 2 ∨ m' = 3) (ha : a ≤ 4) (h7 : fi' 7 = fi 7) (h8 : fi' 8 = nI m') (h13 : fi' 13 = fi 13)
    (h3 : fa' 3 = fa 3) (h4 : fa' 4 = fa 4) (h5 : fa' 5 = upd (fa 5) d (nI a)) (h6 : fa' 6 = upd (fa 6) d (nI a)) (h11 : fa' 11 = fa 11) : mdQ fi' fa' op (d + 1) m' n pt (va_up fw d a) (va_up mo d a) [] dg := by
  obtain ⟨⟨q1, q2, q3⟩, ⟨q4, q5, q6⟩, qL, qI, -, -, -, q1m⟩ := h
  obtain ⟨q11, q0⟩ := q1m rfl
  refine ⟨⟨h7.trans q1, h8, h13.trans q3⟩, ⟨q4, q5, by omega, by omega⟩, fun j hj => ?_, fun j hj => ?_, fun e => ⟨by simp, fun _ h => absurd h List.not_mem_nil, ?_⟩, fun e => by omega, fun e => by omega, fun e => by omega⟩
  · obtain ⟨⟨a1, a2⟩, ⟨a3, a4, a5⟩, a6, a7, a8⟩ := qL j hj
    rw [h3, h4, h5, h6]
    by_cases hj2 : j = d
    · subst hj2
      rw [up_s, up_s, upd_s, upd_s]
      have : pt j = 0 := q0
      exact ⟨⟨a1, a2⟩, ⟨a3, rfl, rfl⟩, by omega, by omega, by omega⟩
    · rw [va_up_ne _ _ hj2, va_up_ne _ _ hj2, upd_n hj2, upd_n hj2]
      exact ⟨⟨a1, a2⟩, ⟨a3, a4, a5⟩, a6, a7, a8⟩
  · rw [va_up_ne _ _ (show j ≠ d by omega)]
    exact qI j hj
  · rw [h11, q11]; rfl
/-- the mode alone becomes 0 -/
theorem mdQ_mode0 {fi fi' : Nat → Int32} {fa fa' : Nat → Nat → Int32} {op : Nat → Nat} {d md n : Nat} {pt fw mo : Nat → Nat} {nm : List Nat} {dg : Nat} (h : mdQ fi fa op d md n pt fw mo nm dg) (h7 : fi' 7 = fi 7) (h8 : fi' 8 = nI 0) (h13 : fi' 13 = fi 13) (h3 : fa' 3 = fa 3) (h4 : fa' 4 = fa 4) (h5 : fa' 5 = fa 5) (h6 : fa' 6 = fa 6) : mdQ fi' fa' op d 0 n pt fw mo nm dg := by
  obtain ⟨⟨q1, q2, q3⟩, ⟨q4, q5, q6⟩, qL, qI, -⟩ := h
  refine ⟨⟨h7.trans q1, h8, h13.trans q3⟩, ⟨q4, q5, by omega, by omega⟩, fun j hj => ?_, qI, fun e => by omega, fun e => by omega, fun e => by omega, fun e => by omega⟩
  rw [h3, h4, h5, h6]
  exact qL j hj
/-- one more name of the closure -/
theorem mdQ_name {fi fi' : Nat → Int32} {fa fa' : Nat → Nat → Int32} {op : Nat → Nat} {d n : Nat} {pt fw mo : Nat → Nat} {nm nm' : List Nat} {dg : Nat} (h : mdQ fi fa op (d + 1) 3 n pt fw mo nm dg) (hl : nm'.length ≤ 3) (ha : ∀ a ∈ nm', a < 26) (h7 : fi' 7 = fi 7) (h8 : fi' 8 = fi 8) (h13 : fi' 13 = fi 13) (h3 : fa' 3 = fa 3) (h4 : fa' 4 = fa 4) (h5 : fa' 5 = fa 5) (h6 : fa' 6 = fa 6) (h11 : fa' 11 (op d) = nI (md_pk nm')) : mdQ fi' fa' op (d + 1) 3 n pt fw mo nm' dg := by
  obtain ⟨⟨q1, q2, q3⟩, ⟨q4, q5, q6⟩, qL, qI, -⟩ := h
  refine ⟨⟨h7.trans q1, h8.trans q2, h13.trans q3⟩, ⟨q4, q5, by omega, by omega⟩, fun j hj => ?_, qI, fun _ => ⟨hl, ha, h11⟩, fun e => by omega, fun _ => by omega, fun e => by omega⟩
  rw [h3, h4, h5, h6]
  exact qL j hj
/-- one more digit -/
theorem mdQ_digit {fi fi' : Nat → Int32} {fa fa' : Nat → Nat → Int32} {op : Nat → Nat} {d n : Nat} {pt fw mo : Nat → Nat} {nm : List Nat} {dg : Nat} (h : mdQ fi fa op d 4 n pt fw mo nm dg) (hl : dg + 1 ≤ 4) (h7 : fi' 7 = fi 7) (h8 : fi' 8 = fi 8) (h13 : fi' 13 = fi 13) (h3 : fa' 3 = fa 3) (h4 : fa' 4 = fa 4) (h5 : fa' 5 = fa 5) (h6 : fa' 6 = fa 6) (h11 : fa' 11 (n - 1) = nI (dg + 1)) : mdQ fi' fa' op d 4 n pt fw mo nm (dg + 1) := by
  obtain ⟨⟨q1, q2, q3⟩, ⟨q4, q5, q6⟩, qL, qI, -, qd, -⟩ := h
  refine ⟨⟨h7.trans q1, h8.trans q2, h13.trans q3⟩, ⟨q4, q5, by omega, by omega⟩, fun j hj => ?_, qI, fun e => by omega, fun _ => ⟨(qd rfl).1, h11, hl⟩, fun e => by omega, fun e => by omega⟩
  rw [h3, h4, h5, h6]
  exact qL j hj
/-- the outermost form is closed -/
theorem mdQ_close0 {fi fi' : Nat → Int32} {fa fa' : Nat → Nat → Int32} {op : Nat → Nat} {md n : Nat} {pt fw mo : Nat → Nat} {nm : List Nat} {dg : Nat} (h : mdQ fi fa op 1 md n pt fw mo nm dg) (h7 : fi' 7 = nI 0) (h8 : fi' 8 = nI 6) (h13 : fi' 13 = fi 13) : mdQ fi' fa' op 0 6 n pt fw mo nm dg := by
  obtain ⟨⟨q1, q2, q3⟩, ⟨q4, q5, q6⟩, -⟩ := h
  exact ⟨⟨h7, h8, h13.trans q3⟩, ⟨by omega, q5, by omega, by omega⟩, fun j hj => absurd hj (Nat.not_lt_zero j), fun j hj => absurd hj (Nat.not_lt_zero _), fun e => by omega, fun e => by omega, fun e => by omega, fun e => by omega⟩
/-- a form within a form is closed -/
theorem mdQ_closeS {fi fi' : Nat → Int32} {fa fa' : Nat → Nat → Int32} {op : Nat → Nat} {d md n : Nat} {pt fw mo : Nat → Nat} {nm : List Nat} {dg : Nat} (h : mdQ fi fa op (d + 2) md n pt fw mo nm dg) (h7 : fi' 7 = nI (d + 1)) (h8 : fi' 8 = nI 0) (h13 : fi' 13 = fi 13) (h3 : fa' 3 = fa 3) (h4 : fa' 4 = upd (fa 4) d (nI (pt d + 1))) (h5 : fa' 5 = fa 5) (h6 : fa' 6 = fa 6) : mdQ fi' fa' op (d + 1) 0 n (va_up pt d (pt d + 1)) fw mo nm dg := by
  obtain ⟨⟨q1, q2, q3⟩, ⟨q4, q5, q6⟩, qL, qI, -⟩ := h
  have hp := qI d (by omega)
  refine ⟨⟨h7, h8, h13.trans q3⟩, ⟨by omega, q5, by omega, by omega⟩, fun j hj => ?_, fun j hj => ?_, fun e => by omega, fun e => by omega, fun e => by omega, fun e => by omega⟩
  · obtain ⟨⟨a1, a2⟩, ⟨a3, a4, a5⟩, a6, a7, a8⟩ := qL j (by omega)
    rw [h3, h4, h5, h6]
    by_cases hj2 : j = d
    · subst hj2
      rw [up_s, upd_s]
      exact ⟨⟨a1, a2⟩, ⟨rfl, a4, a5⟩, by omega, a7, a8⟩
    · rw [va_up_ne _ _ hj2, upd_n hj2]
      exact ⟨⟨a1, a2⟩, ⟨a3, a4, a5⟩, a6, a7, a8⟩
  · rw [va_up_ne _ _ (show j ≠ d by omega)]
    exact qI j (by omega)
end
section
abbrev MT : Type := Nat × Nat × Nat × (Nat → Nat) × (Nat → Nat) × (Nat → Nat) × List Nat × Nat
def mdQt (fi : Nat → Int32) (fa : Nat → Nat → Int32) : MT → Prop := fun (d, md, n, pt, fw, mo, nm, dg) => ∃ op, mdQ fi fa op d md n pt fw mo nm dg
/-- what a scan leaves as it was -/
def mdFr (fi : Nat → Int32) (fa : Nat → Nat → Int32) (S : (Nat → Int32) × (Nat → Nat → Int32)) : Prop := (∀ k, k ≠ 7 → k ≠ 8 → k ≠ 13 → S.1 k = fi k) ∧ S.2 1 = fa 1
def md_add (d : Nat) (pt : Nat → Nat) : Nat → Nat := if d = 0 then pt else va_up pt (d - 1) (pt (d - 1) + 1)
def md_begin (c : Int32) : MT → Option MT := fun (d, _, n, pt, fw, mo, nm, dg) =>
  if 0 < d ∧ pt (d - 1) = mo (d - 1) then none
  else if ¬ c < 48 ∧ ¬ 57 < c then some (d, 4, n + 1, md_add d pt, fw, mo, nm, 1)
  else if (¬ c < 97 ∧ c ≤ 122) ∨ c = 95 then some (d, (if d = 0 then 6 else 0), n + 1, md_add d pt, fw, mo, nm, dg)
  else if ¬ c = 40 ∨ d = 12 then none
  else some (d + 1, 1, n + 1, va_up pt d 0, va_up fw d 1, va_up mo d 4, nm, dg)
def md_res (v : Option MT) (fi : Nat → Int32) (fa : Nat → Nat → Int32) (r : Int32) (S : (Nat → Int32) × (Nat → Nat → Int32)) : Prop := mdFr fi fa S ∧ ((r = 0 ∧ v = none ∧ S = (fi, fa)) ∨ (r = 1 ∧ ∃ t, v = some t ∧ mdQt S.1 S.2 t))
theorem mdFr.rf {fi : Nat → Int32} {fa : Nat → Nat → Int32} : mdFr fi fa (fi, fa) := ⟨fun _ _ _ _ => rfl, rfl⟩
theorem md_no {v : Option MT} {fi : Nat → Int32} {fa : Nat → Nat → Int32} (h : v = none) : md_res v fi fa 0 (fi, fa) := ⟨mdFr.rf, Or.inl ⟨rfl, h, rfl⟩⟩
theorem up_n {α : Type} {f : Nat → α} {k j : Nat} {v : α} (h : j ≠ k) : va_up f k v j = f j := va_up_ne f v h
set_option maxHeartbeats 4000000 in
set_option maxRecDepth 100000 in
theorem c_begin0 (l : Launch) (D : va_G) (cl : List vw_C) (tys : List (ClassId × FieldType)) (A : Nat → Prop) (ci tI tZ : Nat) (cI cZ : ClassId) (o : Nat) (ad : Nat → Nat) (fi : Nat → Int32) (fa : Nat → Nat → Int32) (k : Int32) (op : Nat → Nat) (md n : Nat) (pt fw mo : Nat → Nat) (nm : List Nat) (dg : Nat) (hQ : mdQ fi fa op 0 md n pt fw mo nm dg) (hn : n < 120) :
    Met l yM_begin (.code yM_begin bM_begin 3 (some .boolean) :: lw_g) ({ frames := 1, cells := 0, slots := 0, locals := 22 }) (va_Pc [.ref o, .int k] (mdPre D cl tys A ci tI tZ cI cZ o ad fi fa)) (va_Qi (md_res (md_begin k (0, md, n, pt, fw, mo, nm, dg)) fi fa) (mdB D cl tys A ci cI cZ o ad) A) 0 0 A := by
  refine Met.ofW (cc := bM_begin) (maxL := 3) (ret := (some .boolean)) (by decide) rfl ?_
  intro p e s m args below meth c s₁ B hml hv
  obtain ⟨rfl, hM, hK, hc, hI, hZ⟩ := hv
  have hx := B.exec
  have hb := B.bytes
  have hr := B.returns
  have hts := atoms_spec (ws := (.code yM_begin bM_begin 3 (some .boolean) :: lw_g)) B.pre
  have hown : s.vm.findClass RM = some m.cls := findClass_of_methodNamed B.named
  have K : mdC D cl tys ci tI tZ cI cZ s m _ := ⟨fun w h => hts w (List.mem_cons_of_mem _ h), hown, hK, hc, hI, hZ⟩
  have hlocks := B.notSynchronized
  have hS : va_S A s.heap s.heap [] := va_S.rf
  have hl := lv_entry ([.ref o, .int k]) (n := 3) (Nat.le_of_ble_eq_true rfl)
  rw [lg_entry_eq]
  generalize (lg_sl ([.ref o, .int k]) ++ List.replicate (3 - (lg_sl ([.ref o, .int k])).length) Slot.unset).toArray = ls at hl ⊢
  have hl : lv_has ls 3 [(0, .ref o), (1, .int k)] := hl
  refine lv_aload_n hx hb dM_begin_0 rfl (lv_at hl 0 rfl) ?_
  refine M_getv hx hb K hM 7 (v := nI 0) hQ.1.1 kM_f84 dM_begin_1 (kk := ?_)
  refine lv_if_le (tgt := 34) hx hb dM_begin_4 (by decide) (fun c_4 => ?_) (fun c_4 => absurd (by decide) c_4)
  refine lv_iload_n hx hb dM_begin_34 rfl (lv_at hl 1 rfl) ?_
  refine lv_bipush (v := 48) hx hb dM_begin_35 (by decide) ?_
  refine lv_icmp_lt (tgt := 82) hx hb dM_begin_37 (by decide) (fun c_37 => ?_) (fun c_37 => ?_)
  · skip
    refine lv_iload_n hx hb dM_begin_82 rfl (lv_at hl 1 rfl) ?_
    refine lv_bipush (v := 97) hx hb dM_begin_83 (by decide) ?_
    refine lv_icmp_lt (tgt := 94) hx hb dM_begin_85 (by decide) (fun c_85 => ?_) (fun c_85 => ?_)
    · skip
      refine lv_iload_n hx hb dM_begin_94 rfl (lv_at hl 1 rfl) ?_
      refine lv_bipush (v := 95) hx hb dM_begin_95 (by decide) ?_
      refine lv_icmp_ne (tgt := 135) hx hb dM_begin_97 (by decide) (fun c_97 => ?_) (fun c_97 => ?_)
      · skip
        refine lv_iload_n hx hb dM_begin_135 rfl (lv_at hl 1 rfl) ?_
        refine lv_bipush (v := 40) hx hb dM_begin_136 (by decide) ?_
        refine lv_icmp_ne (tgt := 150) hx hb dM_begin_138 (by decide) (fun c_138 => ?_) (fun c_138 => ?_)
        · skip
          refine lv_iconst (v := 0) hx hb dM_begin_150 (by decide) ?_
          refine W.zret (v := (0)) hx hb hr rfl (M_endi hM hK hS ?_) hS.2.2 dM_begin_151
          exact md_no (by simp [md_begin, md_add, c_37, c_85, c_97, c_138])
        · skip
          refine lv_aload_n hx hb dM_begin_141 rfl (lv_at hl 0 rfl) ?_
          refine M_getv hx hb K hM 7 (v := nI 0) hQ.1.1 kM_f84 dM_begin_142 (kk := ?_)
          refine lv_bipush (v := 12) hx hb dM_begin_145 (by decide) ?_
          refine lv_icmp_ne (tgt := 152) hx hb dM_begin_147 (by decide) (fun c_147 => ?_) (fun c_147 => absurd c_147 (by decide))
          refine lv_aload_n hx hb dM_begin_152 rfl (lv_at hl 0 rfl) ?_
          refine M_geta hx hb K hM 3 kM_f13 dM_begin_153 (kk := ?_)
          refine lv_aload_n hx hb dM_begin_156 rfl (lv_at hl 0 rfl) ?_
          refine M_getv hx hb K hM 7 (v := nI 0) hQ.1.1 kM_f84 dM_begin_157 (kk := ?_)
          refine lv_aload_n hx hb dM_begin_160 rfl (lv_at hl 0 rfl) ?_
          refine lv_bipush (v := 40) hx hb dM_begin_161 (by decide) ?_
          refine va_calli (M_run (As := [.int (40)]) (rest := [.int (nI 0), .ref (ad 3)]) (n := 1) hx hb hml K hM (c_newNode l D cl tys A ci tI tZ cI cZ o ad _ _ (40) n hQ.1.2.2 hn) kM_c_newNode kM_m90 kM_i_newNode kM_s_newNode rfl rfl ⟨rfl, by decide +kernel⟩ ⟨Nat.le_of_ble_eq_true rfl, Nat.le_of_ble_eq_true rfl⟩ rfl hl.1 rfl (lv_room (Nat.le_of_ble_eq_true rfl)) dM_begin_163 ⟨Nat.le_of_ble_eq_true rfl, Nat.le_of_ble_eq_true rfl⟩) hS (fun q _ h => h) (fun q h => h) (fun r u t H1 locs1 ht hvm hw hB hz hk hS => ?_)
          obtain ⟨hM, -⟩ := hB
          rw [ht] at hM
          obtain ⟨rfl, rfl⟩ := hw
          dsimp only at hM
          refine M_astn hx hb K hM hS 3 (j := 0) (show 0 < 13 by omega) dM_begin_166 (kk := fun H locs hM hS => ?_)
          refine lv_aload_n hx hb dM_begin_167 rfl (lv_at hl 0 rfl) ?_
          refine M_geta hx hb K hM 4 kM_f16 dM_begin_168 (kk := ?_)
          refine lv_aload_n hx hb dM_begin_171 rfl (lv_at hl 0 rfl) ?_
          refine M_getv hx hb K hM 7 (v := nI 0) hQ.1.1 kM_f84 dM_begin_172 (kk := ?_)
          refine lv_iconst (v := 0) hx hb dM_begin_175 (by decide) ?_
          refine M_astn hx hb K hM hS 4 (j := 0) (show 0 < 13 by omega) dM_begin_176 (kk := fun H locs hM hS => ?_)
          refine lv_aload_n hx hb dM_begin_177 rfl (lv_at hl 0 rfl) ?_
          refine M_geta hx hb K hM 5 kM_f19 dM_begin_178 (kk := ?_)
          refine lv_aload_n hx hb dM_begin_181 rfl (lv_at hl 0 rfl) ?_
          refine M_getv hx hb K hM 7 (v := nI 0) hQ.1.1 kM_f84 dM_begin_182 (kk := ?_)
          refine lv_iconst (v := 1) hx hb dM_begin_185 (by decide) ?_
          refine M_astn hx hb K hM hS 5 (j := 0) (show 0 < 13 by omega) dM_begin_186 (kk := fun H locs hM hS => ?_)
          refine lv_aload_n hx hb dM_begin_187 rfl (lv_at hl 0 rfl) ?_
          refine M_geta hx hb K hM 6 kM_f22 dM_begin_188 (kk := ?_)
          refine lv_aload_n hx hb dM_begin_191 rfl (lv_at hl 0 rfl) ?_
          refine M_getv hx hb K hM 7 (v := nI 0) hQ.1.1 kM_f84 dM_begin_192 (kk := ?_)
          refine lv_iconst (v := 4) hx hb dM_begin_195 (by decide) ?_
          refine M_astn hx hb K hM hS 6 (j := 0) (show 0 < 13 by omega) dM_begin_196 (kk := fun H locs hM hS => ?_)
          refine lv_aload_n hx hb dM_begin_197 rfl (lv_at hl 0 rfl) ?_
          refine lv_dup hx hb dM_begin_198 rfl ?_
          refine M_getv hx hb K hM 7 (v := nI 0) hQ.1.1 kM_f84 dM_begin_199 (kk := ?_)
          refine lv_iconst (v := 1) hx hb dM_begin_202 (by decide) ?_
          refine lv_iadd hx hb dM_begin_203 ?_
          refine lv_as (v := nI (0 + 1)) (nI_1 _) ?_
          refine M_puti hx hb K hM hS 7 kM_f84 dM_begin_204 (kk := fun H locs hM hS => ?_)
          refine lv_aload_n hx hb dM_begin_207 rfl (lv_at hl 0 rfl) ?_
          refine lv_iconst (v := 1) hx hb dM_begin_208 (by decide) ?_
          refine M_puti hx hb K hM hS 8 kM_f87 dM_begin_209 (kk := fun H locs hM hS => ?_)
          refine lv_iconst (v := 1) hx hb dM_begin_212 (by decide) ?_
          refine W.zret (v := (1)) hx hb hr rfl (M_endi hM hK hS ?_) hS.2.2 dM_begin_213
          exact ⟨⟨fun j h1 h2 h3 => by simp only [up_n h1, up_n h2, up_n h3], rfl⟩, Or.inr ⟨rfl, (0 + 1, 1, n + 1, va_up pt 0 0, va_up fw 0 1, va_up mo 0 4, nm, dg), by simp [md_begin, md_add, c_37, c_85, c_97, c_138, c_147], _, mdQ_open hQ hn (by omega) (fun j hj => by omega) rfl rfl rfl rfl rfl rfl rfl upd_s⟩⟩
      · skip
        refine lv_aload_n hx hb dM_begin_100 rfl (lv_at hl 0 rfl) ?_
        refine lv_iload_n hx hb dM_begin_101 rfl (lv_at hl 1 rfl) ?_
        refine lv_bipush (v := 95) hx hb dM_begin_102 (by decide) ?_
        refine lv_icmp_ne (tgt := 112) hx hb dM_begin_104 (by decide) (fun c_104 => ?_) (fun c_104 => ?_)
        · skip
          refine lv_bipush (v := 110) hx hb dM_begin_112 (by decide) ?_
          refine va_calli (M_run (As := [.int (110)]) (rest := []) (n := 1) hx hb hml K hM (c_newNode l D cl tys A ci tI tZ cI cZ o ad _ _ (110) n hQ.1.2.2 hn) kM_c_newNode kM_m90 kM_i_newNode kM_s_newNode rfl rfl ⟨rfl, by decide +kernel⟩ ⟨Nat.le_of_ble_eq_true rfl, Nat.le_of_ble_eq_true rfl⟩ rfl hl.1 rfl (lv_room (Nat.le_of_ble_eq_true rfl)) dM_begin_114 ⟨Nat.le_of_ble_eq_true rfl, Nat.le_of_ble_eq_true rfl⟩) hS (fun q _ h => h) (fun q h => h) (fun r u t H1 locs1 ht hvm hw hB hz hk hS => ?_)
          obtain ⟨hM, -⟩ := hB
          rw [ht] at hM
          obtain ⟨rfl, rfl⟩ := hw
          dsimp only at hM
          refine lv_istore_n (lv' := [(2, .int (nI n)), (0, .ref o), (1, .int k)]) hx hb dM_begin_117 rfl hl (by decide) rfl (fun ls hl => ?_)
          refine lv_aload_n hx hb dM_begin_118 rfl (lv_at hl 1 rfl) ?_
          refine M_geta hx hb K hM 10 kM_f28 dM_begin_119 (kk := ?_)
          refine lv_iload_n hx hb dM_begin_122 rfl (lv_at hl 0 rfl) ?_
          refine lv_iload_n hx hb dM_begin_123 rfl (lv_at hl 2 rfl) ?_
          refine lv_bipush (v := 97) hx hb dM_begin_124 (by decide) ?_
          refine lv_isub hx hb dM_begin_126 ?_
          refine M_astn hx hb K hM hS 10 (j := n) hn dM_begin_127 (kk := fun H locs hM hS => ?_)
          refine lv_aload_n hx hb dM_begin_128 rfl (lv_at hl 1 rfl) ?_
          refine lv_iload_n hx hb dM_begin_129 rfl (lv_at hl 0 rfl) ?_
          refine va_callv (M_run (As := [.int (nI n)]) (rest := []) (n := 1) hx hb hml K hM (c_attach0 l D cl tys A ci tI tZ cI cZ o ad _ _ (nI n) (hQ.1.1.trans nI_0)) kM_c_attach kM_m94 kM_i_attach kM_s_attach rfl rfl ⟨rfl, by decide +kernel⟩ ⟨Nat.le_of_ble_eq_true rfl, Nat.le_of_ble_eq_true rfl⟩ rfl hl.1 rfl (lv_room (Nat.le_of_ble_eq_true rfl)) dM_begin_130 ⟨Nat.le_of_ble_eq_true rfl, Nat.le_of_ble_eq_true rfl⟩) hS (fun q _ h => h) (fun q h => h) (fun u t H1 locs1 ht hvm hw hB hz hk hS => ?_)
          obtain ⟨hM, -⟩ := hB
          rw [ht] at hM
          obtain rfl := hw
          dsimp only at hM
          refine lv_iconst (v := 1) hx hb dM_begin_133 (by decide) ?_
          refine W.zret (v := (1)) hx hb hr rfl (M_endi hM hK hS ?_) hS.2.2 dM_begin_134
          exact ⟨⟨fun j h1 h2 h3 => by simp only [up_n h1, up_n h2, up_n h3], rfl⟩, Or.inr ⟨rfl, (0, 6, n + 1, pt, fw, mo, nm, dg), by simp [md_begin, md_add, c_37, c_85, c_97, c_104], op, mdQ_leaf0 hQ hn 6 dg rfl rfl rfl (Or.inl rfl)⟩⟩
        · skip
          refine lv_bipush (v := 95) hx hb dM_begin_107 (by decide) ?_
          refine lv_goto (tgt := 114) hx hb dM_begin_109 (by decide) ?_
          refine va_calli (M_run (As := [.int (95)]) (rest := []) (n := 1) hx hb hml K hM (c_newNode l D cl tys A ci tI tZ cI cZ o ad _ _ (95) n hQ.1.2.2 hn) kM_c_newNode kM_m90 kM_i_newNode kM_s_newNode rfl rfl ⟨rfl, by decide +kernel⟩ ⟨Nat.le_of_ble_eq_true rfl, Nat.le_of_ble_eq_true rfl⟩ rfl hl.1 rfl (lv_room (Nat.le_of_ble_eq_true rfl)) dM_begin_114 ⟨Nat.le_of_ble_eq_true rfl, Nat.le_of_ble_eq_true rfl⟩) hS (fun q _ h => h) (fun q h => h) (fun r u t H1 locs1 ht hvm hw hB hz hk hS => ?_)
          obtain ⟨hM, -⟩ := hB
          rw [ht] at hM
          obtain ⟨rfl, rfl⟩ := hw
          dsimp only at hM
          refine lv_istore_n (lv' := [(2, .int (nI n)), (0, .ref o), (1, .int k)]) hx hb dM_begin_117 rfl hl (by decide) rfl (fun ls hl => ?_)
          refine lv_aload_n hx hb dM_begin_118 rfl (lv_at hl 1 rfl) ?_
          refine M_geta hx hb K hM 10 kM_f28 dM_begin_119 (kk := ?_)
          refine lv_iload_n hx hb dM_begin_122 rfl (lv_at hl 0 rfl) ?_
          refine lv_iload_n hx hb dM_begin_123 rfl (lv_at hl 2 rfl) ?_
          refine lv_bipush (v := 97) hx hb dM_begin_124 (by decide) ?_
          refine lv_isub hx hb dM_begin_126 ?_
          refine M_astn hx hb K hM hS 10 (j := n) hn dM_begin_127 (kk := fun H locs hM hS => ?_)
          refine lv_aload_n hx hb dM_begin_128 rfl (lv_at hl 1 rfl) ?_
          refine lv_iload_n hx hb dM_begin_129 rfl (lv_at hl 0 rfl) ?_
          refine va_callv (M_run (As := [.int (nI n)]) (rest := []) (n := 1) hx hb hml K hM (c_attach0 l D cl tys A ci tI tZ cI cZ o ad _ _ (nI n) (hQ.1.1.trans nI_0)) kM_c_attach kM_m94 kM_i_attach kM_s_attach rfl rfl ⟨rfl, by decide +kernel⟩ ⟨Nat.le_of_ble_eq_true rfl, Nat.le_of_ble_eq_true rfl⟩ rfl hl.1 rfl (lv_room (Nat.le_of_ble_eq_true rfl)) dM_begin_130 ⟨Nat.le_of_ble_eq_true rfl, Nat.le_of_ble_eq_true rfl⟩) hS (fun q _ h => h) (fun q h => h) (fun u t H1 locs1 ht hvm hw hB hz hk hS => ?_)
          obtain ⟨hM, -⟩ := hB
          rw [ht] at hM
          obtain rfl := hw
          dsimp only at hM
          refine lv_iconst (v := 1) hx hb dM_begin_133 (by decide) ?_
          refine W.zret (v := (1)) hx hb hr rfl (M_endi hM hK hS ?_) hS.2.2 dM_begin_134
          exact ⟨⟨fun j h1 h2 h3 => by simp only [up_n h1, up_n h2, up_n h3], rfl⟩, Or.inr ⟨rfl, (0, 6, n + 1, pt, fw, mo, nm, dg), by simp [md_begin, md_add, c_37, c_85, c_97, c_104], op, mdQ_leaf0 hQ hn 6 dg rfl rfl rfl (Or.inl rfl)⟩⟩
    · skip
      refine lv_iload_n hx hb dM_begin_88 rfl (lv_at hl 1 rfl) ?_
      refine lv_bipush (v := 122) hx hb dM_begin_89 (by decide) ?_
      refine lv_icmp_le (tgt := 100) hx hb dM_begin_91 (by decide) (fun c_91 => ?_) (fun c_91 => ?_)
      · skip
        refine lv_aload_n hx hb dM_begin_100 rfl (lv_at hl 0 rfl) ?_
        refine lv_iload_n hx hb dM_begin_101 rfl (lv_at hl 1 rfl) ?_
        refine lv_bipush (v := 95) hx hb dM_begin_102 (by decide) ?_
        refine lv_icmp_ne (tgt := 112) hx hb dM_begin_104 (by decide) (fun c_104 => ?_) (fun c_104 => ?_)
        · skip
          refine lv_bipush (v := 110) hx hb dM_begin_112 (by decide) ?_
          refine va_calli (M_run (As := [.int (110)]) (rest := []) (n := 1) hx hb hml K hM (c_newNode l D cl tys A ci tI tZ cI cZ o ad _ _ (110) n hQ.1.2.2 hn) kM_c_newNode kM_m90 kM_i_newNode kM_s_newNode rfl rfl ⟨rfl, by decide +kernel⟩ ⟨Nat.le_of_ble_eq_true rfl, Nat.le_of_ble_eq_true rfl⟩ rfl hl.1 rfl (lv_room (Nat.le_of_ble_eq_true rfl)) dM_begin_114 ⟨Nat.le_of_ble_eq_true rfl, Nat.le_of_ble_eq_true rfl⟩) hS (fun q _ h => h) (fun q h => h) (fun r u t H1 locs1 ht hvm hw hB hz hk hS => ?_)
          obtain ⟨hM, -⟩ := hB
          rw [ht] at hM
          obtain ⟨rfl, rfl⟩ := hw
          dsimp only at hM
          refine lv_istore_n (lv' := [(2, .int (nI n)), (0, .ref o), (1, .int k)]) hx hb dM_begin_117 rfl hl (by decide) rfl (fun ls hl => ?_)
          refine lv_aload_n hx hb dM_begin_118 rfl (lv_at hl 1 rfl) ?_
          refine M_geta hx hb K hM 10 kM_f28 dM_begin_119 (kk := ?_)
          refine lv_iload_n hx hb dM_begin_122 rfl (lv_at hl 0 rfl) ?_
          refine lv_iload_n hx hb dM_begin_123 rfl (lv_at hl 2 rfl) ?_
          refine lv_bipush (v := 97) hx hb dM_begin_124 (by decide) ?_
          refine lv_isub hx hb dM_begin_126 ?_
          refine M_astn hx hb K hM hS 10 (j := n) hn dM_begin_127 (kk := fun H locs hM hS => ?_)
          refine lv_aload_n hx hb dM_begin_128 rfl (lv_at hl 1 rfl) ?_
          refine lv_iload_n hx hb dM_begin_129 rfl (lv_at hl 0 rfl) ?_
          refine va_callv (M_run (As := [.int (nI n)]) (rest := []) (n := 1) hx hb hml K hM (c_attach0 l D cl tys A ci tI tZ cI cZ o ad _ _ (nI n) (hQ.1.1.trans nI_0)) kM_c_attach kM_m94 kM_i_attach kM_s_attach rfl rfl ⟨rfl, by decide +kernel⟩ ⟨Nat.le_of_ble_eq_true rfl, Nat.le_of_ble_eq_true rfl⟩ rfl hl.1 rfl (lv_room (Nat.le_of_ble_eq_true rfl)) dM_begin_130 ⟨Nat.le_of_ble_eq_true rfl, Nat.le_of_ble_eq_true rfl⟩) hS (fun q _ h => h) (fun q h => h) (fun u t H1 locs1 ht hvm hw hB hz hk hS => ?_)
          obtain ⟨hM, -⟩ := hB
          rw [ht] at hM
          obtain rfl := hw
          dsimp only at hM
          refine lv_iconst (v := 1) hx hb dM_begin_133 (by decide) ?_
          refine W.zret (v := (1)) hx hb hr rfl (M_endi hM hK hS ?_) hS.2.2 dM_begin_134
          exact ⟨⟨fun j h1 h2 h3 => by simp only [up_n h1, up_n h2, up_n h3], rfl⟩, Or.inr ⟨rfl, (0, 6, n + 1, pt, fw, mo, nm, dg), by simp [md_begin, md_add, c_37, c_85, c_91, c_104], op, mdQ_leaf0 hQ hn 6 dg rfl rfl rfl (Or.inl rfl)⟩⟩
        · skip
          refine lv_bipush (v := 95) hx hb dM_begin_107 (by decide) ?_
          refine lv_goto (tgt := 114) hx hb dM_begin_109 (by decide) ?_
          refine va_calli (M_run (As := [.int (95)]) (rest := []) (n := 1) hx hb hml K hM (c_newNode l D cl tys A ci tI tZ cI cZ o ad _ _ (95) n hQ.1.2.2 hn) kM_c_newNode kM_m90 kM_i_newNode kM_s_newNode rfl rfl ⟨rfl, by decide +kernel⟩ ⟨Nat.le_of_ble_eq_true rfl, Nat.le_of_ble_eq_true rfl⟩ rfl hl.1 rfl (lv_room (Nat.le_of_ble_eq_true rfl)) dM_begin_114 ⟨Nat.le_of_ble_eq_true rfl, Nat.le_of_ble_eq_true rfl⟩) hS (fun q _ h => h) (fun q h => h) (fun r u t H1 locs1 ht hvm hw hB hz hk hS => ?_)
          obtain ⟨hM, -⟩ := hB
          rw [ht] at hM
          obtain ⟨rfl, rfl⟩ := hw
          dsimp only at hM
          refine lv_istore_n (lv' := [(2, .int (nI n)), (0, .ref o), (1, .int k)]) hx hb dM_begin_117 rfl hl (by decide) rfl (fun ls hl => ?_)
          refine lv_aload_n hx hb dM_begin_118 rfl (lv_at hl 1 rfl) ?_
          refine M_geta hx hb K hM 10 kM_f28 dM_begin_119 (kk := ?_)
          refine lv_iload_n hx hb dM_begin_122 rfl (lv_at hl 0 rfl) ?_
          refine lv_iload_n hx hb dM_begin_123 rfl (lv_at hl 2 rfl) ?_
          refine lv_bipush (v := 97) hx hb dM_begin_124 (by decide) ?_
          refine lv_isub hx hb dM_begin_126 ?_
          refine M_astn hx hb K hM hS 10 (j := n) hn dM_begin_127 (kk := fun H locs hM hS => ?_)
          refine lv_aload_n hx hb dM_begin_128 rfl (lv_at hl 1 rfl) ?_
          refine lv_iload_n hx hb dM_begin_129 rfl (lv_at hl 0 rfl) ?_
          refine va_callv (M_run (As := [.int (nI n)]) (rest := []) (n := 1) hx hb hml K hM (c_attach0 l D cl tys A ci tI tZ cI cZ o ad _ _ (nI n) (hQ.1.1.trans nI_0)) kM_c_attach kM_m94 kM_i_attach kM_s_attach rfl rfl ⟨rfl, by decide +kernel⟩ ⟨Nat.le_of_ble_eq_true rfl, Nat.le_of_ble_eq_true rfl⟩ rfl hl.1 rfl (lv_room (Nat.le_of_ble_eq_true rfl)) dM_begin_130 ⟨Nat.le_of_ble_eq_true rfl, Nat.le_of_ble_eq_true rfl⟩) hS (fun q _ h => h) (fun q h => h) (fun u t H1 locs1 ht hvm hw hB hz hk hS => ?_)
          obtain ⟨hM, -⟩ := hB
          rw [ht] at hM
          obtain rfl := hw
          dsimp only at hM
          refine lv_iconst (v := 1) hx hb dM_begin_133 (by decide) ?_
          refine W.zret (v := (1)) hx hb hr rfl (M_endi hM hK hS ?_) hS.2.2 dM_begin_134
          exact ⟨⟨fun j h1 h2 h3 => by simp only [up_n h1, up_n h2, up_n h3], rfl⟩, Or.inr ⟨rfl, (0, 6, n + 1, pt, fw, mo, nm, dg), by simp [md_begin, md_add, c_37, c_85, c_91, c_104], op, mdQ_leaf0 hQ hn 6 dg rfl rfl rfl (Or.inl rfl)⟩⟩
      · skip
        refine lv_iload_n hx hb dM_begin_94 rfl (lv_at hl 1 rfl) ?_
        refine lv_bipush (v := 95) hx hb dM_begin_95 (by decide) ?_
        refine lv_icmp_ne (tgt := 135) hx hb dM_begin_97 (by decide) (fun c_97 => ?_) (fun c_97 => ?_)
        · skip
          refine lv_iload_n hx hb dM_begin_135 rfl (lv_at hl 1 rfl) ?_
          refine lv_bipush (v := 40) hx hb dM_begin_136 (by decide) ?_
          refine lv_icmp_ne (tgt := 150) hx hb dM_begin_138 (by decide) (fun c_138 => ?_) (fun c_138 => ?_)
          · skip
            refine lv_iconst (v := 0) hx hb dM_begin_150 (by decide) ?_
            refine W.zret (v := (0)) hx hb hr rfl (M_endi hM hK hS ?_) hS.2.2 dM_begin_151
            exact md_no (by simp [md_begin, md_add, c_37, c_85, c_91, c_97, c_138])
          · skip
            refine lv_aload_n hx hb dM_begin_141 rfl (lv_at hl 0 rfl) ?_
            refine M_getv hx hb K hM 7 (v := nI 0) hQ.1.1 kM_f84 dM_begin_142 (kk := ?_)
            refine lv_bipush (v := 12) hx hb dM_begin_145 (by decide) ?_
            refine lv_icmp_ne (tgt := 152) hx hb dM_begin_147 (by decide) (fun c_147 => ?_) (fun c_147 => absurd c_147 (by decide))
            refine lv_aload_n hx hb dM_begin_152 rfl (lv_at hl 0 rfl) ?_
            refine M_geta hx hb K hM 3 kM_f13 dM_begin_153 (kk := ?_)
            refine lv_aload_n hx hb dM_begin_156 rfl (lv_at hl 0 rfl) ?_
            refine M_getv hx hb K hM 7 (v := nI 0) hQ.1.1 kM_f84 dM_begin_157 (kk := ?_)
            refine lv_aload_n hx hb dM_begin_160 rfl (lv_at hl 0 rfl) ?_
            refine lv_bipush (v := 40) hx hb dM_begin_161 (by decide) ?_
            refine va_calli (M_run (As := [.int (40)]) (rest := [.int (nI 0), .ref (ad 3)]) (n := 1) hx hb hml K hM (c_newNode l D cl tys A ci tI tZ cI cZ o ad _ _ (40) n hQ.1.2.2 hn) kM_c_newNode kM_m90 kM_i_newNode kM_s_newNode rfl rfl ⟨rfl, by decide +kernel⟩ ⟨Nat.le_of_ble_eq_true rfl, Nat.le_of_ble_eq_true rfl⟩ rfl hl.1 rfl (lv_room (Nat.le_of_ble_eq_true rfl)) dM_begin_163 ⟨Nat.le_of_ble_eq_true rfl, Nat.le_of_ble_eq_true rfl⟩) hS (fun q _ h => h) (fun q h => h) (fun r u t H1 locs1 ht hvm hw hB hz hk hS => ?_)
            obtain ⟨hM, -⟩ := hB
            rw [ht] at hM
            obtain ⟨rfl, rfl⟩ := hw
            dsimp only at hM
            refine M_astn hx hb K hM hS 3 (j := 0) (show 0 < 13 by omega) dM_begin_166 (kk := fun H locs hM hS => ?_)
            refine lv_aload_n hx hb dM_begin_167 rfl (lv_at hl 0 rfl) ?_
            refine M_geta hx hb K hM 4 kM_f16 dM_begin_168 (kk := ?_)
            refine lv_aload_n hx hb dM_begin_171 rfl (lv_at hl 0 rfl) ?_
            refine M_getv hx hb K hM 7 (v := nI 0) hQ.1.1 kM_f84 dM_begin_172 (kk := ?_)
            refine lv_iconst (v := 0) hx hb dM_begin_175 (by decide) ?_
            refine M_astn hx hb K hM hS 4 (j := 0) (show 0 < 13 by omega) dM_begin_176 (kk := fun H locs hM hS => ?_)
            refine lv_aload_n hx hb dM_begin_177 rfl (lv_at hl 0 rfl) ?_
            refine M_geta hx hb K hM 5 kM_f19 dM_begin_178 (kk := ?_)
            refine lv_aload_n hx hb dM_begin_181 rfl (lv_at hl 0 rfl) ?_
            refine M_getv hx hb K hM 7 (v := nI 0) hQ.1.1 kM_f84 dM_begin_182 (kk := ?_)
            refine lv_iconst (v := 1) hx hb dM_begin_185 (by decide) ?_
            refine M_astn hx hb K hM hS 5 (j := 0) (show 0 < 13 by omega) dM_begin_186 (kk := fun H locs hM hS => ?_)
            refine lv_aload_n hx hb dM_begin_187 rfl (lv_at hl 0 rfl) ?_
            refine M_geta hx hb K hM 6 kM_f22 dM_begin_188 (kk := ?_)
            refine lv_aload_n hx hb dM_begin_191 rfl (lv_at hl 0 rfl) ?_
            refine M_getv hx hb K hM 7 (v := nI 0) hQ.1.1 kM_f84 dM_begin_192 (kk := ?_)
            refine lv_iconst (v := 4) hx hb dM_begin_195 (by decide) ?_
            refine M_astn hx hb K hM hS 6 (j := 0) (show 0 < 13 by omega) dM_begin_196 (kk := fun H locs hM hS => ?_)
            refine lv_aload_n hx hb dM_begin_197 rfl (lv_at hl 0 rfl) ?_
            refine lv_dup hx hb dM_begin_198 rfl ?_
            refine M_getv hx hb K hM 7 (v := nI 0) hQ.1.1 kM_f84 dM_begin_199 (kk := ?_)
            refine lv_iconst (v := 1) hx hb dM_begin_202 (by decide) ?_
            refine lv_iadd hx hb dM_begin_203 ?_
            refine lv_as (v := nI (0 + 1)) (nI_1 _) ?_
            refine M_puti hx hb K hM hS 7 kM_f84 dM_begin_204 (kk := fun H locs hM hS => ?_)
            refine lv_aload_n hx hb dM_begin_207 rfl (lv_at hl 0 rfl) ?_
            refine lv_iconst (v := 1) hx hb dM_begin_208 (by decide) ?_
            refine M_puti hx hb K hM hS 8 kM_f87 dM_begin_209 (kk := fun H locs hM hS => ?_)
            refine lv_iconst (v := 1) hx hb dM_begin_212 (by decide) ?_
            refine W.zret (v := (1)) hx hb hr rfl (M_endi hM hK hS ?_) hS.2.2 dM_begin_213
            exact ⟨⟨fun j h1 h2 h3 => by simp only [up_n h1, up_n h2, up_n h3], rfl⟩, Or.inr ⟨rfl, (0 + 1, 1, n + 1, va_up pt 0 0, va_up fw 0 1, va_up mo 0 4, nm, dg), by simp [md_begin, md_add, c_37, c_85, c_91, c_97, c_138, c_147], _, mdQ_open hQ hn (by omega) (fun j hj => by omega) rfl rfl rfl rfl rfl rfl rfl upd_s⟩⟩
        · skip
          refine lv_aload_n hx hb dM_begin_100 rfl (lv_at hl 0 rfl) ?_
          refine lv_iload_n hx hb dM_begin_101 rfl (lv_at hl 1 rfl) ?_
          refine lv_bipush (v := 95) hx hb dM_begin_102 (by decide) ?_
          refine lv_icmp_ne (tgt := 112) hx hb dM_begin_104 (by decide) (fun c_104 => ?_) (fun c_104 => ?_)
          · skip
            refine lv_bipush (v := 110) hx hb dM_begin_112 (by decide) ?_
            refine va_calli (M_run (As := [.int (110)]) (rest := []) (n := 1) hx hb hml K hM (c_newNode l D cl tys A ci tI tZ cI cZ o ad _ _ (110) n hQ.1.2.2 hn) kM_c_newNode kM_m90 kM_i_newNode kM_s_newNode rfl rfl ⟨rfl, by decide +kernel⟩ ⟨Nat.le_of_ble_eq_true rfl, Nat.le_of_ble_eq_true rfl⟩ rfl hl.1 rfl (lv_room (Nat.le_of_ble_eq_true rfl)) dM_begin_114 ⟨Nat.le_of_ble_eq_true rfl, Nat.le_of_ble_eq_true rfl⟩) hS (fun q _ h => h) (fun q h => h) (fun r u t H1 locs1 ht hvm hw hB hz hk hS => ?_)
            obtain ⟨hM, -⟩ := hB
            rw [ht] at hM
            obtain ⟨rfl, rfl⟩ := hw
            dsimp only at hM
            refine lv_istore_n (lv' := [(2, .int (nI n)), (0, .ref o), (1, .int k)]) hx hb dM_begin_117 rfl hl (by decide) rfl (fun ls hl => ?_)
            refine lv_aload_n hx hb dM_begin_118 rfl (lv_at hl 1 rfl) ?_
            refine M_geta hx hb K hM 10 kM_f28 dM_begin_119 (kk := ?_)
            refine lv_iload_n hx hb dM_begin_122 rfl (lv_at hl 0 rfl) ?_
            refine lv_iload_n hx hb dM_begin_123 rfl (lv_at hl 2 rfl) ?_
            refine lv_bipush (v := 97) hx hb dM_begin_124 (by decide) ?_
            refine lv_isub hx hb dM_begin_126 ?_
            refine M_astn hx hb K hM hS 10 (j := n) hn dM_begin_127 (kk := fun H locs hM hS => ?_)
            refine lv_aload_n hx hb dM_begin_128 rfl (lv_at hl 1 rfl) ?_
            refine lv_iload_n hx hb dM_begin_129 rfl (lv_at hl 0 rfl) ?_
            refine va_callv (M_run (As := [.int (nI n)]) (rest := []) (n := 1) hx hb hml K hM (c_attach0 l D cl tys A ci tI tZ cI cZ o ad _ _ (nI n) (hQ.1.1.trans nI_0)) kM_c_attach kM_m94 kM_i_attach kM_s_attach rfl rfl ⟨rfl, by decide +kernel⟩ ⟨Nat.le_of_ble_eq_true rfl, Nat.le_of_ble_eq_true rfl⟩ rfl hl.1 rfl (lv_room (Nat.le_of_ble_eq_true rfl)) dM_begin_130 ⟨Nat.le_of_ble_eq_true rfl, Nat.le_of_ble_eq_true rfl⟩) hS (fun q _ h => h) (fun q h => h) (fun u t H1 locs1 ht hvm hw hB hz hk hS => ?_)
            obtain ⟨hM, -⟩ := hB
            rw [ht] at hM
            obtain rfl := hw
            dsimp only at hM
            refine lv_iconst (v := 1) hx hb dM_begin_133 (by decide) ?_
            refine W.zret (v := (1)) hx hb hr rfl (M_endi hM hK hS ?_) hS.2.2 dM_begin_134
            exact ⟨⟨fun j h1 h2 h3 => by simp only [up_n h1, up_n h2, up_n h3], rfl⟩, Or.inr ⟨rfl, (0, 6, n + 1, pt, fw, mo, nm, dg), by simp [md_begin, md_add, c_37, c_85, c_91, c_97, c_104], op, mdQ_leaf0 hQ hn 6 dg rfl rfl rfl (Or.inl rfl)⟩⟩
          · skip
            refine lv_bipush (v := 95) hx hb dM_begin_107 (by decide) ?_
            refine lv_goto (tgt := 114) hx hb dM_begin_109 (by decide) ?_
            refine va_calli (M_run (As := [.int (95)]) (rest := []) (n := 1) hx hb hml K hM (c_newNode l D cl tys A ci tI tZ cI cZ o ad _ _ (95) n hQ.1.2.2 hn) kM_c_newNode kM_m90 kM_i_newNode kM_s_newNode rfl rfl ⟨rfl, by decide +kernel⟩ ⟨Nat.le_of_ble_eq_true rfl, Nat.le_of_ble_eq_true rfl⟩ rfl hl.1 rfl (lv_room (Nat.le_of_ble_eq_true rfl)) dM_begin_114 ⟨Nat.le_of_ble_eq_true rfl, Nat.le_of_ble_eq_true rfl⟩) hS (fun q _ h => h) (fun q h => h) (fun r u t H1 locs1 ht hvm hw hB hz hk hS => ?_)
            obtain ⟨hM, -⟩ := hB
            rw [ht] at hM
            obtain ⟨rfl, rfl⟩ := hw
            dsimp only at hM
            refine lv_istore_n (lv' := [(2, .int (nI n)), (0, .ref o), (1, .int k)]) hx hb dM_begin_117 rfl hl (by decide) rfl (fun ls hl => ?_)
            refine lv_aload_n hx hb dM_begin_118 rfl (lv_at hl 1 rfl) ?_
            refine M_geta hx hb K hM 10 kM_f28 dM_begin_119 (kk := ?_)
            refine lv_iload_n hx hb dM_begin_122 rfl (lv_at hl 0 rfl) ?_
            refine lv_iload_n hx hb dM_begin_123 rfl (lv_at hl 2 rfl) ?_
            refine lv_bipush (v := 97) hx hb dM_begin_124 (by decide) ?_
            refine lv_isub hx hb dM_begin_126 ?_
            refine M_astn hx hb K hM hS 10 (j := n) hn dM_begin_127 (kk := fun H locs hM hS => ?_)
            refine lv_aload_n hx hb dM_begin_128 rfl (lv_at hl 1 rfl) ?_
            refine lv_iload_n hx hb dM_begin_129 rfl (lv_at hl 0 rfl) ?_
            refine va_callv (M_run (As := [.int (nI n)]) (rest := []) (n := 1) hx hb hml K hM (c_attach0 l D cl tys A ci tI tZ cI cZ o ad _ _ (nI n) (hQ.1.1.trans nI_0)) kM_c_attach kM_m94 kM_i_attach kM_s_attach rfl rfl ⟨rfl, by decide +kernel⟩ ⟨Nat.le_of_ble_eq_true rfl, Nat.le_of_ble_eq_true rfl⟩ rfl hl.1 rfl (lv_room (Nat.le_of_ble_eq_true rfl)) dM_begin_130 ⟨Nat.le_of_ble_eq_true rfl, Nat.le_of_ble_eq_true rfl⟩) hS (fun q _ h => h) (fun q h => h) (fun u t H1 locs1 ht hvm hw hB hz hk hS => ?_)
            obtain ⟨hM, -⟩ := hB
            rw [ht] at hM
            obtain rfl := hw
            dsimp only at hM
            refine lv_iconst (v := 1) hx hb dM_begin_133 (by decide) ?_
            refine W.zret (v := (1)) hx hb hr rfl (M_endi hM hK hS ?_) hS.2.2 dM_begin_134
            exact ⟨⟨fun j h1 h2 h3 => by simp only [up_n h1, up_n h2, up_n h3], rfl⟩, Or.inr ⟨rfl, (0, 6, n + 1, pt, fw, mo, nm, dg), by simp [md_begin, md_add, c_37, c_85, c_91, c_97, c_104], op, mdQ_leaf0 hQ hn 6 dg rfl rfl rfl (Or.inl rfl)⟩⟩
  · skip
    refine lv_iload_n hx hb dM_begin_40 rfl (lv_at hl 1 rfl) ?_
    refine lv_bipush (v := 57) hx hb dM_begin_41 (by decide) ?_
    refine lv_icmp_gt (tgt := 82) hx hb dM_begin_43 (by decide) (fun c_43 => ?_) (fun c_43 => ?_)
    · skip
      refine lv_iload_n hx hb dM_begin_82 rfl (lv_at hl 1 rfl) ?_
      refine lv_bipush (v := 97) hx hb dM_begin_83 (by decide) ?_
      refine lv_icmp_lt (tgt := 94) hx hb dM_begin_85 (by decide) (fun c_85 => ?_) (fun c_85 => ?_)
      · skip
        refine lv_iload_n hx hb dM_begin_94 rfl (lv_at hl 1 rfl) ?_
        refine lv_bipush (v := 95) hx hb dM_begin_95 (by decide) ?_
        refine lv_icmp_ne (tgt := 135) hx hb dM_begin_97 (by decide) (fun c_97 => ?_) (fun c_97 => ?_)
        · skip
          refine lv_iload_n hx hb dM_begin_135 rfl (lv_at hl 1 rfl) ?_
          refine lv_bipush (v := 40) hx hb dM_begin_136 (by decide) ?_
          refine lv_icmp_ne (tgt := 150) hx hb dM_begin_138 (by decide) (fun c_138 => ?_) (fun c_138 => ?_)
          · skip
            refine lv_iconst (v := 0) hx hb dM_begin_150 (by decide) ?_
            refine W.zret (v := (0)) hx hb hr rfl (M_endi hM hK hS ?_) hS.2.2 dM_begin_151
            exact md_no (by simp [md_begin, md_add, c_37, c_43, c_85, c_97, c_138])
          · skip
            refine lv_aload_n hx hb dM_begin_141 rfl (lv_at hl 0 rfl) ?_
            refine M_getv hx hb K hM 7 (v := nI 0) hQ.1.1 kM_f84 dM_begin_142 (kk := ?_)
            refine lv_bipush (v := 12) hx hb dM_begin_145 (by decide) ?_
            refine lv_icmp_ne (tgt := 152) hx hb dM_begin_147 (by decide) (fun c_147 => ?_) (fun c_147 => absurd c_147 (by decide))
            refine lv_aload_n hx hb dM_begin_152 rfl (lv_at hl 0 rfl) ?_
            refine M_geta hx hb K hM 3 kM_f13 dM_begin_153 (kk := ?_)
            refine lv_aload_n hx hb dM_begin_156 rfl (lv_at hl 0 rfl) ?_
            refine M_getv hx hb K hM 7 (v := nI 0) hQ.1.1 kM_f84 dM_begin_157 (kk := ?_)
            refine lv_aload_n hx hb dM_begin_160 rfl (lv_at hl 0 rfl) ?_
            refine lv_bipush (v := 40) hx hb dM_begin_161 (by decide) ?_
            refine va_calli (M_run (As := [.int (40)]) (rest := [.int (nI 0), .ref (ad 3)]) (n := 1) hx hb hml K hM (c_newNode l D cl tys A ci tI tZ cI cZ o ad _ _ (40) n hQ.1.2.2 hn) kM_c_newNode kM_m90 kM_i_newNode kM_s_newNode rfl rfl ⟨rfl, by decide +kernel⟩ ⟨Nat.le_of_ble_eq_true rfl, Nat.le_of_ble_eq_true rfl⟩ rfl hl.1 rfl (lv_room (Nat.le_of_ble_eq_true rfl)) dM_begin_163 ⟨Nat.le_of_ble_eq_true rfl, Nat.le_of_ble_eq_true rfl⟩) hS (fun q _ h => h) (fun q h => h) (fun r u t H1 locs1 ht hvm hw hB hz hk hS => ?_)
            obtain ⟨hM, -⟩ := hB
            rw [ht] at hM
            obtain ⟨rfl, rfl⟩ := hw
            dsimp only at hM
            refine M_astn hx hb K hM hS 3 (j := 0) (show 0 < 13 by omega) dM_begin_166 (kk := fun H locs hM hS => ?_)
            refine lv_aload_n hx hb dM_begin_167 rfl (lv_at hl 0 rfl) ?_
            refine M_geta hx hb K hM 4 kM_f16 dM_begin_168 (kk := ?_)
            refine lv_aload_n hx hb dM_begin_171 rfl (lv_at hl 0 rfl) ?_
            refine M_getv hx hb K hM 7 (v := nI 0) hQ.1.1 kM_f84 dM_begin_172 (kk := ?_)
            refine lv_iconst (v := 0) hx hb dM_begin_175 (by decide) ?_
            refine M_astn hx hb K hM hS 4 (j := 0) (show 0 < 13 by omega) dM_begin_176 (kk := fun H locs hM hS => ?_)
            refine lv_aload_n hx hb dM_begin_177 rfl (lv_at hl 0 rfl) ?_
            refine M_geta hx hb K hM 5 kM_f19 dM_begin_178 (kk := ?_)
            refine lv_aload_n hx hb dM_begin_181 rfl (lv_at hl 0 rfl) ?_
            refine M_getv hx hb K hM 7 (v := nI 0) hQ.1.1 kM_f84 dM_begin_182 (kk := ?_)
            refine lv_iconst (v := 1) hx hb dM_begin_185 (by decide) ?_
            refine M_astn hx hb K hM hS 5 (j := 0) (show 0 < 13 by omega) dM_begin_186 (kk := fun H locs hM hS => ?_)
            refine lv_aload_n hx hb dM_begin_187 rfl (lv_at hl 0 rfl) ?_
            refine M_geta hx hb K hM 6 kM_f22 dM_begin_188 (kk := ?_)
            refine lv_aload_n hx hb dM_begin_191 rfl (lv_at hl 0 rfl) ?_
            refine M_getv hx hb K hM 7 (v := nI 0) hQ.1.1 kM_f84 dM_begin_192 (kk := ?_)
            refine lv_iconst (v := 4) hx hb dM_begin_195 (by decide) ?_
            refine M_astn hx hb K hM hS 6 (j := 0) (show 0 < 13 by omega) dM_begin_196 (kk := fun H locs hM hS => ?_)
            refine lv_aload_n hx hb dM_begin_197 rfl (lv_at hl 0 rfl) ?_
            refine lv_dup hx hb dM_begin_198 rfl ?_
            refine M_getv hx hb K hM 7 (v := nI 0) hQ.1.1 kM_f84 dM_begin_199 (kk := ?_)
            refine lv_iconst (v := 1) hx hb dM_begin_202 (by decide) ?_
            refine lv_iadd hx hb dM_begin_203 ?_
            refine lv_as (v := nI (0 + 1)) (nI_1 _) ?_
            refine M_puti hx hb K hM hS 7 kM_f84 dM_begin_204 (kk := fun H locs hM hS => ?_)
            refine lv_aload_n hx hb dM_begin_207 rfl (lv_at hl 0 rfl) ?_
            refine lv_iconst (v := 1) hx hb dM_begin_208 (by decide) ?_
            refine M_puti hx hb K hM hS 8 kM_f87 dM_begin_209 (kk := fun H locs hM hS => ?_)
            refine lv_iconst (v := 1) hx hb dM_begin_212 (by decide) ?_
            refine W.zret (v := (1)) hx hb hr rfl (M_endi hM hK hS ?_) hS.2.2 dM_begin_213
            exact ⟨⟨fun j h1 h2 h3 => by simp only [up_n h1, up_n h2, up_n h3], rfl⟩, Or.inr ⟨rfl, (0 + 1, 1, n + 1, va_up pt 0 0, va_up fw 0 1, va_up mo 0 4, nm, dg), by simp [md_begin, md_add, c_37, c_43, c_85, c_97, c_138, c_147], _, mdQ_open hQ hn (by omega) (fun j hj => by omega) rfl rfl rfl rfl rfl rfl rfl upd_s⟩⟩
        · skip
          refine lv_aload_n hx hb dM_begin_100 rfl (lv_at hl 0 rfl) ?_
          refine lv_iload_n hx hb dM_begin_101 rfl (lv_at hl 1 rfl) ?_
          refine lv_bipush (v := 95) hx hb dM_begin_102 (by decide) ?_
          refine lv_icmp_ne (tgt := 112) hx hb dM_begin_104 (by decide) (fun c_104 => ?_) (fun c_104 => ?_)
          · skip
            refine lv_bipush (v := 110) hx hb dM_begin_112 (by decide) ?_
            refine va_calli (M_run (As := [.int (110)]) (rest := []) (n := 1) hx hb hml K hM (c_newNode l D cl tys A ci tI tZ cI cZ o ad _ _ (110) n hQ.1.2.2 hn) kM_c_newNode kM_m90 kM_i_newNode kM_s_newNode rfl rfl ⟨rfl, by decide +kernel⟩ ⟨Nat.le_of_ble_eq_true rfl, Nat.le_of_ble_eq_true rfl⟩ rfl hl.1 rfl (lv_room (Nat.le_of_ble_eq_true rfl)) dM_begin_114 ⟨Nat.le_of_ble_eq_true rfl, Nat.le_of_ble_eq_true rfl⟩) hS (fun q _ h => h) (fun q h => h) (fun r u t H1 locs1 ht hvm hw hB hz hk hS => ?_)
            obtain ⟨hM, -⟩ := hB
            rw [ht] at hM
            obtain ⟨rfl, rfl⟩ := hw
            dsimp only at hM
            refine lv_istore_n (lv' := [(2, .int (nI n)), (0, .ref o), (1, .int k)]) hx hb dM_begin_117 rfl hl (by decide) rfl (fun ls hl => ?_)
            refine lv_aload_n hx hb dM_begin_118 rfl (lv_at hl 1 rfl) ?_
            refine M_geta hx hb K hM 10 kM_f28 dM_begin_119 (kk := ?_)
            refine lv_iload_n hx hb dM_begin_122 rfl (lv_at hl 0 rfl) ?_
            refine lv_iload_n hx hb dM_begin_123 rfl (lv_at hl 2 rfl) ?_
            refine lv_bipush (v := 97) hx hb dM_begin_124 (by decide) ?_
            refine lv_isub hx hb dM_begin_126 ?_
            refine M_astn hx hb K hM hS 10 (j := n) hn dM_begin_127 (kk := fun H locs hM hS => ?_)
            refine lv_aload_n hx hb dM_begin_128 rfl (lv_at hl 1 rfl) ?_
            refine lv_iload_n hx hb dM_begin_129 rfl (lv_at hl 0 rfl) ?_
            refine va_callv (M_run (As := [.int (nI n)]) (rest := []) (n := 1) hx hb hml K hM (c_attach0 l D cl tys A ci tI tZ cI cZ o ad _ _ (nI n) (hQ.1.1.trans nI_0)) kM_c_attach kM_m94 kM_i_attach kM_s_attach rfl rfl ⟨rfl, by decide +kernel⟩ ⟨Nat.le_of_ble_eq_true rfl, Nat.le_of_ble_eq_true rfl⟩ rfl hl.1 rfl (lv_room (Nat.le_of_ble_eq_true rfl)) dM_begin_130 ⟨Nat.le_of_ble_eq_true rfl, Nat.le_of_ble_eq_true rfl⟩) hS (fun q _ h => h) (fun q h => h) (fun u t H1 locs1 ht hvm hw hB hz hk hS => ?_)
            obtain ⟨hM, -⟩ := hB
            rw [ht] at hM
            obtain rfl := hw
            dsimp only at hM
            refine lv_iconst (v := 1) hx hb dM_begin_133 (by decide) ?_
            refine W.zret (v := (1)) hx hb hr rfl (M_endi hM hK hS ?_) hS.2.2 dM_begin_134
            exact ⟨⟨fun j h1 h2 h3 => by simp only [up_n h1, up_n h2, up_n h3], rfl⟩, Or.inr ⟨rfl, (0, 6, n + 1, pt, fw, mo, nm, dg), by simp [md_begin, md_add, c_37, c_43, c_85, c_97, c_104], op, mdQ_leaf0 hQ hn 6 dg rfl rfl rfl (Or.inl rfl)⟩⟩
          · skip
            refine lv_bipush (v := 95) hx hb dM_begin_107 (by decide) ?_
            refine lv_goto (tgt := 114) hx hb dM_begin_109 (by decide) ?_
            refine va_calli (M_run (As := [.int (95)]) (rest := []) (n := 1) hx hb hml K hM (c_newNode l D cl tys A ci tI tZ cI cZ o ad _ _ (95) n hQ.1.2.2 hn) kM_c_newNode kM_m90 kM_i_newNode kM_s_newNode rfl rfl ⟨rfl, by decide +kernel⟩ ⟨Nat.le_of_ble_eq_true rfl, Nat.le_of_ble_eq_true rfl⟩ rfl hl.1 rfl (lv_room (Nat.le_of_ble_eq_true rfl)) dM_begin_114 ⟨Nat.le_of_ble_eq_true rfl, Nat.le_of_ble_eq_true rfl⟩) hS (fun q _ h => h) (fun q h => h) (fun r u t H1 locs1 ht hvm hw hB hz hk hS => ?_)
            obtain ⟨hM, -⟩ := hB
            rw [ht] at hM
            obtain ⟨rfl, rfl⟩ := hw
            dsimp only at hM
            refine lv_istore_n (lv' := [(2, .int (nI n)), (0, .ref o), (1, .int k)]) hx hb dM_begin_117 rfl hl (by decide) rfl (fun ls hl => ?_)
            refine lv_aload_n hx hb dM_begin_118 rfl (lv_at hl 1 rfl) ?_
            refine M_geta hx hb K hM 10 kM_f28 dM_begin_119 (kk := ?_)
            refine lv_iload_n hx hb dM_begin_122 rfl (lv_at hl 0 rfl) ?_
            refine lv_iload_n hx hb dM_begin_123 rfl (lv_at hl 2 rfl) ?_
            refine lv_bipush (v := 97) hx hb dM_begin_124 (by decide) ?_
            refine lv_isub hx hb dM_begin_126 ?_
            refine M_astn hx hb K hM hS 10 (j := n) hn dM_begin_127 (kk := fun H locs hM hS => ?_)
            refine lv_aload_n hx hb dM_begin_128 rfl (lv_at hl 1 rfl) ?_
            refine lv_iload_n hx hb dM_begin_129 rfl (lv_at hl 0 rfl) ?_
            refine va_callv (M_run (As := [.int (nI n)]) (rest := []) (n := 1) hx hb hml K hM (c_attach0 l D cl tys A ci tI tZ cI cZ o ad _ _ (nI n) (hQ.1.1.trans nI_0)) kM_c_attach kM_m94 kM_i_attach kM_s_attach rfl rfl ⟨rfl, by decide +kernel⟩ ⟨Nat.le_of_ble_eq_true rfl, Nat.le_of_ble_eq_true rfl⟩ rfl hl.1 rfl (lv_room (Nat.le_of_ble_eq_true rfl)) dM_begin_130 ⟨Nat.le_of_ble_eq_true rfl, Nat.le_of_ble_eq_true rfl⟩) hS (fun q _ h => h) (fun q h => h) (fun u t H1 locs1 ht hvm hw hB hz hk hS => ?_)
            obtain ⟨hM, -⟩ := hB
            rw [ht] at hM
            obtain rfl := hw
            dsimp only at hM
            refine lv_iconst (v := 1) hx hb dM_begin_133 (by decide) ?_
            refine W.zret (v := (1)) hx hb hr rfl (M_endi hM hK hS ?_) hS.2.2 dM_begin_134
            exact ⟨⟨fun j h1 h2 h3 => by simp only [up_n h1, up_n h2, up_n h3], rfl⟩, Or.inr ⟨rfl, (0, 6, n + 1, pt, fw, mo, nm, dg), by simp [md_begin, md_add, c_37, c_43, c_85, c_97, c_104], op, mdQ_leaf0 hQ hn 6 dg rfl rfl rfl (Or.inl rfl)⟩⟩
      · skip
        refine lv_iload_n hx hb dM_begin_88 rfl (lv_at hl 1 rfl) ?_
        refine lv_bipush (v := 122) hx hb dM_begin_89 (by decide) ?_
        refine lv_icmp_le (tgt := 100) hx hb dM_begin_91 (by decide) (fun c_91 => ?_) (fun c_91 => ?_)
        · skip
          refine lv_aload_n hx hb dM_begin_100 rfl (lv_at hl 0 rfl) ?_
          refine lv_iload_n hx hb dM_begin_101 rfl (lv_at hl 1 rfl) ?_
          refine lv_bipush (v := 95) hx hb dM_begin_102 (by decide) ?_
          refine lv_icmp_ne (tgt := 112) hx hb dM_begin_104 (by decide) (fun c_104 => ?_) (fun c_104 => ?_)
          · skip
            refine lv_bipush (v := 110) hx hb dM_begin_112 (by decide) ?_
            refine va_calli (M_run (As := [.int (110)]) (rest := []) (n := 1) hx hb hml K hM (c_newNode l D cl tys A ci tI tZ cI cZ o ad _ _ (110) n hQ.1.2.2 hn) kM_c_newNode kM_m90 kM_i_newNode kM_s_newNode rfl rfl ⟨rfl, by decide +kernel⟩ ⟨Nat.le_of_ble_eq_true rfl, Nat.le_of_ble_eq_true rfl⟩ rfl hl.1 rfl (lv_room (Nat.le_of_ble_eq_true rfl)) dM_begin_114 ⟨Nat.le_of_ble_eq_true rfl, Nat.le_of_ble_eq_true rfl⟩) hS (fun q _ h => h) (fun q h => h) (fun r u t H1 locs1 ht hvm hw hB hz hk hS => ?_)
            obtain ⟨hM, -⟩ := hB
            rw [ht] at hM
            obtain ⟨rfl, rfl⟩ := hw
            dsimp only at hM
            refine lv_istore_n (lv' := [(2, .int (nI n)), (0, .ref o), (1, .int k)]) hx hb dM_begin_117 rfl hl (by decide) rfl (fun ls hl => ?_)
            refine lv_aload_n hx hb dM_begin_118 rfl (lv_at hl 1 rfl) ?_
            refine M_geta hx hb K hM 10 kM_f28 dM_begin_119 (kk := ?_)
            refine lv_iload_n hx hb dM_begin_122 rfl (lv_at hl 0 rfl) ?_
            refine lv_iload_n hx hb dM_begin_123 rfl (lv_at hl 2 rfl) ?_
            refine lv_bipush (v := 97) hx hb dM_begin_124 (by decide) ?_
            refine lv_isub hx hb dM_begin_126 ?_
            refine M_astn hx hb K hM hS 10 (j := n) hn dM_begin_127 (kk := fun H locs hM hS => ?_)
            refine lv_aload_n hx hb dM_begin_128 rfl (lv_at hl 1 rfl) ?_
            refine lv_iload_n hx hb dM_begin_129 rfl (lv_at hl 0 rfl) ?_
            refine va_callv (M_run (As := [.int (nI n)]) (rest := []) (n := 1) hx hb hml K hM (c_attach0 l D cl tys A ci tI tZ cI cZ o ad _ _ (nI n) (hQ.1.1.trans nI_0)) kM_c_attach kM_m94 kM_i_attach kM_s_attach rfl rfl ⟨rfl, by decide +kernel⟩ ⟨Nat.le_of_ble_eq_true rfl, Nat.le_of_ble_eq_true rfl⟩ rfl hl.1 rfl (lv_room (Nat.le_of_ble_eq_true rfl)) dM_begin_130 ⟨Nat.le_of_ble_eq_true rfl, Nat.le_of_ble_eq_true rfl⟩) hS (fun q _ h => h) (fun q h => h) (fun u t H1 locs1 ht hvm hw hB hz hk hS => ?_)
            obtain ⟨hM, -⟩ := hB
            rw [ht] at hM
            obtain rfl := hw
            dsimp only at hM
            refine lv_iconst (v := 1) hx hb dM_begin_133 (by decide) ?_
            refine W.zret (v := (1)) hx hb hr rfl (M_endi hM hK hS ?_) hS.2.2 dM_begin_134
            exact ⟨⟨fun j h1 h2 h3 => by simp only [up_n h1, up_n h2, up_n h3], rfl⟩, Or.inr ⟨rfl, (0, 6, n + 1, pt, fw, mo, nm, dg), by simp [md_begin, md_add, c_37, c_43, c_85, c_91, c_104], op, mdQ_leaf0 hQ hn 6 dg rfl rfl rfl (Or.inl rfl)⟩⟩
          · skip
            refine lv_bipush (v := 95) hx hb dM_begin_107 (by decide) ?_
            refine lv_goto (tgt := 114) hx hb dM_begin_109 (by decide) ?_
            refine va_calli (M_run (As := [.int (95)]) (rest := []) (n := 1) hx hb hml K hM (c_newNode l D cl tys A ci tI tZ cI cZ o ad _ _ (95) n hQ.1.2.2 hn) kM_c_newNode kM_m90 kM_i_newNode kM_s_newNode rfl rfl ⟨rfl, by decide +kernel⟩ ⟨Nat.le_of_ble_eq_true rfl, Nat.le_of_ble_eq_true rfl⟩ rfl hl.1 rfl (lv_room (Nat.le_of_ble_eq_true rfl)) dM_begin_114 ⟨Nat.le_of_ble_eq_true rfl, Nat.le_of_ble_eq_true rfl⟩) hS (fun q _ h => h) (fun q h => h) (fun r u t H1 locs1 ht hvm hw hB hz hk hS => ?_)
            obtain ⟨hM, -⟩ := hB
            rw [ht] at hM
            obtain ⟨rfl, rfl⟩ := hw
            dsimp only at hM
            refine lv_istore_n (lv' := [(2, .int (nI n)), (0, .ref o), (1, .int k)]) hx hb dM_begin_117 rfl hl (by decide) rfl (fun ls hl => ?_)
            refine lv_aload_n hx hb dM_begin_118 rfl (lv_at hl 1 rfl) ?_
            refine M_geta hx hb K hM 10 kM_f28 dM_begin_119 (kk := ?_)
            refine lv_iload_n hx hb dM_begin_122 rfl (lv_at hl 0 rfl) ?_
            refine lv_iload_n hx hb dM_begin_123 rfl (lv_at hl 2 rfl) ?_
            refine lv_bipush (v := 97) hx hb dM_begin_124 (by decide) ?_
            refine lv_isub hx hb dM_begin_126 ?_
            refine M_astn hx hb K hM hS 10 (j := n) hn dM_begin_127 (kk := fun H locs hM hS => ?_)
            refine lv_aload_n hx hb dM_begin_128 rfl (lv_at hl 1 rfl) ?_
            refine lv_iload_n hx hb dM_begin_129 rfl (lv_at hl 0 rfl) ?_
            refine va_callv (M_run (As := [.int (nI n)]) (rest := []) (n := 1) hx hb hml K hM (c_attach0 l D cl tys A ci tI tZ cI cZ o ad _ _ (nI n) (hQ.1.1.trans nI_0)) kM_c_attach kM_m94 kM_i_attach kM_s_attach rfl rfl ⟨rfl, by decide +kernel⟩ ⟨Nat.le_of_ble_eq_true rfl, Nat.le_of_ble_eq_true rfl⟩ rfl hl.1 rfl (lv_room (Nat.le_of_ble_eq_true rfl)) dM_begin_130 ⟨Nat.le_of_ble_eq_true rfl, Nat.le_of_ble_eq_true rfl⟩) hS (fun q _ h => h) (fun q h => h) (fun u t H1 locs1 ht hvm hw hB hz hk hS => ?_)
            obtain ⟨hM, -⟩ := hB
            rw [ht] at hM
            obtain rfl := hw
            dsimp only at hM
            refine lv_iconst (v := 1) hx hb dM_begin_133 (by decide) ?_
            refine W.zret (v := (1)) hx hb hr rfl (M_endi hM hK hS ?_) hS.2.2 dM_begin_134
            exact ⟨⟨fun j h1 h2 h3 => by simp only [up_n h1, up_n h2, up_n h3], rfl⟩, Or.inr ⟨rfl, (0, 6, n + 1, pt, fw, mo, nm, dg), by simp [md_begin, md_add, c_37, c_43, c_85, c_91, c_104], op, mdQ_leaf0 hQ hn 6 dg rfl rfl rfl (Or.inl rfl)⟩⟩
        · skip
          refine lv_iload_n hx hb dM_begin_94 rfl (lv_at hl 1 rfl) ?_
          refine lv_bipush (v := 95) hx hb dM_begin_95 (by decide) ?_
          refine lv_icmp_ne (tgt := 135) hx hb dM_begin_97 (by decide) (fun c_97 => ?_) (fun c_97 => ?_)
          · skip
            refine lv_iload_n hx hb dM_begin_135 rfl (lv_at hl 1 rfl) ?_
            refine lv_bipush (v := 40) hx hb dM_begin_136 (by decide) ?_
            refine lv_icmp_ne (tgt := 150) hx hb dM_begin_138 (by decide) (fun c_138 => ?_) (fun c_138 => ?_)
            · skip
              refine lv_iconst (v := 0) hx hb dM_begin_150 (by decide) ?_
              refine W.zret (v := (0)) hx hb hr rfl (M_endi hM hK hS ?_) hS.2.2 dM_begin_151
              exact md_no (by simp [md_begin, md_add, c_37, c_43, c_85, c_91, c_97, c_138])
            · skip
              refine lv_aload_n hx hb dM_begin_141 rfl (lv_at hl 0 rfl) ?_
              refine M_getv hx hb K hM 7 (v := nI 0) hQ.1.1 kM_f84 dM_begin_142 (kk := ?_)
              refine lv_bipush (v := 12) hx hb dM_begin_145 (by decide) ?_
              refine lv_icmp_ne (tgt := 152) hx hb dM_begin_147 (by decide) (fun c_147 => ?_) (fun c_147 => absurd c_147 (by decide))
              refine lv_aload_n hx hb dM_begin_152 rfl (lv_at hl 0 rfl) ?_
              refine M_geta hx hb K hM 3 kM_f13 dM_begin_153 (kk := ?_)
              refine lv_aload_n hx hb dM_begin_156 rfl (lv_at hl 0 rfl) ?_
              refine M_getv hx hb K hM 7 (v := nI 0) hQ.1.1 kM_f84 dM_begin_157 (kk := ?_)
              refine lv_aload_n hx hb dM_begin_160 rfl (lv_at hl 0 rfl) ?_
              refine lv_bipush (v := 40) hx hb dM_begin_161 (by decide) ?_
              refine va_calli (M_run (As := [.int (40)]) (rest := [.int (nI 0), .ref (ad 3)]) (n := 1) hx hb hml K hM (c_newNode l D cl tys A ci tI tZ cI cZ o ad _ _ (40) n hQ.1.2.2 hn) kM_c_newNode kM_m90 kM_i_newNode kM_s_newNode rfl rfl ⟨rfl, by decide +kernel⟩ ⟨Nat.le_of_ble_eq_true rfl, Nat.le_of_ble_eq_true rfl⟩ rfl hl.1 rfl (lv_room (Nat.le_of_ble_eq_true rfl)) dM_begin_163 ⟨Nat.le_of_ble_eq_true rfl, Nat.le_of_ble_eq_true rfl⟩) hS (fun q _ h => h) (fun q h => h) (fun r u t H1 locs1 ht hvm hw hB hz hk hS => ?_)
              obtain ⟨hM, -⟩ := hB
              rw [ht] at hM
              obtain ⟨rfl, rfl⟩ := hw
              dsimp only at hM
              refine M_astn hx hb K hM hS 3 (j := 0) (show 0 < 13 by omega) dM_begin_166 (kk := fun H locs hM hS => ?_)
              refine lv_aload_n hx hb dM_begin_167 rfl (lv_at hl 0 rfl) ?_
              refine M_geta hx hb K hM 4 kM_f16 dM_begin_168 (kk := ?_)
              refine lv_aload_n hx hb dM_begin_171 rfl (lv_at hl 0 rfl) ?_
              refine M_getv hx hb K hM 7 (v := nI 0) hQ.1.1 kM_f84 dM_begin_172 (kk := ?_)
              refine lv_iconst (v := 0) hx hb dM_begin_175 (by decide) ?_
              refine M_astn hx hb K hM hS 4 (j := 0) (show 0 < 13 by omega) dM_begin_176 (kk := fun H locs hM hS => ?_)
              refine lv_aload_n hx hb dM_begin_177 rfl (lv_at hl 0 rfl) ?_
              refine M_geta hx hb K hM 5 kM_f19 dM_begin_178 (kk := ?_)
              refine lv_aload_n hx hb dM_begin_181 rfl (lv_at hl 0 rfl) ?_
              refine M_getv hx hb K hM 7 (v := nI 0) hQ.1.1 kM_f84 dM_begin_182 (kk := ?_)
              refine lv_iconst (v := 1) hx hb dM_begin_185 (by decide) ?_
              refine M_astn hx hb K hM hS 5 (j := 0) (show 0 < 13 by omega) dM_begin_186 (kk := fun H locs hM hS => ?_)
              refine lv_aload_n hx hb dM_begin_187 rfl (lv_at hl 0 rfl) ?_
              refine M_geta hx hb K hM 6 kM_f22 dM_begin_188 (kk := ?_)
              refine lv_aload_n hx hb dM_begin_191 rfl (lv_at hl 0 rfl) ?_
              refine M_getv hx hb K hM 7 (v := nI 0) hQ.1.1 kM_f84 dM_begin_192 (kk := ?_)
              refine lv_iconst (v := 4) hx hb dM_begin_195 (by decide) ?_
              refine M_astn hx hb K hM hS 6 (j := 0) (show 0 < 13 by omega) dM_begin_196 (kk := fun H locs hM hS => ?_)
              refine lv_aload_n hx hb dM_begin_197 rfl (lv_at hl 0 rfl) ?_
              refine lv_dup hx hb dM_begin_198 rfl ?_
              refine M_getv hx hb K hM 7 (v := nI 0) hQ.1.1 kM_f84 dM_begin_199 (kk := ?_)
              refine lv_iconst (v := 1) hx hb dM_begin_202 (by decide) ?_
              refine lv_iadd hx hb dM_begin_203 ?_
              refine lv_as (v := nI (0 + 1)) (nI_1 _) ?_
              refine M_puti hx hb K hM hS 7 kM_f84 dM_begin_204 (kk := fun H locs hM hS => ?_)
              refine lv_aload_n hx hb dM_begin_207 rfl (lv_at hl 0 rfl) ?_
              refine lv_iconst (v := 1) hx hb dM_begin_208 (by decide) ?_
              refine M_puti hx hb K hM hS 8 kM_f87 dM_begin_209 (kk := fun H locs hM hS => ?_)
              refine lv_iconst (v := 1) hx hb dM_begin_212 (by decide) ?_
              refine W.zret (v := (1)) hx hb hr rfl (M_endi hM hK hS ?_) hS.2.2 dM_begin_213
              exact ⟨⟨fun j h1 h2 h3 => by simp only [up_n h1, up_n h2, up_n h3], rfl⟩, Or.inr ⟨rfl, (0 + 1, 1, n + 1, va_up pt 0 0, va_up fw 0 1, va_up mo 0 4, nm, dg), by simp [md_begin, md_add, c_37, c_43, c_85, c_91, c_97, c_138, c_147], _, mdQ_open hQ hn (by omega) (fun j hj => by omega) rfl rfl rfl rfl rfl rfl rfl upd_s⟩⟩
          · skip
            refine lv_aload_n hx hb dM_begin_100 rfl (lv_at hl 0 rfl) ?_
            refine lv_iload_n hx hb dM_begin_101 rfl (lv_at hl 1 rfl) ?_
            refine lv_bipush (v := 95) hx hb dM_begin_102 (by decide) ?_
            refine lv_icmp_ne (tgt := 112) hx hb dM_begin_104 (by decide) (fun c_104 => ?_) (fun c_104 => ?_)
            · skip
              refine lv_bipush (v := 110) hx hb dM_begin_112 (by decide) ?_
              refine va_calli (M_run (As := [.int (110)]) (rest := []) (n := 1) hx hb hml K hM (c_newNode l D cl tys A ci tI tZ cI cZ o ad _ _ (110) n hQ.1.2.2 hn) kM_c_newNode kM_m90 kM_i_newNode kM_s_newNode rfl rfl ⟨rfl, by decide +kernel⟩ ⟨Nat.le_of_ble_eq_true rfl, Nat.le_of_ble_eq_true rfl⟩ rfl hl.1 rfl (lv_room (Nat.le_of_ble_eq_true rfl)) dM_begin_114 ⟨Nat.le_of_ble_eq_true rfl, Nat.le_of_ble_eq_true rfl⟩) hS (fun q _ h => h) (fun q h => h) (fun r u t H1 locs1 ht hvm hw hB hz hk hS => ?_)
              obtain ⟨hM, -⟩ := hB
              rw [ht] at hM
              obtain ⟨rfl, rfl⟩ := hw
              dsimp only at hM
              refine lv_istore_n (lv' := [(2, .int (nI n)), (0, .ref o), (1, .int k)]) hx hb dM_begin_117 rfl hl (by decide) rfl (fun ls hl => ?_)
              refine lv_aload_n hx hb dM_begin_118 rfl (lv_at hl 1 rfl) ?_
              refine M_geta hx hb K hM 10 kM_f28 dM_begin_119 (kk := ?_)
              refine lv_iload_n hx hb dM_begin_122 rfl (lv_at hl 0 rfl) ?_
              refine lv_iload_n hx hb dM_begin_123 rfl (lv_at hl 2 rfl) ?_
              refine lv_bipush (v := 97) hx hb dM_begin_124 (by decide) ?_
              refine lv_isub hx hb dM_begin_126 ?_
              refine M_astn hx hb K hM hS 10 (j := n) hn dM_begin_127 (kk := fun H locs hM hS => ?_)
              refine lv_aload_n hx hb dM_begin_128 rfl (lv_at hl 1 rfl) ?_
              refine lv_iload_n hx hb dM_begin_129 rfl (lv_at hl 0 rfl) ?_
              refine va_callv (M_run (As := [.int (nI n)]) (rest := []) (n := 1) hx hb hml K hM (c_attach0 l D cl tys A ci tI tZ cI cZ o ad _ _ (nI n) (hQ.1.1.trans nI_0)) kM_c_attach kM_m94 kM_i_attach kM_s_attach rfl rfl ⟨rfl, by decide +kernel⟩ ⟨Nat.le_of_ble_eq_true rfl, Nat.le_of_ble_eq_true rfl⟩ rfl hl.1 rfl (lv_room (Nat.le_of_ble_eq_true rfl)) dM_begin_130 ⟨Nat.le_of_ble_eq_true rfl, Nat.le_of_ble_eq_true rfl⟩) hS (fun q _ h => h) (fun q h => h) (fun u t H1 locs1 ht hvm hw hB hz hk hS => ?_)
              obtain ⟨hM, -⟩ := hB
              rw [ht] at hM
              obtain rfl := hw
              dsimp only at hM
              refine lv_iconst (v := 1) hx hb dM_begin_133 (by decide) ?_
              refine W.zret (v := (1)) hx hb hr rfl (M_endi hM hK hS ?_) hS.2.2 dM_begin_134
              exact ⟨⟨fun j h1 h2 h3 => by simp only [up_n h1, up_n h2, up_n h3], rfl⟩, Or.inr ⟨rfl, (0, 6, n + 1, pt, fw, mo, nm, dg), by simp [md_begin, md_add, c_37, c_43, c_85, c_91, c_97, c_104], op, mdQ_leaf0 hQ hn 6 dg rfl rfl rfl (Or.inl rfl)⟩⟩
            · skip
              refine lv_bipush (v := 95) hx hb dM_begin_107 (by decide) ?_
              refine lv_goto (tgt := 114) hx hb dM_begin_109 (by decide) ?_
              refine va_calli (M_run (As := [.int (95)]) (rest := []) (n := 1) hx hb hml K hM (c_newNode l D cl tys A ci tI tZ cI cZ o ad _ _ (95) n hQ.1.2.2 hn) kM_c_newNode kM_m90 kM_i_newNode kM_s_newNode rfl rfl ⟨rfl, by decide +kernel⟩ ⟨Nat.le_of_ble_eq_true rfl, Nat.le_of_ble_eq_true rfl⟩ rfl hl.1 rfl (lv_room (Nat.le_of_ble_eq_true rfl)) dM_begin_114 ⟨Nat.le_of_ble_eq_true rfl, Nat.le_of_ble_eq_true rfl⟩) hS (fun q _ h => h) (fun q h => h) (fun r u t H1 locs1 ht hvm hw hB hz hk hS => ?_)
              obtain ⟨hM, -⟩ := hB
              rw [ht] at hM
              obtain ⟨rfl, rfl⟩ := hw
              dsimp only at hM
              refine lv_istore_n (lv' := [(2, .int (nI n)), (0, .ref o), (1, .int k)]) hx hb dM_begin_117 rfl hl (by decide) rfl (fun ls hl => ?_)
              refine lv_aload_n hx hb dM_begin_118 rfl (lv_at hl 1 rfl) ?_
              refine M_geta hx hb K hM 10 kM_f28 dM_begin_119 (kk := ?_)
              refine lv_iload_n hx hb dM_begin_122 rfl (lv_at hl 0 rfl) ?_
              refine lv_iload_n hx hb dM_begin_123 rfl (lv_at hl 2 rfl) ?_
              refine lv_bipush (v := 97) hx hb dM_begin_124 (by decide) ?_
              refine lv_isub hx hb dM_begin_126 ?_
              refine M_astn hx hb K hM hS 10 (j := n) hn dM_begin_127 (kk := fun H locs hM hS => ?_)
              refine lv_aload_n hx hb dM_begin_128 rfl (lv_at hl 1 rfl) ?_
              refine lv_iload_n hx hb dM_begin_129 rfl (lv_at hl 0 rfl) ?_
              refine va_callv (M_run (As := [.int (nI n)]) (rest := []) (n := 1) hx hb hml K hM (c_attach0 l D cl tys A ci tI tZ cI cZ o ad _ _ (nI n) (hQ.1.1.trans nI_0)) kM_c_attach kM_m94 kM_i_attach kM_s_attach rfl rfl ⟨rfl, by decide +kernel⟩ ⟨Nat.le_of_ble_eq_true rfl, Nat.le_of_ble_eq_true rfl⟩ rfl hl.1 rfl (lv_room (Nat.le_of_ble_eq_true rfl)) dM_begin_130 ⟨Nat.le_of_ble_eq_true rfl, Nat.le_of_ble_eq_true rfl⟩) hS (fun q _ h => h) (fun q h => h) (fun u t H1 locs1 ht hvm hw hB hz hk hS => ?_)
              obtain ⟨hM, -⟩ := hB
              rw [ht] at hM
              obtain rfl := hw
              dsimp only at hM
              refine lv_iconst (v := 1) hx hb dM_begin_133 (by decide) ?_
              refine W.zret (v := (1)) hx hb hr rfl (M_endi hM hK hS ?_) hS.2.2 dM_begin_134
              exact ⟨⟨fun j h1 h2 h3 => by simp only [up_n h1, up_n h2, up_n h3], rfl⟩, Or.inr ⟨rfl, (0, 6, n + 1, pt, fw, mo, nm, dg), by simp [md_begin, md_add, c_37, c_43, c_85, c_91, c_97, c_104], op, mdQ_leaf0 hQ hn 6 dg rfl rfl rfl (Or.inl rfl)⟩⟩
    · skip
      refine lv_aload_n hx hb dM_begin_46 rfl (lv_at hl 0 rfl) ?_
      refine lv_bipush (v := 48) hx hb dM_begin_47 (by decide) ?_
      refine va_calli (M_run (As := [.int (48)]) (rest := []) (n := 1) hx hb hml K hM (c_newNode l D cl tys A ci tI tZ cI cZ o ad _ _ (48) n hQ.1.2.2 hn) kM_c_newNode kM_m90 kM_i_newNode kM_s_newNode rfl rfl ⟨rfl, by decide +kernel⟩ ⟨Nat.le_of_ble_eq_true rfl, Nat.le_of_ble_eq_true rfl⟩ rfl hl.1 rfl (lv_room (Nat.le_of_ble_eq_true rfl)) dM_begin_49 ⟨Nat.le_of_ble_eq_true rfl, Nat.le_of_ble_eq_true rfl⟩) hS (fun q _ h => h) (fun q h => h) (fun r u t H1 locs1 ht hvm hw hB hz hk hS => ?_)
      obtain ⟨hM, -⟩ := hB
      rw [ht] at hM
      obtain ⟨rfl, rfl⟩ := hw
      dsimp only at hM
      refine lv_istore_n (lv' := [(2, .int (nI n)), (0, .ref o), (1, .int k)]) hx hb dM_begin_52 rfl hl (by decide) rfl (fun ls hl => ?_)
      refine lv_aload_n hx hb dM_begin_53 rfl (lv_at hl 1 rfl) ?_
      refine M_geta hx hb K hM 10 kM_f28 dM_begin_54 (kk := ?_)
      refine lv_iload_n hx hb dM_begin_57 rfl (lv_at hl 0 rfl) ?_
      refine lv_iload_n hx hb dM_begin_58 rfl (lv_at hl 2 rfl) ?_
      refine lv_bipush (v := 48) hx hb dM_begin_59 (by decide) ?_
      refine lv_isub hx hb dM_begin_61 ?_
      refine M_astn hx hb K hM hS 10 (j := n) hn dM_begin_62 (kk := fun H locs hM hS => ?_)
      refine lv_aload_n hx hb dM_begin_63 rfl (lv_at hl 1 rfl) ?_
      refine M_geta hx hb K hM 11 kM_f31 dM_begin_64 (kk := ?_)
      refine lv_iload_n hx hb dM_begin_67 rfl (lv_at hl 0 rfl) ?_
      refine lv_iconst (v := 1) hx hb dM_begin_68 (by decide) ?_
      refine M_astn hx hb K hM hS 11 (j := n) hn dM_begin_69 (kk := fun H locs hM hS => ?_)
      refine lv_aload_n hx hb dM_begin_70 rfl (lv_at hl 1 rfl) ?_
      refine lv_iload_n hx hb dM_begin_71 rfl (lv_at hl 0 rfl) ?_
      refine va_callv (M_run (As := [.int (nI n)]) (rest := []) (n := 1) hx hb hml K hM (c_attach0 l D cl tys A ci tI tZ cI cZ o ad _ _ (nI n) (hQ.1.1.trans nI_0)) kM_c_attach kM_m94 kM_i_attach kM_s_attach rfl rfl ⟨rfl, by decide +kernel⟩ ⟨Nat.le_of_ble_eq_true rfl, Nat.le_of_ble_eq_true rfl⟩ rfl hl.1 rfl (lv_room (Nat.le_of_ble_eq_true rfl)) dM_begin_72 ⟨Nat.le_of_ble_eq_true rfl, Nat.le_of_ble_eq_true rfl⟩) hS (fun q _ h => h) (fun q h => h) (fun u t H1 locs1 ht hvm hw hB hz hk hS => ?_)
      obtain ⟨hM, -⟩ := hB
      rw [ht] at hM
      obtain rfl := hw
      dsimp only at hM
      refine lv_aload_n hx hb dM_begin_75 rfl (lv_at hl 1 rfl) ?_
      refine lv_iconst (v := 4) hx hb dM_begin_76 (by decide) ?_
      refine M_puti hx hb K hM hS 8 kM_f87 dM_begin_77 (kk := fun H locs hM hS => ?_)
      refine lv_iconst (v := 1) hx hb dM_begin_80 (by decide) ?_
      refine W.zret (v := (1)) hx hb hr rfl (M_endi hM hK hS ?_) hS.2.2 dM_begin_81
      exact ⟨⟨fun j h1 h2 h3 => by simp only [up_n h1, up_n h2, up_n h3], rfl⟩, Or.inr ⟨rfl, (0, 4, n + 1, pt, fw, mo, nm, 1), by simp [md_begin, md_add, c_37, c_43], op, mdQ_leaf0 hQ hn 4 1 rfl rfl rfl (Or.inr ⟨rfl, by decide, upd_s⟩)⟩⟩
set_option maxHeartbeats 4000000 in
set_option maxRecDepth 100000 in
theorem c_beginS (l : Launch) (D : va_G) (cl : List vw_C) (tys : List (ClassId × FieldType)) (A : Nat → Prop) (ci tI tZ : Nat) (cI cZ : ClassId) (o : Nat) (ad : Nat → Nat) (fi : Nat → Int32) (fa : Nat → Nat → Int32) (k : Int32) (op : Nat → Nat) (d md n : Nat) (pt fw mo : Nat → Nat) (nm : List Nat) (dg : Nat) (hQ : mdQ fi fa op (d + 1) md n pt fw mo nm dg) (hn : n < 120) :
    Met l yM_begin (.code yM_begin bM_begin 3 (some .boolean) :: lw_g) ({ frames := 1, cells := 0, slots := 0, locals := 22 }) (va_Pc [.ref o, .int k] (mdPre D cl tys A ci tI tZ cI cZ o ad fi fa)) (va_Qi (md_res (md_begin k (d + 1, md, n, pt, fw, mo, nm, dg)) fi fa) (mdB D cl tys A ci cI cZ o ad) A) 0 0 A := by
  refine Met.ofW (cc := bM_begin) (maxL := 3) (ret := (some .boolean)) (by decide) rfl ?_
  intro p e s m args below meth c s₁ B hml hv
  obtain ⟨rfl, hM, hK, hc, hI, hZ⟩ := hv
  have hx := B.exec
  have hb := B.bytes
  have hr := B.returns
  have hts := atoms_spec (ws := (.code yM_begin bM_begin 3 (some .boolean) :: lw_g)) B.pre
  have hown : s.vm.findClass RM = some m.cls := findClass_of_methodNamed B.named
  have K : mdC D cl tys ci tI tZ cI cZ s m _ := ⟨fun w h => hts w (List.mem_cons_of_mem _ h), hown, hK, hc, hI, hZ⟩
  have hlocks := B.notSynchronized
  have hS : va_S A s.heap s.heap [] := va_S.rf
  have hl := lv_entry ([.ref o, .int k]) (n := 3) (Nat.le_of_ble_eq_true rfl)
  rw [lg_entry_eq]
  generalize (lg_sl ([.ref o, .int k]) ++ List.replicate (3 - (lg_sl ([.ref o, .int k])).length) Slot.unset).toArray = ls at hl ⊢
  have hl : lv_has ls 3 [(0, .ref o), (1, .int k)] := hl
  have hd11 : d + 1 ≤ 12 := hQ.2.1.1
  have hod := (hQ.2.2.1 d (by omega)).1.2
  have hpm := (hQ.2.2.1 d (by omega)).2.2
  refine lv_aload_n hx hb dM_begin_0 rfl (lv_at hl 0 rfl) ?_
  refine M_getv hx hb K hM 7 (v := nI (d + 1)) hQ.1.1 kM_f84 dM_begin_1 (kk := ?_)
  refine lv_if_le (tgt := 34) hx hb dM_begin_4 (by decide) (fun c_4 => absurd c_4 (nI_nle (Nat.succ_pos d) (by omega))) (fun c_4 => ?_)
  refine lv_aload_n hx hb dM_begin_7 rfl (lv_at hl 0 rfl) ?_
  refine M_geta hx hb K hM 4 kM_f16 dM_begin_8 (kk := ?_)
  refine lv_aload_n hx hb dM_begin_11 rfl (lv_at hl 0 rfl) ?_
  refine M_getv hx hb K hM 7 (v := nI (d + 1)) hQ.1.1 kM_f84 dM_begin_12 (kk := ?_)
  refine lv_iconst (v := 1) hx hb dM_begin_15 (by decide) ?_
  refine lv_isub hx hb dM_begin_16 ?_
  refine lv_as (v := nI d) (nI_pred d) ?_
  refine M_aldn hx hb K hM 4 (j := d) (show d < 13 by omega) (v := nI (pt d)) (hQ.2.2.1 d (by omega)).2.1.1 dM_begin_17 (kk := ?_)
  refine lv_aload_n hx hb dM_begin_18 rfl (lv_at hl 0 rfl) ?_
  refine M_geta hx hb K hM 6 kM_f22 dM_begin_19 (kk := ?_)
  refine lv_aload_n hx hb dM_begin_22 rfl (lv_at hl 0 rfl) ?_
  refine M_getv hx hb K hM 7 (v := nI (d + 1)) hQ.1.1 kM_f84 dM_begin_23 (kk := ?_)
  refine lv_iconst (v := 1) hx hb dM_begin_26 (by decide) ?_
  refine lv_isub hx hb dM_begin_27 ?_
  refine lv_as (v := nI d) (nI_pred d) ?_
  refine M_aldn hx hb K hM 6 (j := d) (show d < 13 by omega) (v := nI (mo d)) (hQ.2.2.1 d (by omega)).2.1.2.2 dM_begin_28 (kk := ?_)
  refine lv_icmp_ne (tgt := 34) hx hb dM_begin_29 (by decide) (fun c_29 => ?_) (fun c_29 => ?_)
  · skip
    have hp : ¬ pt d = mo d := fun q => c_29 (by rw [q])
    have hp3 : pt d < mo d := by omega
    refine lv_iload_n hx hb dM_begin_34 rfl (lv_at hl 1 rfl) ?_
    refine lv_bipush (v := 48) hx hb dM_begin_35 (by decide) ?_
    refine lv_icmp_lt (tgt := 82) hx hb dM_begin_37 (by decide) (fun c_37 => ?_) (fun c_37 => ?_)
    · skip
      refine lv_iload_n hx hb dM_begin_82 rfl (lv_at hl 1 rfl) ?_
      refine lv_bipush (v := 97) hx hb dM_begin_83 (by decide) ?_
      refine lv_icmp_lt (tgt := 94) hx hb dM_begin_85 (by decide) (fun c_85 => ?_) (fun c_85 => ?_)
      · skip
        refine lv_iload_n hx hb dM_begin_94 rfl (lv_at hl 1 rfl) ?_
        refine lv_bipush (v := 95) hx hb dM_begin_95 (by decide) ?_
        refine lv_icmp_ne (tgt := 135) hx hb dM_begin_97 (by decide) (fun c_97 => ?_) (fun c_97 => ?_)
        · skip
          refine lv_iload_n hx hb dM_begin_135 rfl (lv_at hl 1 rfl) ?_
          refine lv_bipush (v := 40) hx hb dM_begin_136 (by decide) ?_
          refine lv_icmp_ne (tgt := 150) hx hb dM_begin_138 (by decide) (fun c_138 => ?_) (fun c_138 => ?_)
          · skip
            refine lv_iconst (v := 0) hx hb dM_begin_150 (by decide) ?_
            refine W.zret (v := (0)) hx hb hr rfl (M_endi hM hK hS ?_) hS.2.2 dM_begin_151
            exact md_no (by simp [md_begin, hp, c_37, c_85, c_97, c_138])
          · skip
            refine lv_aload_n hx hb dM_begin_141 rfl (lv_at hl 0 rfl) ?_
            refine M_getv hx hb K hM 7 (v := nI (d + 1)) hQ.1.1 kM_f84 dM_begin_142 (kk := ?_)
            refine lv_bipush (v := 12) hx hb dM_begin_145 (by decide) ?_
            refine lv_icmp_ne (tgt := 152) hx hb dM_begin_147 (by decide) (fun c_147 => ?_) (fun c_147 => ?_)
            · skip
              have hd12 : ¬ d + 1 = 12 := fun q => c_147 (by rw [q]; rfl)
              refine lv_aload_n hx hb dM_begin_152 rfl (lv_at hl 0 rfl) ?_
              refine M_geta hx hb K hM 3 kM_f13 dM_begin_153 (kk := ?_)
              refine lv_aload_n hx hb dM_begin_156 rfl (lv_at hl 0 rfl) ?_
              refine M_getv hx hb K hM 7 (v := nI (d + 1)) hQ.1.1 kM_f84 dM_begin_157 (kk := ?_)
              refine lv_aload_n hx hb dM_begin_160 rfl (lv_at hl 0 rfl) ?_
              refine lv_bipush (v := 40) hx hb dM_begin_161 (by decide) ?_
              refine va_calli (M_run (As := [.int (40)]) (rest := [.int (nI (d + 1)), .ref (ad 3)]) (n := 1) hx hb hml K hM (c_newNode l D cl tys A ci tI tZ cI cZ o ad _ _ (40) n hQ.1.2.2 hn) kM_c_newNode kM_m90 kM_i_newNode kM_s_newNode rfl rfl ⟨rfl, by decide +kernel⟩ ⟨Nat.le_of_ble_eq_true rfl, Nat.le_of_ble_eq_true rfl⟩ rfl hl.1 rfl (lv_room (Nat.le_of_ble_eq_true rfl)) dM_begin_163 ⟨Nat.le_of_ble_eq_true rfl, Nat.le_of_ble_eq_true rfl⟩) hS (fun q _ h => h) (fun q h => h) (fun r u t H1 locs1 ht hvm hw hB hz hk hS => ?_)
              obtain ⟨hM, -⟩ := hB
              rw [ht] at hM
              obtain ⟨rfl, rfl⟩ := hw
              dsimp only at hM
              refine M_astn hx hb K hM hS 3 (j := (d + 1)) (show (d + 1) < 13 by omega) dM_begin_166 (kk := fun H locs hM hS => ?_)
              refine lv_aload_n hx hb dM_begin_167 rfl (lv_at hl 0 rfl) ?_
              refine M_geta hx hb K hM 4 kM_f16 dM_begin_168 (kk := ?_)
              refine lv_aload_n hx hb dM_begin_171 rfl (lv_at hl 0 rfl) ?_
              refine M_getv hx hb K hM 7 (v := nI (d + 1)) hQ.1.1 kM_f84 dM_begin_172 (kk := ?_)
              refine lv_iconst (v := 0) hx hb dM_begin_175 (by decide) ?_
              refine M_astn hx hb K hM hS 4 (j := (d + 1)) (show (d + 1) < 13 by omega) dM_begin_176 (kk := fun H locs hM hS => ?_)
              refine lv_aload_n hx hb dM_begin_177 rfl (lv_at hl 0 rfl) ?_
              refine M_geta hx hb K hM 5 kM_f19 dM_begin_178 (kk := ?_)
              refine lv_aload_n hx hb dM_begin_181 rfl (lv_at hl 0 rfl) ?_
              refine M_getv hx hb K hM 7 (v := nI (d + 1)) hQ.1.1 kM_f84 dM_begin_182 (kk := ?_)
              refine lv_iconst (v := 1) hx hb dM_begin_185 (by decide) ?_
              refine M_astn hx hb K hM hS 5 (j := (d + 1)) (show (d + 1) < 13 by omega) dM_begin_186 (kk := fun H locs hM hS => ?_)
              refine lv_aload_n hx hb dM_begin_187 rfl (lv_at hl 0 rfl) ?_
              refine M_geta hx hb K hM 6 kM_f22 dM_begin_188 (kk := ?_)
              refine lv_aload_n hx hb dM_begin_191 rfl (lv_at hl 0 rfl) ?_
              refine M_getv hx hb K hM 7 (v := nI (d + 1)) hQ.1.1 kM_f84 dM_begin_192 (kk := ?_)
              refine lv_iconst (v := 4) hx hb dM_begin_195 (by decide) ?_
              refine M_astn hx hb K hM hS 6 (j := (d + 1)) (show (d + 1) < 13 by omega) dM_begin_196 (kk := fun H locs hM hS => ?_)
              refine lv_aload_n hx hb dM_begin_197 rfl (lv_at hl 0 rfl) ?_
              refine lv_dup hx hb dM_begin_198 rfl ?_
              refine M_getv hx hb K hM 7 (v := nI (d + 1)) hQ.1.1 kM_f84 dM_begin_199 (kk := ?_)
              refine lv_iconst (v := 1) hx hb dM_begin_202 (by decide) ?_
              refine lv_iadd hx hb dM_begin_203 ?_
              refine lv_as (v := nI ((d + 1) + 1)) (nI_1 _) ?_
              refine M_puti hx hb K hM hS 7 kM_f84 dM_begin_204 (kk := fun H locs hM hS => ?_)
              refine lv_aload_n hx hb dM_begin_207 rfl (lv_at hl 0 rfl) ?_
              refine lv_iconst (v := 1) hx hb dM_begin_208 (by decide) ?_
              refine M_puti hx hb K hM hS 8 kM_f87 dM_begin_209 (kk := fun H locs hM hS => ?_)
              refine lv_iconst (v := 1) hx hb dM_begin_212 (by decide) ?_
              refine W.zret (v := (1)) hx hb hr rfl (M_endi hM hK hS ?_) hS.2.2 dM_begin_213
              exact ⟨⟨fun j h1 h2 h3 => by simp only [up_n h1, up_n h2, up_n h3], rfl⟩, Or.inr ⟨rfl, (d + 1 + 1, 1, n + 1, va_up pt (d + 1) 0, va_up fw (d + 1) 1, va_up mo (d + 1) 4, nm, dg), by simp [md_begin, hp, hd12, c_37, c_85, c_97, c_138], _, mdQ_open hQ hn (by omega) (fun j hj => by rw [show j = d by omega]; exact hp3) rfl rfl rfl rfl rfl rfl rfl upd_s⟩⟩
            · skip
              refine lv_iconst (v := 0) hx hb dM_begin_150 (by decide) ?_
              refine W.zret (v := (0)) hx hb hr rfl (M_endi hM hK hS ?_) hS.2.2 dM_begin_151
              exact md_no (by have := (nI_eq (b := 12) (by omega) (by decide)).mp c_147; simp [md_begin, hp, this, c_37, c_85, c_97, c_138])
        · skip
          refine lv_aload_n hx hb dM_begin_100 rfl (lv_at hl 0 rfl) ?_
          refine lv_iload_n hx hb dM_begin_101 rfl (lv_at hl 1 rfl) ?_
          refine lv_bipush (v := 95) hx hb dM_begin_102 (by decide) ?_
          refine lv_icmp_ne (tgt := 112) hx hb dM_begin_104 (by decide) (fun c_104 => ?_) (fun c_104 => ?_)
          · skip
            refine lv_bipush (v := 110) hx hb dM_begin_112 (by decide) ?_
            refine va_calli (M_run (As := [.int (110)]) (rest := []) (n := 1) hx hb hml K hM (c_newNode l D cl tys A ci tI tZ cI cZ o ad _ _ (110) n hQ.1.2.2 hn) kM_c_newNode kM_m90 kM_i_newNode kM_s_newNode rfl rfl ⟨rfl, by decide +kernel⟩ ⟨Nat.le_of_ble_eq_true rfl, Nat.le_of_ble_eq_true rfl⟩ rfl hl.1 rfl (lv_room (Nat.le_of_ble_eq_true rfl)) dM_begin_114 ⟨Nat.le_of_ble_eq_true rfl, Nat.le_of_ble_eq_true rfl⟩) hS (fun q _ h => h) (fun q h => h) (fun r u t H1 locs1 ht hvm hw hB hz hk hS => ?_)
            obtain ⟨hM, -⟩ := hB
            rw [ht] at hM
            obtain ⟨rfl, rfl⟩ := hw
            dsimp only at hM
            refine lv_istore_n (lv' := [(2, .int (nI n)), (0, .ref o), (1, .int k)]) hx hb dM_begin_117 rfl hl (by decide) rfl (fun ls hl => ?_)
            refine lv_aload_n hx hb dM_begin_118 rfl (lv_at hl 1 rfl) ?_
            refine M_geta hx hb K hM 10 kM_f28 dM_begin_119 (kk := ?_)
            refine lv_iload_n hx hb dM_begin_122 rfl (lv_at hl 0 rfl) ?_
            refine lv_iload_n hx hb dM_begin_123 rfl (lv_at hl 2 rfl) ?_
            refine lv_bipush (v := 97) hx hb dM_begin_124 (by decide) ?_
            refine lv_isub hx hb dM_begin_126 ?_
            refine M_astn hx hb K hM hS 10 (j := n) hn dM_begin_127 (kk := fun H locs hM hS => ?_)
            refine lv_aload_n hx hb dM_begin_128 rfl (lv_at hl 1 rfl) ?_
            refine lv_iload_n hx hb dM_begin_129 rfl (lv_at hl 0 rfl) ?_
            refine va_callv (M_run (As := [.int (nI n)]) (rest := []) (n := 1) hx hb hml K hM (c_attachS l D cl tys A ci tI tZ cI cZ o ad _ _ (nI n) d (op d) (pt d) hQ.1.1 (by omega) (hQ.2.2.1 d (by omega)).1.1 (by omega) (hQ.2.2.1 d (by omega)).2.1.1 (by omega)) kM_c_attach kM_m94 kM_i_attach kM_s_attach rfl rfl ⟨rfl, by decide +kernel⟩ ⟨Nat.le_of_ble_eq_true rfl, Nat.le_of_ble_eq_true rfl⟩ rfl hl.1 rfl (lv_room (Nat.le_of_ble_eq_true rfl)) dM_begin_130 ⟨Nat.le_of_ble_eq_true rfl, Nat.le_of_ble_eq_true rfl⟩) hS (fun q _ h => h) (fun q h => h) (fun u t H1 locs1 ht hvm hw hB hz hk hS => ?_)
            obtain ⟨hM, -⟩ := hB
            rw [ht] at hM
            obtain ⟨g, rfl⟩ := hw
            dsimp only at hM
            refine lv_iconst (v := 1) hx hb dM_begin_133 (by decide) ?_
            refine W.zret (v := (1)) hx hb hr rfl (M_endi hM hK hS ?_) hS.2.2 dM_begin_134
            exact ⟨⟨fun j h1 h2 h3 => by simp only [up_n h1, up_n h2, up_n h3], rfl⟩, Or.inr ⟨rfl, (d + 1, 0, n + 1, va_up pt d (pt d + 1), fw, mo, nm, dg), by simp [md_begin, md_add, hp, c_37, c_85, c_97, c_104], op, mdQ_leafS hQ hn hp3 0 dg rfl rfl rfl rfl rfl rfl rfl (Or.inl rfl)⟩⟩
          · skip
            refine lv_bipush (v := 95) hx hb dM_begin_107 (by decide) ?_
            refine lv_goto (tgt := 114) hx hb dM_begin_109 (by decide) ?_
            refine va_calli (M_run (As := [.int (95)]) (rest := []) (n := 1) hx hb hml K hM (c_newNode l D cl tys A ci tI tZ cI cZ o ad _ _ (95) n hQ.1.2.2 hn) kM_c_newNode kM_m90 kM_i_newNode kM_s_newNode rfl rfl ⟨rfl, by decide +kernel⟩ ⟨Nat.le_of_ble_eq_true rfl, Nat.le_of_ble_eq_true rfl⟩ rfl hl.1 rfl (lv_room (Nat.le_of_ble_eq_true rfl)) dM_begin_114 ⟨Nat.le_of_ble_eq_true rfl, Nat.le_of_ble_eq_true rfl⟩) hS (fun q _ h => h) (fun q h => h) (fun r u t H1 locs1 ht hvm hw hB hz hk hS => ?_)
            obtain ⟨hM, -⟩ := hB
            rw [ht] at hM
            obtain ⟨rfl, rfl⟩ := hw
            dsimp only at hM
            refine lv_istore_n (lv' := [(2, .int (nI n)), (0, .ref o), (1, .int k)]) hx hb dM_begin_117 rfl hl (by decide) rfl (fun ls hl => ?_)
            refine lv_aload_n hx hb dM_begin_118 rfl (lv_at hl 1 rfl) ?_
            refine M_geta hx hb K hM 10 kM_f28 dM_begin_119 (kk := ?_)
            refine lv_iload_n hx hb dM_begin_122 rfl (lv_at hl 0 rfl) ?_
            refine lv_iload_n hx hb dM_begin_123 rfl (lv_at hl 2 rfl) ?_
            refine lv_bipush (v := 97) hx hb dM_begin_124 (by decide) ?_
            refine lv_isub hx hb dM_begin_126 ?_
            refine M_astn hx hb K hM hS 10 (j := n) hn dM_begin_127 (kk := fun H locs hM hS => ?_)
            refine lv_aload_n hx hb dM_begin_128 rfl (lv_at hl 1 rfl) ?_
            refine lv_iload_n hx hb dM_begin_129 rfl (lv_at hl 0 rfl) ?_
            refine va_callv (M_run (As := [.int (nI n)]) (rest := []) (n := 1) hx hb hml K hM (c_attachS l D cl tys A ci tI tZ cI cZ o ad _ _ (nI n) d (op d) (pt d) hQ.1.1 (by omega) (hQ.2.2.1 d (by omega)).1.1 (by omega) (hQ.2.2.1 d (by omega)).2.1.1 (by omega)) kM_c_attach kM_m94 kM_i_attach kM_s_attach rfl rfl ⟨rfl, by decide +kernel⟩ ⟨Nat.le_of_ble_eq_true rfl, Nat.le_of_ble_eq_true rfl⟩ rfl hl.1 rfl (lv_room (Nat.le_of_ble_eq_true rfl)) dM_begin_130 ⟨Nat.le_of_ble_eq_true rfl, Nat.le_of_ble_eq_true rfl⟩) hS (fun q _ h => h) (fun q h => h) (fun u t H1 locs1 ht hvm hw hB hz hk hS => ?_)
            obtain ⟨hM, -⟩ := hB
            rw [ht] at hM
            obtain ⟨g, rfl⟩ := hw
            dsimp only at hM
            refine lv_iconst (v := 1) hx hb dM_begin_133 (by decide) ?_
            refine W.zret (v := (1)) hx hb hr rfl (M_endi hM hK hS ?_) hS.2.2 dM_begin_134
            exact ⟨⟨fun j h1 h2 h3 => by simp only [up_n h1, up_n h2, up_n h3], rfl⟩, Or.inr ⟨rfl, (d + 1, 0, n + 1, va_up pt d (pt d + 1), fw, mo, nm, dg), by simp [md_begin, md_add, hp, c_37, c_85, c_97, c_104], op, mdQ_leafS hQ hn hp3 0 dg rfl rfl rfl rfl rfl rfl rfl (Or.inl rfl)⟩⟩
      · skip
        refine lv_iload_n hx hb dM_begin_88 rfl (lv_at hl 1 rfl) ?_
        refine lv_bipush (v := 122) hx hb dM_begin_89 (by decide) ?_
        refine lv_icmp_le (tgt := 100) hx hb dM_begin_91 (by decide) (fun c_91 => ?_) (fun c_91 => ?_)
        · skip
          refine lv_aload_n hx hb dM_begin_100 rfl (lv_at hl 0 rfl) ?_
          refine lv_iload_n hx hb dM_begin_101 rfl (lv_at hl 1 rfl) ?_
          refine lv_bipush (v := 95) hx hb dM_begin_102 (by decide) ?_
          refine lv_icmp_ne (tgt := 112) hx hb dM_begin_104 (by decide) (fun c_104 => ?_) (fun c_104 => ?_)
          · skip
            refine lv_bipush (v := 110) hx hb dM_begin_112 (by decide) ?_
            refine va_calli (M_run (As := [.int (110)]) (rest := []) (n := 1) hx hb hml K hM (c_newNode l D cl tys A ci tI tZ cI cZ o ad _ _ (110) n hQ.1.2.2 hn) kM_c_newNode kM_m90 kM_i_newNode kM_s_newNode rfl rfl ⟨rfl, by decide +kernel⟩ ⟨Nat.le_of_ble_eq_true rfl, Nat.le_of_ble_eq_true rfl⟩ rfl hl.1 rfl (lv_room (Nat.le_of_ble_eq_true rfl)) dM_begin_114 ⟨Nat.le_of_ble_eq_true rfl, Nat.le_of_ble_eq_true rfl⟩) hS (fun q _ h => h) (fun q h => h) (fun r u t H1 locs1 ht hvm hw hB hz hk hS => ?_)
            obtain ⟨hM, -⟩ := hB
            rw [ht] at hM
            obtain ⟨rfl, rfl⟩ := hw
            dsimp only at hM
            refine lv_istore_n (lv' := [(2, .int (nI n)), (0, .ref o), (1, .int k)]) hx hb dM_begin_117 rfl hl (by decide) rfl (fun ls hl => ?_)
            refine lv_aload_n hx hb dM_begin_118 rfl (lv_at hl 1 rfl) ?_
            refine M_geta hx hb K hM 10 kM_f28 dM_begin_119 (kk := ?_)
            refine lv_iload_n hx hb dM_begin_122 rfl (lv_at hl 0 rfl) ?_
            refine lv_iload_n hx hb dM_begin_123 rfl (lv_at hl 2 rfl) ?_
            refine lv_bipush (v := 97) hx hb dM_begin_124 (by decide) ?_
            refine lv_isub hx hb dM_begin_126 ?_
            refine M_astn hx hb K hM hS 10 (j := n) hn dM_begin_127 (kk := fun H locs hM hS => ?_)
            refine lv_aload_n hx hb dM_begin_128 rfl (lv_at hl 1 rfl) ?_
            refine lv_iload_n hx hb dM_begin_129 rfl (lv_at hl 0 rfl) ?_
            refine va_callv (M_run (As := [.int (nI n)]) (rest := []) (n := 1) hx hb hml K hM (c_attachS l D cl tys A ci tI tZ cI cZ o ad _ _ (nI n) d (op d) (pt d) hQ.1.1 (by omega) (hQ.2.2.1 d (by omega)).1.1 (by omega) (hQ.2.2.1 d (by omega)).2.1.1 (by omega)) kM_c_attach kM_m94 kM_i_attach kM_s_attach rfl rfl ⟨rfl, by decide +kernel⟩ ⟨Nat.le_of_ble_eq_true rfl, Nat.le_of_ble_eq_true rfl⟩ rfl hl.1 rfl (lv_room (Nat.le_of_ble_eq_true rfl)) dM_begin_130 ⟨Nat.le_of_ble_eq_true rfl, Nat.le_of_ble_eq_true rfl⟩) hS (fun q _ h => h) (fun q h => h) (fun u t H1 locs1 ht hvm hw hB hz hk hS => ?_)
            obtain ⟨hM, -⟩ := hB
            rw [ht] at hM
            obtain ⟨g, rfl⟩ := hw
            dsimp only at hM
            refine lv_iconst (v := 1) hx hb dM_begin_133 (by decide) ?_
            refine W.zret (v := (1)) hx hb hr rfl (M_endi hM hK hS ?_) hS.2.2 dM_begin_134
            exact ⟨⟨fun j h1 h2 h3 => by simp only [up_n h1, up_n h2, up_n h3], rfl⟩, Or.inr ⟨rfl, (d + 1, 0, n + 1, va_up pt d (pt d + 1), fw, mo, nm, dg), by simp [md_begin, md_add, hp, c_37, c_85, c_91, c_104], op, mdQ_leafS hQ hn hp3 0 dg rfl rfl rfl rfl rfl rfl rfl (Or.inl rfl)⟩⟩
          · skip
            refine lv_bipush (v := 95) hx hb dM_begin_107 (by decide) ?_
            refine lv_goto (tgt := 114) hx hb dM_begin_109 (by decide) ?_
            refine va_calli (M_run (As := [.int (95)]) (rest := []) (n := 1) hx hb hml K hM (c_newNode l D cl tys A ci tI tZ cI cZ o ad _ _ (95) n hQ.1.2.2 hn) kM_c_newNode kM_m90 kM_i_newNode kM_s_newNode rfl rfl ⟨rfl, by decide +kernel⟩ ⟨Nat.le_of_ble_eq_true rfl, Nat.le_of_ble_eq_true rfl⟩ rfl hl.1 rfl (lv_room (Nat.le_of_ble_eq_true rfl)) dM_begin_114 ⟨Nat.le_of_ble_eq_true rfl, Nat.le_of_ble_eq_true rfl⟩) hS (fun q _ h => h) (fun q h => h) (fun r u t H1 locs1 ht hvm hw hB hz hk hS => ?_)
            obtain ⟨hM, -⟩ := hB
            rw [ht] at hM
            obtain ⟨rfl, rfl⟩ := hw
            dsimp only at hM
            refine lv_istore_n (lv' := [(2, .int (nI n)), (0, .ref o), (1, .int k)]) hx hb dM_begin_117 rfl hl (by decide) rfl (fun ls hl => ?_)
            refine lv_aload_n hx hb dM_begin_118 rfl (lv_at hl 1 rfl) ?_
            refine M_geta hx hb K hM 10 kM_f28 dM_begin_119 (kk := ?_)
            refine lv_iload_n hx hb dM_begin_122 rfl (lv_at hl 0 rfl) ?_
            refine lv_iload_n hx hb dM_begin_123 rfl (lv_at hl 2 rfl) ?_
            refine lv_bipush (v := 97) hx hb dM_begin_124 (by decide) ?_
            refine lv_isub hx hb dM_begin_126 ?_
            refine M_astn hx hb K hM hS 10 (j := n) hn dM_begin_127 (kk := fun H locs hM hS => ?_)
            refine lv_aload_n hx hb dM_begin_128 rfl (lv_at hl 1 rfl) ?_
            refine lv_iload_n hx hb dM_begin_129 rfl (lv_at hl 0 rfl) ?_
            refine va_callv (M_run (As := [.int (nI n)]) (rest := []) (n := 1) hx hb hml K hM (c_attachS l D cl tys A ci tI tZ cI cZ o ad _ _ (nI n) d (op d) (pt d) hQ.1.1 (by omega) (hQ.2.2.1 d (by omega)).1.1 (by omega) (hQ.2.2.1 d (by omega)).2.1.1 (by omega)) kM_c_attach kM_m94 kM_i_attach kM_s_attach rfl rfl ⟨rfl, by decide +kernel⟩ ⟨Nat.le_of_ble_eq_true rfl, Nat.le_of_ble_eq_true rfl⟩ rfl hl.1 rfl (lv_room (Nat.le_of_ble_eq_true rfl)) dM_begin_130 ⟨Nat.le_of_ble_eq_true rfl, Nat.le_of_ble_eq_true rfl⟩) hS (fun q _ h => h) (fun q h => h) (fun u t H1 locs1 ht hvm hw hB hz hk hS => ?_)
            obtain ⟨hM, -⟩ := hB
            rw [ht] at hM
            obtain ⟨g, rfl⟩ := hw
            dsimp only at hM
            refine lv_iconst (v := 1) hx hb dM_begin_133 (by decide) ?_
            refine W.zret (v := (1)) hx hb hr rfl (M_endi hM hK hS ?_) hS.2.2 dM_begin_134
            exact ⟨⟨fun j h1 h2 h3 => by simp only [up_n h1, up_n h2, up_n h3], rfl⟩, Or.inr ⟨rfl, (d + 1, 0, n + 1, va_up pt d (pt d + 1), fw, mo, nm, dg), by simp [md_begin, md_add, hp, c_37, c_85, c_91, c_104], op, mdQ_leafS hQ hn hp3 0 dg rfl rfl rfl rfl rfl rfl rfl (Or.inl rfl)⟩⟩
        · skip
          refine lv_iload_n hx hb dM_begin_94 rfl (lv_at hl 1 rfl) ?_
          refine lv_bipush (v := 95) hx hb dM_begin_95 (by decide) ?_
          refine lv_icmp_ne (tgt := 135) hx hb dM_begin_97 (by decide) (fun c_97 => ?_) (fun c_97 => ?_)
          · skip
            refine lv_iload_n hx hb dM_begin_135 rfl (lv_at hl 1 rfl) ?_
            refine lv_bipush (v := 40) hx hb dM_begin_136 (by decide) ?_
            refine lv_icmp_ne (tgt := 150) hx hb dM_begin_138 (by decide) (fun c_138 => ?_) (fun c_138 => ?_)
            · skip
              refine lv_iconst (v := 0) hx hb dM_begin_150 (by decide) ?_
              refine W.zret (v := (0)) hx hb hr rfl (M_endi hM hK hS ?_) hS.2.2 dM_begin_151
              exact md_no (by simp [md_begin, hp, c_37, c_85, c_91, c_97, c_138])
            · skip
              refine lv_aload_n hx hb dM_begin_141 rfl (lv_at hl 0 rfl) ?_
              refine M_getv hx hb K hM 7 (v := nI (d + 1)) hQ.1.1 kM_f84 dM_begin_142 (kk := ?_)
              refine lv_bipush (v := 12) hx hb dM_begin_145 (by decide) ?_
              refine lv_icmp_ne (tgt := 152) hx hb dM_begin_147 (by decide) (fun c_147 => ?_) (fun c_147 => ?_)
              · skip
                have hd12 : ¬ d + 1 = 12 := fun q => c_147 (by rw [q]; rfl)
                refine lv_aload_n hx hb dM_begin_152 rfl (lv_at hl 0 rfl) ?_
                refine M_geta hx hb K hM 3 kM_f13 dM_begin_153 (kk := ?_)
                refine lv_aload_n hx hb dM_begin_156 rfl (lv_at hl 0 rfl) ?_
                refine M_getv hx hb K hM 7 (v := nI (d + 1)) hQ.1.1 kM_f84 dM_begin_157 (kk := ?_)
                refine lv_aload_n hx hb dM_begin_160 rfl (lv_at hl 0 rfl) ?_
                refine lv_bipush (v := 40) hx hb dM_begin_161 (by decide) ?_
                refine va_calli (M_run (As := [.int (40)]) (rest := [.int (nI (d + 1)), .ref (ad 3)]) (n := 1) hx hb hml K hM (c_newNode l D cl tys A ci tI tZ cI cZ o ad _ _ (40) n hQ.1.2.2 hn) kM_c_newNode kM_m90 kM_i_newNode kM_s_newNode rfl rfl ⟨rfl, by decide +kernel⟩ ⟨Nat.le_of_ble_eq_true rfl, Nat.le_of_ble_eq_true rfl⟩ rfl hl.1 rfl (lv_room (Nat.le_of_ble_eq_true rfl)) dM_begin_163 ⟨Nat.le_of_ble_eq_true rfl, Nat.le_of_ble_eq_true rfl⟩) hS (fun q _ h => h) (fun q h => h) (fun r u t H1 locs1 ht hvm hw hB hz hk hS => ?_)
                obtain ⟨hM, -⟩ := hB
                rw [ht] at hM
                obtain ⟨rfl, rfl⟩ := hw
                dsimp only at hM
                refine M_astn hx hb K hM hS 3 (j := (d + 1)) (show (d + 1) < 13 by omega) dM_begin_166 (kk := fun H locs hM hS => ?_)
                refine lv_aload_n hx hb dM_begin_167 rfl (lv_at hl 0 rfl) ?_
                refine M_geta hx hb K hM 4 kM_f16 dM_begin_168 (kk := ?_)
                refine lv_aload_n hx hb dM_begin_171 rfl (lv_at hl 0 rfl) ?_
                refine M_getv hx hb K hM 7 (v := nI (d + 1)) hQ.1.1 kM_f84 dM_begin_172 (kk := ?_)
                refine lv_iconst (v := 0) hx hb dM_begin_175 (by decide) ?_
                refine M_astn hx hb K hM hS 4 (j := (d + 1)) (show (d + 1) < 13 by omega) dM_begin_176 (kk := fun H locs hM hS => ?_)
                refine lv_aload_n hx hb dM_begin_177 rfl (lv_at hl 0 rfl) ?_
                refine M_geta hx hb K hM 5 kM_f19 dM_begin_178 (kk := ?_)
                refine lv_aload_n hx hb dM_begin_181 rfl (lv_at hl 0 rfl) ?_
                refine M_getv hx hb K hM 7 (v := nI (d + 1)) hQ.1.1 kM_f84 dM_begin_182 (kk := ?_)
                refine lv_iconst (v := 1) hx hb dM_begin_185 (by decide) ?_
                refine M_astn hx hb K hM hS 5 (j := (d + 1)) (show (d + 1) < 13 by omega) dM_begin_186 (kk := fun H locs hM hS => ?_)
                refine lv_aload_n hx hb dM_begin_187 rfl (lv_at hl 0 rfl) ?_
                refine M_geta hx hb K hM 6 kM_f22 dM_begin_188 (kk := ?_)
                refine lv_aload_n hx hb dM_begin_191 rfl (lv_at hl 0 rfl) ?_
                refine M_getv hx hb K hM 7 (v := nI (d + 1)) hQ.1.1 kM_f84 dM_begin_192 (kk := ?_)
                refine lv_iconst (v := 4) hx hb dM_begin_195 (by decide) ?_
                refine M_astn hx hb K hM hS 6 (j := (d + 1)) (show (d + 1) < 13 by omega) dM_begin_196 (kk := fun H locs hM hS => ?_)
                refine lv_aload_n hx hb dM_begin_197 rfl (lv_at hl 0 rfl) ?_
                refine lv_dup hx hb dM_begin_198 rfl ?_
                refine M_getv hx hb K hM 7 (v := nI (d + 1)) hQ.1.1 kM_f84 dM_begin_199 (kk := ?_)
                refine lv_iconst (v := 1) hx hb dM_begin_202 (by decide) ?_
                refine lv_iadd hx hb dM_begin_203 ?_
                refine lv_as (v := nI ((d + 1) + 1)) (nI_1 _) ?_
                refine M_puti hx hb K hM hS 7 kM_f84 dM_begin_204 (kk := fun H locs hM hS => ?_)
                refine lv_aload_n hx hb dM_begin_207 rfl (lv_at hl 0 rfl) ?_
                refine lv_iconst (v := 1) hx hb dM_begin_208 (by decide) ?_
                refine M_puti hx hb K hM hS 8 kM_f87 dM_begin_209 (kk := fun H locs hM hS => ?_)
                refine lv_iconst (v := 1) hx hb dM_begin_212 (by decide) ?_
                refine W.zret (v := (1)) hx hb hr rfl (M_endi hM hK hS ?_) hS.2.2 dM_begin_213
                exact ⟨⟨fun j h1 h2 h3 => by simp only [up_n h1, up_n h2, up_n h3], rfl⟩, Or.inr ⟨rfl, (d + 1 + 1, 1, n + 1, va_up pt (d + 1) 0, va_up fw (d + 1) 1, va_up mo (d + 1) 4, nm, dg), by simp [md_begin, hp, hd12, c_37, c_85, c_91, c_97, c_138], _, mdQ_open hQ hn (by omega) (fun j hj => by rw [show j = d by omega]; exact hp3) rfl rfl rfl rfl rfl rfl rfl upd_s⟩⟩
              · skip
                refine lv_iconst (v := 0) hx hb dM_begin_150 (by decide) ?_
                refine W.zret (v := (0)) hx hb hr rfl (M_endi hM hK hS ?_) hS.2.2 dM_begin_151
                exact md_no (by have := (nI_eq (b := 12) (by omega) (by decide)).mp c_147; simp [md_begin, hp, this, c_37, c_85, c_91, c_97, c_138])
          · skip
            refine lv_aload_n hx hb dM_begin_100 rfl (lv_at hl 0 rfl) ?_
            refine lv_iload_n hx hb dM_begin_101 rfl (lv_at hl 1 rfl) ?_
            refine lv_bipush (v := 95) hx hb dM_begin_102 (by decide) ?_
            refine lv_icmp_ne (tgt := 112) hx hb dM_begin_104 (by decide) (fun c_104 => ?_) (fun c_104 => ?_)
            · skip
              refine lv_bipush (v := 110) hx hb dM_begin_112 (by decide) ?_
              refine va_calli (M_run (As := [.int (110)]) (rest := []) (n := 1) hx hb hml K hM (c_newNode l D cl tys A ci tI tZ cI cZ o ad _ _ (110) n hQ.1.2.2 hn) kM_c_newNode kM_m90 kM_i_newNode kM_s_newNode rfl rfl ⟨rfl, by decide +kernel⟩ ⟨Nat.le_of_ble_eq_true rfl, Nat.le_of_ble_eq_true rfl⟩ rfl hl.1 rfl (lv_room (Nat.le_of_ble_eq_true rfl)) dM_begin_114 ⟨Nat.le_of_ble_eq_true rfl, Nat.le_of_ble_eq_true rfl⟩) hS (fun q _ h => h) (fun q h => h) (fun r u t H1 locs1 ht hvm hw hB hz hk hS => ?_)
              obtain ⟨hM, -⟩ := hB
              rw [ht] at hM
              obtain ⟨rfl, rfl⟩ := hw
              dsimp only at hM
              refine lv_istore_n (lv' := [(2, .int (nI n)), (0, .ref o), (1, .int k)]) hx hb dM_begin_117 rfl hl (by decide) rfl (fun ls hl => ?_)
              refine lv_aload_n hx hb dM_begin_118 rfl (lv_at hl 1 rfl) ?_
              refine M_geta hx hb K hM 10 kM_f28 dM_begin_119 (kk := ?_)
              refine lv_iload_n hx hb dM_begin_122 rfl (lv_at hl 0 rfl) ?_
              refine lv_iload_n hx hb dM_begin_123 rfl (lv_at hl 2 rfl) ?_
              refine lv_bipush (v := 97) hx hb dM_begin_124 (by decide) ?_
              refine lv_isub hx hb dM_begin_126 ?_
              refine M_astn hx hb K hM hS 10 (j := n) hn dM_begin_127 (kk := fun H locs hM hS => ?_)
              refine lv_aload_n hx hb dM_begin_128 rfl (lv_at hl 1 rfl) ?_
              refine lv_iload_n hx hb dM_begin_129 rfl (lv_at hl 0 rfl) ?_
              refine va_callv (M_run (As := [.int (nI n)]) (rest := []) (n := 1) hx hb hml K hM (c_attachS l D cl tys A ci tI tZ cI cZ o ad _ _ (nI n) d (op d) (pt d) hQ.1.1 (by omega) (hQ.2.2.1 d (by omega)).1.1 (by omega) (hQ.2.2.1 d (by omega)).2.1.1 (by omega)) kM_c_attach kM_m94 kM_i_attach kM_s_attach rfl rfl ⟨rfl, by decide +kernel⟩ ⟨Nat.le_of_ble_eq_true rfl, Nat.le_of_ble_eq_true rfl⟩ rfl hl.1 rfl (lv_room (Nat.le_of_ble_eq_true rfl)) dM_begin_130 ⟨Nat.le_of_ble_eq_true rfl, Nat.le_of_ble_eq_true rfl⟩) hS (fun q _ h => h) (fun q h => h) (fun u t H1 locs1 ht hvm hw hB hz hk hS => ?_)
              obtain ⟨hM, -⟩ := hB
              rw [ht] at hM
              obtain ⟨g, rfl⟩ := hw
              dsimp only at hM
              refine lv_iconst (v := 1) hx hb dM_begin_133 (by decide) ?_
              refine W.zret (v := (1)) hx hb hr rfl (M_endi hM hK hS ?_) hS.2.2 dM_begin_134
              exact ⟨⟨fun j h1 h2 h3 => by simp only [up_n h1, up_n h2, up_n h3], rfl⟩, Or.inr ⟨rfl, (d + 1, 0, n + 1, va_up pt d (pt d + 1), fw, mo, nm, dg), by simp [md_begin, md_add, hp, c_37, c_85, c_91, c_97, c_104], op, mdQ_leafS hQ hn hp3 0 dg rfl rfl rfl rfl rfl rfl rfl (Or.inl rfl)⟩⟩
            · skip
              refine lv_bipush (v := 95) hx hb dM_begin_107 (by decide) ?_
              refine lv_goto (tgt := 114) hx hb dM_begin_109 (by decide) ?_
              refine va_calli (M_run (As := [.int (95)]) (rest := []) (n := 1) hx hb hml K hM (c_newNode l D cl tys A ci tI tZ cI cZ o ad _ _ (95) n hQ.1.2.2 hn) kM_c_newNode kM_m90 kM_i_newNode kM_s_newNode rfl rfl ⟨rfl, by decide +kernel⟩ ⟨Nat.le_of_ble_eq_true rfl, Nat.le_of_ble_eq_true rfl⟩ rfl hl.1 rfl (lv_room (Nat.le_of_ble_eq_true rfl)) dM_begin_114 ⟨Nat.le_of_ble_eq_true rfl, Nat.le_of_ble_eq_true rfl⟩) hS (fun q _ h => h) (fun q h => h) (fun r u t H1 locs1 ht hvm hw hB hz hk hS => ?_)
              obtain ⟨hM, -⟩ := hB
              rw [ht] at hM
              obtain ⟨rfl, rfl⟩ := hw
              dsimp only at hM
              refine lv_istore_n (lv' := [(2, .int (nI n)), (0, .ref o), (1, .int k)]) hx hb dM_begin_117 rfl hl (by decide) rfl (fun ls hl => ?_)
              refine lv_aload_n hx hb dM_begin_118 rfl (lv_at hl 1 rfl) ?_
              refine M_geta hx hb K hM 10 kM_f28 dM_begin_119 (kk := ?_)
              refine lv_iload_n hx hb dM_begin_122 rfl (lv_at hl 0 rfl) ?_
              refine lv_iload_n hx hb dM_begin_123 rfl (lv_at hl 2 rfl) ?_
              refine lv_bipush (v := 97) hx hb dM_begin_124 (by decide) ?_
              refine lv_isub hx hb dM_begin_126 ?_
              refine M_astn hx hb K hM hS 10 (j := n) hn dM_begin_127 (kk := fun H locs hM hS => ?_)
              refine lv_aload_n hx hb dM_begin_128 rfl (lv_at hl 1 rfl) ?_
              refine lv_iload_n hx hb dM_begin_129 rfl (lv_at hl 0 rfl) ?_
              refine va_callv (M_run (As := [.int (nI n)]) (rest := []) (n := 1) hx hb hml K hM (c_attachS l D cl tys A ci tI tZ cI cZ o ad _ _ (nI n) d (op d) (pt d) hQ.1.1 (by omega) (hQ.2.2.1 d (by omega)).1.1 (by omega) (hQ.2.2.1 d (by omega)).2.1.1 (by omega)) kM_c_attach kM_m94 kM_i_attach kM_s_attach rfl rfl ⟨rfl, by decide +kernel⟩ ⟨Nat.le_of_ble_eq_true rfl, Nat.le_of_ble_eq_true rfl⟩ rfl hl.1 rfl (lv_room (Nat.le_of_ble_eq_true rfl)) dM_begin_130 ⟨Nat.le_of_ble_eq_true rfl, Nat.le_of_ble_eq_true rfl⟩) hS (fun q _ h => h) (fun q h => h) (fun u t H1 locs1 ht hvm hw hB hz hk hS => ?_)
              obtain ⟨hM, -⟩ := hB
              rw [ht] at hM
              obtain ⟨g, rfl⟩ := hw
              dsimp only at hM
              refine lv_iconst (v := 1) hx hb dM_begin_133 (by decide) ?_
              refine W.zret (v := (1)) hx hb hr rfl (M_endi hM hK hS ?_) hS.2.2 dM_begin_134
              exact ⟨⟨fun j h1 h2 h3 => by simp only [up_n h1, up_n h2, up_n h3], rfl⟩, Or.inr ⟨rfl, (d + 1, 0, n + 1, va_up pt d (pt d + 1), fw, mo, nm, dg), by simp [md_begin, md_add, hp, c_37, c_85, c_91, c_97, c_104], op, mdQ_leafS hQ hn hp3 0 dg rfl rfl rfl rfl rfl rfl rfl (Or.inl rfl)⟩⟩
    · skip
      refine lv_iload_n hx hb dM_begin_40 rfl (lv_at hl 1 rfl) ?_
      refine lv_bipush (v := 57) hx hb dM_begin_41 (by decide) ?_
      refine lv_icmp_gt (tgt := 82) hx hb dM_begin_43 (by decide) (fun c_43 => ?_) (fun c_43 => ?_)
      · skip
        refine lv_iload_n hx hb dM_begin_82 rfl (lv_at hl 1 rfl) ?_
        refine lv_bipush (v := 97) hx hb dM_begin_83 (by decide) ?_
        refine lv_icmp_lt (tgt := 94) hx hb dM_begin_85 (by decide) (fun c_85 => ?_) (fun c_85 => ?_)
        · skip
          refine lv_iload_n hx hb dM_begin_94 rfl (lv_at hl 1 rfl) ?_
          refine lv_bipush (v := 95) hx hb dM_begin_95 (by decide) ?_
          refine lv_icmp_ne (tgt := 135) hx hb dM_begin_97 (by decide) (fun c_97 => ?_) (fun c_97 => ?_)
          · skip
            refine lv_iload_n hx hb dM_begin_135 rfl (lv_at hl 1 rfl) ?_
            refine lv_bipush (v := 40) hx hb dM_begin_136 (by decide) ?_
            refine lv_icmp_ne (tgt := 150) hx hb dM_begin_138 (by decide) (fun c_138 => ?_) (fun c_138 => ?_)
            · skip
              refine lv_iconst (v := 0) hx hb dM_begin_150 (by decide) ?_
              refine W.zret (v := (0)) hx hb hr rfl (M_endi hM hK hS ?_) hS.2.2 dM_begin_151
              exact md_no (by simp [md_begin, hp, c_37, c_43, c_85, c_97, c_138])
            · skip
              refine lv_aload_n hx hb dM_begin_141 rfl (lv_at hl 0 rfl) ?_
              refine M_getv hx hb K hM 7 (v := nI (d + 1)) hQ.1.1 kM_f84 dM_begin_142 (kk := ?_)
              refine lv_bipush (v := 12) hx hb dM_begin_145 (by decide) ?_
              refine lv_icmp_ne (tgt := 152) hx hb dM_begin_147 (by decide) (fun c_147 => ?_) (fun c_147 => ?_)
              · skip
                have hd12 : ¬ d + 1 = 12 := fun q => c_147 (by rw [q]; rfl)
                refine lv_aload_n hx hb dM_begin_152 rfl (lv_at hl 0 rfl) ?_
                refine M_geta hx hb K hM 3 kM_f13 dM_begin_153 (kk := ?_)
                refine lv_aload_n hx hb dM_begin_156 rfl (lv_at hl 0 rfl) ?_
                refine M_getv hx hb K hM 7 (v := nI (d + 1)) hQ.1.1 kM_f84 dM_begin_157 (kk := ?_)
                refine lv_aload_n hx hb dM_begin_160 rfl (lv_at hl 0 rfl) ?_
                refine lv_bipush (v := 40) hx hb dM_begin_161 (by decide) ?_
                refine va_calli (M_run (As := [.int (40)]) (rest := [.int (nI (d + 1)), .ref (ad 3)]) (n := 1) hx hb hml K hM (c_newNode l D cl tys A ci tI tZ cI cZ o ad _ _ (40) n hQ.1.2.2 hn) kM_c_newNode kM_m90 kM_i_newNode kM_s_newNode rfl rfl ⟨rfl, by decide +kernel⟩ ⟨Nat.le_of_ble_eq_true rfl, Nat.le_of_ble_eq_true rfl⟩ rfl hl.1 rfl (lv_room (Nat.le_of_ble_eq_true rfl)) dM_begin_163 ⟨Nat.le_of_ble_eq_true rfl, Nat.le_of_ble_eq_true rfl⟩) hS (fun q _ h => h) (fun q h => h) (fun r u t H1 locs1 ht hvm hw hB hz hk hS => ?_)
                obtain ⟨hM, -⟩ := hB
                rw [ht] at hM
                obtain ⟨rfl, rfl⟩ := hw
                dsimp only at hM
                refine M_astn hx hb K hM hS 3 (j := (d + 1)) (show (d + 1) < 13 by omega) dM_begin_166 (kk := fun H locs hM hS => ?_)
                refine lv_aload_n hx hb dM_begin_167 rfl (lv_at hl 0 rfl) ?_
                refine M_geta hx hb K hM 4 kM_f16 dM_begin_168 (kk := ?_)
                refine lv_aload_n hx hb dM_begin_171 rfl (lv_at hl 0 rfl) ?_
                refine M_getv hx hb K hM 7 (v := nI (d + 1)) hQ.1.1 kM_f84 dM_begin_172 (kk := ?_)
                refine lv_iconst (v := 0) hx hb dM_begin_175 (by decide) ?_
                refine M_astn hx hb K hM hS 4 (j := (d + 1)) (show (d + 1) < 13 by omega) dM_begin_176 (kk := fun H locs hM hS => ?_)
                refine lv_aload_n hx hb dM_begin_177 rfl (lv_at hl 0 rfl) ?_
                refine M_geta hx hb K hM 5 kM_f19 dM_begin_178 (kk := ?_)
                refine lv_aload_n hx hb dM_begin_181 rfl (lv_at hl 0 rfl) ?_
                refine M_getv hx hb K hM 7 (v := nI (d + 1)) hQ.1.1 kM_f84 dM_begin_182 (kk := ?_)
                refine lv_iconst (v := 1) hx hb dM_begin_185 (by decide) ?_
                refine M_astn hx hb K hM hS 5 (j := (d + 1)) (show (d + 1) < 13 by omega) dM_begin_186 (kk := fun H locs hM hS => ?_)
                refine lv_aload_n hx hb dM_begin_187 rfl (lv_at hl 0 rfl) ?_
                refine M_geta hx hb K hM 6 kM_f22 dM_begin_188 (kk := ?_)
                refine lv_aload_n hx hb dM_begin_191 rfl (lv_at hl 0 rfl) ?_
                refine M_getv hx hb K hM 7 (v := nI (d + 1)) hQ.1.1 kM_f84 dM_begin_192 (kk := ?_)
                refine lv_iconst (v := 4) hx hb dM_begin_195 (by decide) ?_
                refine M_astn hx hb K hM hS 6 (j := (d + 1)) (show (d + 1) < 13 by omega) dM_begin_196 (kk := fun H locs hM hS => ?_)
                refine lv_aload_n hx hb dM_begin_197 rfl (lv_at hl 0 rfl) ?_
                refine lv_dup hx hb dM_begin_198 rfl ?_
                refine M_getv hx hb K hM 7 (v := nI (d + 1)) hQ.1.1 kM_f84 dM_begin_199 (kk := ?_)
                refine lv_iconst (v := 1) hx hb dM_begin_202 (by decide) ?_
                refine lv_iadd hx hb dM_begin_203 ?_
                refine lv_as (v := nI ((d + 1) + 1)) (nI_1 _) ?_
                refine M_puti hx hb K hM hS 7 kM_f84 dM_begin_204 (kk := fun H locs hM hS => ?_)
                refine lv_aload_n hx hb dM_begin_207 rfl (lv_at hl 0 rfl) ?_
                refine lv_iconst (v := 1) hx hb dM_begin_208 (by decide) ?_
                refine M_puti hx hb K hM hS 8 kM_f87 dM_begin_209 (kk := fun H locs hM hS => ?_)
                refine lv_iconst (v := 1) hx hb dM_begin_212 (by decide) ?_
                refine W.zret (v := (1)) hx hb hr rfl (M_endi hM hK hS ?_) hS.2.2 dM_begin_213
                exact ⟨⟨fun j h1 h2 h3 => by simp only [up_n h1, up_n h2, up_n h3], rfl⟩, Or.inr ⟨rfl, (d + 1 + 1, 1, n + 1, va_up pt (d + 1) 0, va_up fw (d + 1) 1, va_up mo (d + 1) 4, nm, dg), by simp [md_begin, hp, hd12, c_37, c_43, c_85, c_97, c_138], _, mdQ_open hQ hn (by omega) (fun j hj => by rw [show j = d by omega]; exact hp3) rfl rfl rfl rfl rfl rfl rfl upd_s⟩⟩
              · skip
                refine lv_iconst (v := 0) hx hb dM_begin_150 (by decide) ?_
                refine W.zret (v := (0)) hx hb hr rfl (M_endi hM hK hS ?_) hS.2.2 dM_begin_151
                exact md_no (by have := (nI_eq (b := 12) (by omega) (by decide)).mp c_147; simp [md_begin, hp, this, c_37, c_43, c_85, c_97, c_138])
          · skip
            refine lv_aload_n hx hb dM_begin_100 rfl (lv_at hl 0 rfl) ?_
            refine lv_iload_n hx hb dM_begin_101 rfl (lv_at hl 1 rfl) ?_
            refine lv_bipush (v := 95) hx hb dM_begin_102 (by decide) ?_
            refine lv_icmp_ne (tgt := 112) hx hb dM_begin_104 (by decide) (fun c_104 => ?_) (fun c_104 => ?_)
            · skip
              refine lv_bipush (v := 110) hx hb dM_begin_112 (by decide) ?_
              refine va_calli (M_run (As := [.int (110)]) (rest := []) (n := 1) hx hb hml K hM (c_newNode l D cl tys A ci tI tZ cI cZ o ad _ _ (110) n hQ.1.2.2 hn) kM_c_newNode kM_m90 kM_i_newNode kM_s_newNode rfl rfl ⟨rfl, by decide +kernel⟩ ⟨Nat.le_of_ble_eq_true rfl, Nat.le_of_ble_eq_true rfl⟩ rfl hl.1 rfl (lv_room (Nat.le_of_ble_eq_true rfl)) dM_begin_114 ⟨Nat.le_of_ble_eq_true rfl, Nat.le_of_ble_eq_true rfl⟩) hS (fun q _ h => h) (fun q h => h) (fun r u t H1 locs1 ht hvm hw hB hz hk hS => ?_)
              obtain ⟨hM, -⟩ := hB
              rw [ht] at hM
              obtain ⟨rfl, rfl⟩ := hw
              dsimp only at hM
              refine lv_istore_n (lv' := [(2, .int (nI n)), (0, .ref o), (1, .int k)]) hx hb dM_begin_117 rfl hl (by decide) rfl (fun ls hl => ?_)
              refine lv_aload_n hx hb dM_begin_118 rfl (lv_at hl 1 rfl) ?_
              refine M_geta hx hb K hM 10 kM_f28 dM_begin_119 (kk := ?_)
              refine lv_iload_n hx hb dM_begin_122 rfl (lv_at hl 0 rfl) ?_
              refine lv_iload_n hx hb dM_begin_123 rfl (lv_at hl 2 rfl) ?_
              refine lv_bipush (v := 97) hx hb dM_begin_124 (by decide) ?_
              refine lv_isub hx hb dM_begin_126 ?_
              refine M_astn hx hb K hM hS 10 (j := n) hn dM_begin_127 (kk := fun H locs hM hS => ?_)
              refine lv_aload_n hx hb dM_begin_128 rfl (lv_at hl 1 rfl) ?_
              refine lv_iload_n hx hb dM_begin_129 rfl (lv_at hl 0 rfl) ?_
              refine va_callv (M_run (As := [.int (nI n)]) (rest := []) (n := 1) hx hb hml K hM (c_attachS l D cl tys A ci tI tZ cI cZ o ad _ _ (nI n) d (op d) (pt d) hQ.1.1 (by omega) (hQ.2.2.1 d (by omega)).1.1 (by omega) (hQ.2.2.1 d (by omega)).2.1.1 (by omega)) kM_c_attach kM_m94 kM_i_attach kM_s_attach rfl rfl ⟨rfl, by decide +kernel⟩ ⟨Nat.le_of_ble_eq_true rfl, Nat.le_of_ble_eq_true rfl⟩ rfl hl.1 rfl (lv_room (Nat.le_of_ble_eq_true rfl)) dM_begin_130 ⟨Nat.le_of_ble_eq_true rfl, Nat.le_of_ble_eq_true rfl⟩) hS (fun q _ h => h) (fun q h => h) (fun u t H1 locs1 ht hvm hw hB hz hk hS => ?_)
              obtain ⟨hM, -⟩ := hB
              rw [ht] at hM
              obtain ⟨g, rfl⟩ := hw
              dsimp only at hM
              refine lv_iconst (v := 1) hx hb dM_begin_133 (by decide) ?_
              refine W.zret (v := (1)) hx hb hr rfl (M_endi hM hK hS ?_) hS.2.2 dM_begin_134
              exact ⟨⟨fun j h1 h2 h3 => by simp only [up_n h1, up_n h2, up_n h3], rfl⟩, Or.inr ⟨rfl, (d + 1, 0, n + 1, va_up pt d (pt d + 1), fw, mo, nm, dg), by simp [md_begin, md_add, hp, c_37, c_43, c_85, c_97, c_104], op, mdQ_leafS hQ hn hp3 0 dg rfl rfl rfl rfl rfl rfl rfl (Or.inl rfl)⟩⟩
            · skip
              refine lv_bipush (v := 95) hx hb dM_begin_107 (by decide) ?_
              refine lv_goto (tgt := 114) hx hb dM_begin_109 (by decide) ?_
              refine va_calli (M_run (As := [.int (95)]) (rest := []) (n := 1) hx hb hml K hM (c_newNode l D cl tys A ci tI tZ cI cZ o ad _ _ (95) n hQ.1.2.2 hn) kM_c_newNode kM_m90 kM_i_newNode kM_s_newNode rfl rfl ⟨rfl, by decide +kernel⟩ ⟨Nat.le_of_ble_eq_true rfl, Nat.le_of_ble_eq_true rfl⟩ rfl hl.1 rfl (lv_room (Nat.le_of_ble_eq_true rfl)) dM_begin_114 ⟨Nat.le_of_ble_eq_true rfl, Nat.le_of_ble_eq_true rfl⟩) hS (fun q _ h => h) (fun q h => h) (fun r u t H1 locs1 ht hvm hw hB hz hk hS => ?_)
              obtain ⟨hM, -⟩ := hB
              rw [ht] at hM
              obtain ⟨rfl, rfl⟩ := hw
              dsimp only at hM
              refine lv_istore_n (lv' := [(2, .int (nI n)), (0, .ref o), (1, .int k)]) hx hb dM_begin_117 rfl hl (by decide) rfl (fun ls hl => ?_)
              refine lv_aload_n hx hb dM_begin_118 rfl (lv_at hl 1 rfl) ?_
              refine M_geta hx hb K hM 10 kM_f28 dM_begin_119 (kk := ?_)
              refine lv_iload_n hx hb dM_begin_122 rfl (lv_at hl 0 rfl) ?_
              refine lv_iload_n hx hb dM_begin_123 rfl (lv_at hl 2 rfl) ?_
              refine lv_bipush (v := 97) hx hb dM_begin_124 (by decide) ?_
              refine lv_isub hx hb dM_begin_126 ?_
              refine M_astn hx hb K hM hS 10 (j := n) hn dM_begin_127 (kk := fun H locs hM hS => ?_)
              refine lv_aload_n hx hb dM_begin_128 rfl (lv_at hl 1 rfl) ?_
              refine lv_iload_n hx hb dM_begin_129 rfl (lv_at hl 0 rfl) ?_
              refine va_callv (M_run (As := [.int (nI n)]) (rest := []) (n := 1) hx hb hml K hM (c_attachS l D cl tys A ci tI tZ cI cZ o ad _ _ (nI n) d (op d) (pt d) hQ.1.1 (by omega) (hQ.2.2.1 d (by omega)).1.1 (by omega) (hQ.2.2.1 d (by omega)).2.1.1 (by omega)) kM_c_attach kM_m94 kM_i_attach kM_s_attach rfl rfl ⟨rfl, by decide +kernel⟩ ⟨Nat.le_of_ble_eq_true rfl, Nat.le_of_ble_eq_true rfl⟩ rfl hl.1 rfl (lv_room (Nat.le_of_ble_eq_true rfl)) dM_begin_130 ⟨Nat.le_of_ble_eq_true rfl, Nat.le_of_ble_eq_true rfl⟩) hS (fun q _ h => h) (fun q h => h) (fun u t H1 locs1 ht hvm hw hB hz hk hS => ?_)
              obtain ⟨hM, -⟩ := hB
              rw [ht] at hM
              obtain ⟨g, rfl⟩ := hw
              dsimp only at hM
              refine lv_iconst (v := 1) hx hb dM_begin_133 (by decide) ?_
              refine W.zret (v := (1)) hx hb hr rfl (M_endi hM hK hS ?_) hS.2.2 dM_begin_134
              exact ⟨⟨fun j h1 h2 h3 => by simp only [up_n h1, up_n h2, up_n h3], rfl⟩, Or.inr ⟨rfl, (d + 1, 0, n + 1, va_up pt d (pt d + 1), fw, mo, nm, dg), by simp [md_begin, md_add, hp, c_37, c_43, c_85, c_97, c_104], op, mdQ_leafS hQ hn hp3 0 dg rfl rfl rfl rfl rfl rfl rfl (Or.inl rfl)⟩⟩
        · skip
          refine lv_iload_n hx hb dM_begin_88 rfl (lv_at hl 1 rfl) ?_
          refine lv_bipush (v := 122) hx hb dM_begin_89 (by decide) ?_
          refine lv_icmp_le (tgt := 100) hx hb dM_begin_91 (by decide) (fun c_91 => ?_) (fun c_91 => ?_)
          · skip
            refine lv_aload_n hx hb dM_begin_100 rfl (lv_at hl 0 rfl) ?_
            refine lv_iload_n hx hb dM_begin_101 rfl (lv_at hl 1 rfl) ?_
            refine lv_bipush (v := 95) hx hb dM_begin_102 (by decide) ?_
            refine lv_icmp_ne (tgt := 112) hx hb dM_begin_104 (by decide) (fun c_104 => ?_) (fun c_104 => ?_)
            · skip
              refine lv_bipush (v := 110) hx hb dM_begin_112 (by decide) ?_
              refine va_calli (M_run (As := [.int (110)]) (rest := []) (n := 1) hx hb hml K hM (c_newNode l D cl tys A ci tI tZ cI cZ o ad _ _ (110) n hQ.1.2.2 hn) kM_c_newNode kM_m90 kM_i_newNode kM_s_newNode rfl rfl ⟨rfl, by decide +kernel⟩ ⟨Nat.le_of_ble_eq_true rfl, Nat.le_of_ble_eq_true rfl⟩ rfl hl.1 rfl (lv_room (Nat.le_of_ble_eq_true rfl)) dM_begin_114 ⟨Nat.le_of_ble_eq_true rfl, Nat.le_of_ble_eq_true rfl⟩) hS (fun q _ h => h) (fun q h => h) (fun r u t H1 locs1 ht hvm hw hB hz hk hS => ?_)
              obtain ⟨hM, -⟩ := hB
              rw [ht] at hM
              obtain ⟨rfl, rfl⟩ := hw
              dsimp only at hM
              refine lv_istore_n (lv' := [(2, .int (nI n)), (0, .ref o), (1, .int k)]) hx hb dM_begin_117 rfl hl (by decide) rfl (fun ls hl => ?_)
              refine lv_aload_n hx hb dM_begin_118 rfl (lv_at hl 1 rfl) ?_
              refine M_geta hx hb K hM 10 kM_f28 dM_begin_119 (kk := ?_)
              refine lv_iload_n hx hb dM_begin_122 rfl (lv_at hl 0 rfl) ?_
              refine lv_iload_n hx hb dM_begin_123 rfl (lv_at hl 2 rfl) ?_
              refine lv_bipush (v := 97) hx hb dM_begin_124 (by decide) ?_
              refine lv_isub hx hb dM_begin_126 ?_
              refine M_astn hx hb K hM hS 10 (j := n) hn dM_begin_127 (kk := fun H locs hM hS => ?_)
              refine lv_aload_n hx hb dM_begin_128 rfl (lv_at hl 1 rfl) ?_
              refine lv_iload_n hx hb dM_begin_129 rfl (lv_at hl 0 rfl) ?_
              refine va_callv (M_run (As := [.int (nI n)]) (rest := []) (n := 1) hx hb hml K hM (c_attachS l D cl tys A ci tI tZ cI cZ o ad _ _ (nI n) d (op d) (pt d) hQ.1.1 (by omega) (hQ.2.2.1 d (by omega)).1.1 (by omega) (hQ.2.2.1 d (by omega)).2.1.1 (by omega)) kM_c_attach kM_m94 kM_i_attach kM_s_attach rfl rfl ⟨rfl, by decide +kernel⟩ ⟨Nat.le_of_ble_eq_true rfl, Nat.le_of_ble_eq_true rfl⟩ rfl hl.1 rfl (lv_room (Nat.le_of_ble_eq_true rfl)) dM_begin_130 ⟨Nat.le_of_ble_eq_true rfl, Nat.le_of_ble_eq_true rfl⟩) hS (fun q _ h => h) (fun q h => h) (fun u t H1 locs1 ht hvm hw hB hz hk hS => ?_)
              obtain ⟨hM, -⟩ := hB
              rw [ht] at hM
              obtain ⟨g, rfl⟩ := hw
              dsimp only at hM
              refine lv_iconst (v := 1) hx hb dM_begin_133 (by decide) ?_
              refine W.zret (v := (1)) hx hb hr rfl (M_endi hM hK hS ?_) hS.2.2 dM_begin_134
              exact ⟨⟨fun j h1 h2 h3 => by simp only [up_n h1, up_n h2, up_n h3], rfl⟩, Or.inr ⟨rfl, (d + 1, 0, n + 1, va_up pt d (pt d + 1), fw, mo, nm, dg), by simp [md_begin, md_add, hp, c_37, c_43, c_85, c_91, c_104], op, mdQ_leafS hQ hn hp3 0 dg rfl rfl rfl rfl rfl rfl rfl (Or.inl rfl)⟩⟩
            · skip
              refine lv_bipush (v := 95) hx hb dM_begin_107 (by decide) ?_
              refine lv_goto (tgt := 114) hx hb dM_begin_109 (by decide) ?_
              refine va_calli (M_run (As := [.int (95)]) (rest := []) (n := 1) hx hb hml K hM (c_newNode l D cl tys A ci tI tZ cI cZ o ad _ _ (95) n hQ.1.2.2 hn) kM_c_newNode kM_m90 kM_i_newNode kM_s_newNode rfl rfl ⟨rfl, by decide +kernel⟩ ⟨Nat.le_of_ble_eq_true rfl, Nat.le_of_ble_eq_true rfl⟩ rfl hl.1 rfl (lv_room (Nat.le_of_ble_eq_true rfl)) dM_begin_114 ⟨Nat.le_of_ble_eq_true rfl, Nat.le_of_ble_eq_true rfl⟩) hS (fun q _ h => h) (fun q h => h) (fun r u t H1 locs1 ht hvm hw hB hz hk hS => ?_)
              obtain ⟨hM, -⟩ := hB
              rw [ht] at hM
              obtain ⟨rfl, rfl⟩ := hw
              dsimp only at hM
              refine lv_istore_n (lv' := [(2, .int (nI n)), (0, .ref o), (1, .int k)]) hx hb dM_begin_117 rfl hl (by decide) rfl (fun ls hl => ?_)
              refine lv_aload_n hx hb dM_begin_118 rfl (lv_at hl 1 rfl) ?_
              refine M_geta hx hb K hM 10 kM_f28 dM_begin_119 (kk := ?_)
              refine lv_iload_n hx hb dM_begin_122 rfl (lv_at hl 0 rfl) ?_
              refine lv_iload_n hx hb dM_begin_123 rfl (lv_at hl 2 rfl) ?_
              refine lv_bipush (v := 97) hx hb dM_begin_124 (by decide) ?_
              refine lv_isub hx hb dM_begin_126 ?_
              refine M_astn hx hb K hM hS 10 (j := n) hn dM_begin_127 (kk := fun H locs hM hS => ?_)
              refine lv_aload_n hx hb dM_begin_128 rfl (lv_at hl 1 rfl) ?_
              refine lv_iload_n hx hb dM_begin_129 rfl (lv_at hl 0 rfl) ?_
              refine va_callv (M_run (As := [.int (nI n)]) (rest := []) (n := 1) hx hb hml K hM (c_attachS l D cl tys A ci tI tZ cI cZ o ad _ _ (nI n) d (op d) (pt d) hQ.1.1 (by omega) (hQ.2.2.1 d (by omega)).1.1 (by omega) (hQ.2.2.1 d (by omega)).2.1.1 (by omega)) kM_c_attach kM_m94 kM_i_attach kM_s_attach rfl rfl ⟨rfl, by decide +kernel⟩ ⟨Nat.le_of_ble_eq_true rfl, Nat.le_of_ble_eq_true rfl⟩ rfl hl.1 rfl (lv_room (Nat.le_of_ble_eq_true rfl)) dM_begin_130 ⟨Nat.le_of_ble_eq_true rfl, Nat.le_of_ble_eq_true rfl⟩) hS (fun q _ h => h) (fun q h => h) (fun u t H1 locs1 ht hvm hw hB hz hk hS => ?_)
              obtain ⟨hM, -⟩ := hB
              rw [ht] at hM
              obtain ⟨g, rfl⟩ := hw
              dsimp only at hM
              refine lv_iconst (v := 1) hx hb dM_begin_133 (by decide) ?_
              refine W.zret (v := (1)) hx hb hr rfl (M_endi hM hK hS ?_) hS.2.2 dM_begin_134
              exact ⟨⟨fun j h1 h2 h3 => by simp only [up_n h1, up_n h2, up_n h3], rfl⟩, Or.inr ⟨rfl, (d + 1, 0, n + 1, va_up pt d (pt d + 1), fw, mo, nm, dg), by simp [md_begin, md_add, hp, c_37, c_43, c_85, c_91, c_104], op, mdQ_leafS hQ hn hp3 0 dg rfl rfl rfl rfl rfl rfl rfl (Or.inl rfl)⟩⟩
          · skip
            refine lv_iload_n hx hb dM_begin_94 rfl (lv_at hl 1 rfl) ?_
            refine lv_bipush (v := 95) hx hb dM_begin_95 (by decide) ?_
            refine lv_icmp_ne (tgt := 135) hx hb dM_begin_97 (by decide) (fun c_97 => ?_) (fun c_97 => ?_)
            · skip
              refine lv_iload_n hx hb dM_begin_135 rfl (lv_at hl 1 rfl) ?_
              refine lv_bipush (v := 40) hx hb dM_begin_136 (by decide) ?_
              refine lv_icmp_ne (tgt := 150) hx hb dM_begin_138 (by decide) (fun c_138 => ?_) (fun c_138 => ?_)
              · skip
                refine lv_iconst (v := 0) hx hb dM_begin_150 (by decide) ?_
                refine W.zret (v := (0)) hx hb hr rfl (M_endi hM hK hS ?_) hS.2.2 dM_begin_151
                exact md_no (by simp [md_begin, hp, c_37, c_43, c_85, c_91, c_97, c_138])
              · skip
                refine lv_aload_n hx hb dM_begin_141 rfl (lv_at hl 0 rfl) ?_
                refine M_getv hx hb K hM 7 (v := nI (d + 1)) hQ.1.1 kM_f84 dM_begin_142 (kk := ?_)
                refine lv_bipush (v := 12) hx hb dM_begin_145 (by decide) ?_
                refine lv_icmp_ne (tgt := 152) hx hb dM_begin_147 (by decide) (fun c_147 => ?_) (fun c_147 => ?_)
                · skip
                  have hd12 : ¬ d + 1 = 12 := fun q => c_147 (by rw [q]; rfl)
                  refine lv_aload_n hx hb dM_begin_152 rfl (lv_at hl 0 rfl) ?_
                  refine M_geta hx hb K hM 3 kM_f13 dM_begin_153 (kk := ?_)
                  refine lv_aload_n hx hb dM_begin_156 rfl (lv_at hl 0 rfl) ?_
                  refine M_getv hx hb K hM 7 (v := nI (d + 1)) hQ.1.1 kM_f84 dM_begin_157 (kk := ?_)
                  refine lv_aload_n hx hb dM_begin_160 rfl (lv_at hl 0 rfl) ?_
                  refine lv_bipush (v := 40) hx hb dM_begin_161 (by decide) ?_
                  refine va_calli (M_run (As := [.int (40)]) (rest := [.int (nI (d + 1)), .ref (ad 3)]) (n := 1) hx hb hml K hM (c_newNode l D cl tys A ci tI tZ cI cZ o ad _ _ (40) n hQ.1.2.2 hn) kM_c_newNode kM_m90 kM_i_newNode kM_s_newNode rfl rfl ⟨rfl, by decide +kernel⟩ ⟨Nat.le_of_ble_eq_true rfl, Nat.le_of_ble_eq_true rfl⟩ rfl hl.1 rfl (lv_room (Nat.le_of_ble_eq_true rfl)) dM_begin_163 ⟨Nat.le_of_ble_eq_true rfl, Nat.le_of_ble_eq_true rfl⟩) hS (fun q _ h => h) (fun q h => h) (fun r u t H1 locs1 ht hvm hw hB hz hk hS => ?_)
                  obtain ⟨hM, -⟩ := hB
                  rw [ht] at hM
                  obtain ⟨rfl, rfl⟩ := hw
                  dsimp only at hM
                  refine M_astn hx hb K hM hS 3 (j := (d + 1)) (show (d + 1) < 13 by omega) dM_begin_166 (kk := fun H locs hM hS => ?_)
                  refine lv_aload_n hx hb dM_begin_167 rfl (lv_at hl 0 rfl) ?_
                  refine M_geta hx hb K hM 4 kM_f16 dM_begin_168 (kk := ?_)
                  refine lv_aload_n hx hb dM_begin_171 rfl (lv_at hl 0 rfl) ?_
                  refine M_getv hx hb K hM 7 (v := nI (d + 1)) hQ.1.1 kM_f84 dM_begin_172 (kk := ?_)
                  refine lv_iconst (v := 0) hx hb dM_begin_175 (by decide) ?_
                  refine M_astn hx hb K hM hS 4 (j := (d + 1)) (show (d + 1) < 13 by omega) dM_begin_176 (kk := fun H locs hM hS => ?_)
                  refine lv_aload_n hx hb dM_begin_177 rfl (lv_at hl 0 rfl) ?_
                  refine M_geta hx hb K hM 5 kM_f19 dM_begin_178 (kk := ?_)
                  refine lv_aload_n hx hb dM_begin_181 rfl (lv_at hl 0 rfl) ?_
                  refine M_getv hx hb K hM 7 (v := nI (d + 1)) hQ.1.1 kM_f84 dM_begin_182 (kk := ?_)
                  refine lv_iconst (v := 1) hx hb dM_begin_185 (by decide) ?_
                  refine M_astn hx hb K hM hS 5 (j := (d + 1)) (show (d + 1) < 13 by omega) dM_begin_186 (kk := fun H locs hM hS => ?_)
                  refine lv_aload_n hx hb dM_begin_187 rfl (lv_at hl 0 rfl) ?_
                  refine M_geta hx hb K hM 6 kM_f22 dM_begin_188 (kk := ?_)
                  refine lv_aload_n hx hb dM_begin_191 rfl (lv_at hl 0 rfl) ?_
                  refine M_getv hx hb K hM 7 (v := nI (d + 1)) hQ.1.1 kM_f84 dM_begin_192 (kk := ?_)
                  refine lv_iconst (v := 4) hx hb dM_begin_195 (by decide) ?_
                  refine M_astn hx hb K hM hS 6 (j := (d + 1)) (show (d + 1) < 13 by omega) dM_begin_196 (kk := fun H locs hM hS => ?_)
                  refine lv_aload_n hx hb dM_begin_197 rfl (lv_at hl 0 rfl) ?_
                  refine lv_dup hx hb dM_begin_198 rfl ?_
                  refine M_getv hx hb K hM 7 (v := nI (d + 1)) hQ.1.1 kM_f84 dM_begin_199 (kk := ?_)
                  refine lv_iconst (v := 1) hx hb dM_begin_202 (by decide) ?_
                  refine lv_iadd hx hb dM_begin_203 ?_
                  refine lv_as (v := nI ((d + 1) + 1)) (nI_1 _) ?_
                  refine M_puti hx hb K hM hS 7 kM_f84 dM_begin_204 (kk := fun H locs hM hS => ?_)
                  refine lv_aload_n hx hb dM_begin_207 rfl (lv_at hl 0 rfl) ?_
                  refine lv_iconst (v := 1) hx hb dM_begin_208 (by decide) ?_
                  refine M_puti hx hb K hM hS 8 kM_f87 dM_begin_209 (kk := fun H locs hM hS => ?_)
                  refine lv_iconst (v := 1) hx hb dM_begin_212 (by decide) ?_
                  refine W.zret (v := (1)) hx hb hr rfl (M_endi hM hK hS ?_) hS.2.2 dM_begin_213
                  exact ⟨⟨fun j h1 h2 h3 => by simp only [up_n h1, up_n h2, up_n h3], rfl⟩, Or.inr ⟨rfl, (d + 1 + 1, 1, n + 1, va_up pt (d + 1) 0, va_up fw (d + 1) 1, va_up mo (d + 1) 4, nm, dg), by simp [md_begin, hp, hd12, c_37, c_43, c_85, c_91, c_97, c_138], _, mdQ_open hQ hn (by omega) (fun j hj => by rw [show j = d by omega]; exact hp3) rfl rfl rfl rfl rfl rfl rfl upd_s⟩⟩
                · skip
                  refine lv_iconst (v := 0) hx hb dM_begin_150 (by decide) ?_
                  refine W.zret (v := (0)) hx hb hr rfl (M_endi hM hK hS ?_) hS.2.2 dM_begin_151
                  exact md_no (by have := (nI_eq (b := 12) (by omega) (by decide)).mp c_147; simp [md_begin, hp, this, c_37, c_43, c_85, c_91, c_97, c_138])
            · skip
              refine lv_aload_n hx hb dM_begin_100 rfl (lv_at hl 0 rfl) ?_
              refine lv_iload_n hx hb dM_begin_101 rfl (lv_at hl 1 rfl) ?_
              refine lv_bipush (v := 95) hx hb dM_begin_102 (by decide) ?_
              refine lv_icmp_ne (tgt := 112) hx hb dM_begin_104 (by decide) (fun c_104 => ?_) (fun c_104 => ?_)
              · skip
                refine lv_bipush (v := 110) hx hb dM_begin_112 (by decide) ?_
                refine va_calli (M_run (As := [.int (110)]) (rest := []) (n := 1) hx hb hml K hM (c_newNode l D cl tys A ci tI tZ cI cZ o ad _ _ (110) n hQ.1.2.2 hn) kM_c_newNode kM_m90 kM_i_newNode kM_s_newNode rfl rfl ⟨rfl, by decide +kernel⟩ ⟨Nat.le_of_ble_eq_true rfl, Nat.le_of_ble_eq_true rfl⟩ rfl hl.1 rfl (lv_room (Nat.le_of_ble_eq_true rfl)) dM_begin_114 ⟨Nat.le_of_ble_eq_true rfl, Nat.le_of_ble_eq_true rfl⟩) hS (fun q _ h => h) (fun q h => h) (fun r u t H1 locs1 ht hvm hw hB hz hk hS => ?_)
                obtain ⟨hM, -⟩ := hB
                rw [ht] at hM
                obtain ⟨rfl, rfl⟩ := hw
                dsimp only at hM
                refine lv_istore_n (lv' := [(2, .int (nI n)), (0, .ref o), (1, .int k)]) hx hb dM_begin_117 rfl hl (by decide) rfl (fun ls hl => ?_)
                refine lv_aload_n hx hb dM_begin_118 rfl (lv_at hl 1 rfl) ?_
                refine M_geta hx hb K hM 10 kM_f28 dM_begin_119 (kk := ?_)
                refine lv_iload_n hx hb dM_begin_122 rfl (lv_at hl 0 rfl) ?_
                refine lv_iload_n hx hb dM_begin_123 rfl (lv_at hl 2 rfl) ?_
                refine lv_bipush (v := 97) hx hb dM_begin_124 (by decide) ?_
                refine lv_isub hx hb dM_begin_126 ?_
                refine M_astn hx hb K hM hS 10 (j := n) hn dM_begin_127 (kk := fun H locs hM hS => ?_)
                refine lv_aload_n hx hb dM_begin_128 rfl (lv_at hl 1 rfl) ?_
                refine lv_iload_n hx hb dM_begin_129 rfl (lv_at hl 0 rfl) ?_
                refine va_callv (M_run (As := [.int (nI n)]) (rest := []) (n := 1) hx hb hml K hM (c_attachS l D cl tys A ci tI tZ cI cZ o ad _ _ (nI n) d (op d) (pt d) hQ.1.1 (by omega) (hQ.2.2.1 d (by omega)).1.1 (by omega) (hQ.2.2.1 d (by omega)).2.1.1 (by omega)) kM_c_attach kM_m94 kM_i_attach kM_s_attach rfl rfl ⟨rfl, by decide +kernel⟩ ⟨Nat.le_of_ble_eq_true rfl, Nat.le_of_ble_eq_true rfl⟩ rfl hl.1 rfl (lv_room (Nat.le_of_ble_eq_true rfl)) dM_begin_130 ⟨Nat.le_of_ble_eq_true rfl, Nat.le_of_ble_eq_true rfl⟩) hS (fun q _ h => h) (fun q h => h) (fun u t H1 locs1 ht hvm hw hB hz hk hS => ?_)
                obtain ⟨hM, -⟩ := hB
                rw [ht] at hM
                obtain ⟨g, rfl⟩ := hw
                dsimp only at hM
                refine lv_iconst (v := 1) hx hb dM_begin_133 (by decide) ?_
                refine W.zret (v := (1)) hx hb hr rfl (M_endi hM hK hS ?_) hS.2.2 dM_begin_134
                exact ⟨⟨fun j h1 h2 h3 => by simp only [up_n h1, up_n h2, up_n h3], rfl⟩, Or.inr ⟨rfl, (d + 1, 0, n + 1, va_up pt d (pt d + 1), fw, mo, nm, dg), by simp [md_begin, md_add, hp, c_37, c_43, c_85, c_91, c_97, c_104], op, mdQ_leafS hQ hn hp3 0 dg rfl rfl rfl rfl rfl rfl rfl (Or.inl rfl)⟩⟩
              · skip
                refine lv_bipush (v := 95) hx hb dM_begin_107 (by decide) ?_
                refine lv_goto (tgt := 114) hx hb dM_begin_109 (by decide) ?_
                refine va_calli (M_run (As := [.int (95)]) (rest := []) (n := 1) hx hb hml K hM (c_newNode l D cl tys A ci tI tZ cI cZ o ad _ _ (95) n hQ.1.2.2 hn) kM_c_newNode kM_m90 kM_i_newNode kM_s_newNode rfl rfl ⟨rfl, by decide +kernel⟩ ⟨Nat.le_of_ble_eq_true rfl, Nat.le_of_ble_eq_true rfl⟩ rfl hl.1 rfl (lv_room (Nat.le_of_ble_eq_true rfl)) dM_begin_114 ⟨Nat.le_of_ble_eq_true rfl, Nat.le_of_ble_eq_true rfl⟩) hS (fun q _ h => h) (fun q h => h) (fun r u t H1 locs1 ht hvm hw hB hz hk hS => ?_)
                obtain ⟨hM, -⟩ := hB
                rw [ht] at hM
                obtain ⟨rfl, rfl⟩ := hw
                dsimp only at hM
                refine lv_istore_n (lv' := [(2, .int (nI n)), (0, .ref o), (1, .int k)]) hx hb dM_begin_117 rfl hl (by decide) rfl (fun ls hl => ?_)
                refine lv_aload_n hx hb dM_begin_118 rfl (lv_at hl 1 rfl) ?_
                refine M_geta hx hb K hM 10 kM_f28 dM_begin_119 (kk := ?_)
                refine lv_iload_n hx hb dM_begin_122 rfl (lv_at hl 0 rfl) ?_
                refine lv_iload_n hx hb dM_begin_123 rfl (lv_at hl 2 rfl) ?_
                refine lv_bipush (v := 97) hx hb dM_begin_124 (by decide) ?_
                refine lv_isub hx hb dM_begin_126 ?_
                refine M_astn hx hb K hM hS 10 (j := n) hn dM_begin_127 (kk := fun H locs hM hS => ?_)
                refine lv_aload_n hx hb dM_begin_128 rfl (lv_at hl 1 rfl) ?_
                refine lv_iload_n hx hb dM_begin_129 rfl (lv_at hl 0 rfl) ?_
                refine va_callv (M_run (As := [.int (nI n)]) (rest := []) (n := 1) hx hb hml K hM (c_attachS l D cl tys A ci tI tZ cI cZ o ad _ _ (nI n) d (op d) (pt d) hQ.1.1 (by omega) (hQ.2.2.1 d (by omega)).1.1 (by omega) (hQ.2.2.1 d (by omega)).2.1.1 (by omega)) kM_c_attach kM_m94 kM_i_attach kM_s_attach rfl rfl ⟨rfl, by decide +kernel⟩ ⟨Nat.le_of_ble_eq_true rfl, Nat.le_of_ble_eq_true rfl⟩ rfl hl.1 rfl (lv_room (Nat.le_of_ble_eq_true rfl)) dM_begin_130 ⟨Nat.le_of_ble_eq_true rfl, Nat.le_of_ble_eq_true rfl⟩) hS (fun q _ h => h) (fun q h => h) (fun u t H1 locs1 ht hvm hw hB hz hk hS => ?_)
                obtain ⟨hM, -⟩ := hB
                rw [ht] at hM
                obtain ⟨g, rfl⟩ := hw
                dsimp only at hM
                refine lv_iconst (v := 1) hx hb dM_begin_133 (by decide) ?_
                refine W.zret (v := (1)) hx hb hr rfl (M_endi hM hK hS ?_) hS.2.2 dM_begin_134
                exact ⟨⟨fun j h1 h2 h3 => by simp only [up_n h1, up_n h2, up_n h3], rfl⟩, Or.inr ⟨rfl, (d + 1, 0, n + 1, va_up pt d (pt d + 1), fw, mo, nm, dg), by simp [md_begin, md_add, hp, c_37, c_43, c_85, c_91, c_97, c_104], op, mdQ_leafS hQ hn hp3 0 dg rfl rfl rfl rfl rfl rfl rfl (Or.inl rfl)⟩⟩
      · skip
        refine lv_aload_n hx hb dM_begin_46 rfl (lv_at hl 0 rfl) ?_
        refine lv_bipush (v := 48) hx hb dM_begin_47 (by decide) ?_
        refine va_calli (M_run (As := [.int (48)]) (rest := []) (n := 1) hx hb hml K hM (c_newNode l D cl tys A ci tI tZ cI cZ o ad _ _ (48) n hQ.1.2.2 hn) kM_c_newNode kM_m90 kM_i_newNode kM_s_newNode rfl rfl ⟨rfl, by decide +kernel⟩ ⟨Nat.le_of_ble_eq_true rfl, Nat.le_of_ble_eq_true rfl⟩ rfl hl.1 rfl (lv_room (Nat.le_of_ble_eq_true rfl)) dM_begin_49 ⟨Nat.le_of_ble_eq_true rfl, Nat.le_of_ble_eq_true rfl⟩) hS (fun q _ h => h) (fun q h => h) (fun r u t H1 locs1 ht hvm hw hB hz hk hS => ?_)
        obtain ⟨hM, -⟩ := hB
        rw [ht] at hM
        obtain ⟨rfl, rfl⟩ := hw
        dsimp only at hM
        refine lv_istore_n (lv' := [(2, .int (nI n)), (0, .ref o), (1, .int k)]) hx hb dM_begin_52 rfl hl (by decide) rfl (fun ls hl => ?_)
        refine lv_aload_n hx hb dM_begin_53 rfl (lv_at hl 1 rfl) ?_
        refine M_geta hx hb K hM 10 kM_f28 dM_begin_54 (kk := ?_)
        refine lv_iload_n hx hb dM_begin_57 rfl (lv_at hl 0 rfl) ?_
        refine lv_iload_n hx hb dM_begin_58 rfl (lv_at hl 2 rfl) ?_
        refine lv_bipush (v := 48) hx hb dM_begin_59 (by decide) ?_
        refine lv_isub hx hb dM_begin_61 ?_
        refine M_astn hx hb K hM hS 10 (j := n) hn dM_begin_62 (kk := fun H locs hM hS => ?_)
        refine lv_aload_n hx hb dM_begin_63 rfl (lv_at hl 1 rfl) ?_
        refine M_geta hx hb K hM 11 kM_f31 dM_begin_64 (kk := ?_)
        refine lv_iload_n hx hb dM_begin_67 rfl (lv_at hl 0 rfl) ?_
        refine lv_iconst (v := 1) hx hb dM_begin_68 (by decide) ?_
        refine M_astn hx hb K hM hS 11 (j := n) hn dM_begin_69 (kk := fun H locs hM hS => ?_)
        refine lv_aload_n hx hb dM_begin_70 rfl (lv_at hl 1 rfl) ?_
        refine lv_iload_n hx hb dM_begin_71 rfl (lv_at hl 0 rfl) ?_
        refine va_callv (M_run (As := [.int (nI n)]) (rest := []) (n := 1) hx hb hml K hM (c_attachS l D cl tys A ci tI tZ cI cZ o ad _ _ (nI n) d (op d) (pt d) hQ.1.1 (by omega) (hQ.2.2.1 d (by omega)).1.1 (by omega) (hQ.2.2.1 d (by omega)).2.1.1 (by omega)) kM_c_attach kM_m94 kM_i_attach kM_s_attach rfl rfl ⟨rfl, by decide +kernel⟩ ⟨Nat.le_of_ble_eq_true rfl, Nat.le_of_ble_eq_true rfl⟩ rfl hl.1 rfl (lv_room (Nat.le_of_ble_eq_true rfl)) dM_begin_72 ⟨Nat.le_of_ble_eq_true rfl, Nat.le_of_ble_eq_true rfl⟩) hS (fun q _ h => h) (fun q h => h) (fun u t H1 locs1 ht hvm hw hB hz hk hS => ?_)
        obtain ⟨hM, -⟩ := hB
        rw [ht] at hM
        obtain ⟨g, rfl⟩ := hw
        dsimp only at hM
        refine lv_aload_n hx hb dM_begin_75 rfl (lv_at hl 1 rfl) ?_
        refine lv_iconst (v := 4) hx hb dM_begin_76 (by decide) ?_
        refine M_puti hx hb K hM hS 8 kM_f87 dM_begin_77 (kk := fun H locs hM hS => ?_)
        refine lv_iconst (v := 1) hx hb dM_begin_80 (by decide) ?_
        refine W.zret (v := (1)) hx hb hr rfl (M_endi hM hK hS ?_) hS.2.2 dM_begin_81
        exact ⟨⟨fun j h1 h2 h3 => by simp only [up_n h1, up_n h2, up_n h3], rfl⟩, Or.inr ⟨rfl, (d + 1, 4, n + 1, va_up pt d (pt d + 1), fw, mo, nm, 1), by simp [md_begin, md_add, hp, c_37, c_43], op, mdQ_leafS hQ hn hp3 4 1 rfl rfl rfl rfl rfl rfl rfl (Or.inr ⟨rfl, by decide, upd_s⟩)⟩⟩
  · skip
    refine lv_iconst (v := 0) hx hb dM_begin_32 (by decide) ?_
    refine W.zret (v := (0)) hx hb hr rfl (M_endi hM hK hS ?_) hS.2.2 dM_begin_33
    exact md_no (by simp [md_begin, (nI_eq (by omega) (by omega)).mp c_29])
end
section
def md_arN (c : Int32) : Nat := if c = 43 ∨ c = 45 ∨ c = 42 ∨ c = 47 ∨ c = 60 ∨ c = 61 ∨ c = 58 ∨ c = 38 ∨ c = 64 ∨ c = 37 then 2 else if c = 65 ∨ c = 68 ∨ c = 80 ∨ c = 94 ∨ c = 33 ∨ c = 92 then 1 else if c = 63 then 3 else 0
theorem md_ar_N (c : Int32) : md_ar c = nI (md_arN c) := by
  unfold md_ar md_arN
  split
  · rfl
  · split
    · rfl
    · split <;> rfl
theorem md_arN_le (c : Int32) : md_arN c ≤ 3 := by
  unfold md_arN
  split
  · omega
  · split
    · omega
    · split <;> omega
def md_oper (c : Int32) : MT → Option MT := fun (d, _, n, pt, fw, mo, _, dg) =>
  if md_arN c = 0 then none else some (d, (if c = 92 then 3 else if c = 33 ∨ c = 64 ∨ c = 37 then 2 else 0), n, pt, va_up fw (d - 1) (md_arN c), va_up mo (d - 1) (md_arN c), [], dg)
set_option maxHeartbeats 4000000 in
set_option maxRecDepth 100000 in
theorem c_operator (l : Launch) (D : va_G) (cl : List vw_C) (tys : List (ClassId × FieldType)) (A : Nat → Prop) (ci tI tZ : Nat) (cI cZ : ClassId) (o : Nat) (ad : Nat → Nat) (fi : Nat → Int32) (fa : Nat → Nat → Int32) (k : Int32) (op : Nat → Nat) (d n : Nat) (pt fw mo : Nat → Nat) (nm : List Nat) (dg : Nat) (hQ : mdQ fi fa op (d + 1) 1 n pt fw mo nm dg) :
    Met l yM_operator (.code yM_operator bM_operator 4 (some .boolean) :: lw_g) ({ frames := 1, cells := 0, slots := 0, locals := 21 }) (va_Pc [.ref o, .int k] (mdPre D cl tys A ci tI tZ cI cZ o ad fi fa)) (va_Qi (md_res (md_oper k (d + 1, 1, n, pt, fw, mo, nm, dg)) fi fa) (mdB D cl tys A ci cI cZ o ad) A) 0 0 A := by
  refine Met.ofW (cc := bM_operator) (maxL := 4) (ret := (some .boolean)) (by decide) rfl ?_
  intro p e s m args below meth c s₁ B hml hv
  obtain ⟨rfl, hM, hK, hc, hI, hZ⟩ := hv
  have hx := B.exec
  have hb := B.bytes
  have hr := B.returns
  have hts := atoms_spec (ws := (.code yM_operator bM_operator 4 (some .boolean) :: lw_g)) B.pre
  have hown : s.vm.findClass RM = some m.cls := findClass_of_methodNamed B.named
  have K : mdC D cl tys ci tI tZ cI cZ s m _ := ⟨fun w h => hts w (List.mem_cons_of_mem _ h), hown, hK, hc, hI, hZ⟩
  have hlocks := B.notSynchronized
  have hS : va_S A s.heap s.heap [] := va_S.rf
  have hl := lv_entry ([.ref o, .int k]) (n := 4) (Nat.le_of_ble_eq_true rfl)
  rw [lg_entry_eq]
  generalize (lg_sl ([.ref o, .int k]) ++ List.replicate (4 - (lg_sl ([.ref o, .int k])).length) Slot.unset).toArray = ls at hl ⊢
  have hl : lv_has ls 4 [(0, .ref o), (1, .int k)] := hl
  have hd11 : d + 1 ≤ 12 := hQ.2.1.1
  have hod := (hQ.2.2.1 d (by omega)).1.2
  have hn := hQ.2.1.2.1
  have har := md_arN_le k
  refine lv_aload_n hx hb dM_operator_0 rfl (lv_at hl 0 rfl) ?_
  refine lv_iload_n hx hb dM_operator_1 rfl (lv_at hl 1 rfl) ?_
  refine va_calli (M_run (As := [.int k]) (rest := []) (n := 1) hx hb hml K hM (c_arity l D cl tys A ci tI tZ cI cZ o ad _ _ k) kM_c_arity kM_m98 kM_i_arity kM_s_arity rfl rfl ⟨rfl, by decide +kernel⟩ ⟨Nat.le_of_ble_eq_true rfl, Nat.le_of_ble_eq_true rfl⟩ rfl hl.1 rfl (lv_room (Nat.le_of_ble_eq_true rfl)) dM_operator_2 ⟨Nat.le_of_ble_eq_true rfl, Nat.le_of_ble_eq_true rfl⟩) hS (fun q _ h => h) (fun q h => h) (fun r u t H1 locs1 ht hvm hw hB hz hk hS => ?_)
  obtain ⟨hM, -⟩ := hB
  rw [ht] at hM
  obtain ⟨rfl, rfl⟩ := hw
  dsimp only at hM
  rw [md_ar_N]
  refine lv_istore_n (lv' := [(2, .int (nI (md_arN k))), (0, .ref o), (1, .int k)]) hx hb dM_operator_5 rfl hl (by decide) rfl (fun ls hl => ?_)
  refine lv_iload_n hx hb dM_operator_6 rfl (lv_at hl 0 rfl) ?_
  refine lv_if_ne (tgt := 12) hx hb dM_operator_7 (by decide) (fun c_7 => ?_) (fun c_7 => ?_)
  · skip
    have h0 : ¬ md_arN k = 0 := fun q => c_7 (by rw [q]; rfl)
    refine lv_aload_n hx hb dM_operator_12 rfl (lv_at hl 1 rfl) ?_
    refine M_getv hx hb K hM 7 (v := nI (d + 1)) hQ.1.1 kM_f84 dM_operator_13 (kk := ?_)
    refine lv_iconst (v := 1) hx hb dM_operator_16 (by decide) ?_
    refine lv_isub hx hb dM_operator_17 ?_
    refine lv_as (v := nI d) (nI_pred d) ?_
    refine lv_istore_n (lv' := [(3, .int (nI d)), (2, .int (nI (md_arN k))), (0, .ref o), (1, .int k)]) hx hb dM_operator_18 rfl hl (by decide) rfl (fun ls hl => ?_)
    refine lv_aload_n hx hb dM_operator_19 rfl (lv_at hl 2 rfl) ?_
    refine M_geta hx hb K hM 9 kM_f25 dM_operator_20 (kk := ?_)
    refine lv_aload_n hx hb dM_operator_23 rfl (lv_at hl 2 rfl) ?_
    refine M_geta hx hb K hM 3 kM_f13 dM_operator_24 (kk := ?_)
    refine lv_iload_n hx hb dM_operator_27 rfl (lv_at hl 0 rfl) ?_
    refine M_aldn hx hb K hM 3 (j := d) (show d < 13 by omega) (v := nI (op d)) (hQ.2.2.1 d (by omega)).1.1 dM_operator_28 (kk := ?_)
    refine lv_iload_n hx hb dM_operator_29 rfl (lv_at hl 3 rfl) ?_
    refine M_astn hx hb K hM hS 9 (j := op d) (show op d < 120 by omega) dM_operator_30 (kk := fun H locs hM hS => ?_)
    refine lv_aload_n hx hb dM_operator_31 rfl (lv_at hl 2 rfl) ?_
    refine M_geta hx hb K hM 5 kM_f19 dM_operator_32 (kk := ?_)
    refine lv_iload_n hx hb dM_operator_35 rfl (lv_at hl 0 rfl) ?_
    refine lv_iload_n hx hb dM_operator_36 rfl (lv_at hl 1 rfl) ?_
    refine M_astn hx hb K hM hS 5 (j := d) (show d < 13 by omega) dM_operator_37 (kk := fun H locs hM hS => ?_)
    refine lv_aload_n hx hb dM_operator_38 rfl (lv_at hl 2 rfl) ?_
    refine M_geta hx hb K hM 6 kM_f22 dM_operator_39 (kk := ?_)
    refine lv_iload_n hx hb dM_operator_42 rfl (lv_at hl 0 rfl) ?_
    refine lv_iload_n hx hb dM_operator_43 rfl (lv_at hl 1 rfl) ?_
    refine M_astn hx hb K hM hS 6 (j := d) (show d < 13 by omega) dM_operator_44 (kk := fun H locs hM hS => ?_)
    refine lv_aload_n hx hb dM_operator_45 rfl (lv_at hl 2 rfl) ?_
    refine lv_iload_n hx hb dM_operator_46 rfl (lv_at hl 3 rfl) ?_
    refine lv_bipush (v := 92) hx hb dM_operator_47 (by decide) ?_
    refine lv_icmp_ne (tgt := 56) hx hb dM_operator_49 (by decide) (fun c_49 => ?_) (fun c_49 => ?_)
    · skip
      refine lv_iload_n hx hb dM_operator_56 rfl (lv_at hl 3 rfl) ?_
      refine lv_bipush (v := 33) hx hb dM_operator_57 (by decide) ?_
      refine lv_icmp_eq (tgt := 74) hx hb dM_operator_59 (by decide) (fun c_59 => ?_) (fun c_59 => ?_)
      · skip
        refine lv_iconst (v := 2) hx hb dM_operator_74 (by decide) ?_
        refine lv_goto (tgt := 79) hx hb dM_operator_75 (by decide) ?_
        refine M_puti hx hb K hM hS 8 kM_f87 dM_operator_79 (kk := fun H locs hM hS => ?_)
        refine lv_iconst (v := 1) hx hb dM_operator_82 (by decide) ?_
        refine W.zret (v := (1)) hx hb hr rfl (M_endi hM hK hS ?_) hS.2.2 dM_operator_83
        exact ⟨⟨fun j h1 h2 h3 => by simp only [up_n h1, up_n h2, up_n h3], rfl⟩, Or.inr ⟨rfl, (d + 1, 2, n, pt, va_up fw d (md_arN k), va_up mo d (md_arN k), [], dg), by first | (simp [md_oper, h0, c_49, c_59]; done) | (simp [md_oper, h0, c_49, c_59]; decide), op, mdQ_oper hQ 2 (md_arN k) (by omega) (by omega) rfl rfl rfl rfl rfl rfl rfl rfl⟩⟩
      · skip
        refine lv_iload_n hx hb dM_operator_62 rfl (lv_at hl 3 rfl) ?_
        refine lv_bipush (v := 64) hx hb dM_operator_63 (by decide) ?_
        refine lv_icmp_eq (tgt := 74) hx hb dM_operator_65 (by decide) (fun c_65 => ?_) (fun c_65 => ?_)
        · skip
          refine lv_iconst (v := 2) hx hb dM_operator_74 (by decide) ?_
          refine lv_goto (tgt := 79) hx hb dM_operator_75 (by decide) ?_
          refine M_puti hx hb K hM hS 8 kM_f87 dM_operator_79 (kk := fun H locs hM hS => ?_)
          refine lv_iconst (v := 1) hx hb dM_operator_82 (by decide) ?_
          refine W.zret (v := (1)) hx hb hr rfl (M_endi hM hK hS ?_) hS.2.2 dM_operator_83
          exact ⟨⟨fun j h1 h2 h3 => by simp only [up_n h1, up_n h2, up_n h3], rfl⟩, Or.inr ⟨rfl, (d + 1, 2, n, pt, va_up fw d (md_arN k), va_up mo d (md_arN k), [], dg), by first | (simp [md_oper, h0, c_49, c_59, c_65]; done) | (simp [md_oper, h0, c_49, c_59, c_65]; decide), op, mdQ_oper hQ 2 (md_arN k) (by omega) (by omega) rfl rfl rfl rfl rfl rfl rfl rfl⟩⟩
        · skip
          refine lv_iload_n hx hb dM_operator_68 rfl (lv_at hl 3 rfl) ?_
          refine lv_bipush (v := 37) hx hb dM_operator_69 (by decide) ?_
          refine lv_icmp_ne (tgt := 78) hx hb dM_operator_71 (by decide) (fun c_71 => ?_) (fun c_71 => ?_)
          · skip
            refine lv_iconst (v := 0) hx hb dM_operator_78 (by decide) ?_
            refine M_puti hx hb K hM hS 8 kM_f87 dM_operator_79 (kk := fun H locs hM hS => ?_)
            refine lv_iconst (v := 1) hx hb dM_operator_82 (by decide) ?_
            refine W.zret (v := (1)) hx hb hr rfl (M_endi hM hK hS ?_) hS.2.2 dM_operator_83
            exact ⟨⟨fun j h1 h2 h3 => by simp only [up_n h1, up_n h2, up_n h3], rfl⟩, Or.inr ⟨rfl, (d + 1, 0, n, pt, va_up fw d (md_arN k), va_up mo d (md_arN k), [], dg), by first | (simp [md_oper, h0, c_49, c_59, c_65, c_71]; done) | (simp [md_oper, h0, c_49, c_59, c_65, c_71]; decide), op, mdQ_oper hQ 0 (md_arN k) (by omega) (by omega) rfl rfl rfl rfl rfl rfl rfl rfl⟩⟩
          · skip
            refine lv_iconst (v := 2) hx hb dM_operator_74 (by decide) ?_
            refine lv_goto (tgt := 79) hx hb dM_operator_75 (by decide) ?_
            refine M_puti hx hb K hM hS 8 kM_f87 dM_operator_79 (kk := fun H locs hM hS => ?_)
            refine lv_iconst (v := 1) hx hb dM_operator_82 (by decide) ?_
            refine W.zret (v := (1)) hx hb hr rfl (M_endi hM hK hS ?_) hS.2.2 dM_operator_83
            exact ⟨⟨fun j h1 h2 h3 => by simp only [up_n h1, up_n h2, up_n h3], rfl⟩, Or.inr ⟨rfl, (d + 1, 2, n, pt, va_up fw d (md_arN k), va_up mo d (md_arN k), [], dg), by first | (simp [md_oper, h0, c_49, c_59, c_65, c_71]; done) | (simp [md_oper, h0, c_49, c_59, c_65, c_71]; decide), op, mdQ_oper hQ 2 (md_arN k) (by omega) (by omega) rfl rfl rfl rfl rfl rfl rfl rfl⟩⟩
    · skip
      refine lv_iconst (v := 3) hx hb dM_operator_52 (by decide) ?_
      refine lv_goto (tgt := 79) hx hb dM_operator_53 (by decide) ?_
      refine M_puti hx hb K hM hS 8 kM_f87 dM_operator_79 (kk := fun H locs hM hS => ?_)
      refine lv_iconst (v := 1) hx hb dM_operator_82 (by decide) ?_
      refine W.zret (v := (1)) hx hb hr rfl (M_endi hM hK hS ?_) hS.2.2 dM_operator_83
      exact ⟨⟨fun j h1 h2 h3 => by simp only [up_n h1, up_n h2, up_n h3], rfl⟩, Or.inr ⟨rfl, (d + 1, 3, n, pt, va_up fw d (md_arN k), va_up mo d (md_arN k), [], dg), by first | (simp [md_oper, h0, c_49]; done) | (simp [md_oper, h0, c_49]; decide), op, mdQ_oper hQ 3 (md_arN k) (by omega) (by omega) rfl rfl rfl rfl rfl rfl rfl rfl⟩⟩
  · skip
    have h0 : md_arN k = 0 := (nI_eq (b := 0) (by omega) (by decide)).mp (c_7.trans nI_0.symm)
    refine lv_iconst (v := 0) hx hb dM_operator_10 (by decide) ?_
    refine W.zret (v := (0)) hx hb hr rfl (M_endi hM hK hS ?_) hS.2.2 dM_operator_11
    exact md_no (by simp [md_oper, h0])
end
section
theorem kM_k101 : Cond.constant RM 101 (1048576) ∈ lw_g := lw_in (List.mem_append_right _ (List.mem_of_getElem? (i := 1205) (by decide +kernel))) rfl
theorem md_cnt {nm : List Nat} (h3 : nm.length ≤ 3) (h : ∀ a ∈ nm, a < 26) : nI (md_pk nm) >>> ((20 : Int32) &&& 31) = nI nm.length := by
  have key : md_pk nm < 2 ^ 31 ∧ md_pk nm / 2 ^ 20 = nm.length := by
    match nm, h3, h with
    | [], _, _ => exact ⟨by decide, by decide⟩
    | [a], _, h => have h1 := h a (by simp); simp [md_pk]; omega
    | [a, b], _, h => have h1 := h a (by simp); have h2 := h b (by simp); simp [md_pk]; omega
    | [a, b, e], _, h => have h1 := h a (by simp); have h2 := h b (by simp); have h3 := h e (by simp); simp [md_pk]; omega
  rw [pk_shrN key.1 _ 20 (by decide), key.2]
theorem md_sel {nm : List Nat} (h3 : nm.length ≤ 3) (h : ∀ a ∈ nm, a < 26) (i : Nat) (hi : i < 2) : (nI (md_pk nm) >>> (nI (5 * i) &&& 31)) &&& 31 = nI (nm.getD i 0) := by
  have key : md_pk nm < 2 ^ 31 ∧ md_pk nm / 2 ^ (5 * i) % 2 ^ 5 = nm.getD i 0 := by
    match nm, h3, h with
    | [], _, _ => exact ⟨by decide, by rcases (show i = 0 ∨ i = 1 by omega) with rfl | rfl <;> decide⟩
    | [a], _, h => have h1 := h a (by simp); refine ⟨by simp [md_pk]; omega, ?_⟩; rcases (show i = 0 ∨ i = 1 by omega) with rfl | rfl <;> simp [md_pk] <;> omega
    | [a, b], _, h => have h1 := h a (by simp); have h2 := h b (by simp); refine ⟨by simp [md_pk]; omega, ?_⟩; rcases (show i = 0 ∨ i = 1 by omega) with rfl | rfl <;> simp [md_pk] <;> omega
    | [a, b, e], _, h => have h1 := h a (by simp); have h2 := h b (by simp); have h3 := h e (by simp); refine ⟨by simp [md_pk]; omega, ?_⟩; rcases (show i = 0 ∨ i = 1 by omega) with rfl | rfl <;> simp [md_pk] <;> omega
  have hs : ((nI (5 * i) &&& 31).toBitVec.smod 32).toNat = 5 * i := by rcases (show i = 0 ∨ i = 1 by omega) with rfl | rfl <;> decide
  rw [pk_shrN key.1 _ (5 * i) hs, pk_andN (Nat.lt_of_le_of_lt (Nat.div_le_self _ _) (Nat.lt_trans key.1 (by decide))) 5 (by decide), key.2]
theorem md_pk_addN {nm : List Nat} {q M : Nat} (h2 : nm.length < 3) (hM : M = 1048576) : (nm.length * M + nm.getD 0 0 + 32 * nm.getD 1 0 + 1024 * nm.getD 2 0) + (M + q * 2 ^ (5 * nm.length)) = (nm ++ [q]).length * M + (nm ++ [q]).getD 0 0 + 32 * (nm ++ [q]).getD 1 0 + 1024 * (nm ++ [q]).getD 2 0 := by
  clear hM
  match nm, h2 with
  | [], _ => simp
  | [a], _ => simp; omega
  | [a, b], _ => simp; omega
theorem md_pk_add {nm : List Nat} {q : Nat} (h2 : nm.length < 3) (hq : q < 26) : nI (md_pk nm) + (1048576 + (nI q <<< (nI (5 * nm.length) &&& 31))) = nI (md_pk (nm ++ [q])) := by
  have hs : ((nI (5 * nm.length) &&& 31).toBitVec.smod 32).toNat = 5 * nm.length := by rcases (show nm.length = 0 ∨ nm.length = 1 ∨ nm.length = 2 by omega) with e | e | e <;> rw [e] <;> decide
  have hb : q * 2 ^ (5 * nm.length) < 2 ^ 32 := by rcases (show nm.length = 0 ∨ nm.length = 1 ∨ nm.length = 2 by omega) with e | e | e <;> rw [e] <;> omega
  obtain ⟨M, hM⟩ : ∃ M : Nat, M = 1048576 := ⟨_, rfl⟩
  have h1 : (1048576 : Int32) = nI M := by rw [hM]; decide
  rw [pk_shlN _ (5 * nm.length) hs hb, h1, nI_add, nI_add]
  refine congrArg nI ?_
  unfold md_pk
  rw [← hM]
  exact md_pk_addN h2 hM
theorem md_let {c : Int32} (h1 : ¬ c < 97) (h2 : ¬ 122 < c) : ∃ q : Nat, q < 26 ∧ c - 97 = nI q := by
  obtain ⟨j, hj, rfl⟩ := nI_of2 (x := c) (M := 122) (n := 122) (by decide) (fun h => h1 (Int32.lt_trans h (by decide))) (Int32.not_lt.mp h2)
  have h97 : 97 ≤ j := by
    rcases Nat.lt_or_ge j 97 with q | q
    · exact absurd (nI_lt q (by decide)) h1
    · exact q
  exact ⟨j - 97, by omega, pk_sub h97⟩
def md_clos (c : Int32) : MT → Option MT := fun (d, _, n, pt, fw, mo, nm, dg) =>
  if c = 46 then some (d, 0, n, pt, fw, mo, nm, dg) else if c < 97 ∨ 122 < c ∨ nm.length = 3 then none
  else if (nm.any fun a => decide (nI a = c - 97)) = true then none else some (d, 3, n, pt, fw, mo, nm ++ [(c - 97).toNatClampNeg], dg)
set_option maxHeartbeats 4000000 in
set_option maxRecDepth 100000 in
theorem c_clos0 (l : Launch) (D : va_G) (cl : List vw_C) (tys : List (ClassId × FieldType)) (A : Nat → Prop) (ci tI tZ : Nat) (cI cZ : ClassId) (o : Nat) (ad : Nat → Nat) (fi : Nat → Int32) (fa : Nat → Nat → Int32) (k : Int32) (op : Nat → Nat) (d n : Nat) (pt fw mo : Nat → Nat) (dg : Nat) (hQ : mdQ fi fa op (d + 1) 3 n pt fw mo [] dg) :
    Met l yM_closureSign (.code yM_closureSign bM_closureSign 5 (some .boolean) :: lw_g) ({ frames := 0, cells := 0, slots := 0, locals := 0 }) (va_Pc [.ref o, .int k] (mdPre D cl tys A ci tI tZ cI cZ o ad fi fa)) (va_Qi (md_res (md_clos k (d + 1, 3, n, pt, fw, mo, [], dg)) fi fa) (mdB D cl tys A ci cI cZ o ad) A) 0 0 A := by
  refine Met.ofW (cc := bM_closureSign) (maxL := 5) (ret := (some .boolean)) (by decide) rfl ?_
  intro p e s m args below meth c s₁ B hml hv
  obtain ⟨rfl, hM, hK, hc, hI, hZ⟩ := hv
  have hx := B.exec
  have hb := B.bytes
  have hr := B.returns
  have hts := atoms_spec (ws := (.code yM_closureSign bM_closureSign 5 (some .boolean) :: lw_g)) B.pre
  have hown : s.vm.findClass RM = some m.cls := findClass_of_methodNamed B.named
  have K : mdC D cl tys ci tI tZ cI cZ s m _ := ⟨fun w h => hts w (List.mem_cons_of_mem _ h), hown, hK, hc, hI, hZ⟩
  have hlocks := B.notSynchronized
  have hS : va_S A s.heap s.heap [] := va_S.rf
  have hl := lv_entry ([.ref o, .int k]) (n := 5) (Nat.le_of_ble_eq_true rfl)
  rw [lg_entry_eq]
  generalize (lg_sl ([.ref o, .int k]) ++ List.replicate (5 - (lg_sl ([.ref o, .int k])).length) Slot.unset).toArray = ls at hl ⊢
  have hl : lv_has ls 5 [(0, .ref o), (1, .int k)] := hl
  have hd11 : d + 1 ≤ 12 := hQ.2.1.1
  have hod := (hQ.2.2.1 d (by omega)).1.2
  have hn := hQ.2.1.2.1
  have hN := hQ.2.2.2.2.1 rfl
  refine lv_aload_n hx hb dM_closureSign_0 rfl (lv_at hl 0 rfl) ?_
  refine M_geta hx hb K hM 3 kM_f13 dM_closureSign_1 (kk := ?_)
  refine lv_aload_n hx hb dM_closureSign_4 rfl (lv_at hl 0 rfl) ?_
  refine M_getv hx hb K hM 7 (v := nI (d + 1)) hQ.1.1 kM_f84 dM_closureSign_5 (kk := ?_)
  refine lv_iconst (v := 1) hx hb dM_closureSign_8 (by decide) ?_
  refine lv_isub hx hb dM_closureSign_9 ?_
  refine lv_as (v := nI d) (nI_pred d) ?_
  refine M_aldn hx hb K hM 3 (j := d) (show d < 13 by omega) (v := nI (op d)) (hQ.2.2.1 d (by omega)).1.1 dM_closureSign_10 (kk := ?_)
  refine lv_istore_n (lv' := [(2, .int (nI (op d))), (0, .ref o), (1, .int k)]) hx hb dM_closureSign_11 rfl hl (by decide) rfl (fun ls hl => ?_)
  refine lv_aload_n hx hb dM_closureSign_12 rfl (lv_at hl 1 rfl) ?_
  refine M_geta hx hb K hM 11 kM_f31 dM_closureSign_13 (kk := ?_)
  refine lv_iload_n hx hb dM_closureSign_16 rfl (lv_at hl 0 rfl) ?_
  refine M_aldn hx hb K hM 11 (j := op d) (show op d < 120 by omega) (v := nI (md_pk [])) hN.2.2 dM_closureSign_17 (kk := ?_)
  refine lv_bipush (v := 20) hx hb dM_closureSign_18 (by decide) ?_
  refine lv_ishr hx hb dM_closureSign_20 ?_
  refine lv_as (v := nI 0) (md_cnt hN.1 hN.2.1) ?_
  refine lv_istore_n (lv' := [(3, .int (nI 0)), (2, .int (nI (op d))), (0, .ref o), (1, .int k)]) hx hb dM_closureSign_21 rfl hl (by decide) rfl (fun ls hl => ?_)
  refine lv_iload_n hx hb dM_closureSign_22 rfl (lv_at hl 3 rfl) ?_
  refine lv_bipush (v := 46) hx hb dM_closureSign_23 (by decide) ?_
  refine lv_icmp_ne (tgt := 35) hx hb dM_closureSign_25 (by decide) (fun c_25 => ?_) (fun c_25 => ?_)
  · skip
    refine lv_iload_n hx hb dM_closureSign_35 rfl (lv_at hl 3 rfl) ?_
    refine lv_bipush (v := 97) hx hb dM_closureSign_36 (by decide) ?_
    refine lv_icmp_lt (tgt := 52) hx hb dM_closureSign_38 (by decide) (fun c_38 => ?_) (fun c_38 => ?_)
    · skip
      refine lv_iconst (v := 0) hx hb dM_closureSign_52 (by decide) ?_
      refine W.zret (v := (0)) hx hb hr rfl (M_endi hM hK hS ?_) hS.2.2 dM_closureSign_53
      exact md_no (by simp [md_clos, c_25, c_25, c_38])
    · skip
      refine lv_iload_n hx hb dM_closureSign_41 rfl (lv_at hl 3 rfl) ?_
      refine lv_bipush (v := 122) hx hb dM_closureSign_42 (by decide) ?_
      refine lv_icmp_gt (tgt := 52) hx hb dM_closureSign_44 (by decide) (fun c_44 => ?_) (fun c_44 => ?_)
      · skip
        refine lv_iconst (v := 0) hx hb dM_closureSign_52 (by decide) ?_
        refine W.zret (v := (0)) hx hb hr rfl (M_endi hM hK hS ?_) hS.2.2 dM_closureSign_53
        exact md_no (by simp [md_clos, c_25, c_25, c_38, c_44])
      · skip
        refine lv_iload_n hx hb dM_closureSign_47 rfl (lv_at hl 0 rfl) ?_
        refine lv_iconst (v := 3) hx hb dM_closureSign_48 (by decide) ?_
        refine lv_icmp_ne (tgt := 54) hx hb dM_closureSign_49 (by decide) (fun c_49 => ?_) (fun c_49 => absurd c_49 (by decide))
        refine lv_iconst (v := 0) hx hb dM_closureSign_54 (by decide) ?_
        refine lv_as (v := nI 0) nI_0.symm ?_
        refine lv_istore (lv' := [(4, .int (nI 0)), (3, .int (nI 0)), (2, .int (nI (op d))), (0, .ref o), (1, .int k)]) hx hb dM_closureSign_55 hl (by decide) rfl (fun ls hl => ?_)
        refine lv_iload hx hb dM_closureSign_57 (lv_at hl 0 rfl) ?_
        refine lv_iload_n hx hb dM_closureSign_59 rfl (lv_at hl 1 rfl) ?_
        refine lv_icmp_ge (tgt := 92) hx hb dM_closureSign_60 (by decide) (fun c_60 => ?_) (fun c_60 => absurd (by decide) c_60)
        obtain ⟨q, hq26, hq⟩ := md_let c_38 c_44
        refine lv_aload_n hx hb dM_closureSign_92 rfl (lv_at hl 3 rfl) ?_
        refine M_geta hx hb K hM 11 kM_f31 dM_closureSign_93 (kk := ?_)
        refine lv_iload_n hx hb dM_closureSign_96 rfl (lv_at hl 2 rfl) ?_
        refine lv_dup2_11 hx hb dM_closureSign_97 rfl rfl ?_
        refine M_aldn hx hb K hM 11 (j := op d) (show op d < 120 by omega) (v := nI (md_pk [])) hN.2.2 dM_closureSign_98 (kk := ?_)
        refine lv_ldc (v := 1048576) hx hb hown (K.1 _ kM_k101) dM_closureSign_99 ?_
        refine lv_iload_n hx hb dM_closureSign_101 rfl (lv_at hl 4 rfl) ?_
        refine lv_bipush (v := 97) hx hb dM_closureSign_102 (by decide) ?_
        refine lv_isub hx hb dM_closureSign_104 ?_
        refine lv_as (v := nI q) hq ?_
        refine lv_iconst (v := 5) hx hb dM_closureSign_105 (by decide) ?_
        refine lv_iload_n hx hb dM_closureSign_106 rfl (lv_at hl 1 rfl) ?_
        refine lv_imul hx hb dM_closureSign_107 ?_
        refine lv_as (v := nI (5 * 0)) (pk_mul 5 0) ?_
        refine lv_ishl hx hb dM_closureSign_108 ?_
        refine lv_iadd hx hb dM_closureSign_109 ?_
        refine lv_iadd hx hb dM_closureSign_110 ?_
        refine lv_as (v := nI (md_pk ([] ++ [q]))) (md_pk_add (nm := []) (by simp) hq26) ?_
        refine M_astn hx hb K hM hS 11 (j := op d) (show op d < 120 by omega) dM_closureSign_111 (kk := fun H locs hM hS => ?_)
        refine lv_iconst (v := 1) hx hb dM_closureSign_112 (by decide) ?_
        refine W.zret (v := (1)) hx hb hr rfl (M_endi hM hK hS ?_) hS.2.2 dM_closureSign_113
        refine ⟨⟨fun _ _ _ _ => rfl, rfl⟩, Or.inr ⟨rfl, (d + 1, 3, n, pt, fw, mo, [] ++ [q], dg), by simp [md_clos, c_25, c_38, c_44, hq, nI_clamp (Nat.lt_trans hq26 (by decide))], op, mdQ_name hQ (by simp) (fun z hz => ?_) rfl rfl rfl rfl rfl rfl rfl upd_s⟩⟩
        rcases List.mem_append.mp hz with hz | hz
        · exact hN.2.1 z hz
        · rw [List.mem_singleton.mp hz]; exact hq26
  · skip
    refine lv_aload_n hx hb dM_closureSign_28 rfl (lv_at hl 2 rfl) ?_
    refine lv_iconst (v := 0) hx hb dM_closureSign_29 (by decide) ?_
    refine M_puti hx hb K hM hS 8 kM_f87 dM_closureSign_30 (kk := fun H locs hM hS => ?_)
    refine lv_iconst (v := 1) hx hb dM_closureSign_33 (by decide) ?_
    refine W.zret (v := (1)) hx hb hr rfl (M_endi hM hK hS ?_) hS.2.2 dM_closureSign_34
    exact ⟨⟨fun j h1 h2 h3 => by simp only [up_n h1, up_n h2, up_n h3], rfl⟩, Or.inr ⟨rfl, (d + 1, 0, n, pt, fw, mo, [], dg), by simp [md_clos, c_25], op, mdQ_mode0 hQ rfl rfl rfl rfl rfl rfl rfl⟩⟩
set_option maxHeartbeats 4000000 in
set_option maxRecDepth 100000 in
theorem c_clos1 (l : Launch) (D : va_G) (cl : List vw_C) (tys : List (ClassId × FieldType)) (A : Nat → Prop) (ci tI tZ : Nat) (cI cZ : ClassId) (o : Nat) (ad : Nat → Nat) (fi : Nat → Int32) (fa : Nat → Nat → Int32) (k : Int32) (op : Nat → Nat) (d n a : Nat) (pt fw mo : Nat → Nat) (dg : Nat) (hQ : mdQ fi fa op (d + 1) 3 n pt fw mo [a] dg) :
    Met l yM_closureSign (.code yM_closureSign bM_closureSign 5 (some .boolean) :: lw_g) ({ frames := 0, cells := 0, slots := 0, locals := 0 }) (va_Pc [.ref o, .int k] (mdPre D cl tys A ci tI tZ cI cZ o ad fi fa)) (va_Qi (md_res (md_clos k (d + 1, 3, n, pt, fw, mo, [a], dg)) fi fa) (mdB D cl tys A ci cI cZ o ad) A) 0 0 A := by
  refine Met.ofW (cc := bM_closureSign) (maxL := 5) (ret := (some .boolean)) (by decide) rfl ?_
  intro p e s m args below meth c s₁ B hml hv
  obtain ⟨rfl, hM, hK, hc, hI, hZ⟩ := hv
  have hx := B.exec
  have hb := B.bytes
  have hr := B.returns
  have hts := atoms_spec (ws := (.code yM_closureSign bM_closureSign 5 (some .boolean) :: lw_g)) B.pre
  have hown : s.vm.findClass RM = some m.cls := findClass_of_methodNamed B.named
  have K : mdC D cl tys ci tI tZ cI cZ s m _ := ⟨fun w h => hts w (List.mem_cons_of_mem _ h), hown, hK, hc, hI, hZ⟩
  have hlocks := B.notSynchronized
  have hS : va_S A s.heap s.heap [] := va_S.rf
  have hl := lv_entry ([.ref o, .int k]) (n := 5) (Nat.le_of_ble_eq_true rfl)
  rw [lg_entry_eq]
  generalize (lg_sl ([.ref o, .int k]) ++ List.replicate (5 - (lg_sl ([.ref o, .int k])).length) Slot.unset).toArray = ls at hl ⊢
  have hl : lv_has ls 5 [(0, .ref o), (1, .int k)] := hl
  have hd11 : d + 1 ≤ 12 := hQ.2.1.1
  have hod := (hQ.2.2.1 d (by omega)).1.2
  have hn := hQ.2.1.2.1
  have hN := hQ.2.2.2.2.1 rfl
  refine lv_aload_n hx hb dM_closureSign_0 rfl (lv_at hl 0 rfl) ?_
  refine M_geta hx hb K hM 3 kM_f13 dM_closureSign_1 (kk := ?_)
  refine lv_aload_n hx hb dM_closureSign_4 rfl (lv_at hl 0 rfl) ?_
  refine M_getv hx hb K hM 7 (v := nI (d + 1)) hQ.1.1 kM_f84 dM_closureSign_5 (kk := ?_)
  refine lv_iconst (v := 1) hx hb dM_closureSign_8 (by decide) ?_
  refine lv_isub hx hb dM_closureSign_9 ?_
  refine lv_as (v := nI d) (nI_pred d) ?_
  refine M_aldn hx hb K hM 3 (j := d) (show d < 13 by omega) (v := nI (op d)) (hQ.2.2.1 d (by omega)).1.1 dM_closureSign_10 (kk := ?_)
  refine lv_istore_n (lv' := [(2, .int (nI (op d))), (0, .ref o), (1, .int k)]) hx hb dM_closureSign_11 rfl hl (by decide) rfl (fun ls hl => ?_)
  refine lv_aload_n hx hb dM_closureSign_12 rfl (lv_at hl 1 rfl) ?_
  refine M_geta hx hb K hM 11 kM_f31 dM_closureSign_13 (kk := ?_)
  refine lv_iload_n hx hb dM_closureSign_16 rfl (lv_at hl 0 rfl) ?_
  refine M_aldn hx hb K hM 11 (j := op d) (show op d < 120 by omega) (v := nI (md_pk [a])) hN.2.2 dM_closureSign_17 (kk := ?_)
  refine lv_bipush (v := 20) hx hb dM_closureSign_18 (by decide) ?_
  refine lv_ishr hx hb dM_closureSign_20 ?_
  refine lv_as (v := nI 1) (md_cnt hN.1 hN.2.1) ?_
  refine lv_istore_n (lv' := [(3, .int (nI 1)), (2, .int (nI (op d))), (0, .ref o), (1, .int k)]) hx hb dM_closureSign_21 rfl hl (by decide) rfl (fun ls hl => ?_)
  refine lv_iload_n hx hb dM_closureSign_22 rfl (lv_at hl 3 rfl) ?_
  refine lv_bipush (v := 46) hx hb dM_closureSign_23 (by decide) ?_
  refine lv_icmp_ne (tgt := 35) hx hb dM_closureSign_25 (by decide) (fun c_25 => ?_) (fun c_25 => ?_)
  · skip
    refine lv_iload_n hx hb dM_closureSign_35 rfl (lv_at hl 3 rfl) ?_
    refine lv_bipush (v := 97) hx hb dM_closureSign_36 (by decide) ?_
    refine lv_icmp_lt (tgt := 52) hx hb dM_closureSign_38 (by decide) (fun c_38 => ?_) (fun c_38 => ?_)
    · skip
      refine lv_iconst (v := 0) hx hb dM_closureSign_52 (by decide) ?_
      refine W.zret (v := (0)) hx hb hr rfl (M_endi hM hK hS ?_) hS.2.2 dM_closureSign_53
      exact md_no (by simp [md_clos, c_25, c_25, c_38])
    · skip
      refine lv_iload_n hx hb dM_closureSign_41 rfl (lv_at hl 3 rfl) ?_
      refine lv_bipush (v := 122) hx hb dM_closureSign_42 (by decide) ?_
      refine lv_icmp_gt (tgt := 52) hx hb dM_closureSign_44 (by decide) (fun c_44 => ?_) (fun c_44 => ?_)
      · skip
        refine lv_iconst (v := 0) hx hb dM_closureSign_52 (by decide) ?_
        refine W.zret (v := (0)) hx hb hr rfl (M_endi hM hK hS ?_) hS.2.2 dM_closureSign_53
        exact md_no (by simp [md_clos, c_25, c_25, c_38, c_44])
      · skip
        refine lv_iload_n hx hb dM_closureSign_47 rfl (lv_at hl 0 rfl) ?_
        refine lv_iconst (v := 3) hx hb dM_closureSign_48 (by decide) ?_
        refine lv_icmp_ne (tgt := 54) hx hb dM_closureSign_49 (by decide) (fun c_49 => ?_) (fun c_49 => absurd c_49 (by decide))
        refine lv_iconst (v := 0) hx hb dM_closureSign_54 (by decide) ?_
        refine lv_as (v := nI 0) nI_0.symm ?_
        refine lv_istore (lv' := [(4, .int (nI 0)), (3, .int (nI 1)), (2, .int (nI (op d))), (0, .ref o), (1, .int k)]) hx hb dM_closureSign_55 hl (by decide) rfl (fun ls hl => ?_)
        refine lv_iload hx hb dM_closureSign_57 (lv_at hl 0 rfl) ?_
        refine lv_iload_n hx hb dM_closureSign_59 rfl (lv_at hl 1 rfl) ?_
        refine lv_icmp_ge (tgt := 92) hx hb dM_closureSign_60 (by decide) (fun c_60 => absurd c_60 (by decide)) (fun c_60 => ?_)
        refine lv_aload_n hx hb dM_closureSign_63 rfl (lv_at hl 3 rfl) ?_
        refine M_geta hx hb K hM 11 kM_f31 dM_closureSign_64 (kk := ?_)
        refine lv_iload_n hx hb dM_closureSign_67 rfl (lv_at hl 2 rfl) ?_
        refine M_aldn hx hb K hM 11 (j := op d) (show op d < 120 by omega) (v := nI (md_pk [a])) hN.2.2 dM_closureSign_68 (kk := ?_)
        refine lv_iconst (v := 5) hx hb dM_closureSign_69 (by decide) ?_
        refine lv_iload hx hb dM_closureSign_70 (lv_at hl 0 rfl) ?_
        refine lv_imul hx hb dM_closureSign_72 ?_
        refine lv_as (v := nI (5 * 0)) (pk_mul 5 0) ?_
        refine lv_ishr hx hb dM_closureSign_73 ?_
        refine lv_bipush (v := 31) hx hb dM_closureSign_74 (by decide) ?_
        refine lv_iand hx hb dM_closureSign_76 ?_
        refine lv_as (v := nI a) (md_sel hN.1 hN.2.1 0 (by decide)) ?_
        refine lv_iload_n hx hb dM_closureSign_77 rfl (lv_at hl 4 rfl) ?_
        refine lv_bipush (v := 97) hx hb dM_closureSign_78 (by decide) ?_
        refine lv_isub hx hb dM_closureSign_80 ?_
        refine lv_icmp_ne (tgt := 86) hx hb dM_closureSign_81 (by decide) (fun d_0 => ?_) (fun d_0 => ?_)
        · skip
          refine lv_iinc (v := nI 1) (lv' := [(4, .int (nI 1)), (3, .int (nI 1)), (2, .int (nI (op d))), (0, .ref o), (1, .int k)]) hx hb dM_closureSign_86 hl (k := 0) rfl (by decide) (by decide) rfl (fun ls hl => ?_)
          refine lv_goto (tgt := 57) hx hb dM_closureSign_89 (by decide) ?_
          refine lv_iload hx hb dM_closureSign_57 (lv_at hl 0 rfl) ?_
          refine lv_iload_n hx hb dM_closureSign_59 rfl (lv_at hl 1 rfl) ?_
          refine lv_icmp_ge (tgt := 92) hx hb dM_closureSign_60 (by decide) (fun c_60 => ?_) (fun c_60 => absurd (by decide) c_60)
          obtain ⟨q, hq26, hq⟩ := md_let c_38 c_44
          rw [hq] at d_0
          refine lv_aload_n hx hb dM_closureSign_92 rfl (lv_at hl 3 rfl) ?_
          refine M_geta hx hb K hM 11 kM_f31 dM_closureSign_93 (kk := ?_)
          refine lv_iload_n hx hb dM_closureSign_96 rfl (lv_at hl 2 rfl) ?_
          refine lv_dup2_11 hx hb dM_closureSign_97 rfl rfl ?_
          refine M_aldn hx hb K hM 11 (j := op d) (show op d < 120 by omega) (v := nI (md_pk [a])) hN.2.2 dM_closureSign_98 (kk := ?_)
          refine lv_ldc (v := 1048576) hx hb hown (K.1 _ kM_k101) dM_closureSign_99 ?_
          refine lv_iload_n hx hb dM_closureSign_101 rfl (lv_at hl 4 rfl) ?_
          refine lv_bipush (v := 97) hx hb dM_closureSign_102 (by decide) ?_
          refine lv_isub hx hb dM_closureSign_104 ?_
          refine lv_as (v := nI q) hq ?_
          refine lv_iconst (v := 5) hx hb dM_closureSign_105 (by decide) ?_
          refine lv_iload_n hx hb dM_closureSign_106 rfl (lv_at hl 1 rfl) ?_
          refine lv_imul hx hb dM_closureSign_107 ?_
          refine lv_as (v := nI (5 * 1)) (pk_mul 5 1) ?_
          refine lv_ishl hx hb dM_closureSign_108 ?_
          refine lv_iadd hx hb dM_closureSign_109 ?_
          refine lv_iadd hx hb dM_closureSign_110 ?_
          refine lv_as (v := nI (md_pk ([a] ++ [q]))) (md_pk_add (nm := [a]) (by simp) hq26) ?_
          refine M_astn hx hb K hM hS 11 (j := op d) (show op d < 120 by omega) dM_closureSign_111 (kk := fun H locs hM hS => ?_)
          refine lv_iconst (v := 1) hx hb dM_closureSign_112 (by decide) ?_
          refine W.zret (v := (1)) hx hb hr rfl (M_endi hM hK hS ?_) hS.2.2 dM_closureSign_113
          refine ⟨⟨fun _ _ _ _ => rfl, rfl⟩, Or.inr ⟨rfl, (d + 1, 3, n, pt, fw, mo, [a] ++ [q], dg), by simp [md_clos, c_25, c_38, c_44, d_0, hq, nI_clamp (Nat.lt_trans hq26 (by decide))], op, mdQ_name hQ (by simp) (fun z hz => ?_) rfl rfl rfl rfl rfl rfl rfl upd_s⟩⟩
          rcases List.mem_append.mp hz with hz | hz
          · exact hN.2.1 z hz
          · rw [List.mem_singleton.mp hz]; exact hq26
        · skip
          refine lv_iconst (v := 0) hx hb dM_closureSign_84 (by decide) ?_
          refine W.zret (v := (0)) hx hb hr rfl (M_endi hM hK hS ?_) hS.2.2 dM_closureSign_85
          exact md_no (by simp [md_clos, c_25, c_38, c_44, d_0])
  · skip
    refine lv_aload_n hx hb dM_closureSign_28 rfl (lv_at hl 2 rfl) ?_
    refine lv_iconst (v := 0) hx hb dM_closureSign_29 (by decide) ?_
    refine M_puti hx hb K hM hS 8 kM_f87 dM_closureSign_30 (kk := fun H locs hM hS => ?_)
    refine lv_iconst (v := 1) hx hb dM_closureSign_33 (by decide) ?_
    refine W.zret (v := (1)) hx hb hr rfl (M_endi hM hK hS ?_) hS.2.2 dM_closureSign_34
    exact ⟨⟨fun j h1 h2 h3 => by simp only [up_n h1, up_n h2, up_n h3], rfl⟩, Or.inr ⟨rfl, (d + 1, 0, n, pt, fw, mo, [a], dg), by simp [md_clos, c_25], op, mdQ_mode0 hQ rfl rfl rfl rfl rfl rfl rfl⟩⟩
set_option maxHeartbeats 4000000 in
set_option maxRecDepth 100000 in
theorem c_clos2 (l : Launch) (D : va_G) (cl : List vw_C) (tys : List (ClassId × FieldType)) (A : Nat → Prop) (ci tI tZ : Nat) (cI cZ : ClassId) (o : Nat) (ad : Nat → Nat) (fi : Nat → Int32) (fa : Nat → Nat → Int32) (k : Int32) (op : Nat → Nat) (d n a b : Nat) (pt fw mo : Nat → Nat) (dg : Nat) (hQ : mdQ fi fa op (d + 1) 3 n pt fw mo [a, b] dg) :
    Met l yM_closureSign (.code yM_closureSign bM_closureSign 5 (some .boolean) :: lw_g) ({ frames := 0, cells := 0, slots := 0, locals := 0 }) (va_Pc [.ref o, .int k] (mdPre D cl tys A ci tI tZ cI cZ o ad fi fa)) (va_Qi (md_res (md_clos k (d + 1, 3, n, pt, fw, mo, [a, b], dg)) fi fa) (mdB D cl tys A ci cI cZ o ad) A) 0 0 A := by
  refine Met.ofW (cc := bM_closureSign) (maxL := 5) (ret := (some .boolean)) (by decide) rfl ?_
  intro p e s m args below meth c s₁ B hml hv
  obtain ⟨rfl, hM, hK, hc, hI, hZ⟩ := hv
  have hx := B.exec
  have hb := B.bytes
  have hr := B.returns
  have hts := atoms_spec (ws := (.code yM_closureSign bM_closureSign 5 (some .boolean) :: lw_g)) B.pre
  have hown : s.vm.findClass RM = some m.cls := findClass_of_methodNamed B.named
  have K : mdC D cl tys ci tI tZ cI cZ s m _ := ⟨fun w h => hts w (List.mem_cons_of_mem _ h), hown, hK, hc, hI, hZ⟩
  have hlocks := B.notSynchronized
  have hS : va_S A s.heap s.heap [] := va_S.rf
  have hl := lv_entry ([.ref o, .int k]) (n := 5) (Nat.le_of_ble_eq_true rfl)
  rw [lg_entry_eq]
  generalize (lg_sl ([.ref o, .int k]) ++ List.replicate (5 - (lg_sl ([.ref o, .int k])).length) Slot.unset).toArray = ls at hl ⊢
  have hl : lv_has ls 5 [(0, .ref o), (1, .int k)] := hl
  have hd11 : d + 1 ≤ 12 := hQ.2.1.1
  have hod := (hQ.2.2.1 d (by omega)).1.2
  have hn := hQ.2.1.2.1
  have hN := hQ.2.2.2.2.1 rfl
  refine lv_aload_n hx hb dM_closureSign_0 rfl (lv_at hl 0 rfl) ?_
  refine M_geta hx hb K hM 3 kM_f13 dM_closureSign_1 (kk := ?_)
  refine lv_aload_n hx hb dM_closureSign_4 rfl (lv_at hl 0 rfl) ?_
  refine M_getv hx hb K hM 7 (v := nI (d + 1)) hQ.1.1 kM_f84 dM_closureSign_5 (kk := ?_)
  refine lv_iconst (v := 1) hx hb dM_closureSign_8 (by decide) ?_
  refine lv_isub hx hb dM_closureSign_9 ?_
  refine lv_as (v := nI d) (nI_pred d) ?_
  refine M_aldn hx hb K hM 3 (j := d) (show d < 13 by omega) (v := nI (op d)) (hQ.2.2.1 d (by omega)).1.1 dM_closureSign_10 (kk := ?_)
  refine lv_istore_n (lv' := [(2, .int (nI (op d))), (0, .ref o), (1, .int k)]) hx hb dM_closureSign_11 rfl hl (by decide) rfl (fun ls hl => ?_)
  refine lv_aload_n hx hb dM_closureSign_12 rfl (lv_at hl 1 rfl) ?_
  refine M_geta hx hb K hM 11 kM_f31 dM_closureSign_13 (kk := ?_)
  refine lv_iload_n hx hb dM_closureSign_16 rfl (lv_at hl 0 rfl) ?_
  refine M_aldn hx hb K hM 11 (j := op d) (show op d < 120 by omega) (v := nI (md_pk [a, b])) hN.2.2 dM_closureSign_17 (kk := ?_)
  refine lv_bipush (v := 20) hx hb dM_closureSign_18 (by decide) ?_
  refine lv_ishr hx hb dM_closureSign_20 ?_
  refine lv_as (v := nI 2) (md_cnt hN.1 hN.2.1) ?_
  refine lv_istore_n (lv' := [(3, .int (nI 2)), (2, .int (nI (op d))), (0, .ref o), (1, .int k)]) hx hb dM_closureSign_21 rfl hl (by decide) rfl (fun ls hl => ?_)
  refine lv_iload_n hx hb dM_closureSign_22 rfl (lv_at hl 3 rfl) ?_
  refine lv_bipush (v := 46) hx hb dM_closureSign_23 (by decide) ?_
  refine lv_icmp_ne (tgt := 35) hx hb dM_closureSign_25 (by decide) (fun c_25 => ?_) (fun c_25 => ?_)
  · skip
    refine lv_iload_n hx hb dM_closureSign_35 rfl (lv_at hl 3 rfl) ?_
    refine lv_bipush (v := 97) hx hb dM_closureSign_36 (by decide) ?_
    refine lv_icmp_lt (tgt := 52) hx hb dM_closureSign_38 (by decide) (fun c_38 => ?_) (fun c_38 => ?_)
    · skip
      refine lv_iconst (v := 0) hx hb dM_closureSign_52 (by decide) ?_
      refine W.zret (v := (0)) hx hb hr rfl (M_endi hM hK hS ?_) hS.2.2 dM_closureSign_53
      exact md_no (by simp [md_clos, c_25, c_25, c_38])
    · skip
      refine lv_iload_n hx hb dM_closureSign_41 rfl (lv_at hl 3 rfl) ?_
      refine lv_bipush (v := 122) hx hb dM_closureSign_42 (by decide) ?_
      refine lv_icmp_gt (tgt := 52) hx hb dM_closureSign_44 (by decide) (fun c_44 => ?_) (fun c_44 => ?_)
      · skip
        refine lv_iconst (v := 0) hx hb dM_closureSign_52 (by decide) ?_
        refine W.zret (v := (0)) hx hb hr rfl (M_endi hM hK hS ?_) hS.2.2 dM_closureSign_53
        exact md_no (by simp [md_clos, c_25, c_25, c_38, c_44])
      · skip
        refine lv_iload_n hx hb dM_closureSign_47 rfl (lv_at hl 0 rfl) ?_
        refine lv_iconst (v := 3) hx hb dM_closureSign_48 (by decide) ?_
        refine lv_icmp_ne (tgt := 54) hx hb dM_closureSign_49 (by decide) (fun c_49 => ?_) (fun c_49 => absurd c_49 (by decide))
        refine lv_iconst (v := 0) hx hb dM_closureSign_54 (by decide) ?_
        refine lv_as (v := nI 0) nI_0.symm ?_
        refine lv_istore (lv' := [(4, .int (nI 0)), (3, .int (nI 2)), (2, .int (nI (op d))), (0, .ref o), (1, .int k)]) hx hb dM_closureSign_55 hl (by decide) rfl (fun ls hl => ?_)
        refine lv_iload hx hb dM_closureSign_57 (lv_at hl 0 rfl) ?_
        refine lv_iload_n hx hb dM_closureSign_59 rfl (lv_at hl 1 rfl) ?_
        refine lv_icmp_ge (tgt := 92) hx hb dM_closureSign_60 (by decide) (fun c_60 => absurd c_60 (by decide)) (fun c_60 => ?_)
        refine lv_aload_n hx hb dM_closureSign_63 rfl (lv_at hl 3 rfl) ?_
        refine M_geta hx hb K hM 11 kM_f31 dM_closureSign_64 (kk := ?_)
        refine lv_iload_n hx hb dM_closureSign_67 rfl (lv_at hl 2 rfl) ?_
        refine M_aldn hx hb K hM 11 (j := op d) (show op d < 120 by omega) (v := nI (md_pk [a, b])) hN.2.2 dM_closureSign_68 (kk := ?_)
        refine lv_iconst (v := 5) hx hb dM_closureSign_69 (by decide) ?_
        refine lv_iload hx hb dM_closureSign_70 (lv_at hl 0 rfl) ?_
        refine lv_imul hx hb dM_closureSign_72 ?_
        refine lv_as (v := nI (5 * 0)) (pk_mul 5 0) ?_
        refine lv_ishr hx hb dM_closureSign_73 ?_
        refine lv_bipush (v := 31) hx hb dM_closureSign_74 (by decide) ?_
        refine lv_iand hx hb dM_closureSign_76 ?_
        refine lv_as (v := nI a) (md_sel hN.1 hN.2.1 0 (by decide)) ?_
        refine lv_iload_n hx hb dM_closureSign_77 rfl (lv_at hl 4 rfl) ?_
        refine lv_bipush (v := 97) hx hb dM_closureSign_78 (by decide) ?_
        refine lv_isub hx hb dM_closureSign_80 ?_
        refine lv_icmp_ne (tgt := 86) hx hb dM_closureSign_81 (by decide) (fun d_0 => ?_) (fun d_0 => ?_)
        · skip
          refine lv_iinc (v := nI 1) (lv' := [(4, .int (nI 1)), (3, .int (nI 2)), (2, .int (nI (op d))), (0, .ref o), (1, .int k)]) hx hb dM_closureSign_86 hl (k := 0) rfl (by decide) (by decide) rfl (fun ls hl => ?_)
          refine lv_goto (tgt := 57) hx hb dM_closureSign_89 (by decide) ?_
          refine lv_iload hx hb dM_closureSign_57 (lv_at hl 0 rfl) ?_
          refine lv_iload_n hx hb dM_closureSign_59 rfl (lv_at hl 1 rfl) ?_
          refine lv_icmp_ge (tgt := 92) hx hb dM_closureSign_60 (by decide) (fun c_60 => absurd c_60 (by decide)) (fun c_60 => ?_)
          refine lv_aload_n hx hb dM_closureSign_63 rfl (lv_at hl 3 rfl) ?_
          refine M_geta hx hb K hM 11 kM_f31 dM_closureSign_64 (kk := ?_)
          refine lv_iload_n hx hb dM_closureSign_67 rfl (lv_at hl 2 rfl) ?_
          refine M_aldn hx hb K hM 11 (j := op d) (show op d < 120 by omega) (v := nI (md_pk [a, b])) hN.2.2 dM_closureSign_68 (kk := ?_)
          refine lv_iconst (v := 5) hx hb dM_closureSign_69 (by decide) ?_
          refine lv_iload hx hb dM_closureSign_70 (lv_at hl 0 rfl) ?_
          refine lv_imul hx hb dM_closureSign_72 ?_
          refine lv_as (v := nI (5 * 1)) (pk_mul 5 1) ?_
          refine lv_ishr hx hb dM_closureSign_73 ?_
          refine lv_bipush (v := 31) hx hb dM_closureSign_74 (by decide) ?_
          refine lv_iand hx hb dM_closureSign_76 ?_
          refine lv_as (v := nI b) (md_sel hN.1 hN.2.1 1 (by decide)) ?_
          refine lv_iload_n hx hb dM_closureSign_77 rfl (lv_at hl 4 rfl) ?_
          refine lv_bipush (v := 97) hx hb dM_closureSign_78 (by decide) ?_
          refine lv_isub hx hb dM_closureSign_80 ?_
          refine lv_icmp_ne (tgt := 86) hx hb dM_closureSign_81 (by decide) (fun d_1 => ?_) (fun d_1 => ?_)
          · skip
            refine lv_iinc (v := nI 2) (lv' := [(4, .int (nI 2)), (3, .int (nI 2)), (2, .int (nI (op d))), (0, .ref o), (1, .int k)]) hx hb dM_closureSign_86 hl (k := 0) rfl (by decide) (by decide) rfl (fun ls hl => ?_)
            refine lv_goto (tgt := 57) hx hb dM_closureSign_89 (by decide) ?_
            refine lv_iload hx hb dM_closureSign_57 (lv_at hl 0 rfl) ?_
            refine lv_iload_n hx hb dM_closureSign_59 rfl (lv_at hl 1 rfl) ?_
            refine lv_icmp_ge (tgt := 92) hx hb dM_closureSign_60 (by decide) (fun c_60 => ?_) (fun c_60 => absurd (by decide) c_60)
            obtain ⟨q, hq26, hq⟩ := md_let c_38 c_44
            rw [hq] at d_0
            rw [hq] at d_1
            refine lv_aload_n hx hb dM_closureSign_92 rfl (lv_at hl 3 rfl) ?_
            refine M_geta hx hb K hM 11 kM_f31 dM_closureSign_93 (kk := ?_)
            refine lv_iload_n hx hb dM_closureSign_96 rfl (lv_at hl 2 rfl) ?_
            refine lv_dup2_11 hx hb dM_closureSign_97 rfl rfl ?_
            refine M_aldn hx hb K hM 11 (j := op d) (show op d < 120 by omega) (v := nI (md_pk [a, b])) hN.2.2 dM_closureSign_98 (kk := ?_)
            refine lv_ldc (v := 1048576) hx hb hown (K.1 _ kM_k101) dM_closureSign_99 ?_
            refine lv_iload_n hx hb dM_closureSign_101 rfl (lv_at hl 4 rfl) ?_
            refine lv_bipush (v := 97) hx hb dM_closureSign_102 (by decide) ?_
            refine lv_isub hx hb dM_closureSign_104 ?_
            refine lv_as (v := nI q) hq ?_
            refine lv_iconst (v := 5) hx hb dM_closureSign_105 (by decide) ?_
            refine lv_iload_n hx hb dM_closureSign_106 rfl (lv_at hl 1 rfl) ?_
            refine lv_imul hx hb dM_closureSign_107 ?_
            refine lv_as (v := nI (5 * 2)) (pk_mul 5 2) ?_
            refine lv_ishl hx hb dM_closureSign_108 ?_
            refine lv_iadd hx hb dM_closureSign_109 ?_
            refine lv_iadd hx hb dM_closureSign_110 ?_
            refine lv_as (v := nI (md_pk ([a, b] ++ [q]))) (md_pk_add (nm := [a, b]) (by simp) hq26) ?_
            refine M_astn hx hb K hM hS 11 (j := op d) (show op d < 120 by omega) dM_closureSign_111 (kk := fun H locs hM hS => ?_)
            refine lv_iconst (v := 1) hx hb dM_closureSign_112 (by decide) ?_
            refine W.zret (v := (1)) hx hb hr rfl (M_endi hM hK hS ?_) hS.2.2 dM_closureSign_113
            refine ⟨⟨fun _ _ _ _ => rfl, rfl⟩, Or.inr ⟨rfl, (d + 1, 3, n, pt, fw, mo, [a, b] ++ [q], dg), by simp [md_clos, c_25, c_38, c_44, d_0, d_1, hq, nI_clamp (Nat.lt_trans hq26 (by decide))], op, mdQ_name hQ (by simp) (fun z hz => ?_) rfl rfl rfl rfl rfl rfl rfl upd_s⟩⟩
            rcases List.mem_append.mp hz with hz | hz
            · exact hN.2.1 z hz
            · rw [List.mem_singleton.mp hz]; exact hq26
          · skip
            refine lv_iconst (v := 0) hx hb dM_closureSign_84 (by decide) ?_
            refine W.zret (v := (0)) hx hb hr rfl (M_endi hM hK hS ?_) hS.2.2 dM_closureSign_85
            exact md_no (by simp [md_clos, c_25, c_38, c_44, d_0, d_1])
        · skip
          refine lv_iconst (v := 0) hx hb dM_closureSign_84 (by decide) ?_
          refine W.zret (v := (0)) hx hb hr rfl (M_endi hM hK hS ?_) hS.2.2 dM_closureSign_85
          exact md_no (by simp [md_clos, c_25, c_38, c_44, d_0])
  · skip
    refine lv_aload_n hx hb dM_closureSign_28 rfl (lv_at hl 2 rfl) ?_
    refine lv_iconst (v := 0) hx hb dM_closureSign_29 (by decide) ?_
    refine M_puti hx hb K hM hS 8 kM_f87 dM_closureSign_30 (kk := fun H locs hM hS => ?_)
    refine lv_iconst (v := 1) hx hb dM_closureSign_33 (by decide) ?_
    refine W.zret (v := (1)) hx hb hr rfl (M_endi hM hK hS ?_) hS.2.2 dM_closureSign_34
    exact ⟨⟨fun j h1 h2 h3 => by simp only [up_n h1, up_n h2, up_n h3], rfl⟩, Or.inr ⟨rfl, (d + 1, 0, n, pt, fw, mo, [a, b], dg), by simp [md_clos, c_25], op, mdQ_mode0 hQ rfl rfl rfl rfl rfl rfl rfl⟩⟩
set_option maxHeartbeats 4000000 in
set_option maxRecDepth 100000 in
theorem c_clos3 (l : Launch) (D : va_G) (cl : List vw_C) (tys : List (ClassId × FieldType)) (A : Nat → Prop) (ci tI tZ : Nat) (cI cZ : ClassId) (o : Nat) (ad : Nat → Nat) (fi : Nat → Int32) (fa : Nat → Nat → Int32) (k : Int32) (op : Nat → Nat) (d n a b a2 : Nat) (pt fw mo : Nat → Nat) (dg : Nat) (hQ : mdQ fi fa op (d + 1) 3 n pt fw mo [a, b, a2] dg) :
    Met l yM_closureSign (.code yM_closureSign bM_closureSign 5 (some .boolean) :: lw_g) ({ frames := 0, cells := 0, slots := 0, locals := 0 }) (va_Pc [.ref o, .int k] (mdPre D cl tys A ci tI tZ cI cZ o ad fi fa)) (va_Qi (md_res (md_clos k (d + 1, 3, n, pt, fw, mo, [a, b, a2], dg)) fi fa) (mdB D cl tys A ci cI cZ o ad) A) 0 0 A := by
  refine Met.ofW (cc := bM_closureSign) (maxL := 5) (ret := (some .boolean)) (by decide) rfl ?_
  intro p e s m args below meth c s₁ B hml hv
  obtain ⟨rfl, hM, hK, hc, hI, hZ⟩ := hv
  have hx := B.exec
  have hb := B.bytes
  have hr := B.returns
  have hts := atoms_spec (ws := (.code yM_closureSign bM_closureSign 5 (some .boolean) :: lw_g)) B.pre
  have hown : s.vm.findClass RM = some m.cls := findClass_of_methodNamed B.named
  have K : mdC D cl tys ci tI tZ cI cZ s m _ := ⟨fun w h => hts w (List.mem_cons_of_mem _ h), hown, hK, hc, hI, hZ⟩
  have hlocks := B.notSynchronized
  have hS : va_S A s.heap s.heap [] := va_S.rf
  have hl := lv_entry ([.ref o, .int k]) (n := 5) (Nat.le_of_ble_eq_true rfl)
  rw [lg_entry_eq]
  generalize (lg_sl ([.ref o, .int k]) ++ List.replicate (5 - (lg_sl ([.ref o, .int k])).length) Slot.unset).toArray = ls at hl ⊢
  have hl : lv_has ls 5 [(0, .ref o), (1, .int k)] := hl
  have hd11 : d + 1 ≤ 12 := hQ.2.1.1
  have hod := (hQ.2.2.1 d (by omega)).1.2
  have hn := hQ.2.1.2.1
  have hN := hQ.2.2.2.2.1 rfl
  refine lv_aload_n hx hb dM_closureSign_0 rfl (lv_at hl 0 rfl) ?_
  refine M_geta hx hb K hM 3 kM_f13 dM_closureSign_1 (kk := ?_)
  refine lv_aload_n hx hb dM_closureSign_4 rfl (lv_at hl 0 rfl) ?_
  refine M_getv hx hb K hM 7 (v := nI (d + 1)) hQ.1.1 kM_f84 dM_closureSign_5 (kk := ?_)
  refine lv_iconst (v := 1) hx hb dM_closureSign_8 (by decide) ?_
  refine lv_isub hx hb dM_closureSign_9 ?_
  refine lv_as (v := nI d) (nI_pred d) ?_
  refine M_aldn hx hb K hM 3 (j := d) (show d < 13 by omega) (v := nI (op d)) (hQ.2.2.1 d (by omega)).1.1 dM_closureSign_10 (kk := ?_)
  refine lv_istore_n (lv' := [(2, .int (nI (op d))), (0, .ref o), (1, .int k)]) hx hb dM_closureSign_11 rfl hl (by decide) rfl (fun ls hl => ?_)
  refine lv_aload_n hx hb dM_closureSign_12 rfl (lv_at hl 1 rfl) ?_
  refine M_geta hx hb K hM 11 kM_f31 dM_closureSign_13 (kk := ?_)
  refine lv_iload_n hx hb dM_closureSign_16 rfl (lv_at hl 0 rfl) ?_
  refine M_aldn hx hb K hM 11 (j := op d) (show op d < 120 by omega) (v := nI (md_pk [a, b, a2])) hN.2.2 dM_closureSign_17 (kk := ?_)
  refine lv_bipush (v := 20) hx hb dM_closureSign_18 (by decide) ?_
  refine lv_ishr hx hb dM_closureSign_20 ?_
  refine lv_as (v := nI 3) (md_cnt hN.1 hN.2.1) ?_
  refine lv_istore_n (lv' := [(3, .int (nI 3)), (2, .int (nI (op d))), (0, .ref o), (1, .int k)]) hx hb dM_closureSign_21 rfl hl (by decide) rfl (fun ls hl => ?_)
  refine lv_iload_n hx hb dM_closureSign_22 rfl (lv_at hl 3 rfl) ?_
  refine lv_bipush (v := 46) hx hb dM_closureSign_23 (by decide) ?_
  refine lv_icmp_ne (tgt := 35) hx hb dM_closureSign_25 (by decide) (fun c_25 => ?_) (fun c_25 => ?_)
  · skip
    refine lv_iload_n hx hb dM_closureSign_35 rfl (lv_at hl 3 rfl) ?_
    refine lv_bipush (v := 97) hx hb dM_closureSign_36 (by decide) ?_
    refine lv_icmp_lt (tgt := 52) hx hb dM_closureSign_38 (by decide) (fun c_38 => ?_) (fun c_38 => ?_)
    · skip
      refine lv_iconst (v := 0) hx hb dM_closureSign_52 (by decide) ?_
      refine W.zret (v := (0)) hx hb hr rfl (M_endi hM hK hS ?_) hS.2.2 dM_closureSign_53
      exact md_no (by simp [md_clos, c_25, c_25, c_38])
    · skip
      refine lv_iload_n hx hb dM_closureSign_41 rfl (lv_at hl 3 rfl) ?_
      refine lv_bipush (v := 122) hx hb dM_closureSign_42 (by decide) ?_
      refine lv_icmp_gt (tgt := 52) hx hb dM_closureSign_44 (by decide) (fun c_44 => ?_) (fun c_44 => ?_)
      · skip
        refine lv_iconst (v := 0) hx hb dM_closureSign_52 (by decide) ?_
        refine W.zret (v := (0)) hx hb hr rfl (M_endi hM hK hS ?_) hS.2.2 dM_closureSign_53
        exact md_no (by simp [md_clos, c_25, c_25, c_38, c_44])
      · skip
        refine lv_iload_n hx hb dM_closureSign_47 rfl (lv_at hl 0 rfl) ?_
        refine lv_iconst (v := 3) hx hb dM_closureSign_48 (by decide) ?_
        refine lv_icmp_ne (tgt := 54) hx hb dM_closureSign_49 (by decide) (fun c_49 => absurd rfl c_49) (fun c_49 => ?_)
        refine lv_iconst (v := 0) hx hb dM_closureSign_52 (by decide) ?_
        refine W.zret (v := (0)) hx hb hr rfl (M_endi hM hK hS ?_) hS.2.2 dM_closureSign_53
        exact md_no (by simp [md_clos, c_25])
  · skip
    refine lv_aload_n hx hb dM_closureSign_28 rfl (lv_at hl 2 rfl) ?_
    refine lv_iconst (v := 0) hx hb dM_closureSign_29 (by decide) ?_
    refine M_puti hx hb K hM hS 8 kM_f87 dM_closureSign_30 (kk := fun H locs hM hS => ?_)
    refine lv_iconst (v := 1) hx hb dM_closureSign_33 (by decide) ?_
    refine W.zret (v := (1)) hx hb hr rfl (M_endi hM hK hS ?_) hS.2.2 dM_closureSign_34
    exact ⟨⟨fun j h1 h2 h3 => by simp only [up_n h1, up_n h2, up_n h3], rfl⟩, Or.inr ⟨rfl, (d + 1, 0, n, pt, fw, mo, [a, b, a2], dg), by simp [md_clos, c_25], op, mdQ_mode0 hQ rfl rfl rfl rfl rfl rfl rfl⟩⟩
end
section
def md_rez (v : Option MT) (fi : Nat → Int32) (fa : Nat → Nat → Int32) (r : Int32) (S : (Nat → Int32) × (Nat → Nat → Int32)) : Prop := mdFr fi fa S ∧ ((r = 0 ∧ v = none) ∨ (r = 1 ∧ ∃ t, v = some t ∧ mdQt S.1 S.2 t))
theorem md_pred {d : Nat} (h : 0 < d) : nI d - 1 = nI (d - 1) := pk_sub h
theorem md_nz {d : Nat} (h : ¬ nI d = 0) : 0 < d := Nat.pos_of_ne_zero fun q => h (by rw [q]; rfl)
def md_sign (c : Int32) : MT → Option MT := fun (d, md, n, pt, fw, mo, nm, dg) =>
  if md = 6 then none
  else if md = 2 then (if ¬ c < 97 ∧ ¬ 122 < c then some (d, 0, n, pt, fw, mo, nm, dg) else none)
  else if md = 3 then md_clos c (d, md, n, pt, fw, mo, nm, dg)
  else if md = 4 ∧ ¬ c < 48 ∧ ¬ 57 < c then (if dg + 1 ≤ 4 then some (d, 4, n, pt, fw, mo, nm, dg + 1) else none)
  else if d = 0 then (if md = 0 then md_begin c (d, 0, n, pt, fw, mo, nm, dg) else none)
  else if md = 1 ∧ ¬ c = 32 ∧ ¬ md_arN c = 0 then md_oper c (d, md, n, pt, fw, mo, nm, dg)
  else if ¬ md = 1 ∧ c = 41 then (if pt (d - 1) < fw (d - 1) then none else some (d - 1, (if d - 1 = 0 then 6 else 0), n, md_add (d - 1) pt, fw, mo, nm, dg))
  else if c = 32 then some (d, 0, n, pt, fw, mo, nm, dg) else md_begin c (d, 0, n, pt, fw, mo, nm, dg)
set_option maxHeartbeats 4000000 in
set_option maxRecDepth 100000 in
theorem c_attachC (l : Launch) (D : va_G) (cl : List vw_C) (tys : List (ClassId × FieldType)) (A : Nat → Prop) (ci tI tZ : Nat) (cI cZ : ClassId) (o : Nat) (ad : Nat → Nat) (fi : Nat → Int32) (fa : Nat → Nat → Int32) (k : Int32) (d : Nat) (op pt : Nat → Nat) (hd : fi 7 = nI d) (hd12 : d ≤ 11) (hL : 0 < d → fa 3 (d - 1) = nI (op (d - 1)) ∧ op (d - 1) < 120 ∧ fa 4 (d - 1) = nI (pt (d - 1)) ∧ pt (d - 1) < 4) :
    Met l yM_attach (.code yM_attach bM_attach 3 none :: lw_g) ({ frames := 0, cells := 0, slots := 0, locals := 0 }) (va_Pc [.ref o, .int k] (mdPre D cl tys A ci tI tZ cI cZ o ad fi fa)) (va_Qv (fun S => (d = 0 ∧ S = (va_up fi 8 6, fa)) ∨ (0 < d ∧ ∃ g, S = (va_up fi 8 0, va_up (va_up fa 12 g) 4 (upd (fa 4) (d - 1) (nI (pt (d - 1) + 1)))))) (mdB D cl tys A ci cI cZ o ad) A) 0 0 A := by
  refine Met.ofW (cc := bM_attach) (maxL := 3) (ret := none) (by decide) rfl ?_
  intro p e s m args below meth c s₁ B hml hv
  obtain ⟨rfl, hM, hK, hc, hI, hZ⟩ := hv
  have hx := B.exec
  have hb := B.bytes
  have hr := B.returns
  have hts := atoms_spec (ws := (.code yM_attach bM_attach 3 none :: lw_g)) B.pre
  have hown : s.vm.findClass RM = some m.cls := findClass_of_methodNamed B.named
  have K : mdC D cl tys ci tI tZ cI cZ s m _ := ⟨fun w h => hts w (List.mem_cons_of_mem _ h), hown, hK, hc, hI, hZ⟩
  have hlocks := B.notSynchronized
  have hS : va_S A s.heap s.heap [] := va_S.rf
  have hl := lv_entry ([.ref o, .int k]) (n := 3) (Nat.le_of_ble_eq_true rfl)
  rw [lg_entry_eq]
  generalize (lg_sl ([.ref o, .int k]) ++ List.replicate (3 - (lg_sl ([.ref o, .int k])).length) Slot.unset).toArray = ls at hl ⊢
  have hl : lv_has ls 3 [(0, .ref o), (1, .int k)] := hl
  refine lv_aload_n hx hb dM_attach_0 rfl (lv_at hl 0 rfl) ?_
  refine M_getv hx hb K hM 7 (v := nI d) hd kM_f84 dM_attach_1 (kk := ?_)
  refine lv_if_ne (tgt := 14) hx hb dM_attach_4 (by decide) (fun c_4 => ?_) (fun c_4 => ?_)
  · skip
    have h0 : 0 < d := md_nz c_4
    obtain ⟨hop, hop2, hpt, hpt4⟩ := hL h0
    refine lv_aload_n hx hb dM_attach_14 rfl (lv_at hl 0 rfl) ?_
    refine M_getv hx hb K hM 7 (v := nI d) hd kM_f84 dM_attach_15 (kk := ?_)
    refine lv_iconst (v := 1) hx hb dM_attach_18 (by decide) ?_
    refine lv_isub hx hb dM_attach_19 ?_
    refine lv_as (v := nI (d - 1)) (md_pred h0) ?_
    refine lv_istore_n (lv' := [(2, .int (nI (d - 1))), (0, .ref o), (1, .int k)]) hx hb dM_attach_20 rfl hl (by decide) rfl (fun ls hl => ?_)
    refine lv_aload_n hx hb dM_attach_21 rfl (lv_at hl 1 rfl) ?_
    refine M_geta hx hb K hM 4 kM_f16 dM_attach_22 (kk := ?_)
    refine lv_iload_n hx hb dM_attach_25 rfl (lv_at hl 0 rfl) ?_
    refine M_aldn hx hb K hM 4 (j := d - 1) (show d - 1 < 13 by omega) (v := nI (pt (d - 1))) hpt dM_attach_26 (kk := ?_)
    refine lv_iconst (v := 4) hx hb dM_attach_27 (by decide) ?_
    refine lv_icmp_ge (tgt := 52) hx hb dM_attach_28 (by decide) (fun c_28 => absurd c_28 (nI_ge (b := 4) hpt4 (by decide))) (fun c_28 => ?_)
    refine lv_aload_n hx hb dM_attach_31 rfl (lv_at hl 1 rfl) ?_
    refine M_geta hx hb K hM 12 kM_f34 dM_attach_32 (kk := ?_)
    refine lv_iconst (v := 4) hx hb dM_attach_35 (by decide) ?_
    refine lv_aload_n hx hb dM_attach_36 rfl (lv_at hl 1 rfl) ?_
    refine M_geta hx hb K hM 3 kM_f13 dM_attach_37 (kk := ?_)
    refine lv_iload_n hx hb dM_attach_40 rfl (lv_at hl 0 rfl) ?_
    refine M_aldn hx hb K hM 3 (j := d - 1) (show d - 1 < 13 by omega) (v := nI (op (d - 1))) hop dM_attach_41 (kk := ?_)
    refine lv_imul hx hb dM_attach_42 ?_
    refine lv_as (v := nI (4 * op (d - 1))) (pk_mul 4 _) ?_
    refine lv_aload_n hx hb dM_attach_43 rfl (lv_at hl 1 rfl) ?_
    refine M_geta hx hb K hM 4 kM_f16 dM_attach_44 (kk := ?_)
    refine lv_iload_n hx hb dM_attach_47 rfl (lv_at hl 0 rfl) ?_
    refine M_aldn hx hb K hM 4 (j := d - 1) (show d - 1 < 13 by omega) (v := nI (pt (d - 1))) hpt dM_attach_48 (kk := ?_)
    refine lv_iadd hx hb dM_attach_49 ?_
    refine lv_as (v := nI (4 * op (d - 1) + pt (d - 1))) (nI_add _ _) ?_
    refine lv_iload_n hx hb dM_attach_50 rfl (lv_at hl 2 rfl) ?_
    refine M_astn hx hb K hM hS 12 (j := 4 * op (d - 1) + pt (d - 1)) (show 4 * op (d - 1) + pt (d - 1) < 480 by omega) dM_attach_51 (kk := fun H locs hM hS => ?_)
    refine lv_aload_n hx hb dM_attach_52 rfl (lv_at hl 1 rfl) ?_
    refine M_geta hx hb K hM 4 kM_f16 dM_attach_53 (kk := ?_)
    refine lv_iload_n hx hb dM_attach_56 rfl (lv_at hl 0 rfl) ?_
    refine lv_dup2_11 hx hb dM_attach_57 rfl rfl ?_
    refine M_aldn hx hb K hM 4 (j := d - 1) (show d - 1 < 13 by omega) (v := nI (pt (d - 1))) hpt dM_attach_58 (kk := ?_)
    refine lv_iconst (v := 1) hx hb dM_attach_59 (by decide) ?_
    refine lv_iadd hx hb dM_attach_60 ?_
    refine lv_as (v := nI (pt (d - 1) + 1)) (nI_1 _) ?_
    refine M_astn hx hb K hM hS 4 (j := d - 1) (show d - 1 < 13 by omega) dM_attach_61 (kk := fun H locs hM hS => ?_)
    refine lv_aload_n hx hb dM_attach_62 rfl (lv_at hl 1 rfl) ?_
    refine lv_iconst (v := 0) hx hb dM_attach_63 (by decide) ?_
    refine M_puti hx hb K hM hS 8 kM_f87 dM_attach_64 (kk := fun H locs hM hS => ?_)
    refine W.vret hx hb hr (M_endv hM hK hS ?_) hS.2.2 dM_attach_67
    exact Or.inr ⟨h0, _, rfl⟩
  · skip
    refine lv_aload_n hx hb dM_attach_7 rfl (lv_at hl 0 rfl) ?_
    refine lv_bipush (v := 6) hx hb dM_attach_8 (by decide) ?_
    refine M_puti hx hb K hM hS 8 kM_f87 dM_attach_10 (kk := fun H locs hM hS => ?_)
    refine W.vret hx hb hr (M_endv hM hK hS ?_) hS.2.2 dM_attach_13
    exact Or.inl ⟨(nI_eq (b := 0) (by omega) (by decide)).mp (c_4.trans nI_0.symm), rfl⟩
theorem c_closureSign (l : Launch) (D : va_G) (cl : List vw_C) (tys : List (ClassId × FieldType)) (A : Nat → Prop) (ci tI tZ : Nat) (cI cZ : ClassId) (o : Nat) (ad : Nat → Nat) (fi : Nat → Int32) (fa : Nat → Nat → Int32) (k : Int32) (op : Nat → Nat) (d n : Nat) (pt fw mo : Nat → Nat) (nm : List Nat) (dg : Nat) (hQ : mdQ fi fa op (d + 1) 3 n pt fw mo nm dg) :
    Met l yM_closureSign (.code yM_closureSign bM_closureSign 5 (some .boolean) :: lw_g) ({ frames := 0, cells := 0, slots := 0, locals := 0 }) (va_Pc [.ref o, .int k] (mdPre D cl tys A ci tI tZ cI cZ o ad fi fa)) (va_Qi (md_res (md_clos k (d + 1, 3, n, pt, fw, mo, nm, dg)) fi fa) (mdB D cl tys A ci cI cZ o ad) A) 0 0 A := by
  have h3 := (hQ.2.2.2.2.1 rfl).1
  match nm, hQ, h3 with
  | [], hQ, _ => exact c_clos0 l D cl tys A ci tI tZ cI cZ o ad fi fa k op d n pt fw mo dg hQ
  | [a], hQ, _ => exact c_clos1 l D cl tys A ci tI tZ cI cZ o ad fi fa k op d n a pt fw mo dg hQ
  | [a, b], hQ, _ => exact c_clos2 l D cl tys A ci tI tZ cI cZ o ad fi fa k op d n a b pt fw mo dg hQ
  | [a, b, a2], hQ, _ => exact c_clos3 l D cl tys A ci tI tZ cI cZ o ad fi fa k op d n a b a2 pt fw mo dg hQ
end
section
theorem mdFr.m0 {fi : Nat → Int32} {fa : Nat → Nat → Int32} {v : Int32} {S : (Nat → Int32) × (Nat → Nat → Int32)} (h : mdFr (va_up fi 8 v) fa S) : mdFr fi fa S := ⟨fun k h1 h2 h3 => (h.1 k h1 h2 h3).trans (up_n h2), h.2⟩
theorem md_of {v : Option MT} {fi : Nat → Int32} {fa : Nat → Nat → Int32} {r : Int32} {S : (Nat → Int32) × (Nat → Nat → Int32)} (h : md_res v fi fa r S) : md_rez v fi fa r S := ⟨h.1, h.2.elim (fun q => Or.inl ⟨q.1, q.2.1⟩) Or.inr⟩
set_option maxHeartbeats 4000000 in
set_option maxRecDepth 100000 in
theorem c_sign6A (l : Launch) (D : va_G) (cl : List vw_C) (tys : List (ClassId × FieldType)) (A : Nat → Prop) (ci tI tZ : Nat) (cI cZ : ClassId) (o : Nat) (ad : Nat → Nat) (fi : Nat → Int32) (fa : Nat → Nat → Int32) (k : Int32) (op : Nat → Nat) (d n : Nat) (pt fw mo : Nat → Nat) (nm : List Nat) (dg : Nat) (hQ : mdQ fi fa op d 6 n pt fw mo nm dg) (hn : n < 120) :
    Met l yM_signOne (.code yM_signOne bM_signOne 3 (some .boolean) :: lw_g) ({ frames := 2, cells := 0, slots := 0, locals := 44 }) (va_Pc [.ref o, .int k] (mdPre D cl tys A ci tI tZ cI cZ o ad fi fa)) (va_Qi (md_rez (md_sign k (d, 6, n, pt, fw, mo, nm, dg)) fi fa) (mdB D cl tys A ci cI cZ o ad) A) 0 0 A := by
  refine Met.ofW (cc := bM_signOne) (maxL := 3) (ret := (some .boolean)) (by decide) rfl ?_
  intro p e s m args below meth c s₁ B hml hv
  obtain ⟨rfl, hM, hK, hc, hI, hZ⟩ := hv
  have hx := B.exec
  have hb := B.bytes
  have hr := B.returns
  have hts := atoms_spec (ws := (.code yM_signOne bM_signOne 3 (some .boolean) :: lw_g)) B.pre
  have hown : s.vm.findClass RM = some m.cls := findClass_of_methodNamed B.named
  have K : mdC D cl tys ci tI tZ cI cZ s m _ := ⟨fun w h => hts w (List.mem_cons_of_mem _ h), hown, hK, hc, hI, hZ⟩
  have hlocks := B.notSynchronized
  have hS : va_S A s.heap s.heap [] := va_S.rf
  have hl := lv_entry ([.ref o, .int k]) (n := 3) (Nat.le_of_ble_eq_true rfl)
  rw [lg_entry_eq]
  generalize (lg_sl ([.ref o, .int k]) ++ List.replicate (3 - (lg_sl ([.ref o, .int k])).length) Slot.unset).toArray = ls at hl ⊢
  have hl : lv_has ls 3 [(0, .ref o), (1, .int k)] := hl
  have hn2 := hQ.2.1.2.1
  refine lv_aload_n hx hb dM_signOne_0 rfl (lv_at hl 0 rfl) ?_
  refine M_getv hx hb K hM 8 (v := nI 6) hQ.1.2.1 kM_f87 dM_signOne_1 (kk := ?_)
  refine lv_bipush (v := 6) hx hb dM_signOne_4 (by decide) ?_
  refine lv_icmp_ne (tgt := 11) hx hb dM_signOne_6 (by decide) (fun c_6 => absurd (by decide) c_6) (fun c_6 => ?_)
  refine lv_iconst (v := 0) hx hb dM_signOne_9 (by decide) ?_
  refine W.zret (v := (0)) hx hb hr rfl (M_endi hM hK hS ?_) hS.2.2 dM_signOne_10
  exact ⟨mdFr.rf, Or.inl ⟨rfl, by simp [md_sign]⟩⟩
set_option maxHeartbeats 4000000 in
set_option maxRecDepth 100000 in
theorem c_sign2S (l : Launch) (D : va_G) (cl : List vw_C) (tys : List (ClassId × FieldType)) (A : Nat → Prop) (ci tI tZ : Nat) (cI cZ : ClassId) (o : Nat) (ad : Nat → Nat) (fi : Nat → Int32) (fa : Nat → Nat → Int32) (k : Int32) (op : Nat → Nat) (d n : Nat) (pt fw mo : Nat → Nat) (nm : List Nat) (dg : Nat) (hQ : mdQ fi fa op (d + 1) 2 n pt fw mo nm dg) (hn : n < 120) :
    Met l yM_signOne (.code yM_signOne bM_signOne 3 (some .boolean) :: lw_g) ({ frames := 2, cells := 0, slots := 0, locals := 44 }) (va_Pc [.ref o, .int k] (mdPre D cl tys A ci tI tZ cI cZ o ad fi fa)) (va_Qi (md_rez (md_sign k (d + 1, 2, n, pt, fw, mo, nm, dg)) fi fa) (mdB D cl tys A ci cI cZ o ad) A) 0 0 A := by
  refine Met.ofW (cc := bM_signOne) (maxL := 3) (ret := (some .boolean)) (by decide) rfl ?_
  intro p e s m args below meth c s₁ B hml hv
  obtain ⟨rfl, hM, hK, hc, hI, hZ⟩ := hv
  have hx := B.exec
  have hb := B.bytes
  have hr := B.returns
  have hts := atoms_spec (ws := (.code yM_signOne bM_signOne 3 (some .boolean) :: lw_g)) B.pre
  have hown : s.vm.findClass RM = some m.cls := findClass_of_methodNamed B.named
  have K : mdC D cl tys ci tI tZ cI cZ s m _ := ⟨fun w h => hts w (List.mem_cons_of_mem _ h), hown, hK, hc, hI, hZ⟩
  have hlocks := B.notSynchronized
  have hS : va_S A s.heap s.heap [] := va_S.rf
  have hl := lv_entry ([.ref o, .int k]) (n := 3) (Nat.le_of_ble_eq_true rfl)
  rw [lg_entry_eq]
  generalize (lg_sl ([.ref o, .int k]) ++ List.replicate (3 - (lg_sl ([.ref o, .int k])).length) Slot.unset).toArray = ls at hl ⊢
  have hl : lv_has ls 3 [(0, .ref o), (1, .int k)] := hl
  have hn2 := hQ.2.1.2.1
  have hd11 : d + 1 ≤ 12 := hQ.2.1.1
  have hod := (hQ.2.2.1 d (by omega)).1.2
  have hpm := (hQ.2.2.1 d (by omega)).2.2
  refine lv_aload_n hx hb dM_signOne_0 rfl (lv_at hl 0 rfl) ?_
  refine M_getv hx hb K hM 8 (v := nI 2) hQ.1.2.1 kM_f87 dM_signOne_1 (kk := ?_)
  refine lv_bipush (v := 6) hx hb dM_signOne_4 (by decide) ?_
  refine lv_icmp_ne (tgt := 11) hx hb dM_signOne_6 (by decide) (fun c_6 => ?_) (fun c_6 => absurd c_6 (by decide))
  refine lv_aload_n hx hb dM_signOne_11 rfl (lv_at hl 0 rfl) ?_
  refine M_getv hx hb K hM 8 (v := nI 2) hQ.1.2.1 kM_f87 dM_signOne_12 (kk := ?_)
  refine lv_iconst (v := 2) hx hb dM_signOne_15 (by decide) ?_
  refine lv_icmp_ne (tgt := 62) hx hb dM_signOne_16 (by decide) (fun c_16 => absurd (by decide) c_16) (fun c_16 => ?_)
  refine lv_aload_n hx hb dM_signOne_19 rfl (lv_at hl 0 rfl) ?_
  refine M_geta hx hb K hM 10 kM_f28 dM_signOne_20 (kk := ?_)
  refine lv_aload_n hx hb dM_signOne_23 rfl (lv_at hl 0 rfl) ?_
  refine M_geta hx hb K hM 3 kM_f13 dM_signOne_24 (kk := ?_)
  refine lv_aload_n hx hb dM_signOne_27 rfl (lv_at hl 0 rfl) ?_
  refine M_getv hx hb K hM 7 (v := nI (d + 1)) hQ.1.1 kM_f84 dM_signOne_28 (kk := ?_)
  refine lv_iconst (v := 1) hx hb dM_signOne_31 (by decide) ?_
  refine lv_isub hx hb dM_signOne_32 ?_
  refine lv_as (v := nI d) (nI_pred d) ?_
  refine M_aldn hx hb K hM 3 (j := d) (show d < 13 by omega) (v := nI (op d)) (hQ.2.2.1 d (by omega)).1.1 dM_signOne_33 (kk := ?_)
  refine lv_iload_n hx hb dM_signOne_34 rfl (lv_at hl 1 rfl) ?_
  refine lv_bipush (v := 97) hx hb dM_signOne_35 (by decide) ?_
  refine lv_isub hx hb dM_signOne_37 ?_
  refine M_astn hx hb K hM hS 10 (j := op d) (show op d < 120 by omega) dM_signOne_38 (kk := fun H locs hM hS => ?_)
  refine lv_aload_n hx hb dM_signOne_39 rfl (lv_at hl 0 rfl) ?_
  refine lv_iconst (v := 0) hx hb dM_signOne_40 (by decide) ?_
  refine M_puti hx hb K hM hS 8 kM_f87 dM_signOne_41 (kk := fun H locs hM hS => ?_)
  refine lv_iload_n hx hb dM_signOne_44 rfl (lv_at hl 1 rfl) ?_
  refine lv_bipush (v := 97) hx hb dM_signOne_45 (by decide) ?_
  refine lv_icmp_lt (tgt := 60) hx hb dM_signOne_47 (by decide) (fun c_47 => ?_) (fun c_47 => ?_)
  · skip
    refine lv_iconst (v := 0) hx hb dM_signOne_60 (by decide) ?_
    refine W.zret (v := (0)) hx hb hr rfl (M_endi hM hK hS ?_) hS.2.2 dM_signOne_61
    exact ⟨⟨fun j h1 h2 h3 => by simp only [up_n h1, up_n h2, up_n h3], rfl⟩, Or.inl ⟨rfl, by simp [md_sign, c_47]⟩⟩
  · skip
    refine lv_iload_n hx hb dM_signOne_50 rfl (lv_at hl 1 rfl) ?_
    refine lv_bipush (v := 122) hx hb dM_signOne_51 (by decide) ?_
    refine lv_icmp_gt (tgt := 60) hx hb dM_signOne_53 (by decide) (fun c_53 => ?_) (fun c_53 => ?_)
    · skip
      refine lv_iconst (v := 0) hx hb dM_signOne_60 (by decide) ?_
      refine W.zret (v := (0)) hx hb hr rfl (M_endi hM hK hS ?_) hS.2.2 dM_signOne_61
      exact ⟨⟨fun j h1 h2 h3 => by simp only [up_n h1, up_n h2, up_n h3], rfl⟩, Or.inl ⟨rfl, by simp [md_sign, c_47, c_53]⟩⟩
    · skip
      refine lv_iconst (v := 1) hx hb dM_signOne_56 (by decide) ?_
      refine lv_goto (tgt := 61) hx hb dM_signOne_57 (by decide) ?_
      refine W.zret (v := (1)) hx hb hr rfl (M_endi hM hK hS ?_) hS.2.2 dM_signOne_61
      exact ⟨⟨fun j h1 h2 h3 => by simp only [up_n h1, up_n h2, up_n h3], rfl⟩, Or.inr ⟨rfl, (d + 1, 0, n, pt, fw, mo, nm, dg), by simp [md_sign, c_47, c_53], op, mdQ_mode0 hQ rfl rfl rfl rfl rfl rfl rfl⟩⟩
set_option maxHeartbeats 4000000 in
set_option maxRecDepth 100000 in
theorem c_sign3S (l : Launch) (D : va_G) (cl : List vw_C) (tys : List (ClassId × FieldType)) (A : Nat → Prop) (ci tI tZ : Nat) (cI cZ : ClassId) (o : Nat) (ad : Nat → Nat) (fi : Nat → Int32) (fa : Nat → Nat → Int32) (k : Int32) (op : Nat → Nat) (d n : Nat) (pt fw mo : Nat → Nat) (nm : List Nat) (dg : Nat) (hQ : mdQ fi fa op (d + 1) 3 n pt fw mo nm dg) (hn : n < 120) :
    Met l yM_signOne (.code yM_signOne bM_signOne 3 (some .boolean) :: lw_g) ({ frames := 2, cells := 0, slots := 0, locals := 44 }) (va_Pc [.ref o, .int k] (mdPre D cl tys A ci tI tZ cI cZ o ad fi fa)) (va_Qi (md_rez (md_sign k (d + 1, 3, n, pt, fw, mo, nm, dg)) fi fa) (mdB D cl tys A ci cI cZ o ad) A) 0 0 A := by
  refine Met.ofW (cc := bM_signOne) (maxL := 3) (ret := (some .boolean)) (by decide) rfl ?_
  intro p e s m args below meth c s₁ B hml hv
  obtain ⟨rfl, hM, hK, hc, hI, hZ⟩ := hv
  have hx := B.exec
  have hb := B.bytes
  have hr := B.returns
  have hts := atoms_spec (ws := (.code yM_signOne bM_signOne 3 (some .boolean) :: lw_g)) B.pre
  have hown : s.vm.findClass RM = some m.cls := findClass_of_methodNamed B.named
  have K : mdC D cl tys ci tI tZ cI cZ s m _ := ⟨fun w h => hts w (List.mem_cons_of_mem _ h), hown, hK, hc, hI, hZ⟩
  have hlocks := B.notSynchronized
  have hS : va_S A s.heap s.heap [] := va_S.rf
  have hl := lv_entry ([.ref o, .int k]) (n := 3) (Nat.le_of_ble_eq_true rfl)
  rw [lg_entry_eq]
  generalize (lg_sl ([.ref o, .int k]) ++ List.replicate (3 - (lg_sl ([.ref o, .int k])).length) Slot.unset).toArray = ls at hl ⊢
  have hl : lv_has ls 3 [(0, .ref o), (1, .int k)] := hl
  have hn2 := hQ.2.1.2.1
  have hd11 : d + 1 ≤ 12 := hQ.2.1.1
  have hod := (hQ.2.2.1 d (by omega)).1.2
  have hpm := (hQ.2.2.1 d (by omega)).2.2
  refine lv_aload_n hx hb dM_signOne_0 rfl (lv_at hl 0 rfl) ?_
  refine M_getv hx hb K hM 8 (v := nI 3) hQ.1.2.1 kM_f87 dM_signOne_1 (kk := ?_)
  refine lv_bipush (v := 6) hx hb dM_signOne_4 (by decide) ?_
  refine lv_icmp_ne (tgt := 11) hx hb dM_signOne_6 (by decide) (fun c_6 => ?_) (fun c_6 => absurd c_6 (by decide))
  refine lv_aload_n hx hb dM_signOne_11 rfl (lv_at hl 0 rfl) ?_
  refine M_getv hx hb K hM 8 (v := nI 3) hQ.1.2.1 kM_f87 dM_signOne_12 (kk := ?_)
  refine lv_iconst (v := 2) hx hb dM_signOne_15 (by decide) ?_
  refine lv_icmp_ne (tgt := 62) hx hb dM_signOne_16 (by decide) (fun c_16 => ?_) (fun c_16 => absurd c_16 (by decide))
  refine lv_aload_n hx hb dM_signOne_62 rfl (lv_at hl 0 rfl) ?_
  refine M_getv hx hb K hM 8 (v := nI 3) hQ.1.2.1 kM_f87 dM_signOne_63 (kk := ?_)
  refine lv_iconst (v := 3) hx hb dM_signOne_66 (by decide) ?_
  refine lv_icmp_ne (tgt := 76) hx hb dM_signOne_67 (by decide) (fun c_67 => absurd (by decide) c_67) (fun c_67 => ?_)
  refine lv_aload_n hx hb dM_signOne_70 rfl (lv_at hl 0 rfl) ?_
  refine lv_iload_n hx hb dM_signOne_71 rfl (lv_at hl 1 rfl) ?_
  refine va_calli (M_run (As := [.int k]) (rest := []) (n := 1) hx hb hml K hM (c_closureSign l D cl tys A ci tI tZ cI cZ o ad _ _ k op d n pt fw mo nm dg hQ) kM_c_closureSign kM_m102 kM_i_closureSign kM_s_closureSign rfl rfl ⟨rfl, by decide +kernel⟩ ⟨Nat.le_of_ble_eq_true rfl, Nat.le_of_ble_eq_true rfl⟩ rfl hl.1 rfl (lv_room (Nat.le_of_ble_eq_true rfl)) dM_signOne_72 ⟨Nat.le_of_ble_eq_true rfl, Nat.le_of_ble_eq_true rfl⟩) hS (fun q _ h => h) (fun q h => h) (fun r u t H1 locs1 ht hvm hw hB hz hk hS => ?_)
  obtain ⟨hM, -⟩ := hB
  rw [ht] at hM
  obtain ⟨hFr, ⟨rfl, hv, rfl⟩ | ⟨rfl, t9, hv, hq9⟩⟩ := hw
  · skip
    refine W.zret (v := (0)) hx hb hr rfl (M_endi hM hK hS ?_) hS.2.2 dM_signOne_75
    exact ⟨hFr, Or.inl ⟨rfl, by simpa [md_sign] using hv⟩⟩
  · skip
    refine W.zret (v := (1)) hx hb hr rfl (M_endi hM hK hS ?_) hS.2.2 dM_signOne_75
    exact ⟨hFr, Or.inr ⟨rfl, t9, by simpa [md_sign] using hv, hq9⟩⟩
set_option maxHeartbeats 4000000 in
set_option maxRecDepth 100000 in
theorem c_sign40 (l : Launch) (D : va_G) (cl : List vw_C) (tys : List (ClassId × FieldType)) (A : Nat → Prop) (ci tI tZ : Nat) (cI cZ : ClassId) (o : Nat) (ad : Nat → Nat) (fi : Nat → Int32) (fa : Nat → Nat → Int32) (k : Int32) (op : Nat → Nat) (n : Nat) (pt fw mo : Nat → Nat) (nm : List Nat) (dg : Nat) (hQ : mdQ fi fa op 0 4 n pt fw mo nm dg) (hn : n < 120) :
    Met l yM_signOne (.code yM_signOne bM_signOne 3 (some .boolean) :: lw_g) ({ frames := 2, cells := 0, slots := 0, locals := 44 }) (va_Pc [.ref o, .int k] (mdPre D cl tys A ci tI tZ cI cZ o ad fi fa)) (va_Qi (md_rez (md_sign k (0, 4, n, pt, fw, mo, nm, dg)) fi fa) (mdB D cl tys A ci cI cZ o ad) A) 0 0 A := by
  refine Met.ofW (cc := bM_signOne) (maxL := 3) (ret := (some .boolean)) (by decide) rfl ?_
  intro p e s m args below meth c s₁ B hml hv
  obtain ⟨rfl, hM, hK, hc, hI, hZ⟩ := hv
  have hx := B.exec
  have hb := B.bytes
  have hr := B.returns
  have hts := atoms_spec (ws := (.code yM_signOne bM_signOne 3 (some .boolean) :: lw_g)) B.pre
  have hown : s.vm.findClass RM = some m.cls := findClass_of_methodNamed B.named
  have K : mdC D cl tys ci tI tZ cI cZ s m _ := ⟨fun w h => hts w (List.mem_cons_of_mem _ h), hown, hK, hc, hI, hZ⟩
  have hlocks := B.notSynchronized
  have hS : va_S A s.heap s.heap [] := va_S.rf
  have hl := lv_entry ([.ref o, .int k]) (n := 3) (Nat.le_of_ble_eq_true rfl)
  rw [lg_entry_eq]
  generalize (lg_sl ([.ref o, .int k]) ++ List.replicate (3 - (lg_sl ([.ref o, .int k])).length) Slot.unset).toArray = ls at hl ⊢
  have hl : lv_has ls 3 [(0, .ref o), (1, .int k)] := hl
  have hn2 := hQ.2.1.2.1
  obtain ⟨hn0, hdg, hdg4⟩ := hQ.2.2.2.2.2.1 rfl
  refine lv_aload_n hx hb dM_signOne_0 rfl (lv_at hl 0 rfl) ?_
  refine M_getv hx hb K hM 8 (v := nI 4) hQ.1.2.1 kM_f87 dM_signOne_1 (kk := ?_)
  refine lv_bipush (v := 6) hx hb dM_signOne_4 (by decide) ?_
  refine lv_icmp_ne (tgt := 11) hx hb dM_signOne_6 (by decide) (fun c_6 => ?_) (fun c_6 => absurd c_6 (by decide))
  refine lv_aload_n hx hb dM_signOne_11 rfl (lv_at hl 0 rfl) ?_
  refine M_getv hx hb K hM 8 (v := nI 4) hQ.1.2.1 kM_f87 dM_signOne_12 (kk := ?_)
  refine lv_iconst (v := 2) hx hb dM_signOne_15 (by decide) ?_
  refine lv_icmp_ne (tgt := 62) hx hb dM_signOne_16 (by decide) (fun c_16 => ?_) (fun c_16 => absurd c_16 (by decide))
  refine lv_aload_n hx hb dM_signOne_62 rfl (lv_at hl 0 rfl) ?_
  refine M_getv hx hb K hM 8 (v := nI 4) hQ.1.2.1 kM_f87 dM_signOne_63 (kk := ?_)
  refine lv_iconst (v := 3) hx hb dM_signOne_66 (by decide) ?_
  refine lv_icmp_ne (tgt := 76) hx hb dM_signOne_67 (by decide) (fun c_67 => ?_) (fun c_67 => absurd c_67 (by decide))
  refine lv_aload_n hx hb dM_signOne_76 rfl (lv_at hl 0 rfl) ?_
  refine M_getv hx hb K hM 8 (v := nI 4) hQ.1.2.1 kM_f87 dM_signOne_77 (kk := ?_)
  refine lv_iconst (v := 4) hx hb dM_signOne_80 (by decide) ?_
  refine lv_icmp_ne (tgt := 149) hx hb dM_signOne_81 (by decide) (fun c_81 => absurd (by decide) c_81) (fun c_81 => ?_)
  refine lv_iload_n hx hb dM_signOne_84 rfl (lv_at hl 1 rfl) ?_
  refine lv_bipush (v := 48) hx hb dM_signOne_85 (by decide) ?_
  refine lv_icmp_lt (tgt := 149) hx hb dM_signOne_87 (by decide) (fun c_87 => ?_) (fun c_87 => ?_)
  · skip
    refine lv_aload_n hx hb dM_signOne_149 rfl (lv_at hl 0 rfl) ?_
    refine M_getv hx hb K hM 7 (v := nI 0) hQ.1.1 kM_f84 dM_signOne_150 (kk := ?_)
    refine lv_if_ne (tgt := 177) hx hb dM_signOne_153 (by decide) (fun c_153 => absurd (by decide) c_153) (fun c_153 => ?_)
    refine lv_aload_n hx hb dM_signOne_156 rfl (lv_at hl 0 rfl) ?_
    refine M_getv hx hb K hM 8 (v := nI 4) hQ.1.2.1 kM_f87 dM_signOne_157 (kk := ?_)
    refine lv_if_ne (tgt := 175) hx hb dM_signOne_160 (by decide) (fun c_160 => ?_) (fun c_160 => absurd c_160 (by decide))
    refine lv_iconst (v := 0) hx hb dM_signOne_175 (by decide) ?_
    refine W.zret (v := (0)) hx hb hr rfl (M_endi hM hK hS ?_) hS.2.2 dM_signOne_176
    exact ⟨mdFr.rf, Or.inl ⟨rfl, by simp [md_sign, c_87]⟩⟩
  · skip
    refine lv_iload_n hx hb dM_signOne_90 rfl (lv_at hl 1 rfl) ?_
    refine lv_bipush (v := 57) hx hb dM_signOne_91 (by decide) ?_
    refine lv_icmp_gt (tgt := 149) hx hb dM_signOne_93 (by decide) (fun c_93 => ?_) (fun c_93 => ?_)
    · skip
      refine lv_aload_n hx hb dM_signOne_149 rfl (lv_at hl 0 rfl) ?_
      refine M_getv hx hb K hM 7 (v := nI 0) hQ.1.1 kM_f84 dM_signOne_150 (kk := ?_)
      refine lv_if_ne (tgt := 177) hx hb dM_signOne_153 (by decide) (fun c_153 => absurd (by decide) c_153) (fun c_153 => ?_)
      refine lv_aload_n hx hb dM_signOne_156 rfl (lv_at hl 0 rfl) ?_
      refine M_getv hx hb K hM 8 (v := nI 4) hQ.1.2.1 kM_f87 dM_signOne_157 (kk := ?_)
      refine lv_if_ne (tgt := 175) hx hb dM_signOne_160 (by decide) (fun c_160 => ?_) (fun c_160 => absurd c_160 (by decide))
      refine lv_iconst (v := 0) hx hb dM_signOne_175 (by decide) ?_
      refine W.zret (v := (0)) hx hb hr rfl (M_endi hM hK hS ?_) hS.2.2 dM_signOne_176
      exact ⟨mdFr.rf, Or.inl ⟨rfl, by simp [md_sign, c_87, c_93]⟩⟩
    · skip
      refine lv_aload_n hx hb dM_signOne_96 rfl (lv_at hl 0 rfl) ?_
      refine M_getv hx hb K hM 13 (v := nI n) hQ.1.2.2 kM_f81 dM_signOne_97 (kk := ?_)
      refine lv_iconst (v := 1) hx hb dM_signOne_100 (by decide) ?_
      refine lv_isub hx hb dM_signOne_101 ?_
      refine lv_as (v := nI (n - 1)) (md_pred hn0) ?_
      refine lv_istore_n (lv' := [(2, .int (nI (n - 1))), (0, .ref o), (1, .int k)]) hx hb dM_signOne_102 rfl hl (by decide) rfl (fun ls hl => ?_)
      refine lv_aload_n hx hb dM_signOne_103 rfl (lv_at hl 1 rfl) ?_
      refine M_geta hx hb K hM 10 kM_f28 dM_signOne_104 (kk := ?_)
      refine lv_iload_n hx hb dM_signOne_107 rfl (lv_at hl 0 rfl) ?_
      refine lv_aload_n hx hb dM_signOne_108 rfl (lv_at hl 1 rfl) ?_
      refine M_geta hx hb K hM 10 kM_f28 dM_signOne_109 (kk := ?_)
      refine lv_iload_n hx hb dM_signOne_112 rfl (lv_at hl 0 rfl) ?_
      refine M_aldn hx hb K hM 10 (j := n - 1) (show n - 1 < 120 by omega) (v := fa 10 (n - 1)) rfl dM_signOne_113 (kk := ?_)
      refine lv_bipush (v := 10) hx hb dM_signOne_114 (by decide) ?_
      refine lv_imul hx hb dM_signOne_116 ?_
      refine lv_iload_n hx hb dM_signOne_117 rfl (lv_at hl 2 rfl) ?_
      refine lv_iadd hx hb dM_signOne_118 ?_
      refine lv_bipush (v := 48) hx hb dM_signOne_119 (by decide) ?_
      refine lv_isub hx hb dM_signOne_121 ?_
      refine M_astn hx hb K hM hS 10 (j := n - 1) (show n - 1 < 120 by omega) dM_signOne_122 (kk := fun H locs hM hS => ?_)
      refine lv_aload_n hx hb dM_signOne_123 rfl (lv_at hl 1 rfl) ?_
      refine M_geta hx hb K hM 11 kM_f31 dM_signOne_124 (kk := ?_)
      refine lv_iload_n hx hb dM_signOne_127 rfl (lv_at hl 0 rfl) ?_
      refine lv_dup2_11 hx hb dM_signOne_128 rfl rfl ?_
      refine M_aldn hx hb K hM 11 (j := n - 1) (show n - 1 < 120 by omega) (v := nI dg) hdg dM_signOne_129 (kk := ?_)
      refine lv_iconst (v := 1) hx hb dM_signOne_130 (by decide) ?_
      refine lv_iadd hx hb dM_signOne_131 ?_
      refine lv_as (v := nI (dg + 1)) (nI_1 dg) ?_
      refine M_astn hx hb K hM hS 11 (j := n - 1) (show n - 1 < 120 by omega) dM_signOne_132 (kk := fun H locs hM hS => ?_)
      refine lv_aload_n hx hb dM_signOne_133 rfl (lv_at hl 1 rfl) ?_
      refine M_geta hx hb K hM 11 kM_f31 dM_signOne_134 (kk := ?_)
      refine lv_iload_n hx hb dM_signOne_137 rfl (lv_at hl 0 rfl) ?_
      refine M_aldn hx hb K hM 11 (j := n - 1) (show n - 1 < 120 by omega) (v := nI (dg + 1)) upd_s dM_signOne_138 (kk := ?_)
      refine lv_iconst (v := 4) hx hb dM_signOne_139 (by decide) ?_
      refine lv_icmp_gt (tgt := 147) hx hb dM_signOne_140 (by decide) (fun c_140 => ?_) (fun c_140 => ?_)
      · skip
        have h4 : ¬ dg + 1 ≤ 4 := fun q => absurd c_140 (nI_nlt (a := 4) q (by decide))
        refine lv_iconst (v := 0) hx hb dM_signOne_147 (by decide) ?_
        refine W.zret (v := (0)) hx hb hr rfl (M_endi hM hK hS ?_) hS.2.2 dM_signOne_148
        exact ⟨⟨fun _ _ _ _ => rfl, rfl⟩, Or.inl ⟨rfl, by simp [md_sign, c_87, c_93, h4]⟩⟩
      · skip
        have h4 : dg + 1 ≤ 4 := by rcases Nat.lt_or_ge 4 (dg + 1) with q | q; exact absurd (nI_lt q (by omega)) c_140; exact q
        refine lv_iconst (v := 1) hx hb dM_signOne_143 (by decide) ?_
        refine lv_goto (tgt := 148) hx hb dM_signOne_144 (by decide) ?_
        refine W.zret (v := (1)) hx hb hr rfl (M_endi hM hK hS ?_) hS.2.2 dM_signOne_148
        exact ⟨⟨fun _ _ _ _ => rfl, rfl⟩, Or.inr ⟨rfl, (0, 4, n, pt, fw, mo, nm, dg + 1), by simp [md_sign, c_87, c_93, h4], op, mdQ_digit hQ h4 rfl rfl rfl rfl rfl rfl rfl upd_s⟩⟩
set_option maxHeartbeats 4000000 in
set_option maxRecDepth 100000 in
theorem c_sign4S (l : Launch) (D : va_G) (cl : List vw_C) (tys : List (ClassId × FieldType)) (A : Nat → Prop) (ci tI tZ : Nat) (cI cZ : ClassId) (o : Nat) (ad : Nat → Nat) (fi : Nat → Int32) (fa : Nat → Nat → Int32) (k : Int32) (op : Nat → Nat) (d n : Nat) (pt fw mo : Nat → Nat) (nm : List Nat) (dg : Nat) (hQ : mdQ fi fa op (d + 1) 4 n pt fw mo nm dg) (hn : n < 120) :
    Met l yM_signOne (.code yM_signOne bM_signOne 3 (some .boolean) :: lw_g) ({ frames := 2, cells := 0, slots := 0, locals := 44 }) (va_Pc [.ref o, .int k] (mdPre D cl tys A ci tI tZ cI cZ o ad fi fa)) (va_Qi (md_rez (md_sign k (d + 1, 4, n, pt, fw, mo, nm, dg)) fi fa) (mdB D cl tys A ci cI cZ o ad) A) 0 0 A := by
  refine Met.ofW (cc := bM_signOne) (maxL := 3) (ret := (some .boolean)) (by decide) rfl ?_
  intro p e s m args below meth c s₁ B hml hv
  obtain ⟨rfl, hM, hK, hc, hI, hZ⟩ := hv
  have hx := B.exec
  have hb := B.bytes
  have hr := B.returns
  have hts := atoms_spec (ws := (.code yM_signOne bM_signOne 3 (some .boolean) :: lw_g)) B.pre
  have hown : s.vm.findClass RM = some m.cls := findClass_of_methodNamed B.named
  have K : mdC D cl tys ci tI tZ cI cZ s m _ := ⟨fun w h => hts w (List.mem_cons_of_mem _ h), hown, hK, hc, hI, hZ⟩
  have hlocks := B.notSynchronized
  have hS : va_S A s.heap s.heap [] := va_S.rf
  have hl := lv_entry ([.ref o, .int k]) (n := 3) (Nat.le_of_ble_eq_true rfl)
  rw [lg_entry_eq]
  generalize (lg_sl ([.ref o, .int k]) ++ List.replicate (3 - (lg_sl ([.ref o, .int k])).length) Slot.unset).toArray = ls at hl ⊢
  have hl : lv_has ls 3 [(0, .ref o), (1, .int k)] := hl
  have hn2 := hQ.2.1.2.1
  have hd11 : d + 1 ≤ 12 := hQ.2.1.1
  have hod := (hQ.2.2.1 d (by omega)).1.2
  have hpm := (hQ.2.2.1 d (by omega)).2.2
  obtain ⟨hn0, hdg, hdg4⟩ := hQ.2.2.2.2.2.1 rfl
  refine lv_aload_n hx hb dM_signOne_0 rfl (lv_at hl 0 rfl) ?_
  refine M_getv hx hb K hM 8 (v := nI 4) hQ.1.2.1 kM_f87 dM_signOne_1 (kk := ?_)
  refine lv_bipush (v := 6) hx hb dM_signOne_4 (by decide) ?_
  refine lv_icmp_ne (tgt := 11) hx hb dM_signOne_6 (by decide) (fun c_6 => ?_) (fun c_6 => absurd c_6 (by decide))
  refine lv_aload_n hx hb dM_signOne_11 rfl (lv_at hl 0 rfl) ?_
  refine M_getv hx hb K hM 8 (v := nI 4) hQ.1.2.1 kM_f87 dM_signOne_12 (kk := ?_)
  refine lv_iconst (v := 2) hx hb dM_signOne_15 (by decide) ?_
  refine lv_icmp_ne (tgt := 62) hx hb dM_signOne_16 (by decide) (fun c_16 => ?_) (fun c_16 => absurd c_16 (by decide))
  refine lv_aload_n hx hb dM_signOne_62 rfl (lv_at hl 0 rfl) ?_
  refine M_getv hx hb K hM 8 (v := nI 4) hQ.1.2.1 kM_f87 dM_signOne_63 (kk := ?_)
  refine lv_iconst (v := 3) hx hb dM_signOne_66 (by decide) ?_
  refine lv_icmp_ne (tgt := 76) hx hb dM_signOne_67 (by decide) (fun c_67 => ?_) (fun c_67 => absurd c_67 (by decide))
  refine lv_aload_n hx hb dM_signOne_76 rfl (lv_at hl 0 rfl) ?_
  refine M_getv hx hb K hM 8 (v := nI 4) hQ.1.2.1 kM_f87 dM_signOne_77 (kk := ?_)
  refine lv_iconst (v := 4) hx hb dM_signOne_80 (by decide) ?_
  refine lv_icmp_ne (tgt := 149) hx hb dM_signOne_81 (by decide) (fun c_81 => absurd (by decide) c_81) (fun c_81 => ?_)
  refine lv_iload_n hx hb dM_signOne_84 rfl (lv_at hl 1 rfl) ?_
  refine lv_bipush (v := 48) hx hb dM_signOne_85 (by decide) ?_
  refine lv_icmp_lt (tgt := 149) hx hb dM_signOne_87 (by decide) (fun c_87 => ?_) (fun c_87 => ?_)
  · skip
    refine lv_aload_n hx hb dM_signOne_149 rfl (lv_at hl 0 rfl) ?_
    refine M_getv hx hb K hM 7 (v := nI (d + 1)) hQ.1.1 kM_f84 dM_signOne_150 (kk := ?_)
    refine lv_if_ne (tgt := 177) hx hb dM_signOne_153 (by decide) (fun c_153 => ?_) (fun c_153 => absurd c_153 (nI_ne0 (Nat.succ_pos d) (by omega)))
    refine lv_aload_n hx hb dM_signOne_177 rfl (lv_at hl 0 rfl) ?_
    refine M_getv hx hb K hM 8 (v := nI 4) hQ.1.2.1 kM_f87 dM_signOne_178 (kk := ?_)
    refine lv_iconst (v := 1) hx hb dM_signOne_181 (by decide) ?_
    refine lv_icmp_ne (tgt := 201) hx hb dM_signOne_182 (by decide) (fun c_182 => ?_) (fun c_182 => absurd c_182 (by decide))
    refine lv_aload_n hx hb dM_signOne_201 rfl (lv_at hl 0 rfl) ?_
    refine M_getv hx hb K hM 8 (v := nI 4) hQ.1.2.1 kM_f87 dM_signOne_202 (kk := ?_)
    refine lv_iconst (v := 1) hx hb dM_signOne_205 (by decide) ?_
    refine lv_icmp_eq (tgt := 267) hx hb dM_signOne_206 (by decide) (fun c_206 => absurd c_206 (by decide)) (fun c_206 => ?_)
    refine lv_iload_n hx hb dM_signOne_209 rfl (lv_at hl 1 rfl) ?_
    refine lv_bipush (v := 41) hx hb dM_signOne_210 (by decide) ?_
    refine lv_icmp_ne (tgt := 267) hx hb dM_signOne_212 (by decide) (fun c_212 => ?_) (fun c_212 => ?_)
    · skip
      refine lv_aload_n hx hb dM_signOne_267 rfl (lv_at hl 0 rfl) ?_
      refine lv_iconst (v := 0) hx hb dM_signOne_268 (by decide) ?_
      refine M_puti hx hb K hM hS 8 kM_f87 dM_signOne_269 (kk := fun H locs hM hS => ?_)
      refine lv_iload_n hx hb dM_signOne_272 rfl (lv_at hl 1 rfl) ?_
      refine lv_bipush (v := 32) hx hb dM_signOne_273 (by decide) ?_
      refine lv_icmp_eq (tgt := 286) hx hb dM_signOne_275 (by decide) (fun c_275 => ?_) (fun c_275 => ?_)
      · skip
        refine lv_iconst (v := 1) hx hb dM_signOne_286 (by decide) ?_
        refine lv_goto (tgt := 291) hx hb dM_signOne_287 (by decide) ?_
        refine W.zret (v := (1)) hx hb hr rfl (M_endi hM hK hS ?_) hS.2.2 dM_signOne_291
        exact ⟨⟨fun j h1 h2 h3 => by simp only [up_n h1, up_n h2, up_n h3], rfl⟩, Or.inr ⟨rfl, (d + 1, 0, n, pt, fw, mo, nm, dg), by simp [md_sign, c_87, c_212, c_275], op, mdQ_mode0 hQ rfl rfl rfl rfl rfl rfl rfl⟩⟩
      · skip
        refine lv_aload_n hx hb dM_signOne_278 rfl (lv_at hl 0 rfl) ?_
        refine lv_iload_n hx hb dM_signOne_279 rfl (lv_at hl 1 rfl) ?_
        refine va_calli (M_run (As := [.int k]) (rest := []) (n := 1) hx hb hml K hM (c_beginS l D cl tys A ci tI tZ cI cZ o ad _ _ k op d 0 n pt fw mo nm dg (mdQ_mode0 hQ rfl rfl rfl rfl rfl rfl rfl) hn) kM_c_begin kM_m106 kM_i_begin kM_s_begin rfl rfl ⟨rfl, by decide +kernel⟩ ⟨Nat.le_of_ble_eq_true rfl, Nat.le_of_ble_eq_true rfl⟩ rfl hl.1 rfl (lv_room (Nat.le_of_ble_eq_true rfl)) dM_signOne_280 ⟨Nat.le_of_ble_eq_true rfl, Nat.le_of_ble_eq_true rfl⟩) hS (fun q _ h => h) (fun q h => h) (fun r u t H1 locs1 ht hvm hw hB hz hk hS => ?_)
        obtain ⟨hM, -⟩ := hB
        rw [ht] at hM
        obtain ⟨hFr, ⟨rfl, hv, rfl⟩ | ⟨rfl, t9, hv, hq9⟩⟩ := hw
        · skip
          refine lv_if_eq (tgt := 290) hx hb dM_signOne_283 (by decide) (fun c_283 => ?_) (fun c_283 => absurd rfl c_283)
          refine lv_iconst (v := 0) hx hb dM_signOne_290 (by decide) ?_
          refine W.zret (v := (0)) hx hb hr rfl (M_endi hM hK hS ?_) hS.2.2 dM_signOne_291
          exact ⟨(hFr.m0), Or.inl ⟨rfl, by simpa [md_sign, c_87, c_212, c_275] using hv⟩⟩
        · skip
          refine lv_if_eq (tgt := 290) hx hb dM_signOne_283 (by decide) (fun c_283 => absurd c_283 (by decide)) (fun c_283 => ?_)
          refine lv_iconst (v := 1) hx hb dM_signOne_286 (by decide) ?_
          refine lv_goto (tgt := 291) hx hb dM_signOne_287 (by decide) ?_
          refine W.zret (v := (1)) hx hb hr rfl (M_endi hM hK hS ?_) hS.2.2 dM_signOne_291
          exact ⟨(hFr.m0), Or.inr ⟨rfl, t9, by simpa [md_sign, c_87, c_212, c_275] using hv, hq9⟩⟩
    · skip
      refine lv_aload_n hx hb dM_signOne_215 rfl (lv_at hl 0 rfl) ?_
      refine M_geta hx hb K hM 4 kM_f16 dM_signOne_216 (kk := ?_)
      refine lv_aload_n hx hb dM_signOne_219 rfl (lv_at hl 0 rfl) ?_
      refine M_getv hx hb K hM 7 (v := nI (d + 1)) hQ.1.1 kM_f84 dM_signOne_220 (kk := ?_)
      refine lv_iconst (v := 1) hx hb dM_signOne_223 (by decide) ?_
      refine lv_isub hx hb dM_signOne_224 ?_
      refine lv_as (v := nI d) (nI_pred d) ?_
      refine M_aldn hx hb K hM 4 (j := d) (show d < 13 by omega) (v := nI (pt d)) (hQ.2.2.1 d (by omega)).2.1.1 dM_signOne_225 (kk := ?_)
      refine lv_aload_n hx hb dM_signOne_226 rfl (lv_at hl 0 rfl) ?_
      refine M_geta hx hb K hM 5 kM_f19 dM_signOne_227 (kk := ?_)
      refine lv_aload_n hx hb dM_signOne_230 rfl (lv_at hl 0 rfl) ?_
      refine M_getv hx hb K hM 7 (v := nI (d + 1)) hQ.1.1 kM_f84 dM_signOne_231 (kk := ?_)
      refine lv_iconst (v := 1) hx hb dM_signOne_234 (by decide) ?_
      refine lv_isub hx hb dM_signOne_235 ?_
      refine lv_as (v := nI d) (nI_pred d) ?_
      refine M_aldn hx hb K hM 5 (j := d) (show d < 13 by omega) (v := nI (fw d)) (hQ.2.2.1 d (by omega)).2.1.2.1 dM_signOne_236 (kk := ?_)
      refine lv_icmp_ge (tgt := 242) hx hb dM_signOne_237 (by decide) (fun c_237 => ?_) (fun c_237 => ?_)
      · skip
        have hlt : ¬ pt d < fw d := fun q => absurd c_237 (nI_ge q (by omega))
        refine lv_aload_n hx hb dM_signOne_242 rfl (lv_at hl 0 rfl) ?_
        refine lv_dup hx hb dM_signOne_243 rfl ?_
        refine M_getv hx hb K hM 7 (v := nI (d + 1)) hQ.1.1 kM_f84 dM_signOne_244 (kk := ?_)
        refine lv_iconst (v := 1) hx hb dM_signOne_247 (by decide) ?_
        refine lv_isub hx hb dM_signOne_248 ?_
        refine lv_as (v := nI d) (nI_pred d) ?_
        refine M_puti hx hb K hM hS 7 kM_f84 dM_signOne_249 (kk := fun H locs hM hS => ?_)
        refine lv_aload_n hx hb dM_signOne_252 rfl (lv_at hl 0 rfl) ?_
        refine lv_aload_n hx hb dM_signOne_253 rfl (lv_at hl 0 rfl) ?_
        refine M_geta hx hb K hM 3 kM_f13 dM_signOne_254 (kk := ?_)
        refine lv_aload_n hx hb dM_signOne_257 rfl (lv_at hl 0 rfl) ?_
        refine M_getv hx hb K hM 7 (v := nI d) rfl kM_f84 dM_signOne_258 (kk := ?_)
        refine M_aldn hx hb K hM 3 (j := d) (show d < 13 by omega) (v := nI (op d)) (hQ.2.2.1 d (by omega)).1.1 dM_signOne_261 (kk := ?_)
        refine va_callv (M_run (As := [.int (nI (op d))]) (rest := []) (n := 1) hx hb hml K hM (c_attachC l D cl tys A ci tI tZ cI cZ o ad _ _ (nI (op d)) d op pt rfl (by omega) (fun h => by have q := hQ.2.2.1 (d - 1) (by omega); have q2 := hQ.2.2.2.1 (d - 1) (by omega); exact ⟨q.1.1, by omega, q.2.1.1, by omega⟩)) kM_c_attach kM_m94 kM_i_attach kM_s_attach rfl rfl ⟨rfl, by decide +kernel⟩ ⟨Nat.le_of_ble_eq_true rfl, Nat.le_of_ble_eq_true rfl⟩ rfl hl.1 rfl (lv_room (Nat.le_of_ble_eq_true rfl)) dM_signOne_262 ⟨Nat.le_of_ble_eq_true rfl, Nat.le_of_ble_eq_true rfl⟩) hS (fun q _ h => h) (fun q h => h) (fun u t H1 locs1 ht hvm hw hB hz hk hS => ?_)
        obtain ⟨hM, -⟩ := hB
        rw [ht] at hM
        obtain ⟨rfl, rfl⟩ | ⟨h0, g, rfl⟩ := hw
        · skip
          dsimp only at hM
          refine lv_iconst (v := 1) hx hb dM_signOne_265 (by decide) ?_
          refine W.zret (v := (1)) hx hb hr rfl (M_endi hM hK hS ?_) hS.2.2 dM_signOne_266
          exact ⟨⟨fun j h1 h2 h3 => by simp only [up_n h1, up_n h2, up_n h3], rfl⟩, Or.inr ⟨rfl, (0, 6, n, pt, fw, mo, nm, dg), by simp [md_sign, md_add, c_87, c_212, hlt], op, mdQ_close0 hQ rfl rfl rfl⟩⟩
        · skip
          obtain ⟨e2, rfl⟩ : ∃ z, d = z + 1 := ⟨d - 1, by omega⟩
          dsimp only at hM
          refine lv_iconst (v := 1) hx hb dM_signOne_265 (by decide) ?_
          refine W.zret (v := (1)) hx hb hr rfl (M_endi hM hK hS ?_) hS.2.2 dM_signOne_266
          exact ⟨⟨fun j h1 h2 h3 => by simp only [up_n h1, up_n h2, up_n h3], rfl⟩, Or.inr ⟨rfl, (e2 + 1, 0, n, va_up pt e2 (pt e2 + 1), fw, mo, nm, dg), by simp [md_sign, md_add, c_87, c_212, hlt], op, mdQ_closeS hQ rfl rfl rfl rfl rfl rfl rfl⟩⟩
      · skip
        have hlt : pt d < fw d := by rcases Nat.lt_or_ge (pt d) (fw d) with q | q; exact q; exact absurd (nI_le q (by omega)) c_237
        refine lv_iconst (v := 0) hx hb dM_signOne_240 (by decide) ?_
        refine W.zret (v := (0)) hx hb hr rfl (M_endi hM hK hS ?_) hS.2.2 dM_signOne_241
        exact ⟨mdFr.rf, Or.inl ⟨rfl, by simp [md_sign, c_87, c_212, hlt]⟩⟩
  · skip
    refine lv_iload_n hx hb dM_signOne_90 rfl (lv_at hl 1 rfl) ?_
    refine lv_bipush (v := 57) hx hb dM_signOne_91 (by decide) ?_
    refine lv_icmp_gt (tgt := 149) hx hb dM_signOne_93 (by decide) (fun c_93 => ?_) (fun c_93 => ?_)
    · skip
      refine lv_aload_n hx hb dM_signOne_149 rfl (lv_at hl 0 rfl) ?_
      refine M_getv hx hb K hM 7 (v := nI (d + 1)) hQ.1.1 kM_f84 dM_signOne_150 (kk := ?_)
      refine lv_if_ne (tgt := 177) hx hb dM_signOne_153 (by decide) (fun c_153 => ?_) (fun c_153 => absurd c_153 (nI_ne0 (Nat.succ_pos d) (by omega)))
      refine lv_aload_n hx hb dM_signOne_177 rfl (lv_at hl 0 rfl) ?_
      refine M_getv hx hb K hM 8 (v := nI 4) hQ.1.2.1 kM_f87 dM_signOne_178 (kk := ?_)
      refine lv_iconst (v := 1) hx hb dM_signOne_181 (by decide) ?_
      refine lv_icmp_ne (tgt := 201) hx hb dM_signOne_182 (by decide) (fun c_182 => ?_) (fun c_182 => absurd c_182 (by decide))
      refine lv_aload_n hx hb dM_signOne_201 rfl (lv_at hl 0 rfl) ?_
      refine M_getv hx hb K hM 8 (v := nI 4) hQ.1.2.1 kM_f87 dM_signOne_202 (kk := ?_)
      refine lv_iconst (v := 1) hx hb dM_signOne_205 (by decide) ?_
      refine lv_icmp_eq (tgt := 267) hx hb dM_signOne_206 (by decide) (fun c_206 => absurd c_206 (by decide)) (fun c_206 => ?_)
      refine lv_iload_n hx hb dM_signOne_209 rfl (lv_at hl 1 rfl) ?_
      refine lv_bipush (v := 41) hx hb dM_signOne_210 (by decide) ?_
      refine lv_icmp_ne (tgt := 267) hx hb dM_signOne_212 (by decide) (fun c_212 => ?_) (fun c_212 => ?_)
      · skip
        refine lv_aload_n hx hb dM_signOne_267 rfl (lv_at hl 0 rfl) ?_
        refine lv_iconst (v := 0) hx hb dM_signOne_268 (by decide) ?_
        refine M_puti hx hb K hM hS 8 kM_f87 dM_signOne_269 (kk := fun H locs hM hS => ?_)
        refine lv_iload_n hx hb dM_signOne_272 rfl (lv_at hl 1 rfl) ?_
        refine lv_bipush (v := 32) hx hb dM_signOne_273 (by decide) ?_
        refine lv_icmp_eq (tgt := 286) hx hb dM_signOne_275 (by decide) (fun c_275 => ?_) (fun c_275 => ?_)
        · skip
          refine lv_iconst (v := 1) hx hb dM_signOne_286 (by decide) ?_
          refine lv_goto (tgt := 291) hx hb dM_signOne_287 (by decide) ?_
          refine W.zret (v := (1)) hx hb hr rfl (M_endi hM hK hS ?_) hS.2.2 dM_signOne_291
          exact ⟨⟨fun j h1 h2 h3 => by simp only [up_n h1, up_n h2, up_n h3], rfl⟩, Or.inr ⟨rfl, (d + 1, 0, n, pt, fw, mo, nm, dg), by simp [md_sign, c_87, c_93, c_212, c_275], op, mdQ_mode0 hQ rfl rfl rfl rfl rfl rfl rfl⟩⟩
        · skip
          refine lv_aload_n hx hb dM_signOne_278 rfl (lv_at hl 0 rfl) ?_
          refine lv_iload_n hx hb dM_signOne_279 rfl (lv_at hl 1 rfl) ?_
          refine va_calli (M_run (As := [.int k]) (rest := []) (n := 1) hx hb hml K hM (c_beginS l D cl tys A ci tI tZ cI cZ o ad _ _ k op d 0 n pt fw mo nm dg (mdQ_mode0 hQ rfl rfl rfl rfl rfl rfl rfl) hn) kM_c_begin kM_m106 kM_i_begin kM_s_begin rfl rfl ⟨rfl, by decide +kernel⟩ ⟨Nat.le_of_ble_eq_true rfl, Nat.le_of_ble_eq_true rfl⟩ rfl hl.1 rfl (lv_room (Nat.le_of_ble_eq_true rfl)) dM_signOne_280 ⟨Nat.le_of_ble_eq_true rfl, Nat.le_of_ble_eq_true rfl⟩) hS (fun q _ h => h) (fun q h => h) (fun r u t H1 locs1 ht hvm hw hB hz hk hS => ?_)
          obtain ⟨hM, -⟩ := hB
          rw [ht] at hM
          obtain ⟨hFr, ⟨rfl, hv, rfl⟩ | ⟨rfl, t9, hv, hq9⟩⟩ := hw
          · skip
            refine lv_if_eq (tgt := 290) hx hb dM_signOne_283 (by decide) (fun c_283 => ?_) (fun c_283 => absurd rfl c_283)
            refine lv_iconst (v := 0) hx hb dM_signOne_290 (by decide) ?_
            refine W.zret (v := (0)) hx hb hr rfl (M_endi hM hK hS ?_) hS.2.2 dM_signOne_291
            exact ⟨(hFr.m0), Or.inl ⟨rfl, by simpa [md_sign, c_87, c_93, c_212, c_275] using hv⟩⟩
          · skip
            refine lv_if_eq (tgt := 290) hx hb dM_signOne_283 (by decide) (fun c_283 => absurd c_283 (by decide)) (fun c_283 => ?_)
            refine lv_iconst (v := 1) hx hb dM_signOne_286 (by decide) ?_
            refine lv_goto (tgt := 291) hx hb dM_signOne_287 (by decide) ?_
            refine W.zret (v := (1)) hx hb hr rfl (M_endi hM hK hS ?_) hS.2.2 dM_signOne_291
            exact ⟨(hFr.m0), Or.inr ⟨rfl, t9, by simpa [md_sign, c_87, c_93, c_212, c_275] using hv, hq9⟩⟩
      · skip
        refine lv_aload_n hx hb dM_signOne_215 rfl (lv_at hl 0 rfl) ?_
        refine M_geta hx hb K hM 4 kM_f16 dM_signOne_216 (kk := ?_)
        refine lv_aload_n hx hb dM_signOne_219 rfl (lv_at hl 0 rfl) ?_
        refine M_getv hx hb K hM 7 (v := nI (d + 1)) hQ.1.1 kM_f84 dM_signOne_220 (kk := ?_)
        refine lv_iconst (v := 1) hx hb dM_signOne_223 (by decide) ?_
        refine lv_isub hx hb dM_signOne_224 ?_
        refine lv_as (v := nI d) (nI_pred d) ?_
        refine M_aldn hx hb K hM 4 (j := d) (show d < 13 by omega) (v := nI (pt d)) (hQ.2.2.1 d (by omega)).2.1.1 dM_signOne_225 (kk := ?_)
        refine lv_aload_n hx hb dM_signOne_226 rfl (lv_at hl 0 rfl) ?_
        refine M_geta hx hb K hM 5 kM_f19 dM_signOne_227 (kk := ?_)
        refine lv_aload_n hx hb dM_signOne_230 rfl (lv_at hl 0 rfl) ?_
        refine M_getv hx hb K hM 7 (v := nI (d + 1)) hQ.1.1 kM_f84 dM_signOne_231 (kk := ?_)
        refine lv_iconst (v := 1) hx hb dM_signOne_234 (by decide) ?_
        refine lv_isub hx hb dM_signOne_235 ?_
        refine lv_as (v := nI d) (nI_pred d) ?_
        refine M_aldn hx hb K hM 5 (j := d) (show d < 13 by omega) (v := nI (fw d)) (hQ.2.2.1 d (by omega)).2.1.2.1 dM_signOne_236 (kk := ?_)
        refine lv_icmp_ge (tgt := 242) hx hb dM_signOne_237 (by decide) (fun c_237 => ?_) (fun c_237 => ?_)
        · skip
          have hlt : ¬ pt d < fw d := fun q => absurd c_237 (nI_ge q (by omega))
          refine lv_aload_n hx hb dM_signOne_242 rfl (lv_at hl 0 rfl) ?_
          refine lv_dup hx hb dM_signOne_243 rfl ?_
          refine M_getv hx hb K hM 7 (v := nI (d + 1)) hQ.1.1 kM_f84 dM_signOne_244 (kk := ?_)
          refine lv_iconst (v := 1) hx hb dM_signOne_247 (by decide) ?_
          refine lv_isub hx hb dM_signOne_248 ?_
          refine lv_as (v := nI d) (nI_pred d) ?_
          refine M_puti hx hb K hM hS 7 kM_f84 dM_signOne_249 (kk := fun H locs hM hS => ?_)
          refine lv_aload_n hx hb dM_signOne_252 rfl (lv_at hl 0 rfl) ?_
          refine lv_aload_n hx hb dM_signOne_253 rfl (lv_at hl 0 rfl) ?_
          refine M_geta hx hb K hM 3 kM_f13 dM_signOne_254 (kk := ?_)
          refine lv_aload_n hx hb dM_signOne_257 rfl (lv_at hl 0 rfl) ?_
          refine M_getv hx hb K hM 7 (v := nI d) rfl kM_f84 dM_signOne_258 (kk := ?_)
          refine M_aldn hx hb K hM 3 (j := d) (show d < 13 by omega) (v := nI (op d)) (hQ.2.2.1 d (by omega)).1.1 dM_signOne_261 (kk := ?_)
          refine va_callv (M_run (As := [.int (nI (op d))]) (rest := []) (n := 1) hx hb hml K hM (c_attachC l D cl tys A ci tI tZ cI cZ o ad _ _ (nI (op d)) d op pt rfl (by omega) (fun h => by have q := hQ.2.2.1 (d - 1) (by omega); have q2 := hQ.2.2.2.1 (d - 1) (by omega); exact ⟨q.1.1, by omega, q.2.1.1, by omega⟩)) kM_c_attach kM_m94 kM_i_attach kM_s_attach rfl rfl ⟨rfl, by decide +kernel⟩ ⟨Nat.le_of_ble_eq_true rfl, Nat.le_of_ble_eq_true rfl⟩ rfl hl.1 rfl (lv_room (Nat.le_of_ble_eq_true rfl)) dM_signOne_262 ⟨Nat.le_of_ble_eq_true rfl, Nat.le_of_ble_eq_true rfl⟩) hS (fun q _ h => h) (fun q h => h) (fun u t H1 locs1 ht hvm hw hB hz hk hS => ?_)
          obtain ⟨hM, -⟩ := hB
          rw [ht] at hM
          obtain ⟨rfl, rfl⟩ | ⟨h0, g, rfl⟩ := hw
          · skip
            dsimp only at hM
            refine lv_iconst (v := 1) hx hb dM_signOne_265 (by decide) ?_
            refine W.zret (v := (1)) hx hb hr rfl (M_endi hM hK hS ?_) hS.2.2 dM_signOne_266
            exact ⟨⟨fun j h1 h2 h3 => by simp only [up_n h1, up_n h2, up_n h3], rfl⟩, Or.inr ⟨rfl, (0, 6, n, pt, fw, mo, nm, dg), by simp [md_sign, md_add, c_87, c_93, c_212, hlt], op, mdQ_close0 hQ rfl rfl rfl⟩⟩
          · skip
            obtain ⟨e2, rfl⟩ : ∃ z, d = z + 1 := ⟨d - 1, by omega⟩
            dsimp only at hM
            refine lv_iconst (v := 1) hx hb dM_signOne_265 (by decide) ?_
            refine W.zret (v := (1)) hx hb hr rfl (M_endi hM hK hS ?_) hS.2.2 dM_signOne_266
            exact ⟨⟨fun j h1 h2 h3 => by simp only [up_n h1, up_n h2, up_n h3], rfl⟩, Or.inr ⟨rfl, (e2 + 1, 0, n, va_up pt e2 (pt e2 + 1), fw, mo, nm, dg), by simp [md_sign, md_add, c_87, c_93, c_212, hlt], op, mdQ_closeS hQ rfl rfl rfl rfl rfl rfl rfl⟩⟩
        · skip
          have hlt : pt d < fw d := by rcases Nat.lt_or_ge (pt d) (fw d) with q | q; exact q; exact absurd (nI_le q (by omega)) c_237
          refine lv_iconst (v := 0) hx hb dM_signOne_240 (by decide) ?_
          refine W.zret (v := (0)) hx hb hr rfl (M_endi hM hK hS ?_) hS.2.2 dM_signOne_241
          exact ⟨mdFr.rf, Or.inl ⟨rfl, by simp [md_sign, c_87, c_93, c_212, hlt]⟩⟩
    · skip
      refine lv_aload_n hx hb dM_signOne_96 rfl (lv_at hl 0 rfl) ?_
      refine M_getv hx hb K hM 13 (v := nI n) hQ.1.2.2 kM_f81 dM_signOne_97 (kk := ?_)
      refine lv_iconst (v := 1) hx hb dM_signOne_100 (by decide) ?_
      refine lv_isub hx hb dM_signOne_101 ?_
      refine lv_as (v := nI (n - 1)) (md_pred hn0) ?_
      refine lv_istore_n (lv' := [(2, .int (nI (n - 1))), (0, .ref o), (1, .int k)]) hx hb dM_signOne_102 rfl hl (by decide) rfl (fun ls hl => ?_)
      refine lv_aload_n hx hb dM_signOne_103 rfl (lv_at hl 1 rfl) ?_
      refine M_geta hx hb K hM 10 kM_f28 dM_signOne_104 (kk := ?_)
      refine lv_iload_n hx hb dM_signOne_107 rfl (lv_at hl 0 rfl) ?_
      refine lv_aload_n hx hb dM_signOne_108 rfl (lv_at hl 1 rfl) ?_
      refine M_geta hx hb K hM 10 kM_f28 dM_signOne_109 (kk := ?_)
      refine lv_iload_n hx hb dM_signOne_112 rfl (lv_at hl 0 rfl) ?_
      refine M_aldn hx hb K hM 10 (j := n - 1) (show n - 1 < 120 by omega) (v := fa 10 (n - 1)) rfl dM_signOne_113 (kk := ?_)
      refine lv_bipush (v := 10) hx hb dM_signOne_114 (by decide) ?_
      refine lv_imul hx hb dM_signOne_116 ?_
      refine lv_iload_n hx hb dM_signOne_117 rfl (lv_at hl 2 rfl) ?_
      refine lv_iadd hx hb dM_signOne_118 ?_
      refine lv_bipush (v := 48) hx hb dM_signOne_119 (by decide) ?_
      refine lv_isub hx hb dM_signOne_121 ?_
      refine M_astn hx hb K hM hS 10 (j := n - 1) (show n - 1 < 120 by omega) dM_signOne_122 (kk := fun H locs hM hS => ?_)
      refine lv_aload_n hx hb dM_signOne_123 rfl (lv_at hl 1 rfl) ?_
      refine M_geta hx hb K hM 11 kM_f31 dM_signOne_124 (kk := ?_)
      refine lv_iload_n hx hb dM_signOne_127 rfl (lv_at hl 0 rfl) ?_
      refine lv_dup2_11 hx hb dM_signOne_128 rfl rfl ?_
      refine M_aldn hx hb K hM 11 (j := n - 1) (show n - 1 < 120 by omega) (v := nI dg) hdg dM_signOne_129 (kk := ?_)
      refine lv_iconst (v := 1) hx hb dM_signOne_130 (by decide) ?_
      refine lv_iadd hx hb dM_signOne_131 ?_
      refine lv_as (v := nI (dg + 1)) (nI_1 dg) ?_
      refine M_astn hx hb K hM hS 11 (j := n - 1) (show n - 1 < 120 by omega) dM_signOne_132 (kk := fun H locs hM hS => ?_)
      refine lv_aload_n hx hb dM_signOne_133 rfl (lv_at hl 1 rfl) ?_
      refine M_geta hx hb K hM 11 kM_f31 dM_signOne_134 (kk := ?_)
      refine lv_iload_n hx hb dM_signOne_137 rfl (lv_at hl 0 rfl) ?_
      refine M_aldn hx hb K hM 11 (j := n - 1) (show n - 1 < 120 by omega) (v := nI (dg + 1)) upd_s dM_signOne_138 (kk := ?_)
      refine lv_iconst (v := 4) hx hb dM_signOne_139 (by decide) ?_
      refine lv_icmp_gt (tgt := 147) hx hb dM_signOne_140 (by decide) (fun c_140 => ?_) (fun c_140 => ?_)
      · skip
        have h4 : ¬ dg + 1 ≤ 4 := fun q => absurd c_140 (nI_nlt (a := 4) q (by decide))
        refine lv_iconst (v := 0) hx hb dM_signOne_147 (by decide) ?_
        refine W.zret (v := (0)) hx hb hr rfl (M_endi hM hK hS ?_) hS.2.2 dM_signOne_148
        exact ⟨⟨fun _ _ _ _ => rfl, rfl⟩, Or.inl ⟨rfl, by simp [md_sign, c_87, c_93, h4]⟩⟩
      · skip
        have h4 : dg + 1 ≤ 4 := by rcases Nat.lt_or_ge 4 (dg + 1) with q | q; exact absurd (nI_lt q (by omega)) c_140; exact q
        refine lv_iconst (v := 1) hx hb dM_signOne_143 (by decide) ?_
        refine lv_goto (tgt := 148) hx hb dM_signOne_144 (by decide) ?_
        refine W.zret (v := (1)) hx hb hr rfl (M_endi hM hK hS ?_) hS.2.2 dM_signOne_148
        exact ⟨⟨fun _ _ _ _ => rfl, rfl⟩, Or.inr ⟨rfl, ((d + 1), 4, n, pt, fw, mo, nm, dg + 1), by simp [md_sign, c_87, c_93, h4], op, mdQ_digit hQ h4 rfl rfl rfl rfl rfl rfl rfl upd_s⟩⟩
set_option maxHeartbeats 4000000 in
set_option maxRecDepth 100000 in
theorem c_sign00 (l : Launch) (D : va_G) (cl : List vw_C) (tys : List (ClassId × FieldType)) (A : Nat → Prop) (ci tI tZ : Nat) (cI cZ : ClassId) (o : Nat) (ad : Nat → Nat) (fi : Nat → Int32) (fa : Nat → Nat → Int32) (k : Int32) (op : Nat → Nat) (n : Nat) (pt fw mo : Nat → Nat) (nm : List Nat) (dg : Nat) (hQ : mdQ fi fa op 0 0 n pt fw mo nm dg) (hn : n < 120) :
    Met l yM_signOne (.code yM_signOne bM_signOne 3 (some .boolean) :: lw_g) ({ frames := 2, cells := 0, slots := 0, locals := 44 }) (va_Pc [.ref o, .int k] (mdPre D cl tys A ci tI tZ cI cZ o ad fi fa)) (va_Qi (md_rez (md_sign k (0, 0, n, pt, fw, mo, nm, dg)) fi fa) (mdB D cl tys A ci cI cZ o ad) A) 0 0 A := by
  refine Met.ofW (cc := bM_signOne) (maxL := 3) (ret := (some .boolean)) (by decide) rfl ?_
  intro p e s m args below meth c s₁ B hml hv
  obtain ⟨rfl, hM, hK, hc, hI, hZ⟩ := hv
  have hx := B.exec
  have hb := B.bytes
  have hr := B.returns
  have hts := atoms_spec (ws := (.code yM_signOne bM_signOne 3 (some .boolean) :: lw_g)) B.pre
  have hown : s.vm.findClass RM = some m.cls := findClass_of_methodNamed B.named
  have K : mdC D cl tys ci tI tZ cI cZ s m _ := ⟨fun w h => hts w (List.mem_cons_of_mem _ h), hown, hK, hc, hI, hZ⟩
  have hlocks := B.notSynchronized
  have hS : va_S A s.heap s.heap [] := va_S.rf
  have hl := lv_entry ([.ref o, .int k]) (n := 3) (Nat.le_of_ble_eq_true rfl)
  rw [lg_entry_eq]
  generalize (lg_sl ([.ref o, .int k]) ++ List.replicate (3 - (lg_sl ([.ref o, .int k])).length) Slot.unset).toArray = ls at hl ⊢
  have hl : lv_has ls 3 [(0, .ref o), (1, .int k)] := hl
  have hn2 := hQ.2.1.2.1
  refine lv_aload_n hx hb dM_signOne_0 rfl (lv_at hl 0 rfl) ?_
  refine M_getv hx hb K hM 8 (v := nI 0) hQ.1.2.1 kM_f87 dM_signOne_1 (kk := ?_)
  refine lv_bipush (v := 6) hx hb dM_signOne_4 (by decide) ?_
  refine lv_icmp_ne (tgt := 11) hx hb dM_signOne_6 (by decide) (fun c_6 => ?_) (fun c_6 => absurd c_6 (by decide))
  refine lv_aload_n hx hb dM_signOne_11 rfl (lv_at hl 0 rfl) ?_
  refine M_getv hx hb K hM 8 (v := nI 0) hQ.1.2.1 kM_f87 dM_signOne_12 (kk := ?_)
  refine lv_iconst (v := 2) hx hb dM_signOne_15 (by decide) ?_
  refine lv_icmp_ne (tgt := 62) hx hb dM_signOne_16 (by decide) (fun c_16 => ?_) (fun c_16 => absurd c_16 (by decide))
  refine lv_aload_n hx hb dM_signOne_62 rfl (lv_at hl 0 rfl) ?_
  refine M_getv hx hb K hM 8 (v := nI 0) hQ.1.2.1 kM_f87 dM_signOne_63 (kk := ?_)
  refine lv_iconst (v := 3) hx hb dM_signOne_66 (by decide) ?_
  refine lv_icmp_ne (tgt := 76) hx hb dM_signOne_67 (by decide) (fun c_67 => ?_) (fun c_67 => absurd c_67 (by decide))
  refine lv_aload_n hx hb dM_signOne_76 rfl (lv_at hl 0 rfl) ?_
  refine M_getv hx hb K hM 8 (v := nI 0) hQ.1.2.1 kM_f87 dM_signOne_77 (kk := ?_)
  refine lv_iconst (v := 4) hx hb dM_signOne_80 (by decide) ?_
  refine lv_icmp_ne (tgt := 149) hx hb dM_signOne_81 (by decide) (fun c_81 => ?_) (fun c_81 => absurd c_81 (by decide))
  refine lv_aload_n hx hb dM_signOne_149 rfl (lv_at hl 0 rfl) ?_
  refine M_getv hx hb K hM 7 (v := nI 0) hQ.1.1 kM_f84 dM_signOne_150 (kk := ?_)
  refine lv_if_ne (tgt := 177) hx hb dM_signOne_153 (by decide) (fun c_153 => absurd (by decide) c_153) (fun c_153 => ?_)
  refine lv_aload_n hx hb dM_signOne_156 rfl (lv_at hl 0 rfl) ?_
  refine M_getv hx hb K hM 8 (v := nI 0) hQ.1.2.1 kM_f87 dM_signOne_157 (kk := ?_)
  refine lv_if_ne (tgt := 175) hx hb dM_signOne_160 (by decide) (fun c_160 => absurd (by decide) c_160) (fun c_160 => ?_)
  refine lv_aload_n hx hb dM_signOne_163 rfl (lv_at hl 0 rfl) ?_
  refine lv_iload_n hx hb dM_signOne_164 rfl (lv_at hl 1 rfl) ?_
  refine va_calli (M_run (As := [.int k]) (rest := []) (n := 1) hx hb hml K hM (c_begin0 l D cl tys A ci tI tZ cI cZ o ad _ _ k op 0 n pt fw mo nm dg hQ hn) kM_c_begin kM_m106 kM_i_begin kM_s_begin rfl rfl ⟨rfl, by decide +kernel⟩ ⟨Nat.le_of_ble_eq_true rfl, Nat.le_of_ble_eq_true rfl⟩ rfl hl.1 rfl (lv_room (Nat.le_of_ble_eq_true rfl)) dM_signOne_165 ⟨Nat.le_of_ble_eq_true rfl, Nat.le_of_ble_eq_true rfl⟩) hS (fun q _ h => h) (fun q h => h) (fun r u t H1 locs1 ht hvm hw hB hz hk hS => ?_)
  obtain ⟨hM, -⟩ := hB
  rw [ht] at hM
  obtain ⟨hFr, ⟨rfl, hv, rfl⟩ | ⟨rfl, t9, hv, hq9⟩⟩ := hw
  · skip
    refine lv_if_eq (tgt := 175) hx hb dM_signOne_168 (by decide) (fun c_168 => ?_) (fun c_168 => absurd rfl c_168)
    refine lv_iconst (v := 0) hx hb dM_signOne_175 (by decide) ?_
    refine W.zret (v := (0)) hx hb hr rfl (M_endi hM hK hS ?_) hS.2.2 dM_signOne_176
    exact ⟨hFr, Or.inl ⟨rfl, by simpa [md_sign] using hv⟩⟩
  · skip
    refine lv_if_eq (tgt := 175) hx hb dM_signOne_168 (by decide) (fun c_168 => absurd c_168 (by decide)) (fun c_168 => ?_)
    refine lv_iconst (v := 1) hx hb dM_signOne_171 (by decide) ?_
    refine lv_goto (tgt := 176) hx hb dM_signOne_172 (by decide) ?_
    refine W.zret (v := (1)) hx hb hr rfl (M_endi hM hK hS ?_) hS.2.2 dM_signOne_176
    exact ⟨hFr, Or.inr ⟨rfl, t9, by simpa [md_sign] using hv, hq9⟩⟩
set_option maxHeartbeats 4000000 in
set_option maxRecDepth 100000 in
theorem c_sign0S (l : Launch) (D : va_G) (cl : List vw_C) (tys : List (ClassId × FieldType)) (A : Nat → Prop) (ci tI tZ : Nat) (cI cZ : ClassId) (o : Nat) (ad : Nat → Nat) (fi : Nat → Int32) (fa : Nat → Nat → Int32) (k : Int32) (op : Nat → Nat) (d n : Nat) (pt fw mo : Nat → Nat) (nm : List Nat) (dg : Nat) (hQ : mdQ fi fa op (d + 1) 0 n pt fw mo nm dg) (hn : n < 120) :
    Met l yM_signOne (.code yM_signOne bM_signOne 3 (some .boolean) :: lw_g) ({ frames := 2, cells := 0, slots := 0, locals := 44 }) (va_Pc [.ref o, .int k] (mdPre D cl tys A ci tI tZ cI cZ o ad fi fa)) (va_Qi (md_rez (md_sign k (d + 1, 0, n, pt, fw, mo, nm, dg)) fi fa) (mdB D cl tys A ci cI cZ o ad) A) 0 0 A := by
  refine Met.ofW (cc := bM_signOne) (maxL := 3) (ret := (some .boolean)) (by decide) rfl ?_
  intro p e s m args below meth c s₁ B hml hv
  obtain ⟨rfl, hM, hK, hc, hI, hZ⟩ := hv
  have hx := B.exec
  have hb := B.bytes
  have hr := B.returns
  have hts := atoms_spec (ws := (.code yM_signOne bM_signOne 3 (some .boolean) :: lw_g)) B.pre
  have hown : s.vm.findClass RM = some m.cls := findClass_of_methodNamed B.named
  have K : mdC D cl tys ci tI tZ cI cZ s m _ := ⟨fun w h => hts w (List.mem_cons_of_mem _ h), hown, hK, hc, hI, hZ⟩
  have hlocks := B.notSynchronized
  have hS : va_S A s.heap s.heap [] := va_S.rf
  have hl := lv_entry ([.ref o, .int k]) (n := 3) (Nat.le_of_ble_eq_true rfl)
  rw [lg_entry_eq]
  generalize (lg_sl ([.ref o, .int k]) ++ List.replicate (3 - (lg_sl ([.ref o, .int k])).length) Slot.unset).toArray = ls at hl ⊢
  have hl : lv_has ls 3 [(0, .ref o), (1, .int k)] := hl
  have hn2 := hQ.2.1.2.1
  have hd11 : d + 1 ≤ 12 := hQ.2.1.1
  have hod := (hQ.2.2.1 d (by omega)).1.2
  have hpm := (hQ.2.2.1 d (by omega)).2.2
  refine lv_aload_n hx hb dM_signOne_0 rfl (lv_at hl 0 rfl) ?_
  refine M_getv hx hb K hM 8 (v := nI 0) hQ.1.2.1 kM_f87 dM_signOne_1 (kk := ?_)
  refine lv_bipush (v := 6) hx hb dM_signOne_4 (by decide) ?_
  refine lv_icmp_ne (tgt := 11) hx hb dM_signOne_6 (by decide) (fun c_6 => ?_) (fun c_6 => absurd c_6 (by decide))
  refine lv_aload_n hx hb dM_signOne_11 rfl (lv_at hl 0 rfl) ?_
  refine M_getv hx hb K hM 8 (v := nI 0) hQ.1.2.1 kM_f87 dM_signOne_12 (kk := ?_)
  refine lv_iconst (v := 2) hx hb dM_signOne_15 (by decide) ?_
  refine lv_icmp_ne (tgt := 62) hx hb dM_signOne_16 (by decide) (fun c_16 => ?_) (fun c_16 => absurd c_16 (by decide))
  refine lv_aload_n hx hb dM_signOne_62 rfl (lv_at hl 0 rfl) ?_
  refine M_getv hx hb K hM 8 (v := nI 0) hQ.1.2.1 kM_f87 dM_signOne_63 (kk := ?_)
  refine lv_iconst (v := 3) hx hb dM_signOne_66 (by decide) ?_
  refine lv_icmp_ne (tgt := 76) hx hb dM_signOne_67 (by decide) (fun c_67 => ?_) (fun c_67 => absurd c_67 (by decide))
  refine lv_aload_n hx hb dM_signOne_76 rfl (lv_at hl 0 rfl) ?_
  refine M_getv hx hb K hM 8 (v := nI 0) hQ.1.2.1 kM_f87 dM_signOne_77 (kk := ?_)
  refine lv_iconst (v := 4) hx hb dM_signOne_80 (by decide) ?_
  refine lv_icmp_ne (tgt := 149) hx hb dM_signOne_81 (by decide) (fun c_81 => ?_) (fun c_81 => absurd c_81 (by decide))
  refine lv_aload_n hx hb dM_signOne_149 rfl (lv_at hl 0 rfl) ?_
  refine M_getv hx hb K hM 7 (v := nI (d + 1)) hQ.1.1 kM_f84 dM_signOne_150 (kk := ?_)
  refine lv_if_ne (tgt := 177) hx hb dM_signOne_153 (by decide) (fun c_153 => ?_) (fun c_153 => absurd c_153 (nI_ne0 (Nat.succ_pos d) (by omega)))
  refine lv_aload_n hx hb dM_signOne_177 rfl (lv_at hl 0 rfl) ?_
  refine M_getv hx hb K hM 8 (v := nI 0) hQ.1.2.1 kM_f87 dM_signOne_178 (kk := ?_)
  refine lv_iconst (v := 1) hx hb dM_signOne_181 (by decide) ?_
  refine lv_icmp_ne (tgt := 201) hx hb dM_signOne_182 (by decide) (fun c_182 => ?_) (fun c_182 => absurd c_182 (by decide))
  refine lv_aload_n hx hb dM_signOne_201 rfl (lv_at hl 0 rfl) ?_
  refine M_getv hx hb K hM 8 (v := nI 0) hQ.1.2.1 kM_f87 dM_signOne_202 (kk := ?_)
  refine lv_iconst (v := 1) hx hb dM_signOne_205 (by decide) ?_
  refine lv_icmp_eq (tgt := 267) hx hb dM_signOne_206 (by decide) (fun c_206 => absurd c_206 (by decide)) (fun c_206 => ?_)
  refine lv_iload_n hx hb dM_signOne_209 rfl (lv_at hl 1 rfl) ?_
  refine lv_bipush (v := 41) hx hb dM_signOne_210 (by decide) ?_
  refine lv_icmp_ne (tgt := 267) hx hb dM_signOne_212 (by decide) (fun c_212 => ?_) (fun c_212 => ?_)
  · skip
    refine lv_aload_n hx hb dM_signOne_267 rfl (lv_at hl 0 rfl) ?_
    refine lv_iconst (v := 0) hx hb dM_signOne_268 (by decide) ?_
    refine M_puti hx hb K hM hS 8 kM_f87 dM_signOne_269 (kk := fun H locs hM hS => ?_)
    refine lv_iload_n hx hb dM_signOne_272 rfl (lv_at hl 1 rfl) ?_
    refine lv_bipush (v := 32) hx hb dM_signOne_273 (by decide) ?_
    refine lv_icmp_eq (tgt := 286) hx hb dM_signOne_275 (by decide) (fun c_275 => ?_) (fun c_275 => ?_)
    · skip
      refine lv_iconst (v := 1) hx hb dM_signOne_286 (by decide) ?_
      refine lv_goto (tgt := 291) hx hb dM_signOne_287 (by decide) ?_
      refine W.zret (v := (1)) hx hb hr rfl (M_endi hM hK hS ?_) hS.2.2 dM_signOne_291
      exact ⟨⟨fun j h1 h2 h3 => by simp only [up_n h1, up_n h2, up_n h3], rfl⟩, Or.inr ⟨rfl, (d + 1, 0, n, pt, fw, mo, nm, dg), by simp [md_sign, c_212, c_275], op, mdQ_mode0 hQ rfl rfl rfl rfl rfl rfl rfl⟩⟩
    · skip
      refine lv_aload_n hx hb dM_signOne_278 rfl (lv_at hl 0 rfl) ?_
      refine lv_iload_n hx hb dM_signOne_279 rfl (lv_at hl 1 rfl) ?_
      refine va_calli (M_run (As := [.int k]) (rest := []) (n := 1) hx hb hml K hM (c_beginS l D cl tys A ci tI tZ cI cZ o ad _ _ k op d 0 n pt fw mo nm dg (mdQ_mode0 hQ rfl rfl rfl rfl rfl rfl rfl) hn) kM_c_begin kM_m106 kM_i_begin kM_s_begin rfl rfl ⟨rfl, by decide +kernel⟩ ⟨Nat.le_of_ble_eq_true rfl, Nat.le_of_ble_eq_true rfl⟩ rfl hl.1 rfl (lv_room (Nat.le_of_ble_eq_true rfl)) dM_signOne_280 ⟨Nat.le_of_ble_eq_true rfl, Nat.le_of_ble_eq_true rfl⟩) hS (fun q _ h => h) (fun q h => h) (fun r u t H1 locs1 ht hvm hw hB hz hk hS => ?_)
      obtain ⟨hM, -⟩ := hB
      rw [ht] at hM
      obtain ⟨hFr, ⟨rfl, hv, rfl⟩ | ⟨rfl, t9, hv, hq9⟩⟩ := hw
      · skip
        refine lv_if_eq (tgt := 290) hx hb dM_signOne_283 (by decide) (fun c_283 => ?_) (fun c_283 => absurd rfl c_283)
        refine lv_iconst (v := 0) hx hb dM_signOne_290 (by decide) ?_
        refine W.zret (v := (0)) hx hb hr rfl (M_endi hM hK hS ?_) hS.2.2 dM_signOne_291
        exact ⟨(hFr.m0), Or.inl ⟨rfl, by simpa [md_sign, c_212, c_275] using hv⟩⟩
      · skip
        refine lv_if_eq (tgt := 290) hx hb dM_signOne_283 (by decide) (fun c_283 => absurd c_283 (by decide)) (fun c_283 => ?_)
        refine lv_iconst (v := 1) hx hb dM_signOne_286 (by decide) ?_
        refine lv_goto (tgt := 291) hx hb dM_signOne_287 (by decide) ?_
        refine W.zret (v := (1)) hx hb hr rfl (M_endi hM hK hS ?_) hS.2.2 dM_signOne_291
        exact ⟨(hFr.m0), Or.inr ⟨rfl, t9, by simpa [md_sign, c_212, c_275] using hv, hq9⟩⟩
  · skip
    refine lv_aload_n hx hb dM_signOne_215 rfl (lv_at hl 0 rfl) ?_
    refine M_geta hx hb K hM 4 kM_f16 dM_signOne_216 (kk := ?_)
    refine lv_aload_n hx hb dM_signOne_219 rfl (lv_at hl 0 rfl) ?_
    refine M_getv hx hb K hM 7 (v := nI (d + 1)) hQ.1.1 kM_f84 dM_signOne_220 (kk := ?_)
    refine lv_iconst (v := 1) hx hb dM_signOne_223 (by decide) ?_
    refine lv_isub hx hb dM_signOne_224 ?_
    refine lv_as (v := nI d) (nI_pred d) ?_
    refine M_aldn hx hb K hM 4 (j := d) (show d < 13 by omega) (v := nI (pt d)) (hQ.2.2.1 d (by omega)).2.1.1 dM_signOne_225 (kk := ?_)
    refine lv_aload_n hx hb dM_signOne_226 rfl (lv_at hl 0 rfl) ?_
    refine M_geta hx hb K hM 5 kM_f19 dM_signOne_227 (kk := ?_)
    refine lv_aload_n hx hb dM_signOne_230 rfl (lv_at hl 0 rfl) ?_
    refine M_getv hx hb K hM 7 (v := nI (d + 1)) hQ.1.1 kM_f84 dM_signOne_231 (kk := ?_)
    refine lv_iconst (v := 1) hx hb dM_signOne_234 (by decide) ?_
    refine lv_isub hx hb dM_signOne_235 ?_
    refine lv_as (v := nI d) (nI_pred d) ?_
    refine M_aldn hx hb K hM 5 (j := d) (show d < 13 by omega) (v := nI (fw d)) (hQ.2.2.1 d (by omega)).2.1.2.1 dM_signOne_236 (kk := ?_)
    refine lv_icmp_ge (tgt := 242) hx hb dM_signOne_237 (by decide) (fun c_237 => ?_) (fun c_237 => ?_)
    · skip
      have hlt : ¬ pt d < fw d := fun q => absurd c_237 (nI_ge q (by omega))
      refine lv_aload_n hx hb dM_signOne_242 rfl (lv_at hl 0 rfl) ?_
      refine lv_dup hx hb dM_signOne_243 rfl ?_
      refine M_getv hx hb K hM 7 (v := nI (d + 1)) hQ.1.1 kM_f84 dM_signOne_244 (kk := ?_)
      refine lv_iconst (v := 1) hx hb dM_signOne_247 (by decide) ?_
      refine lv_isub hx hb dM_signOne_248 ?_
      refine lv_as (v := nI d) (nI_pred d) ?_
      refine M_puti hx hb K hM hS 7 kM_f84 dM_signOne_249 (kk := fun H locs hM hS => ?_)
      refine lv_aload_n hx hb dM_signOne_252 rfl (lv_at hl 0 rfl) ?_
      refine lv_aload_n hx hb dM_signOne_253 rfl (lv_at hl 0 rfl) ?_
      refine M_geta hx hb K hM 3 kM_f13 dM_signOne_254 (kk := ?_)
      refine lv_aload_n hx hb dM_signOne_257 rfl (lv_at hl 0 rfl) ?_
      refine M_getv hx hb K hM 7 (v := nI d) rfl kM_f84 dM_signOne_258 (kk := ?_)
      refine M_aldn hx hb K hM 3 (j := d) (show d < 13 by omega) (v := nI (op d)) (hQ.2.2.1 d (by omega)).1.1 dM_signOne_261 (kk := ?_)
      refine va_callv (M_run (As := [.int (nI (op d))]) (rest := []) (n := 1) hx hb hml K hM (c_attachC l D cl tys A ci tI tZ cI cZ o ad _ _ (nI (op d)) d op pt rfl (by omega) (fun h => by have q := hQ.2.2.1 (d - 1) (by omega); have q2 := hQ.2.2.2.1 (d - 1) (by omega); exact ⟨q.1.1, by omega, q.2.1.1, by omega⟩)) kM_c_attach kM_m94 kM_i_attach kM_s_attach rfl rfl ⟨rfl, by decide +kernel⟩ ⟨Nat.le_of_ble_eq_true rfl, Nat.le_of_ble_eq_true rfl⟩ rfl hl.1 rfl (lv_room (Nat.le_of_ble_eq_true rfl)) dM_signOne_262 ⟨Nat.le_of_ble_eq_true rfl, Nat.le_of_ble_eq_true rfl⟩) hS (fun q _ h => h) (fun q h => h) (fun u t H1 locs1 ht hvm hw hB hz hk hS => ?_)
      obtain ⟨hM, -⟩ := hB
      rw [ht] at hM
      obtain ⟨rfl, rfl⟩ | ⟨h0, g, rfl⟩ := hw
      · skip
        dsimp only at hM
        refine lv_iconst (v := 1) hx hb dM_signOne_265 (by decide) ?_
        refine W.zret (v := (1)) hx hb hr rfl (M_endi hM hK hS ?_) hS.2.2 dM_signOne_266
        exact ⟨⟨fun j h1 h2 h3 => by simp only [up_n h1, up_n h2, up_n h3], rfl⟩, Or.inr ⟨rfl, (0, 6, n, pt, fw, mo, nm, dg), by simp [md_sign, md_add, c_212, hlt], op, mdQ_close0 hQ rfl rfl rfl⟩⟩
      · skip
        obtain ⟨e2, rfl⟩ : ∃ z, d = z + 1 := ⟨d - 1, by omega⟩
        dsimp only at hM
        refine lv_iconst (v := 1) hx hb dM_signOne_265 (by decide) ?_
        refine W.zret (v := (1)) hx hb hr rfl (M_endi hM hK hS ?_) hS.2.2 dM_signOne_266
        exact ⟨⟨fun j h1 h2 h3 => by simp only [up_n h1, up_n h2, up_n h3], rfl⟩, Or.inr ⟨rfl, (e2 + 1, 0, n, va_up pt e2 (pt e2 + 1), fw, mo, nm, dg), by simp [md_sign, md_add, c_212, hlt], op, mdQ_closeS hQ rfl rfl rfl rfl rfl rfl rfl⟩⟩
    · skip
      have hlt : pt d < fw d := by rcases Nat.lt_or_ge (pt d) (fw d) with q | q; exact q; exact absurd (nI_le q (by omega)) c_237
      refine lv_iconst (v := 0) hx hb dM_signOne_240 (by decide) ?_
      refine W.zret (v := (0)) hx hb hr rfl (M_endi hM hK hS ?_) hS.2.2 dM_signOne_241
      exact ⟨mdFr.rf, Or.inl ⟨rfl, by simp [md_sign, c_212, hlt]⟩⟩
set_option maxHeartbeats 4000000 in
set_option maxRecDepth 100000 in
theorem c_sign1S (l : Launch) (D : va_G) (cl : List vw_C) (tys : List (ClassId × FieldType)) (A : Nat → Prop) (ci tI tZ : Nat) (cI cZ : ClassId) (o : Nat) (ad : Nat → Nat) (fi : Nat → Int32) (fa : Nat → Nat → Int32) (k : Int32) (op : Nat → Nat) (d n : Nat) (pt fw mo : Nat → Nat) (nm : List Nat) (dg : Nat) (hQ : mdQ fi fa op (d + 1) 1 n pt fw mo nm dg) (hn : n < 120) :
    Met l yM_signOne (.code yM_signOne bM_signOne 3 (some .boolean) :: lw_g) ({ frames := 2, cells := 0, slots := 0, locals := 44 }) (va_Pc [.ref o, .int k] (mdPre D cl tys A ci tI tZ cI cZ o ad fi fa)) (va_Qi (md_rez (md_sign k (d + 1, 1, n, pt, fw, mo, nm, dg)) fi fa) (mdB D cl tys A ci cI cZ o ad) A) 0 0 A := by
  refine Met.ofW (cc := bM_signOne) (maxL := 3) (ret := (some .boolean)) (by decide) rfl ?_
  intro p e s m args below meth c s₁ B hml hv
  obtain ⟨rfl, hM, hK, hc, hI, hZ⟩ := hv
  have hx := B.exec
  have hb := B.bytes
  have hr := B.returns
  have hts := atoms_spec (ws := (.code yM_signOne bM_signOne 3 (some .boolean) :: lw_g)) B.pre
  have hown : s.vm.findClass RM = some m.cls := findClass_of_methodNamed B.named
  have K : mdC D cl tys ci tI tZ cI cZ s m _ := ⟨fun w h => hts w (List.mem_cons_of_mem _ h), hown, hK, hc, hI, hZ⟩
  have hlocks := B.notSynchronized
  have hS : va_S A s.heap s.heap [] := va_S.rf
  have hl := lv_entry ([.ref o, .int k]) (n := 3) (Nat.le_of_ble_eq_true rfl)
  rw [lg_entry_eq]
  generalize (lg_sl ([.ref o, .int k]) ++ List.replicate (3 - (lg_sl ([.ref o, .int k])).length) Slot.unset).toArray = ls at hl ⊢
  have hl : lv_has ls 3 [(0, .ref o), (1, .int k)] := hl
  have hn2 := hQ.2.1.2.1
  have hd11 : d + 1 ≤ 12 := hQ.2.1.1
  have hod := (hQ.2.2.1 d (by omega)).1.2
  have hpm := (hQ.2.2.1 d (by omega)).2.2
  refine lv_aload_n hx hb dM_signOne_0 rfl (lv_at hl 0 rfl) ?_
  refine M_getv hx hb K hM 8 (v := nI 1) hQ.1.2.1 kM_f87 dM_signOne_1 (kk := ?_)
  refine lv_bipush (v := 6) hx hb dM_signOne_4 (by decide) ?_
  refine lv_icmp_ne (tgt := 11) hx hb dM_signOne_6 (by decide) (fun c_6 => ?_) (fun c_6 => absurd c_6 (by decide))
  refine lv_aload_n hx hb dM_signOne_11 rfl (lv_at hl 0 rfl) ?_
  refine M_getv hx hb K hM 8 (v := nI 1) hQ.1.2.1 kM_f87 dM_signOne_12 (kk := ?_)
  refine lv_iconst (v := 2) hx hb dM_signOne_15 (by decide) ?_
  refine lv_icmp_ne (tgt := 62) hx hb dM_signOne_16 (by decide) (fun c_16 => ?_) (fun c_16 => absurd c_16 (by decide))
  refine lv_aload_n hx hb dM_signOne_62 rfl (lv_at hl 0 rfl) ?_
  refine M_getv hx hb K hM 8 (v := nI 1) hQ.1.2.1 kM_f87 dM_signOne_63 (kk := ?_)
  refine lv_iconst (v := 3) hx hb dM_signOne_66 (by decide) ?_
  refine lv_icmp_ne (tgt := 76) hx hb dM_signOne_67 (by decide) (fun c_67 => ?_) (fun c_67 => absurd c_67 (by decide))
  refine lv_aload_n hx hb dM_signOne_76 rfl (lv_at hl 0 rfl) ?_
  refine M_getv hx hb K hM 8 (v := nI 1) hQ.1.2.1 kM_f87 dM_signOne_77 (kk := ?_)
  refine lv_iconst (v := 4) hx hb dM_signOne_80 (by decide) ?_
  refine lv_icmp_ne (tgt := 149) hx hb dM_signOne_81 (by decide) (fun c_81 => ?_) (fun c_81 => absurd c_81 (by decide))
  refine lv_aload_n hx hb dM_signOne_149 rfl (lv_at hl 0 rfl) ?_
  refine M_getv hx hb K hM 7 (v := nI (d + 1)) hQ.1.1 kM_f84 dM_signOne_150 (kk := ?_)
  refine lv_if_ne (tgt := 177) hx hb dM_signOne_153 (by decide) (fun c_153 => ?_) (fun c_153 => absurd c_153 (nI_ne0 (Nat.succ_pos d) (by omega)))
  refine lv_aload_n hx hb dM_signOne_177 rfl (lv_at hl 0 rfl) ?_
  refine M_getv hx hb K hM 8 (v := nI 1) hQ.1.2.1 kM_f87 dM_signOne_178 (kk := ?_)
  refine lv_iconst (v := 1) hx hb dM_signOne_181 (by decide) ?_
  refine lv_icmp_ne (tgt := 201) hx hb dM_signOne_182 (by decide) (fun c_182 => absurd (by decide) c_182) (fun c_182 => ?_)
  refine lv_iload_n hx hb dM_signOne_185 rfl (lv_at hl 1 rfl) ?_
  refine lv_bipush (v := 32) hx hb dM_signOne_186 (by decide) ?_
  refine lv_icmp_eq (tgt := 201) hx hb dM_signOne_188 (by decide) (fun c_188 => ?_) (fun c_188 => ?_)
  · skip
    refine lv_aload_n hx hb dM_signOne_201 rfl (lv_at hl 0 rfl) ?_
    refine M_getv hx hb K hM 8 (v := nI 1) hQ.1.2.1 kM_f87 dM_signOne_202 (kk := ?_)
    refine lv_iconst (v := 1) hx hb dM_signOne_205 (by decide) ?_
    refine lv_icmp_eq (tgt := 267) hx hb dM_signOne_206 (by decide) (fun c_206 => ?_) (fun c_206 => absurd (by decide) c_206)
    refine lv_aload_n hx hb dM_signOne_267 rfl (lv_at hl 0 rfl) ?_
    refine lv_iconst (v := 0) hx hb dM_signOne_268 (by decide) ?_
    refine M_puti hx hb K hM hS 8 kM_f87 dM_signOne_269 (kk := fun H locs hM hS => ?_)
    refine lv_iload_n hx hb dM_signOne_272 rfl (lv_at hl 1 rfl) ?_
    refine lv_bipush (v := 32) hx hb dM_signOne_273 (by decide) ?_
    refine lv_icmp_eq (tgt := 286) hx hb dM_signOne_275 (by decide) (fun c_275 => ?_) (fun c_275 => ?_)
    · skip
      refine lv_iconst (v := 1) hx hb dM_signOne_286 (by decide) ?_
      refine lv_goto (tgt := 291) hx hb dM_signOne_287 (by decide) ?_
      refine W.zret (v := (1)) hx hb hr rfl (M_endi hM hK hS ?_) hS.2.2 dM_signOne_291
      exact ⟨⟨fun j h1 h2 h3 => by simp only [up_n h1, up_n h2, up_n h3], rfl⟩, Or.inr ⟨rfl, (d + 1, 0, n, pt, fw, mo, nm, dg), by simp [md_sign, c_188, c_275], op, mdQ_mode0 hQ rfl rfl rfl rfl rfl rfl rfl⟩⟩
    · skip
      refine lv_aload_n hx hb dM_signOne_278 rfl (lv_at hl 0 rfl) ?_
      refine lv_iload_n hx hb dM_signOne_279 rfl (lv_at hl 1 rfl) ?_
      refine va_calli (M_run (As := [.int k]) (rest := []) (n := 1) hx hb hml K hM (c_beginS l D cl tys A ci tI tZ cI cZ o ad _ _ k op d 0 n pt fw mo nm dg (mdQ_mode0 hQ rfl rfl rfl rfl rfl rfl rfl) hn) kM_c_begin kM_m106 kM_i_begin kM_s_begin rfl rfl ⟨rfl, by decide +kernel⟩ ⟨Nat.le_of_ble_eq_true rfl, Nat.le_of_ble_eq_true rfl⟩ rfl hl.1 rfl (lv_room (Nat.le_of_ble_eq_true rfl)) dM_signOne_280 ⟨Nat.le_of_ble_eq_true rfl, Nat.le_of_ble_eq_true rfl⟩) hS (fun q _ h => h) (fun q h => h) (fun r u t H1 locs1 ht hvm hw hB hz hk hS => ?_)
      obtain ⟨hM, -⟩ := hB
      rw [ht] at hM
      obtain ⟨hFr, ⟨rfl, hv, rfl⟩ | ⟨rfl, t9, hv, hq9⟩⟩ := hw
      · skip
        refine lv_if_eq (tgt := 290) hx hb dM_signOne_283 (by decide) (fun c_283 => ?_) (fun c_283 => absurd rfl c_283)
        refine lv_iconst (v := 0) hx hb dM_signOne_290 (by decide) ?_
        refine W.zret (v := (0)) hx hb hr rfl (M_endi hM hK hS ?_) hS.2.2 dM_signOne_291
        exact absurd c_188 c_275
      · skip
        refine lv_if_eq (tgt := 290) hx hb dM_signOne_283 (by decide) (fun c_283 => absurd c_283 (by decide)) (fun c_283 => ?_)
        refine lv_iconst (v := 1) hx hb dM_signOne_286 (by decide) ?_
        refine lv_goto (tgt := 291) hx hb dM_signOne_287 (by decide) ?_
        refine W.zret (v := (1)) hx hb hr rfl (M_endi hM hK hS ?_) hS.2.2 dM_signOne_291
        exact absurd c_188 c_275
  · skip
    refine lv_aload_n hx hb dM_signOne_191 rfl (lv_at hl 0 rfl) ?_
    refine lv_iload_n hx hb dM_signOne_192 rfl (lv_at hl 1 rfl) ?_
    refine va_calli (M_run (As := [.int k]) (rest := []) (n := 1) hx hb hml K hM (c_operator l D cl tys A ci tI tZ cI cZ o ad _ _ k op d n pt fw mo nm dg hQ) kM_c_operator kM_m109 kM_i_operator kM_s_operator rfl rfl ⟨rfl, by decide +kernel⟩ ⟨Nat.le_of_ble_eq_true rfl, Nat.le_of_ble_eq_true rfl⟩ rfl hl.1 rfl (lv_room (Nat.le_of_ble_eq_true rfl)) dM_signOne_193 ⟨Nat.le_of_ble_eq_true rfl, Nat.le_of_ble_eq_true rfl⟩) hS (fun q _ h => h) (fun q h => h) (fun r u t H1 locs1 ht hvm hw hB hz hk hS => ?_)
    obtain ⟨hM, -⟩ := hB
    rw [ht] at hM
    obtain ⟨hFr, ⟨rfl, hv, rfl⟩ | ⟨rfl, t9, hv, hq9⟩⟩ := hw
    · skip
      dsimp only at hM
      have h0 : md_arN k = 0 := by simpa [md_oper] using hv
      refine lv_if_eq (tgt := 201) hx hb dM_signOne_196 (by decide) (fun c_196 => ?_) (fun c_196 => absurd rfl c_196)
      refine lv_aload_n hx hb dM_signOne_201 rfl (lv_at hl 0 rfl) ?_
      refine M_getv hx hb K hM 8 (v := nI 1) hQ.1.2.1 kM_f87 dM_signOne_202 (kk := ?_)
      refine lv_iconst (v := 1) hx hb dM_signOne_205 (by decide) ?_
      refine lv_icmp_eq (tgt := 267) hx hb dM_signOne_206 (by decide) (fun c_206 => ?_) (fun c_206 => absurd (by decide) c_206)
      refine lv_aload_n hx hb dM_signOne_267 rfl (lv_at hl 0 rfl) ?_
      refine lv_iconst (v := 0) hx hb dM_signOne_268 (by decide) ?_
      refine M_puti hx hb K hM hS 8 kM_f87 dM_signOne_269 (kk := fun H locs hM hS => ?_)
      refine lv_iload_n hx hb dM_signOne_272 rfl (lv_at hl 1 rfl) ?_
      refine lv_bipush (v := 32) hx hb dM_signOne_273 (by decide) ?_
      refine lv_icmp_eq (tgt := 286) hx hb dM_signOne_275 (by decide) (fun c_275 => ?_) (fun c_275 => ?_)
      · skip
        refine lv_iconst (v := 1) hx hb dM_signOne_286 (by decide) ?_
        refine lv_goto (tgt := 291) hx hb dM_signOne_287 (by decide) ?_
        refine W.zret (v := (1)) hx hb hr rfl (M_endi hM hK hS ?_) hS.2.2 dM_signOne_291
        exact ⟨⟨fun j h1 h2 h3 => by simp only [up_n h1, up_n h2, up_n h3], rfl⟩, Or.inr ⟨rfl, (d + 1, 0, n, pt, fw, mo, nm, dg), by simp [md_sign, c_188, c_275, h0], op, mdQ_mode0 hQ rfl rfl rfl rfl rfl rfl rfl⟩⟩
      · skip
        refine lv_aload_n hx hb dM_signOne_278 rfl (lv_at hl 0 rfl) ?_
        refine lv_iload_n hx hb dM_signOne_279 rfl (lv_at hl 1 rfl) ?_
        refine va_calli (M_run (As := [.int k]) (rest := []) (n := 1) hx hb hml K hM (c_beginS l D cl tys A ci tI tZ cI cZ o ad _ _ k op d 0 n pt fw mo nm dg (mdQ_mode0 hQ rfl rfl rfl rfl rfl rfl rfl) hn) kM_c_begin kM_m106 kM_i_begin kM_s_begin rfl rfl ⟨rfl, by decide +kernel⟩ ⟨Nat.le_of_ble_eq_true rfl, Nat.le_of_ble_eq_true rfl⟩ rfl hl.1 rfl (lv_room (Nat.le_of_ble_eq_true rfl)) dM_signOne_280 ⟨Nat.le_of_ble_eq_true rfl, Nat.le_of_ble_eq_true rfl⟩) hS (fun q _ h => h) (fun q h => h) (fun r u t H1 locs1 ht hvm hw hB hz hk hS => ?_)
        obtain ⟨hM, -⟩ := hB
        rw [ht] at hM
        obtain ⟨hFr, ⟨rfl, hv, rfl⟩ | ⟨rfl, t9, hv, hq9⟩⟩ := hw
        · skip
          refine lv_if_eq (tgt := 290) hx hb dM_signOne_283 (by decide) (fun c_283 => ?_) (fun c_283 => absurd rfl c_283)
          refine lv_iconst (v := 0) hx hb dM_signOne_290 (by decide) ?_
          refine W.zret (v := (0)) hx hb hr rfl (M_endi hM hK hS ?_) hS.2.2 dM_signOne_291
          exact ⟨(hFr.m0), Or.inl ⟨rfl, by simpa [md_sign, c_188, c_275, h0] using hv⟩⟩
        · skip
          refine lv_if_eq (tgt := 290) hx hb dM_signOne_283 (by decide) (fun c_283 => absurd c_283 (by decide)) (fun c_283 => ?_)
          refine lv_iconst (v := 1) hx hb dM_signOne_286 (by decide) ?_
          refine lv_goto (tgt := 291) hx hb dM_signOne_287 (by decide) ?_
          refine W.zret (v := (1)) hx hb hr rfl (M_endi hM hK hS ?_) hS.2.2 dM_signOne_291
          exact ⟨(hFr.m0), Or.inr ⟨rfl, t9, by simpa [md_sign, c_188, c_275, h0] using hv, hq9⟩⟩
    · skip
      have h0 : ¬ md_arN k = 0 := fun q => by simp [md_oper, q] at hv
      refine lv_if_eq (tgt := 201) hx hb dM_signOne_196 (by decide) (fun c_196 => absurd c_196 (by decide)) (fun c_196 => ?_)
      refine lv_iconst (v := 1) hx hb dM_signOne_199 (by decide) ?_
      refine W.zret (v := (1)) hx hb hr rfl (M_endi hM hK hS ?_) hS.2.2 dM_signOne_200
      exact ⟨hFr, Or.inr ⟨rfl, t9, by simpa [md_sign, c_188, h0] using hv, hq9⟩⟩
end
section
theorem c_signOne (l : Launch) (D : va_G) (cl : List vw_C) (tys : List (ClassId × FieldType)) (A : Nat → Prop) (ci tI tZ : Nat) (cI cZ : ClassId) (o : Nat) (ad : Nat → Nat) (fi : Nat → Int32) (fa : Nat → Nat → Int32) (k : Int32) (op : Nat → Nat) (d md n : Nat) (pt fw mo : Nat → Nat) (nm : List Nat) (dg : Nat) (hQ : mdQ fi fa op d md n pt fw mo nm dg) (hn : n < 120) :
    Met l yM_signOne (.code yM_signOne bM_signOne 3 (some .boolean) :: lw_g) ({ frames := 2, cells := 0, slots := 0, locals := 44 }) (va_Pc [.ref o, .int k] (mdPre D cl tys A ci tI tZ cI cZ o ad fi fa)) (va_Qi (md_rez (md_sign k (d, md, n, pt, fw, mo, nm, dg)) fi fa) (mdB D cl tys A ci cI cZ o ad) A) 0 0 A := by
  have hm := hQ.2.1.2.2
  have hz := hQ.2.2.2.2.2.2.1
  rcases (show md = 0 ∨ md = 1 ∨ md = 2 ∨ md = 3 ∨ md = 4 ∨ md = 6 by omega) with rfl | rfl | rfl | rfl | rfl | rfl
  · cases d with
    | zero => exact c_sign00 l D cl tys A ci tI tZ cI cZ o ad fi fa k op n pt fw mo nm dg hQ hn
    | succ d => exact c_sign0S l D cl tys A ci tI tZ cI cZ o ad fi fa k op d n pt fw mo nm dg hQ hn
  · obtain ⟨d2, rfl⟩ : ∃ z, d = z + 1 := ⟨d - 1, by have := hz (Or.inl rfl); omega⟩
    exact c_sign1S l D cl tys A ci tI tZ cI cZ o ad fi fa k op d2 n pt fw mo nm dg hQ hn
  · obtain ⟨d2, rfl⟩ : ∃ z, d = z + 1 := ⟨d - 1, by have := hz (Or.inr (Or.inl rfl)); omega⟩
    exact c_sign2S l D cl tys A ci tI tZ cI cZ o ad fi fa k op d2 n pt fw mo nm dg hQ hn
  · obtain ⟨d2, rfl⟩ : ∃ z, d = z + 1 := ⟨d - 1, by have := hz (Or.inr (Or.inr rfl)); omega⟩
    exact c_sign3S l D cl tys A ci tI tZ cI cZ o ad fi fa k op d2 n pt fw mo nm dg hQ hn
  · cases d with
    | zero => exact c_sign40 l D cl tys A ci tI tZ cI cZ o ad fi fa k op n pt fw mo nm dg hQ hn
    | succ d => exact c_sign4S l D cl tys A ci tI tZ cI cZ o ad fi fa k op d n pt fw mo nm dg hQ hn
  · exact c_sign6A l D cl tys A ci tI tZ cI cZ o ad fi fa k op d n pt fw mo nm dg hQ hn
theorem md_begin_n {c : Int32} {t t2 : MT} (h : md_begin c t = some t2) : t2.2.2.1 = t.2.2.1 + 1 := by
  obtain ⟨d, md, n, pt, fw, mo, nm, dg⟩ := t
  simp only [md_begin] at h
  split at h
  · cases h
  · split at h
    · cases h; rfl
    · split at h
      · cases h; rfl
      · split at h
        · cases h
        · cases h; rfl
theorem md_sign_n {c : Int32} {t t2 : MT} (h : md_sign c t = some t2) : t2.2.2.1 ≤ t.2.2.1 + 1 := by
  obtain ⟨d, md, n, pt, fw, mo, nm, dg⟩ := t
  simp only [md_sign] at h
  split at h
  · cases h
  split at h
  · split at h
    · cases h; exact Nat.le_succ _
    · cases h
  split at h
  · simp only [md_clos] at h
    split at h
    · cases h; exact Nat.le_succ _
    split at h
    · cases h
    split at h
    · cases h
    · cases h; exact Nat.le_succ _
  split at h
  · split at h
    · cases h; exact Nat.le_succ _
    · cases h
  split at h
  · split at h
    · exact Nat.le_of_eq (md_begin_n h)
    · cases h
  split at h
  · simp only [md_oper] at h
    split at h
    · cases h
    · cases h; exact Nat.le_succ _
  split at h
  · split at h
    · cases h
    · cases h; exact Nat.le_succ _
  split at h
  · cases h; exact Nat.le_succ _
  · exact Nat.le_of_eq (md_begin_n h)
def md_t0 : MT := (0, 0, 0, fun _ => 0, fun _ => 0, fun _ => 0, [], 0)
/-- the first i signs of a text -/
def md_scan (tx : Nat → Int32) : Nat → Option MT
  | 0 => some md_t0
  | i + 1 => (md_scan tx i).bind (md_sign (tx i))
theorem md_scan_none {tx : Nat → Int32} {i : Nat} (h : md_scan tx i = none) : ∀ j, md_scan tx (i + j) = none
  | 0 => h
  | j + 1 => by
    show (md_scan tx (i + j)).bind (md_sign (tx (i + j))) = none
    rw [md_scan_none h j]; rfl
theorem mdQ_0 {fi : Nat → Int32} {fa : Nat → Nat → Int32} (h7 : fi 7 = nI 0) (h8 : fi 8 = nI 0) (h13 : fi 13 = nI 0) : mdQt fi fa md_t0 :=
  ⟨fun _ => 0, ⟨h7, h8, h13⟩, ⟨by decide, by decide, by decide, by decide⟩, fun j hj => absurd hj (Nat.not_lt_zero j), fun j hj => absurd hj (Nat.not_lt_zero _), fun e => by omega, fun e => by omega, fun e => by omega, fun e => by omega⟩
theorem mdFr.trans {fi fi2 : Nat → Int32} {fa fa2 : Nat → Nat → Int32} {S : (Nat → Int32) × (Nat → Nat → Int32)} (h : mdFr fi fa (fi2, fa2)) (h2 : mdFr fi2 fa2 S) : mdFr fi fa S := ⟨fun k h7 h8 h13 => (h2.1 k h7 h8 h13).trans (h.1 k h7 h8 h13), h2.2.trans h.2⟩
set_option maxHeartbeats 4000000 in
set_option maxRecDepth 100000 in
theorem c_scan (l : Launch) (D : va_G) (cl : List vw_C) (tys : List (ClassId × FieldType)) (A : Nat → Prop) (ci tI tZ : Nat) (cI cZ : ClassId) (o : Nat) (ad : Nat → Nat) (fi : Nat → Int32) (fa : Nat → Nat → Int32) (L : Nat) (hL : L ≤ 120) :
    Met l yM_scan (.code yM_scan bM_scan 3 (some .boolean) :: lw_g) ({ frames := 3, cells := 0, slots := 0, locals := 66 }) (va_Pc [.ref o, .int (nI L)] (mdPre D cl tys A ci tI tZ cI cZ o ad fi fa)) (va_Qi (md_rez (md_scan (fa 1) L) fi fa) (mdB D cl tys A ci cI cZ o ad) A) 0 0 A := by
  refine Met.ofW (cc := bM_scan) (maxL := 3) (ret := (some .boolean)) (by decide) rfl ?_
  intro p e s m args below meth c s₁ B hml hv
  obtain ⟨rfl, hM, hK, hc, hI, hZ⟩ := hv
  have hx := B.exec
  have hb := B.bytes
  have hr := B.returns
  have hts := atoms_spec (ws := (.code yM_scan bM_scan 3 (some .boolean) :: lw_g)) B.pre
  have hown : s.vm.findClass RM = some m.cls := findClass_of_methodNamed B.named
  have K : mdC D cl tys ci tI tZ cI cZ s m _ := ⟨fun w h => hts w (List.mem_cons_of_mem _ h), hown, hK, hc, hI, hZ⟩
  have hlocks := B.notSynchronized
  have hS : va_S A s.heap s.heap [] := va_S.rf
  have hl := lv_entry ([.ref o, .int (nI L)]) (n := 3) (Nat.le_of_ble_eq_true rfl)
  rw [lg_entry_eq]
  generalize (lg_sl ([.ref o, .int (nI L)]) ++ List.replicate (3 - (lg_sl ([.ref o, .int (nI L)])).length) Slot.unset).toArray = ls at hl ⊢
  have hl : lv_has ls 3 [(0, .ref o), (1, .int (nI L))] := hl
  have loop : ∀ (z i : Nat) (fi2 : Nat → Int32) (fa2 : Nat → Nat → Int32) (t : MT) (H : Heap) (locs : List Loc) (ls : Array Slot), i + z = L → md_scan (fa 1) i = some t → mdQt fi2 fa2 t → t.2.2.1 ≤ i → mdFr fi fa (fi2, fa2) → mdW D cl A ci cI cZ o ad fi2 fa2 H → va_S A s.heap H locs → lv_has ls 3 [(2, .int (nI i)), (0, .ref o), (1, .int (nI L))] → W p l e (headSpec (.code yM_scan bM_scan 3 (some .boolean) :: lw_g) ({ frames := 3, cells := 0, slots := 0, locals := 66 })).room s m #[Value.ref o, Value.int (nI L)] below meth c H locs 0 0 (MQ below (va_Qi (md_rez (md_scan (fa 1) L) fi fa) (mdB D cl tys A ci cI cZ o ad) A) #[Value.ref o, Value.int (nI L)] s 0 0 A) (F0 m 17 ls []) := by
    intro z
    induction z with
    | zero =>
      intro i fi2 fa2 t H locs ls hi hsc hq hn hFr hM hS hl
      obtain rfl : i = L := by omega
      refine lv_iload_n hx hb dM_scan_17 rfl (lv_at hl 0 rfl) ?_
      refine lv_iload_n hx hb dM_scan_18 rfl (lv_at hl 2 rfl) ?_
      refine lv_icmp_ge (tgt := 43) hx hb dM_scan_19 (by decide) (fun c_19 => ?_) (fun c_19 => absurd (nI_le (Nat.le_refl i) (by omega)) c_19)
      refine lv_iconst (v := 1) hx hb dM_scan_43 (by decide) ?_
      refine W.zret (v := (1)) hx hb hr rfl (M_endi hM hK hS ?_) hS.2.2 dM_scan_44
      exact ⟨hFr, Or.inr ⟨rfl, t, hsc, hq⟩⟩
    | succ z ih =>
      intro i fi2 fa2 t H locs ls hi hsc hq hn hFr hM hS hl
      obtain ⟨d, md, n, pt, fw, mo, nm, dg⟩ := t
      obtain ⟨op, hQ⟩ := hq
      have hn : n ≤ i := hn
      refine lv_iload_n hx hb dM_scan_17 rfl (lv_at hl 0 rfl) ?_
      refine lv_iload_n hx hb dM_scan_18 rfl (lv_at hl 2 rfl) ?_
      refine lv_icmp_ge (tgt := 43) hx hb dM_scan_19 (by decide) (fun c_19 => absurd c_19 (nI_ge (show i < L by omega) (by omega))) (fun c_19 => ?_)
      refine lv_aload_n hx hb dM_scan_22 rfl (lv_at hl 1 rfl) ?_
      refine lv_aload_n hx hb dM_scan_23 rfl (lv_at hl 1 rfl) ?_
      refine M_geta hx hb K hM 1 kM_f7 dM_scan_24 (kk := ?_)
      refine lv_iload_n hx hb dM_scan_27 rfl (lv_at hl 0 rfl) ?_
      refine M_aldn hx hb K hM 1 (j := i) (show i < 120 by omega) (v := fa 1 i) (congrFun hFr.2 i) dM_scan_28 (kk := ?_)
      refine va_calli (M_run (As := [.int (fa 1 i)]) (rest := []) (n := 1) hx hb hml K hM (c_signOne l D cl tys A ci tI tZ cI cZ o ad _ _ (fa 1 i) op d md n pt fw mo nm dg hQ (by omega)) kM_c_signOne kM_m112 kM_i_signOne kM_s_signOne rfl rfl ⟨rfl, by decide +kernel⟩ ⟨Nat.le_of_ble_eq_true rfl, Nat.le_of_ble_eq_true rfl⟩ rfl hl.1 rfl (lv_room (Nat.le_of_ble_eq_true rfl)) dM_scan_29 ⟨Nat.le_of_ble_eq_true rfl, Nat.le_of_ble_eq_true rfl⟩) hS (fun q _ h => h) (fun q h => h) (fun r u t H1 locs1 ht hvm hw hB hz hk hS => ?_)
      obtain ⟨hM, -⟩ := hB
      rw [ht] at hM
      obtain ⟨hF2, ⟨rfl, hv⟩ | ⟨rfl, t9, hv, hq9⟩⟩ := hw
      · skip
        refine lv_if_ne (tgt := 37) hx hb dM_scan_32 (by decide) (fun c_32 => absurd rfl c_32) (fun c_32 => ?_)
        refine lv_iconst (v := 0) hx hb dM_scan_35 (by decide) ?_
        refine W.zret (v := (0)) hx hb hr rfl (M_endi hM hK hS ?_) hS.2.2 dM_scan_36
        exact ⟨hFr.trans hF2, Or.inl ⟨rfl, by have := md_scan_none (i := i + 1) (show md_scan (fa 1) (i + 1) = none by show (md_scan (fa 1) i).bind _ = none; rw [hsc]; exact hv) z; rw [← hi, show i + (z + 1) = i + 1 + z by omega]; exact this⟩⟩
      · skip
        refine lv_if_ne (tgt := 37) hx hb dM_scan_32 (by decide) (fun c_32 => ?_) (fun c_32 => absurd c_32 (by decide))
        refine lv_iinc (v := nI (i + 1)) (lv' := [(2, .int (nI (i + 1))), (0, .ref o), (1, .int (nI L))]) hx hb dM_scan_37 hl (k := 0) rfl (nI_1 i) (by decide) rfl (fun ls hl => ?_)
        exact lv_goto (tgt := 17) hx hb dM_scan_40 (by decide) (ih (i + 1) u.1 u.2 t9 _ _ ls (by omega) (by show (md_scan (fa 1) i).bind _ = some t9; rw [hsc]; exact hv) hq9 (by have := md_sign_n hv; simp only at this; omega) (hFr.trans hF2) hM hS hl)
  refine lv_aload_n hx hb dM_scan_0 rfl (lv_at hl 0 rfl) ?_
  refine lv_iconst (v := 0) hx hb dM_scan_1 (by decide) ?_
  refine lv_as (v := nI 0) nI_0.symm ?_
  refine M_puti hx hb K hM hS 7 kM_f84 dM_scan_2 (kk := fun H locs hM hS => ?_)
  refine lv_aload_n hx hb dM_scan_5 rfl (lv_at hl 0 rfl) ?_
  refine lv_iconst (v := 0) hx hb dM_scan_6 (by decide) ?_
  refine lv_as (v := nI 0) nI_0.symm ?_
  refine M_puti hx hb K hM hS 8 kM_f87 dM_scan_7 (kk := fun H locs hM hS => ?_)
  refine lv_aload_n hx hb dM_scan_10 rfl (lv_at hl 0 rfl) ?_
  refine lv_iconst (v := 0) hx hb dM_scan_11 (by decide) ?_
  refine lv_as (v := nI 0) nI_0.symm ?_
  refine M_puti hx hb K hM hS 13 kM_f81 dM_scan_12 (kk := fun H locs hM hS => ?_)
  refine lv_iconst (v := 0) hx hb dM_scan_15 (by decide) ?_
  refine lv_as (v := nI 0) nI_0.symm ?_
  refine lv_istore_n (lv' := [(2, .int (nI 0)), (0, .ref o), (1, .int (nI L))]) hx hb dM_scan_16 rfl hl (by decide) rfl (fun ls hl => ?_)
  exact loop L 0 _ _ md_t0 _ _ ls (by omega) rfl (mdQ_0 rfl rfl rfl) (Nat.le_refl 0) ⟨fun j h1 h2 h3 => by simp only [up_n h1, up_n h2, up_n h3], rfl⟩ hM hS hl
end
section
/-- the byte number k of a long -/
def md_byte (p : Int64) (k : Nat) : Int32 := (p >>> ((nI (8 * k)).toInt64 &&& 63)).toInt32 &&& 255
def md_dn (z : Nat) : Int32 := nI z - 1
/-- the signs of a long behind the first n of a text -/
def md_put (p : Int64) : Nat → Nat → (Nat → Int32) → Option (Nat × (Nat → Int32))
  | 0, n, tx => some (n, tx)
  | z + 1, n, tx => if md_byte p z = 0 then md_put p z n tx else if md_byte p z < 32 ∨ 126 < md_byte p z ∨ n = 120 then none else md_put p z (n + 1) (upd tx n (md_byte p z))
def md_text (p : Int64) (n : Nat) (tx : Nat → Int32) : Option Nat := (md_put p 8 n tx).bind fun q => (md_scan q.2 q.1).map fun _ => q.1
theorem va_up_id {α : Type} (f : Nat → α) (k : Nat) : va_up f k (f k) = f := by
  funext j
  by_cases h : j = k
  · rw [h, up_s]
  · exact up_n h
theorem md_dn_dec (z : Nat) : md_dn (z + 1) + Int32.ofInt (-1) = md_dn z := by
  rw [show md_dn (z + 1) = nI z from nI_pred z, show Int32.ofInt (-1) = -1 by decide]
  unfold md_dn
  exact (Int32.sub_eq_add_neg ..).symm
set_option maxHeartbeats 4000000 in
set_option maxRecDepth 100000 in
theorem c_text (l : Launch) (D : va_G) (cl : List vw_C) (tys : List (ClassId × FieldType)) (A : Nat → Prop) (ci tI tZ : Nat) (cI cZ : ClassId) (o : Nat) (ad : Nat → Nat) (fi : Nat → Int32) (fa : Nat → Nat → Int32) (pp : Int64) (L0 : Nat) (hst : ¬ fi 28 = 1) (h2 : fi 2 = nI L0) (hL0 : L0 ≤ 120) :
    Met l yM_text (.code yM_text bM_text 6 (some .int) :: lw_g) ({ frames := 4, cells := 0, slots := 0, locals := 88 }) (va_Pc [.ref o, .long pp] (mdPre D cl tys A ci tI tZ cI cZ o ad fi fa)) (va_Qi (fun r S => (md_text pp L0 (fa 1) = none ∧ r = 0 ∧ S.1 0 = 2) ∨ (∃ nn, md_text pp L0 (fa 1) = some nn ∧ r = nI nn ∧ S.1 0 = 0)) (mdB D cl tys A ci cI cZ o ad) A) 0 0 A := by
  refine Met.ofW (cc := bM_text) (maxL := 6) (ret := (some .int)) (by decide) rfl ?_
  intro p e s m args below meth c s₁ B hml hv
  obtain ⟨rfl, hM, hK, hc, hI, hZ⟩ := hv
  have hx := B.exec
  have hb := B.bytes
  have hr := B.returns
  have hts := atoms_spec (ws := (.code yM_text bM_text 6 (some .int) :: lw_g)) B.pre
  have hown : s.vm.findClass RM = some m.cls := findClass_of_methodNamed B.named
  have K : mdC D cl tys ci tI tZ cI cZ s m _ := ⟨fun w h => hts w (List.mem_cons_of_mem _ h), hown, hK, hc, hI, hZ⟩
  have hlocks := B.notSynchronized
  have hS : va_S A s.heap s.heap [] := va_S.rf
  have hl := lv_entry ([.ref o, .long pp]) (n := 6) (Nat.le_of_ble_eq_true rfl)
  rw [lg_entry_eq]
  generalize (lg_sl ([.ref o, .long pp]) ++ List.replicate (6 - (lg_sl ([.ref o, .long pp])).length) Slot.unset).toArray = ls at hl ⊢
  have hl : lv_has ls 6 [(0, .ref o), (1, .long pp)] := hl
  have loop : ∀ (z n : Nat) (tx : Nat → Int32) (H : Heap) (locs : List Loc) (ls : Array Slot), z ≤ 8 → n ≤ 120 → md_put pp 8 L0 (fa 1) = md_put pp z n tx → mdW D cl A ci cI cZ o ad (va_up fi 0 0) (va_up fa 1 tx) H → va_S A s.heap H locs → lv_has ls 6 [(4, .int (md_dn z)), (3, .int (nI n)), (0, .ref o), (1, .long pp)] → W p l e (headSpec (.code yM_text bM_text 6 (some .int) :: lw_g) ({ frames := 4, cells := 0, slots := 0, locals := 88 })).room s m #[Value.ref o, Value.long pp] below meth c H locs 0 0 (MQ below (va_Qi (fun r S => (md_text pp L0 (fa 1) = none ∧ r = 0 ∧ S.1 0 = 2) ∨ (∃ nn, md_text pp L0 (fa 1) = some nn ∧ r = nI nn ∧ S.1 0 = 0)) (mdB D cl tys A ci cI cZ o ad) A) #[Value.ref o, Value.long pp] s 0 0 A) (F0 m 28 ls []) := by
    intro z
    induction z with
    | zero =>
      intro n tx H locs ls hz8 hn hp hM hS hl
      refine lv_iload hx hb dM_text_28 (lv_at hl 0 rfl) ?_
      refine lv_if_lt (tgt := 95) hx hb dM_text_30 (by decide) (fun c_30 => ?_) (fun c_30 => absurd (by decide) c_30)
      refine lv_aload_n hx hb dM_text_95 rfl (lv_at hl 2 rfl) ?_
      refine lv_iload_n hx hb dM_text_96 rfl (lv_at hl 1 rfl) ?_
      refine va_calli (M_run (As := [.int (nI n)]) (rest := []) (n := 1) hx hb hml K hM (c_scan l D cl tys A ci tI tZ cI cZ o ad _ _ n hn) kM_c_scan kM_m124 kM_i_scan kM_s_scan rfl rfl ⟨rfl, by decide +kernel⟩ ⟨Nat.le_of_ble_eq_true rfl, Nat.le_of_ble_eq_true rfl⟩ rfl hl.1 rfl (lv_room (Nat.le_of_ble_eq_true rfl)) dM_text_97 ⟨Nat.le_of_ble_eq_true rfl, Nat.le_of_ble_eq_true rfl⟩) hS (fun q _ h => h) (fun q h => h) (fun r u t H1 locs1 ht hvm hw hB hz hk hS => ?_)
      obtain ⟨hM, -⟩ := hB
      rw [ht] at hM
      obtain ⟨hF2, ⟨rfl, hv⟩ | ⟨rfl, t9, hv, hq9⟩⟩ := hw
      · skip
        refine lv_if_ne (tgt := 109) hx hb dM_text_100 (by decide) (fun c_100 => absurd rfl c_100) (fun c_100 => ?_)
        refine lv_aload_n hx hb dM_text_103 rfl (lv_at hl 2 rfl) ?_
        refine lv_iconst (v := 2) hx hb dM_text_104 (by decide) ?_
        refine va_calli (M_run (As := [.int (2)]) (rest := []) (n := 1) hx hb hml K hM (c_fail l D cl tys A ci tI tZ cI cZ o ad _ _ 2) kM_c_fail kM_m118 kM_i_fail kM_s_fail rfl rfl ⟨rfl, by decide +kernel⟩ ⟨Nat.le_of_ble_eq_true rfl, Nat.le_of_ble_eq_true rfl⟩ rfl hl.1 rfl (lv_room (Nat.le_of_ble_eq_true rfl)) dM_text_105 ⟨Nat.le_of_ble_eq_true rfl, Nat.le_of_ble_eq_true rfl⟩) hS (fun q _ h => h) (fun q h => h) (fun r u t H1 locs1 ht hvm hw hB hz hk hS => ?_)
        obtain ⟨hM, -⟩ := hB
        rw [ht] at hM
        obtain ⟨rfl, rfl⟩ := hw
        dsimp only at hM
        refine W.iret (v := (0)) hx hb hr (M_endi hM hK hS ?_) hS.2.2 dM_text_108
        exact Or.inl ⟨by unfold md_text; rw [hp]; show (md_scan tx n).map _ = none; rw [show md_scan tx n = none from hv]; rfl, rfl, rfl⟩
      · skip
        refine lv_if_ne (tgt := 109) hx hb dM_text_100 (by decide) (fun c_100 => ?_) (fun c_100 => absurd c_100 (by decide))
        refine lv_aload_n hx hb dM_text_109 rfl (lv_at hl 2 rfl) ?_
        refine lv_iload_n hx hb dM_text_110 rfl (lv_at hl 1 rfl) ?_
        refine M_puti hx hb K hM hS 2 kM_f121 dM_text_111 (kk := fun H locs hM hS => ?_)
        refine lv_aload_n hx hb dM_text_114 rfl (lv_at hl 2 rfl) ?_
        refine M_getv hx hb K hM 2 (v := nI n) rfl kM_f121 dM_text_115 (kk := ?_)
        refine W.iret (v := (nI n)) hx hb hr (M_endi hM hK hS ?_) hS.2.2 dM_text_118
        exact Or.inr ⟨n, by unfold md_text; rw [hp]; show (md_scan tx n).map _ = some n; rw [show md_scan tx n = some t9 from hv]; rfl, rfl, hF2.1 0 (by decide) (by decide) (by decide)⟩
    | succ z ih =>
      intro n tx H locs ls hz8 hn hp hM hS hl
      refine lv_iload hx hb dM_text_28 (lv_at hl 0 rfl) ?_
      refine lv_if_lt (tgt := 95) hx hb dM_text_30 (by decide) (fun c_30 => absurd c_30 (by rw [show md_dn (z + 1) = nI z from nI_pred z]; exact nI_pos (by omega))) (fun c_30 => ?_)
      refine lv_lload_n hx hb dM_text_33 rfl (lv_at hl 3 rfl) ?_
      refine lv_bipush (v := 8) hx hb dM_text_34 (by decide) ?_
      refine lv_iload hx hb dM_text_36 (lv_at hl 0 rfl) ?_
      refine lv_as (v := nI z) (nI_pred z) ?_
      refine lv_imul hx hb dM_text_38 ?_
      refine lv_as (v := nI (8 * z)) (pk_mul 8 z) ?_
      refine lv_lshr (v := pp >>> ((nI (8 * z)).toInt64 &&& 63)) hx hb dM_text_39 rfl ?_
      refine lv_l2i (v := (pp >>> ((nI (8 * z)).toInt64 &&& 63)).toInt32) hx hb dM_text_40 rfl ?_
      refine lv_sipush (v := 255) hx hb dM_text_41 (by decide) ?_
      refine lv_iand hx hb dM_text_44 ?_
      refine lv_as (v := md_byte pp z) rfl ?_
      refine lv_istore (lv' := [(5, .int (md_byte pp z)), (4, .int (md_dn (z + 1))), (3, .int (nI n)), (0, .ref o), (1, .long pp)]) hx hb dM_text_45 hl (by decide) rfl (fun ls hl => ?_)
      refine lv_iload hx hb dM_text_47 (lv_at hl 0 rfl) ?_
      refine lv_if_eq (tgt := 89) hx hb dM_text_49 (by decide) (fun c_49 => ?_) (fun c_49 => ?_)
      · skip
        refine lv_iinc (v := md_dn z) (lv' := [(4, .int (md_dn z)), (5, .int (md_byte pp z)), (3, .int (nI n)), (0, .ref o), (1, .long pp)]) hx hb dM_text_89 hl (k := 1) rfl (md_dn_dec z) (by decide) rfl (fun ls hl => ?_)
        exact lv_goto (tgt := 28) hx hb dM_text_92 (by decide) (ih n tx _ _ ls (by omega) hn (by rw [hp]; show (if _ then _ else _) = _; rw [if_pos c_49]) hM hS (lv_sub hl [0, 2, 3, 4] rfl))
      · skip
        refine lv_iload hx hb dM_text_52 (lv_at hl 0 rfl) ?_
        refine lv_bipush (v := 32) hx hb dM_text_54 (by decide) ?_
        refine lv_icmp_lt (tgt := 72) hx hb dM_text_56 (by decide) (fun c_56 => ?_) (fun c_56 => ?_)
        · skip
          refine lv_aload_n hx hb dM_text_72 rfl (lv_at hl 3 rfl) ?_
          refine lv_iconst (v := 2) hx hb dM_text_73 (by decide) ?_
          refine va_calli (M_run (As := [.int (2)]) (rest := []) (n := 1) hx hb hml K hM (c_fail l D cl tys A ci tI tZ cI cZ o ad _ _ 2) kM_c_fail kM_m118 kM_i_fail kM_s_fail rfl rfl ⟨rfl, by decide +kernel⟩ ⟨Nat.le_of_ble_eq_true rfl, Nat.le_of_ble_eq_true rfl⟩ rfl hl.1 rfl (lv_room (Nat.le_of_ble_eq_true rfl)) dM_text_74 ⟨Nat.le_of_ble_eq_true rfl, Nat.le_of_ble_eq_true rfl⟩) hS (fun q _ h => h) (fun q h => h) (fun r u t H1 locs1 ht hvm hw hB hz hk hS => ?_)
          obtain ⟨hM, -⟩ := hB
          rw [ht] at hM
          obtain ⟨rfl, rfl⟩ := hw
          dsimp only at hM
          refine W.iret (v := (0)) hx hb hr (M_endi hM hK hS ?_) hS.2.2 dM_text_77
          exact Or.inl ⟨by unfold md_text; rw [hp]; show (if _ then _ else if _ then _ else _ : Option _).bind _ = none; rw [if_neg c_49, if_pos (Or.inl c_56)]; rfl, rfl, rfl⟩
        · skip
          refine lv_iload hx hb dM_text_59 (lv_at hl 0 rfl) ?_
          refine lv_bipush (v := 126) hx hb dM_text_61 (by decide) ?_
          refine lv_icmp_gt (tgt := 72) hx hb dM_text_63 (by decide) (fun c_63 => ?_) (fun c_63 => ?_)
          · skip
            refine lv_aload_n hx hb dM_text_72 rfl (lv_at hl 3 rfl) ?_
            refine lv_iconst (v := 2) hx hb dM_text_73 (by decide) ?_
            refine va_calli (M_run (As := [.int (2)]) (rest := []) (n := 1) hx hb hml K hM (c_fail l D cl tys A ci tI tZ cI cZ o ad _ _ 2) kM_c_fail kM_m118 kM_i_fail kM_s_fail rfl rfl ⟨rfl, by decide +kernel⟩ ⟨Nat.le_of_ble_eq_true rfl, Nat.le_of_ble_eq_true rfl⟩ rfl hl.1 rfl (lv_room (Nat.le_of_ble_eq_true rfl)) dM_text_74 ⟨Nat.le_of_ble_eq_true rfl, Nat.le_of_ble_eq_true rfl⟩) hS (fun q _ h => h) (fun q h => h) (fun r u t H1 locs1 ht hvm hw hB hz hk hS => ?_)
            obtain ⟨hM, -⟩ := hB
            rw [ht] at hM
            obtain ⟨rfl, rfl⟩ := hw
            dsimp only at hM
            refine W.iret (v := (0)) hx hb hr (M_endi hM hK hS ?_) hS.2.2 dM_text_77
            exact Or.inl ⟨by unfold md_text; rw [hp]; show (if _ then _ else if _ then _ else _ : Option _).bind _ = none; rw [if_neg c_49, if_pos (Or.inr (Or.inl c_63))]; rfl, rfl, rfl⟩
          · skip
            refine lv_iload_n hx hb dM_text_66 rfl (lv_at hl 2 rfl) ?_
            refine lv_bipush (v := 120) hx hb dM_text_67 (by decide) ?_
            refine lv_icmp_ne (tgt := 78) hx hb dM_text_69 (by decide) (fun c_69 => ?_) (fun c_69 => ?_)
            · skip
              have h120 : ¬ n = 120 := fun q => c_69 (by rw [q]; rfl)
              refine lv_aload_n hx hb dM_text_78 rfl (lv_at hl 3 rfl) ?_
              refine M_geta hx hb K hM 1 kM_f7 dM_text_79 (kk := ?_)
              refine lv_iload_n hx hb dM_text_82 rfl (lv_at hl 2 rfl) ?_
              refine lv_iload hx hb dM_text_83 (lv_at hl 0 rfl) ?_
              refine M_astn hx hb K hM hS 1 (j := n) (show n < 120 by omega) dM_text_85 (kk := fun H locs hM hS => ?_)
              rw [show upd (va_up fa 1 tx 1) n (md_byte pp z) = upd tx n (md_byte pp z) from rfl, bx_uu] at hM
              refine lv_iinc (v := nI (n + 1)) (lv' := [(3, .int (nI (n + 1))), (5, .int (md_byte pp z)), (4, .int (md_dn (z + 1))), (0, .ref o), (1, .long pp)]) hx hb dM_text_86 hl (k := 2) rfl (nI_1 n) (by decide) rfl (fun ls hl => ?_)
              refine lv_iinc (v := md_dn z) (lv' := [(4, .int (md_dn z)), (3, .int (nI (n + 1))), (5, .int (md_byte pp z)), (0, .ref o), (1, .long pp)]) hx hb dM_text_89 hl (k := 2) rfl (md_dn_dec z) (by decide) rfl (fun ls hl => ?_)
              exact lv_goto (tgt := 28) hx hb dM_text_92 (by decide) (ih (n + 1) (upd tx n (md_byte pp z)) _ _ ls (by omega) (by omega) (by rw [hp]; show (if _ then _ else _) = _; rw [if_neg c_49, if_neg (fun q => q.elim c_56 (fun q => q.elim c_63 h120))]) hM hS (lv_sub hl [0, 1, 3, 4] rfl))
            · skip
              refine lv_aload_n hx hb dM_text_72 rfl (lv_at hl 3 rfl) ?_
              refine lv_iconst (v := 2) hx hb dM_text_73 (by decide) ?_
              refine va_calli (M_run (As := [.int (2)]) (rest := []) (n := 1) hx hb hml K hM (c_fail l D cl tys A ci tI tZ cI cZ o ad _ _ 2) kM_c_fail kM_m118 kM_i_fail kM_s_fail rfl rfl ⟨rfl, by decide +kernel⟩ ⟨Nat.le_of_ble_eq_true rfl, Nat.le_of_ble_eq_true rfl⟩ rfl hl.1 rfl (lv_room (Nat.le_of_ble_eq_true rfl)) dM_text_74 ⟨Nat.le_of_ble_eq_true rfl, Nat.le_of_ble_eq_true rfl⟩) hS (fun q _ h => h) (fun q h => h) (fun r u t H1 locs1 ht hvm hw hB hz hk hS => ?_)
              obtain ⟨hM, -⟩ := hB
              rw [ht] at hM
              obtain ⟨rfl, rfl⟩ := hw
              dsimp only at hM
              refine W.iret (v := (0)) hx hb hr (M_endi hM hK hS ?_) hS.2.2 dM_text_77
              exact Or.inl ⟨by unfold md_text; rw [hp]; show (if _ then _ else if _ then _ else _ : Option _).bind _ = none; rw [if_neg c_49, if_pos (Or.inr (Or.inr ((nI_eq (b := 120) (by omega) (by decide)).mp c_69)))]; rfl, rfl, rfl⟩
  refine lv_aload_n hx hb dM_text_0 rfl (lv_at hl 0 rfl) ?_
  refine lv_iconst (v := 0) hx hb dM_text_1 (by decide) ?_
  refine M_puti hx hb K hM hS 0 kM_f77 dM_text_2 (kk := fun H locs hM hS => ?_)
  refine lv_aload_n hx hb dM_text_5 rfl (lv_at hl 0 rfl) ?_
  refine M_getv hx hb K hM 28 (v := fi 28) rfl kM_f115 dM_text_6 (kk := ?_)
  refine lv_iconst (v := 1) hx hb dM_text_9 (by decide) ?_
  refine lv_icmp_ne (tgt := 19) hx hb dM_text_10 (by decide) (fun c_10 => ?_) (fun c_10 => absurd c_10 hst)
  refine lv_aload_n hx hb dM_text_19 rfl (lv_at hl 0 rfl) ?_
  refine M_getv hx hb K hM 2 (v := nI L0) h2 kM_f121 dM_text_20 (kk := ?_)
  refine lv_istore_n (lv' := [(3, .int (nI L0)), (0, .ref o), (1, .long pp)]) hx hb dM_text_23 rfl hl (by decide) rfl (fun ls hl => ?_)
  refine lv_bipush (v := 7) hx hb dM_text_24 (by decide) ?_
  refine lv_as (v := md_dn 8) (by decide) ?_
  refine lv_istore (lv' := [(4, .int (md_dn 8)), (3, .int (nI L0)), (0, .ref o), (1, .long pp)]) hx hb dM_text_26 hl (by decide) rfl (fun ls hl => ?_)
  exact loop 8 L0 (fa 1) _ _ ls (Nat.le_refl 8) hL0 rfl (by rw [va_up_id]; exact hM) hS (lv_sub hl [0, 1, 2, 3] rfl)
set_option maxHeartbeats 4000000 in
set_option maxRecDepth 100000 in
theorem c_thrown (l : Launch) (D : va_G) (cl : List vw_C) (tys : List (ClassId × FieldType)) (A : Nat → Prop) (ci tI tZ : Nat) (cI cZ : ClassId) (o : Nat) (ad : Nat → Nat) (fi : Nat → Int32) (fa : Nat → Nat → Int32) :
    Met l yM_thrown (.code yM_thrown bM_thrown 1 (some .int) :: lw_g) ({ frames := 0, cells := 0, slots := 0, locals := 0 }) (va_Pc [.ref o] (mdPre D cl tys A ci tI tZ cI cZ o ad fi fa)) (va_Qi (fun r S => r = fi 0 ∧ S = (fi, fa)) (mdB D cl tys A ci cI cZ o ad) A) 0 0 A := by
  refine Met.ofW (cc := bM_thrown) (maxL := 1) (ret := (some .int)) (by decide) rfl ?_
  intro p e s m args below meth c s₁ B hml hv
  obtain ⟨rfl, hM, hK, hc, hI, hZ⟩ := hv
  have hx := B.exec
  have hb := B.bytes
  have hr := B.returns
  have hts := atoms_spec (ws := (.code yM_thrown bM_thrown 1 (some .int) :: lw_g)) B.pre
  have hown : s.vm.findClass RM = some m.cls := findClass_of_methodNamed B.named
  have K : mdC D cl tys ci tI tZ cI cZ s m _ := ⟨fun w h => hts w (List.mem_cons_of_mem _ h), hown, hK, hc, hI, hZ⟩
  have hlocks := B.notSynchronized
  have hS : va_S A s.heap s.heap [] := va_S.rf
  have hl := lv_entry ([.ref o]) (n := 1) (Nat.le_of_ble_eq_true rfl)
  rw [lg_entry_eq]
  generalize (lg_sl ([.ref o]) ++ List.replicate (1 - (lg_sl ([.ref o])).length) Slot.unset).toArray = ls at hl ⊢
  have hl : lv_has ls 1 [(0, .ref o)] := hl
  refine lv_aload_n hx hb dM_thrown_0 rfl (lv_at hl 0 rfl) ?_
  refine M_getv hx hb K hM 0 (v := fi 0) rfl kM_f77 dM_thrown_1 (kk := ?_)
  refine W.iret (v := (fi 0)) hx hb hr (M_endi hM hK hS ?_) hS.2.2 dM_thrown_4
  exact ⟨rfl, rfl⟩
end
section
section MROW3
variable {p : Program} {l : Launch} {e : Env} {R : Room} {s : State} {m : MethodId} {args : Array Value} {below : List Frame} {meth : Method} {c : Code} {H : Heap} {locs : List Loc} {cells slots : Nat} {Q : State → Prop}
variable {cc : ByteArray} {pc : Nat} {ls : Array Slot} {rest : List Value} {D : va_G} {cl : List vw_C} {A : Nat → Prop} {tys : List (ClassId × FieldType)} {H0 : Heap} {ci tI tZ : Nat} {cI cZ : ClassId} {o : Nat} {ad : Nat → Nat} {fi : Nat → Int32} {fa : Nat → Nat → Int32}
theorem M_zaldn (hx : p.tables.exec = Jvm.exec) (hb : c.code = cc) (K : mdC D cl tys ci tI tZ cI cZ s m args) (hM : mdW D cl A ci cI cZ o ad fi fa H) {j : Nat} (hj : j < 26) {v : Int32} (hv : fa 15 j = v) (hdg : decode cc pc = .ok (.baload, 1))
    (kk : W p l e R s m args below meth c H locs cells slots Q (F0 m (pc + 1) ls (.int v :: rest))) : W p l e R s m args below meth c H locs cells slots Q (F0 m pc ls (.int (nI j) :: .ref (ad 15) :: rest)) := by
  subst hv
  refine va_zald hx hb K.2.2.1 hM.1 (mdO 15) tZ (cA := cZ) (n := 26) (f := fa 15) rfl K.2.2.2.2.2 (vp_in_nI hj (by decide)) hdg ?_
  rw [nI_clamp (by omega)]
  exact kk
theorem M_zastn (hx : p.tables.exec = Jvm.exec) (hb : c.code = cc) (K : mdC D cl tys ci tI tZ cI cZ s m args) (hM : mdW D cl A ci cI cZ o ad fi fa H) (hS : va_S A H0 H locs) {j : Nat} (hj : j < 26) (hdg : decode cc pc = .ok (.bastore, 1))
    (kk : ∀ (H1 : Heap) (locs1 : List Loc), mdW D cl A ci cI cZ o ad fi (va_up fa 15 (upd (fa 15) j 1)) H1 → va_S A H0 H1 locs1 → W p l e R s m args below meth c H1 locs1 cells slots Q (F0 m (pc + 1) ls rest)) : W p l e R s m args below meth c H locs cells slots Q (F0 m pc ls (.int 1 :: .int (nI j) :: .ref (ad 15) :: rest)) := by
  refine va_zast hx hb K.2.2.1 hM.1 hM.2 hS (mdO 15) tZ (cA := cZ) (n := 26) (f := fa 15) rfl K.2.2.2.2.2 (vp_in_nI hj (by decide)) hdg (fun H1 locs1 p1 d1 s1 => kk H1 locs1 ⟨?_, ?_⟩ s1)
  · rw [nI_clamp (by omega), show vp_nar .boolean 1 = 1 by decide] at p1; exact p1
  · rw [nI_clamp (by omega), show vp_nar .boolean 1 = 1 by decide] at d1; exact d1
end MROW3
/-- the sum of the first j of the given marks -/
theorem md_g1 {q j : Nat} : upd (fun _ => (0 : Int32)) q 1 j = if j = q then 1 else 0 := rfl
set_option maxHeartbeats 4000000 in
set_option maxRecDepth 100000 in
theorem c_clear (l : Launch) (D : va_G) (cl : List vw_C) (tys : List (ClassId × FieldType)) (A : Nat → Prop) (ci tI tZ : Nat) (cI cZ : ClassId) (o : Nat) (ad : Nat → Nat) (fi : Nat → Int32) (fa : Nat → Nat → Int32) (hz : ∀ k, fi k = 0) (ha : ∀ k j, fa k j = 0) :
    Met l yM_clear (.code yM_clear bM_clear 2 (some .int) :: lw_g) ({ frames := 1, cells := 0, slots := 0, locals := 21 }) (va_Pc [.ref o] (mdPre D cl tys A ci tI tZ cI cZ o ad fi fa)) (va_Qi (fun r S => r = 0 ∧ S.1 0 = 0) (mdB D cl tys A ci cI cZ o ad) A) 0 0 A := by
  refine Met.ofW (cc := bM_clear) (maxL := 2) (ret := (some .int)) (by decide) rfl ?_
  intro p e s m args below meth c s₁ B hml hv
  obtain ⟨rfl, hM, hK, hc, hI, hZ⟩ := hv
  have hx := B.exec
  have hb := B.bytes
  have hr := B.returns
  have hts := atoms_spec (ws := (.code yM_clear bM_clear 2 (some .int) :: lw_g)) B.pre
  have hown : s.vm.findClass RM = some m.cls := findClass_of_methodNamed B.named
  have K : mdC D cl tys ci tI tZ cI cZ s m _ := ⟨fun w h => hts w (List.mem_cons_of_mem _ h), hown, hK, hc, hI, hZ⟩
  have hlocks := B.notSynchronized
  have hS : va_S A s.heap s.heap [] := va_S.rf
  have hl := lv_entry ([.ref o]) (n := 2) (Nat.le_of_ble_eq_true rfl)
  rw [lg_entry_eq]
  generalize (lg_sl ([.ref o]) ++ List.replicate (2 - (lg_sl ([.ref o])).length) Slot.unset).toArray = ls at hl ⊢
  have hl : lv_has ls 2 [(0, .ref o)] := hl
  refine lv_aload_n hx hb dM_clear_0 rfl (lv_at hl 0 rfl) ?_
  refine lv_iconst (v := 0) hx hb dM_clear_1 (by decide) ?_
  refine M_puti hx hb K hM hS 0 kM_f77 dM_clear_2 (kk := fun H locs hM hS => ?_)
  refine lv_aload_n hx hb dM_clear_5 rfl (lv_at hl 0 rfl) ?_
  refine M_getv hx hb K hM 28 (v := 0) (hz 28) kM_f115 dM_clear_6 (kk := ?_)
  refine lv_iconst (v := 1) hx hb dM_clear_9 (by decide) ?_
  refine lv_icmp_ne (tgt := 19) hx hb dM_clear_10 (by decide) (fun c_10 => ?_) (fun c_10 => absurd c_10 (by decide))
  refine lv_aload_n hx hb dM_clear_19 rfl (lv_at hl 0 rfl) ?_
  refine M_getv hx hb K hM 2 (v := 0) (hz 2) kM_f121 dM_clear_20 (kk := ?_)
  refine lv_istore_n (lv' := [(1, .int (0)), (0, .ref o)]) hx hb dM_clear_23 rfl hl (by decide) rfl (fun ls hl => ?_)
  refine lv_aload_n hx hb dM_clear_24 rfl (lv_at hl 1 rfl) ?_
  refine lv_iconst (v := 0) hx hb dM_clear_25 (by decide) ?_
  refine M_puti hx hb K hM hS 2 kM_f121 dM_clear_26 (kk := fun H locs hM hS => ?_)
  refine lv_iload_n hx hb dM_clear_29 rfl (lv_at hl 0 rfl) ?_
  refine W.iret (v := (0)) hx hb hr (M_endi hM hK hS ?_) hS.2.2 dM_clear_30
  exact ⟨rfl, rfl⟩
set_option maxHeartbeats 4000000 in
set_option maxRecDepth 100000 in
theorem c_isWhole (l : Launch) (D : va_G) (cl : List vw_C) (tys : List (ClassId × FieldType)) (A : Nat → Prop) (ci tI tZ : Nat) (cI cZ : ClassId) (o : Nat) (ad : Nat → Nat) (fi : Nat → Int32) (fa : Nat → Nat → Int32) (h2 : fi 2 = 0) :
    Met l yM_isWhole (.code yM_isWhole bM_isWhole 1 (some .boolean) :: lw_g) ({ frames := 4, cells := 0, slots := 0, locals := 88 }) (va_Pc [.ref o] (mdPre D cl tys A ci tI tZ cI cZ o ad fi fa)) (va_Qi (fun r S => r = 0 ∧ (∀ k, k ≠ 7 → k ≠ 8 → k ≠ 13 → S.1 k = fi k)) (mdB D cl tys A ci cI cZ o ad) A) 0 0 A := by
  refine Met.ofW (cc := bM_isWhole) (maxL := 1) (ret := (some .boolean)) (by decide) rfl ?_
  intro p e s m args below meth c s₁ B hml hv
  obtain ⟨rfl, hM, hK, hc, hI, hZ⟩ := hv
  have hx := B.exec
  have hb := B.bytes
  have hr := B.returns
  have hts := atoms_spec (ws := (.code yM_isWhole bM_isWhole 1 (some .boolean) :: lw_g)) B.pre
  have hown : s.vm.findClass RM = some m.cls := findClass_of_methodNamed B.named
  have K : mdC D cl tys ci tI tZ cI cZ s m _ := ⟨fun w h => hts w (List.mem_cons_of_mem _ h), hown, hK, hc, hI, hZ⟩
  have hlocks := B.notSynchronized
  have hS : va_S A s.heap s.heap [] := va_S.rf
  have hl := lv_entry ([.ref o]) (n := 1) (Nat.le_of_ble_eq_true rfl)
  rw [lg_entry_eq]
  generalize (lg_sl ([.ref o]) ++ List.replicate (1 - (lg_sl ([.ref o])).length) Slot.unset).toArray = ls at hl ⊢
  have hl : lv_has ls 1 [(0, .ref o)] := hl
  refine lv_aload_n hx hb dM_isWhole_0 rfl (lv_at hl 0 rfl) ?_
  refine lv_aload_n hx hb dM_isWhole_1 rfl (lv_at hl 0 rfl) ?_
  refine M_getv hx hb K hM 2 (v := nI 0) (h2.trans nI_0.symm) kM_f121 dM_isWhole_2 (kk := ?_)
  refine va_calli (M_run (As := [.int (nI 0)]) (rest := []) (n := 1) hx hb hml K hM (c_scan l D cl tys A ci tI tZ cI cZ o ad _ _ 0 (by decide)) kM_c_scan kM_m124 kM_i_scan kM_s_scan rfl rfl ⟨rfl, by decide +kernel⟩ ⟨Nat.le_of_ble_eq_true rfl, Nat.le_of_ble_eq_true rfl⟩ rfl hl.1 rfl (lv_room (Nat.le_of_ble_eq_true rfl)) dM_isWhole_5 ⟨Nat.le_of_ble_eq_true rfl, Nat.le_of_ble_eq_true rfl⟩) hS (fun q _ h => h) (fun q h => h) (fun r u t H1 locs1 ht hvm hw hB hz hk hS => ?_)
  obtain ⟨hM, -⟩ := hB
  rw [ht] at hM
  obtain ⟨hF2, ⟨rfl, hv⟩ | ⟨rfl, t9, hv, hq9⟩⟩ := hw
  · cases hv
  obtain rfl : t9 = md_t0 := (Option.some.inj hv).symm
  obtain ⟨op, hq⟩ := hq9
  refine lv_if_eq (tgt := 39) hx hb dM_isWhole_8 (by decide) (fun c_8 => absurd c_8 (by decide)) (fun c_8 => ?_)
  refine lv_aload_n hx hb dM_isWhole_11 rfl (lv_at hl 0 rfl) ?_
  refine M_getv hx hb K hM 7 (v := nI 0) hq.1.1 kM_f84 dM_isWhole_12 (kk := ?_)
  refine lv_if_ne (tgt := 39) hx hb dM_isWhole_15 (by decide) (fun c_15 => absurd (by decide) c_15) (fun c_15 => ?_)
  refine lv_aload_n hx hb dM_isWhole_18 rfl (lv_at hl 0 rfl) ?_
  refine M_getv hx hb K hM 8 (v := nI 0) hq.1.2.1 kM_f87 dM_isWhole_19 (kk := ?_)
  refine lv_bipush (v := 6) hx hb dM_isWhole_22 (by decide) ?_
  refine lv_icmp_eq (tgt := 35) hx hb dM_isWhole_24 (by decide) (fun c_24 => absurd c_24 (by decide)) (fun c_24 => ?_)
  refine lv_aload_n hx hb dM_isWhole_27 rfl (lv_at hl 0 rfl) ?_
  refine M_getv hx hb K hM 8 (v := nI 0) hq.1.2.1 kM_f87 dM_isWhole_28 (kk := ?_)
  refine lv_iconst (v := 4) hx hb dM_isWhole_31 (by decide) ?_
  refine lv_icmp_ne (tgt := 39) hx hb dM_isWhole_32 (by decide) (fun c_32 => ?_) (fun c_32 => absurd c_32 (by decide))
  refine lv_iconst (v := 0) hx hb dM_isWhole_39 (by decide) ?_
  refine W.zret (v := (0)) hx hb hr rfl (M_endi hM hK hS ?_) hS.2.2 dM_isWhole_40
  exact ⟨rfl, hF2.1⟩
set_option maxHeartbeats 4000000 in
set_option maxRecDepth 100000 in
theorem c_whole (l : Launch) (D : va_G) (cl : List vw_C) (tys : List (ClassId × FieldType)) (A : Nat → Prop) (ci tI tZ : Nat) (cI cZ : ClassId) (o : Nat) (ad : Nat → Nat) (fi : Nat → Int32) (fa : Nat → Nat → Int32) (hz : ∀ k, fi k = 0) (ha : ∀ k j, fa k j = 0) :
    Met l yM_whole (.code yM_whole bM_whole 1 (some .int) :: lw_g) ({ frames := 5, cells := 0, slots := 0, locals := 109 }) (va_Pc [.ref o] (mdPre D cl tys A ci tI tZ cI cZ o ad fi fa)) (va_Qi (fun r S => r = 0 ∧ S.1 0 = 0) (mdB D cl tys A ci cI cZ o ad) A) 0 0 A := by
  refine Met.ofW (cc := bM_whole) (maxL := 1) (ret := (some .int)) (by decide) rfl ?_
  intro p e s m args below meth c s₁ B hml hv
  obtain ⟨rfl, hM, hK, hc, hI, hZ⟩ := hv
  have hx := B.exec
  have hb := B.bytes
  have hr := B.returns
  have hts := atoms_spec (ws := (.code yM_whole bM_whole 1 (some .int) :: lw_g)) B.pre
  have hown : s.vm.findClass RM = some m.cls := findClass_of_methodNamed B.named
  have K : mdC D cl tys ci tI tZ cI cZ s m _ := ⟨fun w h => hts w (List.mem_cons_of_mem _ h), hown, hK, hc, hI, hZ⟩
  have hlocks := B.notSynchronized
  have hS : va_S A s.heap s.heap [] := va_S.rf
  have hl := lv_entry ([.ref o]) (n := 1) (Nat.le_of_ble_eq_true rfl)
  rw [lg_entry_eq]
  generalize (lg_sl ([.ref o]) ++ List.replicate (1 - (lg_sl ([.ref o])).length) Slot.unset).toArray = ls at hl ⊢
  have hl : lv_has ls 1 [(0, .ref o)] := hl
  refine lv_aload_n hx hb dM_whole_0 rfl (lv_at hl 0 rfl) ?_
  refine lv_iconst (v := 0) hx hb dM_whole_1 (by decide) ?_
  refine M_puti hx hb K hM hS 0 kM_f77 dM_whole_2 (kk := fun H locs hM hS => ?_)
  refine lv_aload_n hx hb dM_whole_5 rfl (lv_at hl 0 rfl) ?_
  refine va_calli (M_run (As := []) (rest := []) (n := 0) hx hb hml K hM (c_isWhole l D cl tys A ci tI tZ cI cZ o ad _ _ (hz 2)) kM_c_isWhole kM_m127 kM_i_isWhole kM_s_isWhole rfl rfl ⟨rfl, by decide +kernel⟩ ⟨Nat.le_of_ble_eq_true rfl, Nat.le_of_ble_eq_true rfl⟩ rfl hl.1 rfl (lv_room (Nat.le_of_ble_eq_true rfl)) dM_whole_6 ⟨Nat.le_of_ble_eq_true rfl, Nat.le_of_ble_eq_true rfl⟩) hS (fun q _ h => h) (fun q h => h) (fun r u t H1 locs1 ht hvm hw hB hz hk hS => ?_)
  obtain ⟨hM, -⟩ := hB
  rw [ht] at hM
  obtain ⟨rfl, hF2⟩ := hw
  refine lv_if_eq (tgt := 16) hx hb dM_whole_9 (by decide) (fun c_9 => ?_) (fun c_9 => absurd rfl c_9)
  refine lv_iconst (v := 0) hx hb dM_whole_16 (by decide) ?_
  refine W.iret (v := (0)) hx hb hr (M_endi hM hK hS ?_) hS.2.2 dM_whole_17
  exact ⟨rfl, hF2 0 (by decide) (by decide) (by decide)⟩
set_option maxHeartbeats 4000000 in
set_option maxRecDepth 100000 in
theorem c_start (l : Launch) (D : va_G) (cl : List vw_C) (tys : List (ClassId × FieldType)) (A : Nat → Prop) (ci tI tZ : Nat) (cI cZ : ClassId) (o : Nat) (ad : Nat → Nat) (fi : Nat → Int32) (fa : Nat → Nat → Int32) (hz : ∀ k, fi k = 0) (ha : ∀ k j, fa k j = 0) :
    Met l yM_start (.code yM_start bM_start 2 (some .int) :: lw_g) ({ frames := 5, cells := 0, slots := 0, locals := 109 }) (va_Pc [.ref o] (mdPre D cl tys A ci tI tZ cI cZ o ad fi fa)) (va_Qi (fun r S => r = 0 ∧ S.1 0 = 1) (mdB D cl tys A ci cI cZ o ad) A) 0 0 A := by
  refine Met.ofW (cc := bM_start) (maxL := 2) (ret := (some .int)) (by decide) rfl ?_
  intro p e s m args below meth c s₁ B hml hv
  obtain ⟨rfl, hM, hK, hc, hI, hZ⟩ := hv
  have hx := B.exec
  have hb := B.bytes
  have hr := B.returns
  have hts := atoms_spec (ws := (.code yM_start bM_start 2 (some .int) :: lw_g)) B.pre
  have hown : s.vm.findClass RM = some m.cls := findClass_of_methodNamed B.named
  have K : mdC D cl tys ci tI tZ cI cZ s m _ := ⟨fun w h => hts w (List.mem_cons_of_mem _ h), hown, hK, hc, hI, hZ⟩
  have hlocks := B.notSynchronized
  have hS : va_S A s.heap s.heap [] := va_S.rf
  have hl := lv_entry ([.ref o]) (n := 2) (Nat.le_of_ble_eq_true rfl)
  rw [lg_entry_eq]
  generalize (lg_sl ([.ref o]) ++ List.replicate (2 - (lg_sl ([.ref o])).length) Slot.unset).toArray = ls at hl ⊢
  have hl : lv_has ls 2 [(0, .ref o)] := hl
  refine lv_aload_n hx hb dM_start_0 rfl (lv_at hl 0 rfl) ?_
  refine lv_iconst (v := 0) hx hb dM_start_1 (by decide) ?_
  refine M_puti hx hb K hM hS 0 kM_f77 dM_start_2 (kk := fun H locs hM hS => ?_)
  refine lv_aload_n hx hb dM_start_5 rfl (lv_at hl 0 rfl) ?_
  refine M_getv hx hb K hM 28 (v := 0) (hz 28) kM_f115 dM_start_6 (kk := ?_)
  refine lv_iconst (v := 1) hx hb dM_start_9 (by decide) ?_
  refine lv_icmp_eq (tgt := 20) hx hb dM_start_10 (by decide) (fun c_10 => absurd c_10 (by decide)) (fun c_10 => ?_)
  refine lv_aload_n hx hb dM_start_13 rfl (lv_at hl 0 rfl) ?_
  refine va_calli (M_run (As := []) (rest := []) (n := 0) hx hb hml K hM (c_isWhole l D cl tys A ci tI tZ cI cZ o ad _ _ (hz 2)) kM_c_isWhole kM_m127 kM_i_isWhole kM_s_isWhole rfl rfl ⟨rfl, by decide +kernel⟩ ⟨Nat.le_of_ble_eq_true rfl, Nat.le_of_ble_eq_true rfl⟩ rfl hl.1 rfl (lv_room (Nat.le_of_ble_eq_true rfl)) dM_start_14 ⟨Nat.le_of_ble_eq_true rfl, Nat.le_of_ble_eq_true rfl⟩) hS (fun q _ h => h) (fun q h => h) (fun r u t H1 locs1 ht hvm hw hB hz hk hS => ?_)
  obtain ⟨hM, -⟩ := hB
  rw [ht] at hM
  obtain ⟨rfl, hF2⟩ := hw
  refine lv_if_ne (tgt := 26) hx hb dM_start_17 (by decide) (fun c_17 => absurd rfl c_17) (fun c_17 => ?_)
  refine lv_aload_n hx hb dM_start_20 rfl (lv_at hl 0 rfl) ?_
  refine lv_iconst (v := 1) hx hb dM_start_21 (by decide) ?_
  refine va_calli (M_run (As := [.int (1)]) (rest := []) (n := 1) hx hb hml K hM (c_fail l D cl tys A ci tI tZ cI cZ o ad _ _ (1)) kM_c_fail kM_m118 kM_i_fail kM_s_fail rfl rfl ⟨rfl, by decide +kernel⟩ ⟨Nat.le_of_ble_eq_true rfl, Nat.le_of_ble_eq_true rfl⟩ rfl hl.1 rfl (lv_room (Nat.le_of_ble_eq_true rfl)) dM_start_22 ⟨Nat.le_of_ble_eq_true rfl, Nat.le_of_ble_eq_true rfl⟩) hS (fun q _ h => h) (fun q h => h) (fun r u t H1 locs1 ht hvm hw hB hz hk hS => ?_)
  obtain ⟨hM, -⟩ := hB
  rw [ht] at hM
  obtain ⟨rfl, rfl⟩ := hw
  dsimp only at hM
  refine W.iret (v := (0)) hx hb hr (M_endi hM hK hS ?_) hS.2.2 dM_start_25
  exact ⟨rfl, rfl⟩
set_option maxHeartbeats 4000000 in
set_option maxRecDepth 100000 in
theorem c_run (l : Launch) (D : va_G) (cl : List vw_C) (tys : List (ClassId × FieldType)) (A : Nat → Prop) (ci tI tZ : Nat) (cI cZ : ClassId) (o : Nat) (ad : Nat → Nat) (fi : Nat → Int32) (fa : Nat → Nat → Int32) (k : Int32) (hz : ∀ k, fi k = 0) (ha : ∀ k j, fa k j = 0) :
    Met l yM_run (.code yM_run bM_run 4 (some .int) :: lw_g) ({ frames := 1, cells := 0, slots := 0, locals := 21 }) (va_Pc [.ref o, .int k] (mdPre D cl tys A ci tI tZ cI cZ o ad fi fa)) (va_Qi (fun r S => r = 0 ∧ S.1 0 = if k < 1 ∨ ¬ k ≤ 10 then 2 else 1) (mdB D cl tys A ci cI cZ o ad) A) 0 0 A := by
  refine Met.ofW (cc := bM_run) (maxL := 4) (ret := (some .int)) (by decide) rfl ?_
  intro p e s m args below meth c s₁ B hml hv
  obtain ⟨rfl, hM, hK, hc, hI, hZ⟩ := hv
  have hx := B.exec
  have hb := B.bytes
  have hr := B.returns
  have hts := atoms_spec (ws := (.code yM_run bM_run 4 (some .int) :: lw_g)) B.pre
  have hown : s.vm.findClass RM = some m.cls := findClass_of_methodNamed B.named
  have K : mdC D cl tys ci tI tZ cI cZ s m _ := ⟨fun w h => hts w (List.mem_cons_of_mem _ h), hown, hK, hc, hI, hZ⟩
  have hlocks := B.notSynchronized
  have hS : va_S A s.heap s.heap [] := va_S.rf
  have hl := lv_entry ([.ref o, .int k]) (n := 4) (Nat.le_of_ble_eq_true rfl)
  rw [lg_entry_eq]
  generalize (lg_sl ([.ref o, .int k]) ++ List.replicate (4 - (lg_sl ([.ref o, .int k])).length) Slot.unset).toArray = ls at hl ⊢
  have hl : lv_has ls 4 [(0, .ref o), (1, .int k)] := hl
  refine lv_aload_n hx hb dM_run_0 rfl (lv_at hl 0 rfl) ?_
  refine lv_iconst (v := 0) hx hb dM_run_1 (by decide) ?_
  refine M_puti hx hb K hM hS 0 kM_f77 dM_run_2 (kk := fun H locs hM hS => ?_)
  refine lv_iload_n hx hb dM_run_5 rfl (lv_at hl 1 rfl) ?_
  refine lv_iconst (v := 1) hx hb dM_run_6 (by decide) ?_
  refine lv_icmp_lt (tgt := 16) hx hb dM_run_7 (by decide) (fun c_7 => ?_) (fun c_7 => ?_)
  · skip
    refine lv_aload_n hx hb dM_run_16 rfl (lv_at hl 0 rfl) ?_
    refine lv_iconst (v := 2) hx hb dM_run_17 (by decide) ?_
    refine va_calli (M_run (As := [.int (2)]) (rest := []) (n := 1) hx hb hml K hM (c_fail l D cl tys A ci tI tZ cI cZ o ad _ _ (2)) kM_c_fail kM_m118 kM_i_fail kM_s_fail rfl rfl ⟨rfl, by decide +kernel⟩ ⟨Nat.le_of_ble_eq_true rfl, Nat.le_of_ble_eq_true rfl⟩ rfl hl.1 rfl (lv_room (Nat.le_of_ble_eq_true rfl)) dM_run_18 ⟨Nat.le_of_ble_eq_true rfl, Nat.le_of_ble_eq_true rfl⟩) hS (fun q _ h => h) (fun q h => h) (fun r u t H1 locs1 ht hvm hw hB hz hk hS => ?_)
    obtain ⟨hM, -⟩ := hB
    rw [ht] at hM
    obtain ⟨rfl, rfl⟩ := hw
    dsimp only at hM
    refine W.iret (v := (0)) hx hb hr (M_endi hM hK hS ?_) hS.2.2 dM_run_21
    exact ⟨rfl, by simp [va_up, c_7]⟩
  · skip
    refine lv_iload_n hx hb dM_run_10 rfl (lv_at hl 1 rfl) ?_
    refine lv_bipush (v := 10) hx hb dM_run_11 (by decide) ?_
    refine lv_icmp_le (tgt := 22) hx hb dM_run_13 (by decide) (fun c_13 => ?_) (fun c_13 => ?_)
    · skip
      refine lv_aload_n hx hb dM_run_22 rfl (lv_at hl 0 rfl) ?_
      refine M_getv hx hb K hM 28 (v := 0) (hz 28) kM_f115 dM_run_23 (kk := ?_)
      refine lv_iconst (v := 1) hx hb dM_run_26 (by decide) ?_
      refine lv_icmp_eq (tgt := 36) hx hb dM_run_27 (by decide) (fun c_27 => absurd c_27 (by decide)) (fun c_27 => ?_)
      refine lv_aload_n hx hb dM_run_30 rfl (lv_at hl 0 rfl) ?_
      refine lv_iconst (v := 1) hx hb dM_run_31 (by decide) ?_
      refine va_calli (M_run (As := [.int (1)]) (rest := []) (n := 1) hx hb hml K hM (c_fail l D cl tys A ci tI tZ cI cZ o ad _ _ (1)) kM_c_fail kM_m118 kM_i_fail kM_s_fail rfl rfl ⟨rfl, by decide +kernel⟩ ⟨Nat.le_of_ble_eq_true rfl, Nat.le_of_ble_eq_true rfl⟩ rfl hl.1 rfl (lv_room (Nat.le_of_ble_eq_true rfl)) dM_run_32 ⟨Nat.le_of_ble_eq_true rfl, Nat.le_of_ble_eq_true rfl⟩) hS (fun q _ h => h) (fun q h => h) (fun r u t H1 locs1 ht hvm hw hB hz hk hS => ?_)
      obtain ⟨hM, -⟩ := hB
      rw [ht] at hM
      obtain ⟨rfl, rfl⟩ := hw
      dsimp only at hM
      refine W.iret (v := (0)) hx hb hr (M_endi hM hK hS ?_) hS.2.2 dM_run_35
      exact ⟨rfl, by simp [va_up, c_7, c_13]⟩
    · skip
      refine lv_aload_n hx hb dM_run_16 rfl (lv_at hl 0 rfl) ?_
      refine lv_iconst (v := 2) hx hb dM_run_17 (by decide) ?_
      refine va_calli (M_run (As := [.int (2)]) (rest := []) (n := 1) hx hb hml K hM (c_fail l D cl tys A ci tI tZ cI cZ o ad _ _ (2)) kM_c_fail kM_m118 kM_i_fail kM_s_fail rfl rfl ⟨rfl, by decide +kernel⟩ ⟨Nat.le_of_ble_eq_true rfl, Nat.le_of_ble_eq_true rfl⟩ rfl hl.1 rfl (lv_room (Nat.le_of_ble_eq_true rfl)) dM_run_18 ⟨Nat.le_of_ble_eq_true rfl, Nat.le_of_ble_eq_true rfl⟩) hS (fun q _ h => h) (fun q h => h) (fun r u t H1 locs1 ht hvm hw hB hz hk hS => ?_)
      obtain ⟨hM, -⟩ := hB
      rw [ht] at hM
      obtain ⟨rfl, rfl⟩ := hw
      dsimp only at hM
      refine W.iret (v := (0)) hx hb hr (M_endi hM hK hS ?_) hS.2.2 dM_run_21
      exact ⟨rfl, by simp [va_up, c_7, c_13]⟩
set_option maxHeartbeats 4000000 in
set_option maxRecDepth 100000 in
theorem c_stop (l : Launch) (D : va_G) (cl : List vw_C) (tys : List (ClassId × FieldType)) (A : Nat → Prop) (ci tI tZ : Nat) (cI cZ : ClassId) (o : Nat) (ad : Nat → Nat) (fi : Nat → Int32) (fa : Nat → Nat → Int32) (hz : ∀ k, fi k = 0) (ha : ∀ k j, fa k j = 0) :
    Met l yM_stop (.code yM_stop bM_stop 1 (some .int) :: lw_g) ({ frames := 1, cells := 0, slots := 0, locals := 21 }) (va_Pc [.ref o] (mdPre D cl tys A ci tI tZ cI cZ o ad fi fa)) (va_Qi (fun r S => r = 0 ∧ S.1 0 = 1) (mdB D cl tys A ci cI cZ o ad) A) 0 0 A := by
  refine Met.ofW (cc := bM_stop) (maxL := 1) (ret := (some .int)) (by decide) rfl ?_
  intro p e s m args below meth c s₁ B hml hv
  obtain ⟨rfl, hM, hK, hc, hI, hZ⟩ := hv
  have hx := B.exec
  have hb := B.bytes
  have hr := B.returns
  have hts := atoms_spec (ws := (.code yM_stop bM_stop 1 (some .int) :: lw_g)) B.pre
  have hown : s.vm.findClass RM = some m.cls := findClass_of_methodNamed B.named
  have K : mdC D cl tys ci tI tZ cI cZ s m _ := ⟨fun w h => hts w (List.mem_cons_of_mem _ h), hown, hK, hc, hI, hZ⟩
  have hlocks := B.notSynchronized
  have hS : va_S A s.heap s.heap [] := va_S.rf
  have hl := lv_entry ([.ref o]) (n := 1) (Nat.le_of_ble_eq_true rfl)
  rw [lg_entry_eq]
  generalize (lg_sl ([.ref o]) ++ List.replicate (1 - (lg_sl ([.ref o])).length) Slot.unset).toArray = ls at hl ⊢
  have hl : lv_has ls 1 [(0, .ref o)] := hl
  refine lv_aload_n hx hb dM_stop_0 rfl (lv_at hl 0 rfl) ?_
  refine lv_iconst (v := 0) hx hb dM_stop_1 (by decide) ?_
  refine M_puti hx hb K hM hS 0 kM_f77 dM_stop_2 (kk := fun H locs hM hS => ?_)
  refine lv_aload_n hx hb dM_stop_5 rfl (lv_at hl 0 rfl) ?_
  refine M_getv hx hb K hM 28 (v := 0) (hz 28) kM_f115 dM_stop_6 (kk := ?_)
  refine lv_iconst (v := 1) hx hb dM_stop_9 (by decide) ?_
  refine lv_icmp_eq (tgt := 19) hx hb dM_stop_10 (by decide) (fun c_10 => absurd c_10 (by decide)) (fun c_10 => ?_)
  refine lv_aload_n hx hb dM_stop_13 rfl (lv_at hl 0 rfl) ?_
  refine lv_iconst (v := 1) hx hb dM_stop_14 (by decide) ?_
  refine va_calli (M_run (As := [.int (1)]) (rest := []) (n := 1) hx hb hml K hM (c_fail l D cl tys A ci tI tZ cI cZ o ad _ _ (1)) kM_c_fail kM_m118 kM_i_fail kM_s_fail rfl rfl ⟨rfl, by decide +kernel⟩ ⟨Nat.le_of_ble_eq_true rfl, Nat.le_of_ble_eq_true rfl⟩ rfl hl.1 rfl (lv_room (Nat.le_of_ble_eq_true rfl)) dM_stop_15 ⟨Nat.le_of_ble_eq_true rfl, Nat.le_of_ble_eq_true rfl⟩) hS (fun q _ h => h) (fun q h => h) (fun r u t H1 locs1 ht hvm hw hB hz hk hS => ?_)
  obtain ⟨hM, -⟩ := hB
  rw [ht] at hM
  obtain ⟨rfl, rfl⟩ := hw
  dsimp only at hM
  refine W.iret (v := (0)) hx hb hr (M_endi hM hK hS ?_) hS.2.2 dM_stop_18
  exact ⟨rfl, rfl⟩
set_option maxHeartbeats 4000000 in
set_option maxRecDepth 100000 in
theorem c_sign (l : Launch) (D : va_G) (cl : List vw_C) (tys : List (ClassId × FieldType)) (A : Nat → Prop) (ci tI tZ : Nat) (cI cZ : ClassId) (o : Nat) (ad : Nat → Nat) (fi : Nat → Int32) (fa : Nat → Nat → Int32) (k : Int32) (hz : ∀ k, fi k = 0) (ha : ∀ k j, fa k j = 0) :
    Met l yM_sign (.code yM_sign bM_sign 8 (some .int) :: lw_g) ({ frames := 1, cells := 0, slots := 0, locals := 21 }) (va_Pc [.ref o, .int k] (mdPre D cl tys A ci tI tZ cI cZ o ad fi fa)) (va_Qi (fun r S => r = 0 ∧ S.1 0 = if k < 0 ∨ ¬ k ≤ 59 then 2 else 1) (mdB D cl tys A ci cI cZ o ad) A) 0 0 A := by
  refine Met.ofW (cc := bM_sign) (maxL := 8) (ret := (some .int)) (by decide) rfl ?_
  intro p e s m args below meth c s₁ B hml hv
  obtain ⟨rfl, hM, hK, hc, hI, hZ⟩ := hv
  have hx := B.exec
  have hb := B.bytes
  have hr := B.returns
  have hts := atoms_spec (ws := (.code yM_sign bM_sign 8 (some .int) :: lw_g)) B.pre
  have hown : s.vm.findClass RM = some m.cls := findClass_of_methodNamed B.named
  have K : mdC D cl tys ci tI tZ cI cZ s m _ := ⟨fun w h => hts w (List.mem_cons_of_mem _ h), hown, hK, hc, hI, hZ⟩
  have hlocks := B.notSynchronized
  have hS : va_S A s.heap s.heap [] := va_S.rf
  have hl := lv_entry ([.ref o, .int k]) (n := 8) (Nat.le_of_ble_eq_true rfl)
  rw [lg_entry_eq]
  generalize (lg_sl ([.ref o, .int k]) ++ List.replicate (8 - (lg_sl ([.ref o, .int k])).length) Slot.unset).toArray = ls at hl ⊢
  have hl : lv_has ls 8 [(0, .ref o), (1, .int k)] := hl
  refine lv_aload_n hx hb dM_sign_0 rfl (lv_at hl 0 rfl) ?_
  refine lv_iconst (v := 0) hx hb dM_sign_1 (by decide) ?_
  refine M_puti hx hb K hM hS 0 kM_f77 dM_sign_2 (kk := fun H locs hM hS => ?_)
  refine lv_iload_n hx hb dM_sign_5 rfl (lv_at hl 1 rfl) ?_
  refine lv_if_lt (tgt := 15) hx hb dM_sign_6 (by decide) (fun c_6 => ?_) (fun c_6 => ?_)
  · skip
    refine lv_aload_n hx hb dM_sign_15 rfl (lv_at hl 0 rfl) ?_
    refine lv_iconst (v := 2) hx hb dM_sign_16 (by decide) ?_
    refine va_calli (M_run (As := [.int (2)]) (rest := []) (n := 1) hx hb hml K hM (c_fail l D cl tys A ci tI tZ cI cZ o ad _ _ (2)) kM_c_fail kM_m118 kM_i_fail kM_s_fail rfl rfl ⟨rfl, by decide +kernel⟩ ⟨Nat.le_of_ble_eq_true rfl, Nat.le_of_ble_eq_true rfl⟩ rfl hl.1 rfl (lv_room (Nat.le_of_ble_eq_true rfl)) dM_sign_17 ⟨Nat.le_of_ble_eq_true rfl, Nat.le_of_ble_eq_true rfl⟩) hS (fun q _ h => h) (fun q h => h) (fun r u t H1 locs1 ht hvm hw hB hz hk hS => ?_)
    obtain ⟨hM, -⟩ := hB
    rw [ht] at hM
    obtain ⟨rfl, rfl⟩ := hw
    dsimp only at hM
    refine W.iret (v := (0)) hx hb hr (M_endi hM hK hS ?_) hS.2.2 dM_sign_20
    exact ⟨rfl, by simp [va_up, c_6]⟩
  · skip
    refine lv_iload_n hx hb dM_sign_9 rfl (lv_at hl 1 rfl) ?_
    refine lv_bipush (v := 59) hx hb dM_sign_10 (by decide) ?_
    refine lv_icmp_le (tgt := 21) hx hb dM_sign_12 (by decide) (fun c_12 => ?_) (fun c_12 => ?_)
    · skip
      refine lv_aload_n hx hb dM_sign_21 rfl (lv_at hl 0 rfl) ?_
      refine M_getv hx hb K hM 28 (v := 0) (hz 28) kM_f115 dM_sign_22 (kk := ?_)
      refine lv_iconst (v := 2) hx hb dM_sign_25 (by decide) ?_
      refine lv_icmp_eq (tgt := 35) hx hb dM_sign_26 (by decide) (fun c_26 => absurd c_26 (by decide)) (fun c_26 => ?_)
      refine lv_aload_n hx hb dM_sign_29 rfl (lv_at hl 0 rfl) ?_
      refine lv_iconst (v := 1) hx hb dM_sign_30 (by decide) ?_
      refine va_calli (M_run (As := [.int (1)]) (rest := []) (n := 1) hx hb hml K hM (c_fail l D cl tys A ci tI tZ cI cZ o ad _ _ (1)) kM_c_fail kM_m118 kM_i_fail kM_s_fail rfl rfl ⟨rfl, by decide +kernel⟩ ⟨Nat.le_of_ble_eq_true rfl, Nat.le_of_ble_eq_true rfl⟩ rfl hl.1 rfl (lv_room (Nat.le_of_ble_eq_true rfl)) dM_sign_31 ⟨Nat.le_of_ble_eq_true rfl, Nat.le_of_ble_eq_true rfl⟩) hS (fun q _ h => h) (fun q h => h) (fun r u t H1 locs1 ht hvm hw hB hz hk hS => ?_)
      obtain ⟨hM, -⟩ := hB
      rw [ht] at hM
      obtain ⟨rfl, rfl⟩ := hw
      dsimp only at hM
      refine W.iret (v := (0)) hx hb hr (M_endi hM hK hS ?_) hS.2.2 dM_sign_34
      exact ⟨rfl, by simp [va_up, c_6, c_12]⟩
    · skip
      refine lv_aload_n hx hb dM_sign_15 rfl (lv_at hl 0 rfl) ?_
      refine lv_iconst (v := 2) hx hb dM_sign_16 (by decide) ?_
      refine va_calli (M_run (As := [.int (2)]) (rest := []) (n := 1) hx hb hml K hM (c_fail l D cl tys A ci tI tZ cI cZ o ad _ _ (2)) kM_c_fail kM_m118 kM_i_fail kM_s_fail rfl rfl ⟨rfl, by decide +kernel⟩ ⟨Nat.le_of_ble_eq_true rfl, Nat.le_of_ble_eq_true rfl⟩ rfl hl.1 rfl (lv_room (Nat.le_of_ble_eq_true rfl)) dM_sign_17 ⟨Nat.le_of_ble_eq_true rfl, Nat.le_of_ble_eq_true rfl⟩) hS (fun q _ h => h) (fun q h => h) (fun r u t H1 locs1 ht hvm hw hB hz hk hS => ?_)
      obtain ⟨hM, -⟩ := hB
      rw [ht] at hM
      obtain ⟨rfl, rfl⟩ := hw
      dsimp only at hM
      refine W.iret (v := (0)) hx hb hr (M_endi hM hK hS ?_) hS.2.2 dM_sign_20
      exact ⟨rfl, by simp [va_up, c_6, c_12]⟩
theorem md_rng {x M : Int32} {n : Nat} (hM : M.toInt = n) (h : ¬ x < 0) (h5 : x ≤ M) : ∃ j : Nat, j ≤ n ∧ x = nI j := nI_of2 hM h h5
set_option maxHeartbeats 4000000 in
set_option maxRecDepth 100000 in
theorem c_global (l : Launch) (D : va_G) (cl : List vw_C) (tys : List (ClassId × FieldType)) (A : Nat → Prop) (ci tI tZ : Nat) (cI cZ : ClassId) (o : Nat) (ad : Nat → Nat) (fi : Nat → Int32) (fa : Nat → Nat → Int32) (k : Int32) (hz : ∀ k, fi k = 0) (ha : ∀ k j, fa k j = 0) :
    Met l yM_global (.code yM_global bM_global 2 (some .int) :: lw_g) ({ frames := 1, cells := 0, slots := 0, locals := 21 }) (va_Pc [.ref o, .int k] (mdPre D cl tys A ci tI tZ cI cZ o ad fi fa)) (va_Qi (fun r S => r = 0 ∧ S.1 0 = if k < 0 ∨ ¬ k ≤ 25 then 1 else 2) (mdB D cl tys A ci cI cZ o ad) A) 0 0 A := by
  refine Met.ofW (cc := bM_global) (maxL := 2) (ret := (some .int)) (by decide) rfl ?_
  intro p e s m args below meth c s₁ B hml hv
  obtain ⟨rfl, hM, hK, hc, hI, hZ⟩ := hv
  have hx := B.exec
  have hb := B.bytes
  have hr := B.returns
  have hts := atoms_spec (ws := (.code yM_global bM_global 2 (some .int) :: lw_g)) B.pre
  have hown : s.vm.findClass RM = some m.cls := findClass_of_methodNamed B.named
  have K : mdC D cl tys ci tI tZ cI cZ s m _ := ⟨fun w h => hts w (List.mem_cons_of_mem _ h), hown, hK, hc, hI, hZ⟩
  have hlocks := B.notSynchronized
  have hS : va_S A s.heap s.heap [] := va_S.rf
  have hl := lv_entry ([.ref o, .int k]) (n := 2) (Nat.le_of_ble_eq_true rfl)
  rw [lg_entry_eq]
  generalize (lg_sl ([.ref o, .int k]) ++ List.replicate (2 - (lg_sl ([.ref o, .int k])).length) Slot.unset).toArray = ls at hl ⊢
  have hl : lv_has ls 2 [(0, .ref o), (1, .int k)] := hl
  refine lv_aload_n hx hb dM_global_0 rfl (lv_at hl 0 rfl) ?_
  refine lv_iconst (v := 0) hx hb dM_global_1 (by decide) ?_
  refine M_puti hx hb K hM hS 0 kM_f77 dM_global_2 (kk := fun H locs hM hS => ?_)
  refine lv_iload_n hx hb dM_global_5 rfl (lv_at hl 1 rfl) ?_
  refine lv_if_lt (tgt := 15) hx hb dM_global_6 (by decide) (fun c_6 => ?_) (fun c_6 => ?_)
  · skip
    refine lv_aload_n hx hb dM_global_15 rfl (lv_at hl 0 rfl) ?_
    refine lv_iconst (v := 1) hx hb dM_global_16 (by decide) ?_
    refine va_calli (M_run (As := [.int (1)]) (rest := []) (n := 1) hx hb hml K hM (c_fail l D cl tys A ci tI tZ cI cZ o ad _ _ (1)) kM_c_fail kM_m118 kM_i_fail kM_s_fail rfl rfl ⟨rfl, by decide +kernel⟩ ⟨Nat.le_of_ble_eq_true rfl, Nat.le_of_ble_eq_true rfl⟩ rfl hl.1 rfl (lv_room (Nat.le_of_ble_eq_true rfl)) dM_global_17 ⟨Nat.le_of_ble_eq_true rfl, Nat.le_of_ble_eq_true rfl⟩) hS (fun q _ h => h) (fun q h => h) (fun r u t H1 locs1 ht hvm hw hB hz hk hS => ?_)
    obtain ⟨hM, -⟩ := hB
    rw [ht] at hM
    obtain ⟨rfl, rfl⟩ := hw
    dsimp only at hM
    refine W.iret (v := (0)) hx hb hr (M_endi hM hK hS ?_) hS.2.2 dM_global_20
    exact ⟨rfl, by simp [va_up, c_6]⟩
  · skip
    refine lv_iload_n hx hb dM_global_9 rfl (lv_at hl 1 rfl) ?_
    refine lv_bipush (v := 25) hx hb dM_global_10 (by decide) ?_
    refine lv_icmp_le (tgt := 21) hx hb dM_global_12 (by decide) (fun c_12 => ?_) (fun c_12 => ?_)
    · skip
      obtain ⟨j, hj, ej⟩ := md_rng (n := 25) (by decide) c_6 c_12
      refine lv_aload_n hx hb dM_global_21 rfl (lv_at hl 0 rfl) ?_
      refine M_geta hx hb K hM 16 kM_f44 dM_global_22 (kk := ?_)
      refine lv_bipush (v := 121) hx hb dM_global_25 (by decide) ?_
      refine lv_iload_n hx hb dM_global_27 rfl (lv_at hl 1 rfl) ?_
      refine lv_iadd hx hb dM_global_28 ?_
      refine lv_as (v := nI (121 + j)) (by rw [ej]; exact nI_add 121 j) ?_
      refine M_aldn hx hb K hM 16 (j := 121 + j) (show 121 + j < 147 by omega) (v := 0) (ha 16 _) dM_global_29 (kk := ?_)
      refine lv_iconst (v := 1) hx hb dM_global_30 (by decide) ?_
      refine lv_icmp_eq (tgt := 40) hx hb dM_global_31 (by decide) (fun c_31 => absurd c_31 (by decide)) (fun c_31 => ?_)
      refine lv_aload_n hx hb dM_global_34 rfl (lv_at hl 0 rfl) ?_
      refine lv_iconst (v := 2) hx hb dM_global_35 (by decide) ?_
      refine va_calli (M_run (As := [.int (2)]) (rest := []) (n := 1) hx hb hml K hM (c_fail l D cl tys A ci tI tZ cI cZ o ad _ _ (2)) kM_c_fail kM_m118 kM_i_fail kM_s_fail rfl rfl ⟨rfl, by decide +kernel⟩ ⟨Nat.le_of_ble_eq_true rfl, Nat.le_of_ble_eq_true rfl⟩ rfl hl.1 rfl (lv_room (Nat.le_of_ble_eq_true rfl)) dM_global_36 ⟨Nat.le_of_ble_eq_true rfl, Nat.le_of_ble_eq_true rfl⟩) hS (fun q _ h => h) (fun q h => h) (fun r u t H1 locs1 ht hvm hw hB hz hk hS => ?_)
      obtain ⟨hM, -⟩ := hB
      rw [ht] at hM
      obtain ⟨rfl, rfl⟩ := hw
      dsimp only at hM
      refine W.iret (v := (0)) hx hb hr (M_endi hM hK hS ?_) hS.2.2 dM_global_39
      exact ⟨rfl, by simp [va_up, c_6, c_12]⟩
    · skip
      refine lv_aload_n hx hb dM_global_15 rfl (lv_at hl 0 rfl) ?_
      refine lv_iconst (v := 1) hx hb dM_global_16 (by decide) ?_
      refine va_calli (M_run (As := [.int (1)]) (rest := []) (n := 1) hx hb hml K hM (c_fail l D cl tys A ci tI tZ cI cZ o ad _ _ (1)) kM_c_fail kM_m118 kM_i_fail kM_s_fail rfl rfl ⟨rfl, by decide +kernel⟩ ⟨Nat.le_of_ble_eq_true rfl, Nat.le_of_ble_eq_true rfl⟩ rfl hl.1 rfl (lv_room (Nat.le_of_ble_eq_true rfl)) dM_global_17 ⟨Nat.le_of_ble_eq_true rfl, Nat.le_of_ble_eq_true rfl⟩) hS (fun q _ h => h) (fun q h => h) (fun r u t H1 locs1 ht hvm hw hB hz hk hS => ?_)
      obtain ⟨hM, -⟩ := hB
      rw [ht] at hM
      obtain ⟨rfl, rfl⟩ := hw
      dsimp only at hM
      refine W.iret (v := (0)) hx hb hr (M_endi hM hK hS ?_) hS.2.2 dM_global_20
      exact ⟨rfl, by simp [va_up, c_6, c_12]⟩
theorem md_sw_out {k : Int32} (h : k < 0 ∨ ¬ k ≤ 5) : k.toInt < 0 ∨ 5 < k.toInt := by
  rcases h with h | h
  · exact Or.inl (Int32.lt_iff_toInt_lt.mp h)
  · exact Or.inr (Int32.lt_iff_toInt_lt.mp (Int32.not_le.mp h))
set_option maxHeartbeats 4000000 in
set_option maxRecDepth 100000 in
theorem c_state (l : Launch) (D : va_G) (cl : List vw_C) (tys : List (ClassId × FieldType)) (A : Nat → Prop) (ci tI tZ : Nat) (cI cZ : ClassId) (o : Nat) (ad : Nat → Nat) (fi : Nat → Int32) (fa : Nat → Nat → Int32) (k : Int32) (hz : ∀ k, fi k = 0) (ha : ∀ k j, fa k j = 0) :
    Met l yM_state (.code yM_state bM_state 2 (some .int) :: lw_g) ({ frames := 1, cells := 0, slots := 0, locals := 21 }) (va_Pc [.ref o, .int k] (mdPre D cl tys A ci tI tZ cI cZ o ad fi fa)) (va_Qi (fun r S => r = 0 ∧ S.1 0 = if k < 0 ∨ ¬ k ≤ 5 then 1 else 0) (mdB D cl tys A ci cI cZ o ad) A) 0 0 A := by
  refine Met.ofW (cc := bM_state) (maxL := 2) (ret := (some .int)) (by decide) rfl ?_
  intro p e s m args below meth c s₁ B hml hv
  obtain ⟨rfl, hM, hK, hc, hI, hZ⟩ := hv
  have hx := B.exec
  have hb := B.bytes
  have hr := B.returns
  have hts := atoms_spec (ws := (.code yM_state bM_state 2 (some .int) :: lw_g)) B.pre
  have hown : s.vm.findClass RM = some m.cls := findClass_of_methodNamed B.named
  have K : mdC D cl tys ci tI tZ cI cZ s m _ := ⟨fun w h => hts w (List.mem_cons_of_mem _ h), hown, hK, hc, hI, hZ⟩
  have hlocks := B.notSynchronized
  have hS : va_S A s.heap s.heap [] := va_S.rf
  have hl := lv_entry ([.ref o, .int k]) (n := 2) (Nat.le_of_ble_eq_true rfl)
  rw [lg_entry_eq]
  generalize (lg_sl ([.ref o, .int k]) ++ List.replicate (2 - (lg_sl ([.ref o, .int k])).length) Slot.unset).toArray = ls at hl ⊢
  have hl : lv_has ls 2 [(0, .ref o), (1, .int k)] := hl
  refine lv_aload_n hx hb dM_state_0 rfl (lv_at hl 0 rfl) ?_
  refine lv_iconst (v := 0) hx hb dM_state_1 (by decide) ?_
  refine M_puti hx hb K hM hS 0 kM_f77 dM_state_2 (kk := fun H locs hM hS => ?_)
  refine lv_iload_n hx hb dM_state_5 rfl (lv_at hl 1 rfl) ?_
  by_cases hr5 : k < 0 ∨ ¬ k ≤ 5
  · refine lv_tableOut (tgt := 102) hx hb dM_state_6 (md_sw_out hr5) (by decide) ?_
    refine lv_aload_n hx hb dM_state_102 rfl (lv_at hl 0 rfl) ?_
    refine lv_iconst (v := 1) hx hb dM_state_103 (by decide) ?_
    refine va_calli (M_run (As := [.int (1)]) (rest := []) (n := 1) hx hb hml K hM (c_fail l D cl tys A ci tI tZ cI cZ o ad _ _ (1)) kM_c_fail kM_m118 kM_i_fail kM_s_fail rfl rfl ⟨rfl, by decide +kernel⟩ ⟨Nat.le_of_ble_eq_true rfl, Nat.le_of_ble_eq_true rfl⟩ rfl hl.1 rfl (lv_room (Nat.le_of_ble_eq_true rfl)) dM_state_104 ⟨Nat.le_of_ble_eq_true rfl, Nat.le_of_ble_eq_true rfl⟩) hS (fun q _ h => h) (fun q h => h) (fun r u t H1 locs1 ht hvm hw hB hz hk hS => ?_)
    obtain ⟨hM, -⟩ := hB
    rw [ht] at hM
    obtain ⟨rfl, rfl⟩ := hw
    dsimp only at hM
    refine W.iret (v := (0)) hx hb hr (M_endi hM hK hS ?_) hS.2.2 dM_state_107
    exact ⟨rfl, by first | (rw [if_neg hr5]; rfl) | (rw [if_pos hr5]; rfl)⟩
  · obtain ⟨j, hj, ej⟩ := md_rng (n := 5) (by decide) (fun q => hr5 (Or.inl q)) (Classical.byContradiction fun q => hr5 (Or.inr q))
    rcases (show j = 0 ∨ j = 1 ∨ j = 2 ∨ j = 3 ∨ j = 4 ∨ j = 5 by omega) with rfl | rfl | rfl | rfl | rfl | rfl
    · refine lv_tableIn (tgt := 44) (off := 38) hx hb dM_state_6 (by rw [ej]; decide) (by rw [ej]; decide) (by rw [ej]; decide) (by decide) ?_
      refine lv_aload_n hx hb dM_state_44 rfl (lv_at hl 0 rfl) ?_
      refine M_getv hx hb K hM 28 (v := 0) (hz 28) kM_f115 dM_state_45 (kk := ?_)
      refine W.iret (v := (0)) hx hb hr (M_endi hM hK hS ?_) hS.2.2 dM_state_48
      exact ⟨rfl, by first | (rw [if_neg hr5]; rfl) | (rw [if_pos hr5]; rfl)⟩
    · refine lv_tableIn (tgt := 49) (off := 43) hx hb dM_state_6 (by rw [ej]; decide) (by rw [ej]; decide) (by rw [ej]; decide) (by decide) ?_
      refine lv_aload_n hx hb dM_state_49 rfl (lv_at hl 0 rfl) ?_
      refine M_getv hx hb K hM 29 (v := 0) (hz 29) kM_f143 dM_state_50 (kk := ?_)
      refine W.iret (v := (0)) hx hb hr (M_endi hM hK hS ?_) hS.2.2 dM_state_53
      exact ⟨rfl, by first | (rw [if_neg hr5]; rfl) | (rw [if_pos hr5]; rfl)⟩
    · refine lv_tableIn (tgt := 54) (off := 48) hx hb dM_state_6 (by rw [ej]; decide) (by rw [ej]; decide) (by rw [ej]; decide) (by decide) ?_
      refine lv_aload_n hx hb dM_state_54 rfl (lv_at hl 0 rfl) ?_
      refine M_getv hx hb K hM 23 (v := 0) (hz 23) kM_f134 dM_state_55 (kk := ?_)
      refine W.iret (v := (0)) hx hb hr (M_endi hM hK hS ?_) hS.2.2 dM_state_58
      exact ⟨rfl, by first | (rw [if_neg hr5]; rfl) | (rw [if_pos hr5]; rfl)⟩
    · refine lv_tableIn (tgt := 59) (off := 53) hx hb dM_state_6 (by rw [ej]; decide) (by rw [ej]; decide) (by rw [ej]; decide) (by decide) ?_
      refine lv_aload_n hx hb dM_state_59 rfl (lv_at hl 0 rfl) ?_
      refine M_getv hx hb K hM 20 (v := 0) (hz 20) kM_f131 dM_state_60 (kk := ?_)
      refine W.iret (v := (0)) hx hb hr (M_endi hM hK hS ?_) hS.2.2 dM_state_63
      exact ⟨rfl, by first | (rw [if_neg hr5]; rfl) | (rw [if_pos hr5]; rfl)⟩
    · refine lv_tableIn (tgt := 64) (off := 58) hx hb dM_state_6 (by rw [ej]; decide) (by rw [ej]; decide) (by rw [ej]; decide) (by decide) ?_
      refine lv_aload_n hx hb dM_state_64 rfl (lv_at hl 0 rfl) ?_
      refine M_getv hx hb K hM 28 (v := 0) (hz 28) kM_f115 dM_state_65 (kk := ?_)
      refine lv_iconst (v := 1) hx hb dM_state_68 (by decide) ?_
      refine lv_icmp_ne (tgt := 83) hx hb dM_state_69 (by decide) (fun c_69 => ?_) (fun c_69 => absurd c_69 (by decide))
      refine lv_iconst (v := 0) hx hb dM_state_83 (by decide) ?_
      refine W.iret (v := (0)) hx hb hr (M_endi hM hK hS ?_) hS.2.2 dM_state_84
      exact ⟨rfl, by first | (rw [if_neg hr5]; rfl) | (rw [if_pos hr5]; rfl)⟩
    · refine lv_tableIn (tgt := 85) (off := 79) hx hb dM_state_6 (by rw [ej]; decide) (by rw [ej]; decide) (by rw [ej]; decide) (by decide) ?_
      refine lv_aload_n hx hb dM_state_85 rfl (lv_at hl 0 rfl) ?_
      refine M_getv hx hb K hM 28 (v := 0) (hz 28) kM_f115 dM_state_86 (kk := ?_)
      refine lv_iconst (v := 3) hx hb dM_state_89 (by decide) ?_
      refine lv_icmp_ne (tgt := 100) hx hb dM_state_90 (by decide) (fun c_90 => ?_) (fun c_90 => absurd c_90 (by decide))
      refine lv_iconst (v := 0) hx hb dM_state_100 (by decide) ?_
      refine W.iret (v := (0)) hx hb hr (M_endi hM hK hS ?_) hS.2.2 dM_state_101
      exact ⟨rfl, by first | (rw [if_neg hr5]; rfl) | (rw [if_pos hr5]; rfl)⟩
set_option maxHeartbeats 4000000 in
set_option maxRecDepth 100000 in
theorem c_given (l : Launch) (D : va_G) (cl : List vw_C) (tys : List (ClassId × FieldType)) (A : Nat → Prop) (ci tI tZ : Nat) (cI cZ : ClassId) (o : Nat) (ad : Nat → Nat) (fi : Nat → Int32) (fa : Nat → Nat → Int32) (k v : Int32) (hz : ∀ k, fi k = 0) (ha : ∀ k j, fa k j = 0) :
    Met l yM_given (.code yM_given bM_given 5 (some .int) :: lw_g) ({ frames := 1, cells := 0, slots := 0, locals := 21 }) (va_Pc [.ref o, .int k, .int v] (mdPre D cl tys A ci tI tZ cI cZ o ad fi fa)) (va_Qi (fun r S => r = (if k < 0 ∨ ¬ k ≤ 25 then 0 else 1) ∧ S.1 0 = (if k < 0 ∨ ¬ k ≤ 25 then 2 else 0)) (mdB D cl tys A ci cI cZ o ad) A) 0 0 A := by
  refine Met.ofW (cc := bM_given) (maxL := 5) (ret := (some .int)) (by decide) rfl ?_
  intro p e s m args below meth c s₁ B hml hv
  obtain ⟨rfl, hM, hK, hc, hI, hZ⟩ := hv
  have hx := B.exec
  have hb := B.bytes
  have hr := B.returns
  have hts := atoms_spec (ws := (.code yM_given bM_given 5 (some .int) :: lw_g)) B.pre
  have hown : s.vm.findClass RM = some m.cls := findClass_of_methodNamed B.named
  have K : mdC D cl tys ci tI tZ cI cZ s m _ := ⟨fun w h => hts w (List.mem_cons_of_mem _ h), hown, hK, hc, hI, hZ⟩
  have hlocks := B.notSynchronized
  have hS : va_S A s.heap s.heap [] := va_S.rf
  have hl := lv_entry ([.ref o, .int k, .int v]) (n := 5) (Nat.le_of_ble_eq_true rfl)
  rw [lg_entry_eq]
  generalize (lg_sl ([.ref o, .int k, .int v]) ++ List.replicate (5 - (lg_sl ([.ref o, .int k, .int v])).length) Slot.unset).toArray = ls at hl ⊢
  have hl : lv_has ls 5 [(0, .ref o), (1, .int k), (2, .int v)] := hl
  refine lv_aload_n hx hb dM_given_0 rfl (lv_at hl 0 rfl) ?_
  refine lv_iconst (v := 0) hx hb dM_given_1 (by decide) ?_
  refine M_puti hx hb K hM hS 0 kM_f77 dM_given_2 (kk := fun H locs hM hS => ?_)
  refine lv_iload_n hx hb dM_given_5 rfl (lv_at hl 1 rfl) ?_
  refine lv_if_lt (tgt := 15) hx hb dM_given_6 (by decide) (fun c_6 => ?_) (fun c_6 => ?_)
  · skip
    refine lv_aload_n hx hb dM_given_15 rfl (lv_at hl 0 rfl) ?_
    refine lv_iconst (v := 2) hx hb dM_given_16 (by decide) ?_
    refine va_calli (M_run (As := [.int (2)]) (rest := []) (n := 1) hx hb hml K hM (c_fail l D cl tys A ci tI tZ cI cZ o ad _ _ (2)) kM_c_fail kM_m118 kM_i_fail kM_s_fail rfl rfl ⟨rfl, by decide +kernel⟩ ⟨Nat.le_of_ble_eq_true rfl, Nat.le_of_ble_eq_true rfl⟩ rfl hl.1 rfl (lv_room (Nat.le_of_ble_eq_true rfl)) dM_given_17 ⟨Nat.le_of_ble_eq_true rfl, Nat.le_of_ble_eq_true rfl⟩) hS (fun q _ h => h) (fun q h => h) (fun r u t H1 locs1 ht hvm hw hB hz hk hS => ?_)
    obtain ⟨hM, -⟩ := hB
    rw [ht] at hM
    obtain ⟨rfl, rfl⟩ := hw
    dsimp only at hM
    refine W.iret (v := (0)) hx hb hr (M_endi hM hK hS ?_) hS.2.2 dM_given_20
    exact ⟨by simp [c_6], by simp [va_up, c_6]⟩
  · skip
    refine lv_iload_n hx hb dM_given_9 rfl (lv_at hl 1 rfl) ?_
    refine lv_bipush (v := 25) hx hb dM_given_10 (by decide) ?_
    refine lv_icmp_le (tgt := 21) hx hb dM_given_12 (by decide) (fun c_12 => ?_) (fun c_12 => ?_)
    · skip
      obtain ⟨q, hq, ej⟩ := md_rng (n := 25) (by decide) c_6 c_12
      refine lv_aload_n hx hb dM_given_21 rfl (lv_at hl 0 rfl) ?_
      refine M_getv hx hb K hM 28 (v := 0) (hz 28) kM_f115 dM_given_22 (kk := ?_)
      refine lv_iconst (v := 1) hx hb dM_given_25 (by decide) ?_
      refine lv_icmp_ne (tgt := 35) hx hb dM_given_26 (by decide) (fun c_26 => ?_) (fun c_26 => absurd c_26 (by decide))
      refine lv_aload_n hx hb dM_given_35 rfl (lv_at hl 0 rfl) ?_
      refine M_geta hx hb K hM 14 kM_f37 dM_given_36 (kk := ?_)
      refine lv_iload_n hx hb dM_given_39 rfl (lv_at hl 1 rfl) ?_
      refine lv_as (v := nI q) ej ?_
      refine lv_iload_n hx hb dM_given_40 rfl (lv_at hl 2 rfl) ?_
      refine M_astn hx hb K hM hS 14 (j := q) (show q < 26 by omega) dM_given_41 (kk := fun H locs hM hS => ?_)
      refine lv_aload_n hx hb dM_given_42 rfl (lv_at hl 0 rfl) ?_
      refine M_geta hx hb K hM 15 kM_f40 dM_given_43 (kk := ?_)
      refine lv_iload_n hx hb dM_given_46 rfl (lv_at hl 1 rfl) ?_
      refine lv_as (v := nI q) ej ?_
      refine lv_iconst (v := 1) hx hb dM_given_47 (by decide) ?_
      refine M_zastn hx hb K hM hS (j := q) (show q < 26 by omega) dM_given_48 (fun H locs hM hS => ?_)
      refine lv_iconst (v := 0) hx hb dM_given_49 (by decide) ?_
      refine lv_as (v := if q < 0 then 1 else 0) (by rw [if_neg (Nat.not_lt_zero q)]) ?_
      refine lv_istore_n (lv' := [(3, .int (if q < 0 then 1 else 0)), (0, .ref o), (1, .int k), (2, .int v)]) hx hb dM_given_50 rfl hl (by decide) rfl (fun ls hl => ?_)
      refine lv_iconst (v := 0) hx hb dM_given_51 (by decide) ?_
      refine lv_as (v := nI 0) nI_0.symm ?_
      refine lv_istore (lv' := [(4, .int (nI 0)), (3, .int (if q < 0 then 1 else 0)), (0, .ref o), (1, .int k), (2, .int v)]) hx hb dM_given_52 hl (by decide) rfl (fun ls hl => ?_)
      have hg : ¬ (k < 0 ∨ ¬ k ≤ 25) := fun z => z.elim c_6 (fun z => z c_12)
      have loop : ∀ (z i : Nat) (ls : Array Slot), i + z = 26 → lv_has ls 5 [(4, .int (nI i)), (3, .int (if q < i then 1 else 0)), (0, .ref o), (1, .int k), (2, .int v)] → W p l e (headSpec (.code yM_given bM_given 5 (some .int) :: lw_g) ({ frames := 1, cells := 0, slots := 0, locals := 21 })).room s m #[Value.ref o, Value.int k, Value.int v] below meth c H locs 0 0 (MQ below (va_Qi (fun r S => r = (if k < 0 ∨ ¬ k ≤ 25 then 0 else 1) ∧ S.1 0 = (if k < 0 ∨ ¬ k ≤ 25 then 2 else 0)) (mdB D cl tys A ci cI cZ o ad) A) #[Value.ref o, Value.int k, Value.int v] s 0 0 A) (F0 m 54 ls []) := by
        intro z
        induction z with
        | zero =>
          intro i ls hi hl
          obtain rfl : i = 26 := by omega
          refine lv_iload hx hb dM_given_54 (lv_at hl 0 rfl) ?_
          refine lv_bipush (v := 26) hx hb dM_given_56 (by decide) ?_
          refine lv_icmp_ge (tgt := 85) hx hb dM_given_58 (by decide) (fun c_58 => ?_) (fun c_58 => absurd (by decide) c_58)
          refine lv_iload_n hx hb dM_given_85 rfl (lv_at hl 1 rfl) ?_
          refine W.iret (v := (if q < 26 then 1 else 0)) hx hb hr (M_endi hM hK hS ?_) hS.2.2 dM_given_86
          exact ⟨by rw [if_neg hg, if_pos (show q < 26 by omega)], by rw [if_neg hg]; rfl⟩
        | succ z ih =>
          intro i ls hi hl
          refine lv_iload hx hb dM_given_54 (lv_at hl 0 rfl) ?_
          refine lv_bipush (v := 26) hx hb dM_given_56 (by decide) ?_
          refine lv_icmp_ge (tgt := 85) hx hb dM_given_58 (by decide) (fun c_58 => absurd c_58 (nI_ge (b := 26) (show i < 26 by omega) (by decide))) (fun c_58 => ?_)
          refine lv_iload_n hx hb dM_given_61 rfl (lv_at hl 1 rfl) ?_
          refine lv_aload_n hx hb dM_given_62 rfl (lv_at hl 2 rfl) ?_
          refine M_geta hx hb K hM 15 kM_f40 dM_given_63 (kk := ?_)
          refine lv_iload hx hb dM_given_66 (lv_at hl 0 rfl) ?_
          refine M_zaldn hx hb K hM (j := i) (show i < 26 by omega) (v := if i = q then 1 else 0) (by show upd (fa 15) q 1 i = _; unfold upd; split; rfl; exact ha 15 i) dM_given_68 ?_
          refine lv_if_eq (tgt := 76) hx hb dM_given_69 (by decide) (fun c_69 => ?_) (fun c_69 => ?_)
          · skip
            have hiq : ¬ i = q := fun z => absurd c_69 (by rw [if_pos z]; decide)
            refine lv_iconst (v := 0) hx hb dM_given_76 (by decide) ?_
            refine lv_iadd hx hb dM_given_77 ?_
            refine lv_as (v := if q < i + 1 then 1 else 0) (by by_cases hz9 : q < i; rw [if_pos hz9, if_pos (show q < i + 1 by omega)]; rfl; rw [if_neg hz9, if_neg (show ¬ q < i + 1 by omega)]; rfl) ?_
            refine lv_istore_n (lv' := [(3, .int (if q < i + 1 then 1 else 0)), (4, .int (nI i)), (0, .ref o), (1, .int k), (2, .int v)]) hx hb dM_given_78 rfl hl (by decide) rfl (fun ls hl => ?_)
            refine lv_iinc (v := nI (i + 1)) (lv' := [(4, .int (nI (i + 1))), (3, .int (if q < i + 1 then 1 else 0)), (0, .ref o), (1, .int k), (2, .int v)]) hx hb dM_given_79 hl (k := 1) rfl (nI_1 i) (by decide) rfl (fun ls hl => ?_)
            exact lv_goto (tgt := 54) hx hb dM_given_82 (by decide) (ih (i + 1) ls (by omega) (lv_sub hl [0, 1, 2, 3, 4] rfl))
          · skip
            have hiq : i = q := Classical.byContradiction fun z => c_69 (by rw [if_neg z])
            refine lv_iconst (v := 1) hx hb dM_given_72 (by decide) ?_
            refine lv_goto (tgt := 77) hx hb dM_given_73 (by decide) ?_
            refine lv_iadd hx hb dM_given_77 ?_
            refine lv_as (v := if q < i + 1 then 1 else 0) (by rw [if_neg (show ¬ q < i by omega), if_pos (show q < i + 1 by omega)]; rfl) ?_
            refine lv_istore_n (lv' := [(3, .int (if q < i + 1 then 1 else 0)), (4, .int (nI i)), (0, .ref o), (1, .int k), (2, .int v)]) hx hb dM_given_78 rfl hl (by decide) rfl (fun ls hl => ?_)
            refine lv_iinc (v := nI (i + 1)) (lv' := [(4, .int (nI (i + 1))), (3, .int (if q < i + 1 then 1 else 0)), (0, .ref o), (1, .int k), (2, .int v)]) hx hb dM_given_79 hl (k := 1) rfl (nI_1 i) (by decide) rfl (fun ls hl => ?_)
            exact lv_goto (tgt := 54) hx hb dM_given_82 (by decide) (ih (i + 1) ls (by omega) (lv_sub hl [0, 1, 2, 3, 4] rfl))
      exact loop 26 0 ls rfl (lv_sub hl [0, 1, 2, 3, 4] rfl)
    · skip
      refine lv_aload_n hx hb dM_given_15 rfl (lv_at hl 0 rfl) ?_
      refine lv_iconst (v := 2) hx hb dM_given_16 (by decide) ?_
      refine va_calli (M_run (As := [.int (2)]) (rest := []) (n := 1) hx hb hml K hM (c_fail l D cl tys A ci tI tZ cI cZ o ad _ _ (2)) kM_c_fail kM_m118 kM_i_fail kM_s_fail rfl rfl ⟨rfl, by decide +kernel⟩ ⟨Nat.le_of_ble_eq_true rfl, Nat.le_of_ble_eq_true rfl⟩ rfl hl.1 rfl (lv_room (Nat.le_of_ble_eq_true rfl)) dM_given_17 ⟨Nat.le_of_ble_eq_true rfl, Nat.le_of_ble_eq_true rfl⟩) hS (fun q _ h => h) (fun q h => h) (fun r u t H1 locs1 ht hvm hw hB hz hk hS => ?_)
      obtain ⟨hM, -⟩ := hB
      rw [ht] at hM
      obtain ⟨rfl, rfl⟩ := hw
      dsimp only at hM
      refine W.iret (v := (0)) hx hb hr (M_endi hM hK hS ?_) hS.2.2 dM_given_20
      exact ⟨by simp [c_6, c_12], by simp [va_up, c_6, c_12]⟩
end
section
theorem kO_i : Cond.instanceMethod objectInit ∈ lw_g := lw_in (List.mem_append_right _ (List.mem_of_getElem? (i := 40) (by decide +kernel))) rfl
theorem kO_c : Cond.code objectInit ⟨#[0xb1]⟩ 1 none ∈ lw_g := lw_in (List.mem_append_right _ (List.mem_of_getElem? (i := 41) (by decide +kernel))) rfl
theorem kM_m1 : Cond.methodLink RM 1 objectInit ∈ lw_g := lw_in (List.mem_append_right _ (List.mem_of_getElem? (i := 1058) (by decide +kernel))) rfl
theorem kA_int : Cond.arrayClass .int ∈ lw_g := lw_in (List.mem_append_right _ (List.mem_of_getElem? (i := 83) (by decide +kernel))) rfl
theorem kA_boolean : Cond.arrayClass .boolean ∈ lw_g := lw_in (List.mem_append_right _ (List.mem_of_getElem? (i := 1180) (by decide +kernel))) rfl
theorem kA_long : Cond.arrayClass .long ∈ lw_g := lw_in (List.mem_append_right _ (List.mem_of_getElem? (i := 1345) (by decide +kernel))) rfl
theorem kA_char : Cond.arrayClass .char ∈ lw_g := lw_in (List.mem_append_right _ (List.mem_of_getElem? (i := 82) (by decide +kernel))) rfl
theorem kA_byte : Cond.arrayClass .byte ∈ lw_g := lw_in (List.mem_append_right _ (List.mem_of_getElem? (i := 144) (by decide +kernel))) rfl
/-- the fields of a reference that is being made: r says which arrays stand already -/
def mcF (r : Nat → Value) : List Value := [.int 0, r 1, .int 0, r 3, r 4, r 5, r 6, .int 0, .int 0, r 9, r 10, r 11, r 12, .int 0, r 14, r 15, r 16, r 17, r 18, r 19, .int 0, r 21, r 22, .int 0, r 24, r 25, r 26, .int 0, .int 0, .int 0, .int 0, .int 0, .int 0, .int 0, .int 0, .int 0, .int 0, .int 0, r 38, r 39]
theorem va_sameI {D : va_G} {cl : List vw_C} {tys : List (ClassId × FieldType)} {s : State} {cA cI : ClassId} {t0 : Nat} (h : va_K D cl (tys ++ [(cA, .int)]) s) (ht : tys[t0]? = some (cI, .int)) : cA = cI := by
  have h1 := (h.2 tys.length (cA, .int) (by rw [List.getElem?_append_right (Nat.le_refl _), Nat.sub_self]; rfl)).2
  have h2 := (h.2 t0 (cI, .int) (by rw [List.getElem?_append_left (List.getElem?_eq_some_iff.mp ht).1]; exact ht)).2
  exact Option.some.inj (h1.symm.trans h2)
theorem va_sameZ {D : va_G} {cl : List vw_C} {tys : List (ClassId × FieldType)} {s : State} {cA cI : ClassId} {t0 : Nat} (h : va_K D cl (tys ++ [(cA, .boolean)]) s) (ht : tys[t0]? = some (cI, .boolean)) : cA = cI := by
  have h1 := (h.2 tys.length (cA, .boolean) (by rw [List.getElem?_append_right (Nat.le_refl _), Nat.sub_self]; rfl)).2
  have h2 := (h.2 t0 (cI, .boolean) (by rw [List.getElem?_append_left (List.getElem?_eq_some_iff.mp ht).1]; exact ht)).2
  exact Option.some.inj (h1.symm.trans h2)
section MNEW
variable {p : Program} {l : Launch} {e : Env} {R : Room} {s : State} {m : MethodId} {args : Array Value} {below : List Frame} {meth : Method} {c : Code} {H : Heap} {locs : List Loc} {cells slots : Nat} {Q : State → Prop}
variable {cc : ByteArray} {pc : Nat} {ls : Array Slot} {rest : List Value} {D : va_G} {cl : List vw_C} {A : Nat → Prop} {tys : List (ClassId × FieldType)} {H0 : Heap} {ci tI tZ : Nat} {cI cZ : ClassId} {ws : va_W}
theorem M_newi (hx : p.tables.exec = Jvm.exec) (hb : c.code = cc) (K : mdC D cl tys ci tI tZ cI cZ s m args) (hP : va_P D cl ws H) (hD : va_D A ws) (hS : va_S A H0 H locs) (hA : ∀ q, H0.size ≤ q → A q) {k : Int32} (N : Nat) (hk : k = nI N) (hN : N < 100000) (hcells : cells + 1 ≤ R.cells) (hslots : slots + N ≤ R.slots) (hdg : decode cc pc = .ok (.newarray .int, 2))
    (kk : ∀ (q : Nat) (H1 : Heap), va_P D cl (ws ++ [(q, .inl (cI, N, .inl (fun _ => 0)))]) H1 → va_D A (ws ++ [(q, .inl (cI, N, .inl (fun _ => 0)))]) → va_S A H0 H1 locs → W p l e R s m args below meth c H1 locs (cells + 1) (slots + N) Q (F0 m (pc + 2) ls (.ref q :: rest))) : W p l e R s m args below meth c H locs cells slots Q (F0 m pc ls (.int k :: rest)) := by
  subst hk
  refine va_newa (atype := .int) (ty := .int) hx hb (K.1 _ kA_int) rfl K.2.2.1 hP hD hS hA (a0 := (N, .inl (fun _ => 0))) (N' := N) (fun _ => rfl) (nI_pos (by omega)) (nI_clamp (by omega)) (by show N * 4 ≤ _; omega) hcells hslots hdg (fun q cA H1 k1 p1 d1 s1 => ?_)
  obtain rfl := va_sameI k1 K.2.2.2.2.1
  exact kk q H1 p1 d1 s1
theorem M_newz (hx : p.tables.exec = Jvm.exec) (hb : c.code = cc) (K : mdC D cl tys ci tI tZ cI cZ s m args) (hP : va_P D cl ws H) (hD : va_D A ws) (hS : va_S A H0 H locs) (hA : ∀ q, H0.size ≤ q → A q) {k : Int32} (N : Nat) (hk : k = nI N) (hN : N < 100000) (hcells : cells + 1 ≤ R.cells) (hslots : slots + N ≤ R.slots) (hdg : decode cc pc = .ok (.newarray .boolean, 2))
    (kk : ∀ (q : Nat) (H1 : Heap), va_P D cl (ws ++ [(q, .inl (cZ, N, .inl (fun _ => 0)))]) H1 → va_D A (ws ++ [(q, .inl (cZ, N, .inl (fun _ => 0)))]) → va_S A H0 H1 locs → W p l e R s m args below meth c H1 locs (cells + 1) (slots + N) Q (F0 m (pc + 2) ls (.ref q :: rest))) : W p l e R s m args below meth c H locs cells slots Q (F0 m pc ls (.int k :: rest)) := by
  subst hk
  refine va_newa (atype := .boolean) (ty := .boolean) hx hb (K.1 _ kA_boolean) rfl K.2.2.1 hP hD hS hA (a0 := (N, .inl (fun _ => 0))) (N' := N) (fun _ => rfl) (nI_pos (by omega)) (nI_clamp (by omega)) (by show N * 1 ≤ _; omega) hcells hslots hdg (fun q cA H1 k1 p1 d1 s1 => ?_)
  obtain rfl := va_sameZ k1 K.2.2.2.2.2
  exact kk q H1 p1 d1 s1
end MNEW
set_option maxHeartbeats 8000000 in
set_option maxRecDepth 100000 in
theorem c_init (l : Launch) (D : va_G) (cl : List vw_C) (tys : List (ClassId × FieldType)) (A : Nat → Prop) (ci tI tZ : Nat) (cI cZ : ClassId) (o : Nat) :
    Met l yM_init (.code yM_init bM_init 1 none :: lw_g) ({ frames := 1, cells := 22, slots := 18016, locals := 12 }) (va_Pc [.ref o] (fun U => (∀ q, U.heap.size ≤ q → A q) ∧ va_P D cl [(o, .inr (ci, mcF (fun _ => .null)))] U.heap ∧ va_D A [(o, .inr (ci, mcF (fun _ => .null)))] ∧ va_K D cl tys U ∧ cl[ci]? = some (RM, TM, 40) ∧ tys[tI]? = some (cI, .int) ∧ tys[tZ]? = some (cZ, .boolean))) (va_Qv (fun _ : Nat → Nat => True) (fun ad t => mdW D cl A ci cI cZ o ad (fun _ => 0) (fun _ _ => 0) t.heap ∧ va_K D cl tys t) A) 22 18016 A := by
  refine Met.ofW (cc := bM_init) (maxL := 1) (ret := none) (by decide) rfl ?_
  intro p e s m args below meth c s₁ B hml hv
  obtain ⟨rfl, hA, hP, hD, hK, hc, hI, hZ⟩ := hv
  have hx := B.exec
  have hb := B.bytes
  have hr := B.returns
  have hts := atoms_spec (ws := (.code yM_init bM_init 1 none :: lw_g)) B.pre
  have hown : s.vm.findClass RM = some m.cls := findClass_of_methodNamed B.named
  have K : mdC D cl tys ci tI tZ cI cZ s m _ := ⟨fun w h => hts w (List.mem_cons_of_mem _ h), hown, hK, hc, hI, hZ⟩
  have hlocks := B.notSynchronized
  have hin : meth.name = "<init>" := (name_of_methodNamed B.named B.method).1
  have hS : va_S A s.heap s.heap [] := va_S.rf
  have hl := lv_entry ([.ref o]) (n := 1) (Nat.le_of_ble_eq_true rfl)
  rw [lg_entry_eq]
  generalize (lg_sl ([.ref o]) ++ List.replicate (1 - (lg_sl ([.ref o])).length) Slot.unset).toArray = ls at hl ⊢
  have hl : lv_has ls 1 [(0, .ref o)] := hl
  refine lv_aload_n hx hb dM_init_0 rfl (lv_at hl 0 rfl) ?_
  refine W.objInit hx hb hown (K.1 _ kM_m1) (K.1 _ kO_i) (K.1 _ kO_c) rfl (by rw [hml]; exact hl.1) rfl dM_init_1 (Nat.le_of_ble_eq_true rfl) (Nat.le_of_ble_eq_true rfl) ?_
  refine W.eq (g2 := F0 m 4 ls []) rfl ?_
  refine lv_aload_n hx hb dM_init_4 rfl (lv_at hl 0 rfl) ?_
  refine lv_bipush (v := 120) hx hb dM_init_5 (by decide) ?_
  refine M_newi hx hb K hP hD hS hA 120 (by decide) (by decide) (Nat.le_of_ble_eq_true rfl) (Nat.le_of_ble_eq_true rfl) dM_init_7 (fun q1 H hP hD hS => ?_)
  refine W.cs (cells' := 1) (slots' := 120) rfl rfl ?_
  have hP : va_P D cl [(o, .inr (ci, mcF (fun _ => .null))), (q1, .inl (cI, 120, .inl (fun _ => 0)))] H := hP
  have hD : va_D A [(o, .inr (ci, mcF (fun _ => .null))), (q1, .inl (cI, 120, .inl (fun _ => 0)))] := hD
  refine va_putF (D := D) (ci := ci) (v := .ref q1) (ty := .array .int) (C := RM) (T := TM) (N := 40) hx hb K.1 inM tyM tyM_ok nmM hown hK hP hD hS 0 rfl hc 1 (by decide) (K.1 _ kM_f7) (fun _ h9 => h9) rfl hin rfl (by decide +kernel) rfl rfl (by show 1 < 40; decide) dM_init_9 (fun H locs hP hD hS => ?_)
  have hP : va_P D cl [(o, .inr (ci, mcF (va_up (fun _ => .null) 1 (.ref q1)))), (q1, .inl (cI, 120, .inl (fun _ => 0)))] H := hP
  have hD : va_D A [(o, .inr (ci, mcF (va_up (fun _ => .null) 1 (.ref q1)))), (q1, .inl (cI, 120, .inl (fun _ => 0)))] := hD
  refine lv_aload_n hx hb dM_init_12 rfl (lv_at hl 0 rfl) ?_
  refine lv_bipush (v := 13) hx hb dM_init_13 (by decide) ?_
  refine M_newi hx hb K hP hD hS hA 13 (by decide) (by decide) (Nat.le_of_ble_eq_true rfl) (Nat.le_of_ble_eq_true rfl) dM_init_15 (fun q2 H hP hD hS => ?_)
  refine W.cs (cells' := 2) (slots' := 133) rfl rfl ?_
  have hP : va_P D cl [(o, .inr (ci, mcF (va_up (fun _ => .null) 1 (.ref q1)))), (q1, .inl (cI, 120, .inl (fun _ => 0))), (q2, .inl (cI, 13, .inl (fun _ => 0)))] H := hP
  have hD : va_D A [(o, .inr (ci, mcF (va_up (fun _ => .null) 1 (.ref q1)))), (q1, .inl (cI, 120, .inl (fun _ => 0))), (q2, .inl (cI, 13, .inl (fun _ => 0)))] := hD
  refine va_putF (D := D) (ci := ci) (v := .ref q2) (ty := .array .int) (C := RM) (T := TM) (N := 40) hx hb K.1 inM tyM tyM_ok nmM hown hK hP hD hS 0 rfl hc 3 (by decide) (K.1 _ kM_f13) (fun _ h9 => h9) rfl hin rfl (by decide +kernel) rfl rfl (by show 3 < 40; decide) dM_init_17 (fun H locs hP hD hS => ?_)
  have hP : va_P D cl [(o, .inr (ci, mcF (va_up (va_up (fun _ => .null) 1 (.ref q1)) 3 (.ref q2)))), (q1, .inl (cI, 120, .inl (fun _ => 0))), (q2, .inl (cI, 13, .inl (fun _ => 0)))] H := hP
  have hD : va_D A [(o, .inr (ci, mcF (va_up (va_up (fun _ => .null) 1 (.ref q1)) 3 (.ref q2)))), (q1, .inl (cI, 120, .inl (fun _ => 0))), (q2, .inl (cI, 13, .inl (fun _ => 0)))] := hD
  refine lv_aload_n hx hb dM_init_20 rfl (lv_at hl 0 rfl) ?_
  refine lv_bipush (v := 13) hx hb dM_init_21 (by decide) ?_
  refine M_newi hx hb K hP hD hS hA 13 (by decide) (by decide) (Nat.le_of_ble_eq_true rfl) (Nat.le_of_ble_eq_true rfl) dM_init_23 (fun q3 H hP hD hS => ?_)
  refine W.cs (cells' := 3) (slots' := 146) rfl rfl ?_
  have hP : va_P D cl [(o, .inr (ci, mcF (va_up (va_up (fun _ => .null) 1 (.ref q1)) 3 (.ref q2)))), (q1, .inl (cI, 120, .inl (fun _ => 0))), (q2, .inl (cI, 13, .inl (fun _ => 0))), (q3, .inl (cI, 13, .inl (fun _ => 0)))] H := hP
  have hD : va_D A [(o, .inr (ci, mcF (va_up (va_up (fun _ => .null) 1 (.ref q1)) 3 (.ref q2)))), (q1, .inl (cI, 120, .inl (fun _ => 0))), (q2, .inl (cI, 13, .inl (fun _ => 0))), (q3, .inl (cI, 13, .inl (fun _ => 0)))] := hD
  refine va_putF (D := D) (ci := ci) (v := .ref q3) (ty := .array .int) (C := RM) (T := TM) (N := 40) hx hb K.1 inM tyM tyM_ok nmM hown hK hP hD hS 0 rfl hc 4 (by decide) (K.1 _ kM_f16) (fun _ h9 => h9) rfl hin rfl (by decide +kernel) rfl rfl (by show 4 < 40; decide) dM_init_25 (fun H locs hP hD hS => ?_)
  have hP : va_P D cl [(o, .inr (ci, mcF (va_up (va_up (va_up (fun _ => .null) 1 (.ref q1)) 3 (.ref q2)) 4 (.ref q3)))), (q1, .inl (cI, 120, .inl (fun _ => 0))), (q2, .inl (cI, 13, .inl (fun _ => 0))), (q3, .inl (cI, 13, .inl (fun _ => 0)))] H := hP
  have hD : va_D A [(o, .inr (ci, mcF (va_up (va_up (va_up (fun _ => .null) 1 (.ref q1)) 3 (.ref q2)) 4 (.ref q3)))), (q1, .inl (cI, 120, .inl (fun _ => 0))), (q2, .inl (cI, 13, .inl (fun _ => 0))), (q3, .inl (cI, 13, .inl (fun _ => 0)))] := hD
  refine lv_aload_n hx hb dM_init_28 rfl (lv_at hl 0 rfl) ?_
  refine lv_bipush (v := 13) hx hb dM_init_29 (by decide) ?_
  refine M_newi hx hb K hP hD hS hA 13 (by decide) (by decide) (Nat.le_of_ble_eq_true rfl) (Nat.le_of_ble_eq_true rfl) dM_init_31 (fun q4 H hP hD hS => ?_)
  refine W.cs (cells' := 4) (slots' := 159) rfl rfl ?_
  have hP : va_P D cl [(o, .inr (ci, mcF (va_up (va_up (va_up (fun _ => .null) 1 (.ref q1)) 3 (.ref q2)) 4 (.ref q3)))), (q1, .inl (cI, 120, .inl (fun _ => 0))), (q2, .inl (cI, 13, .inl (fun _ => 0))), (q3, .inl (cI, 13, .inl (fun _ => 0))), (q4, .inl (cI, 13, .inl (fun _ => 0)))] H := hP
  have hD : va_D A [(o, .inr (ci, mcF (va_up (va_up (va_up (fun _ => .null) 1 (.ref q1)) 3 (.ref q2)) 4 (.ref q3)))), (q1, .inl (cI, 120, .inl (fun _ => 0))), (q2, .inl (cI, 13, .inl (fun _ => 0))), (q3, .inl (cI, 13, .inl (fun _ => 0))), (q4, .inl (cI, 13, .inl (fun _ => 0)))] := hD
  refine va_putF (D := D) (ci := ci) (v := .ref q4) (ty := .array .int) (C := RM) (T := TM) (N := 40) hx hb K.1 inM tyM tyM_ok nmM hown hK hP hD hS 0 rfl hc 5 (by decide) (K.1 _ kM_f19) (fun _ h9 => h9) rfl hin rfl (by decide +kernel) rfl rfl (by show 5 < 40; decide) dM_init_33 (fun H locs hP hD hS => ?_)
  have hP : va_P D cl [(o, .inr (ci, mcF (va_up (va_up (va_up (va_up (fun _ => .null) 1 (.ref q1)) 3 (.ref q2)) 4 (.ref q3)) 5 (.ref q4)))), (q1, .inl (cI, 120, .inl (fun _ => 0))), (q2, .inl (cI, 13, .inl (fun _ => 0))), (q3, .inl (cI, 13, .inl (fun _ => 0))), (q4, .inl (cI, 13, .inl (fun _ => 0)))] H := hP
  have hD : va_D A [(o, .inr (ci, mcF (va_up (va_up (va_up (va_up (fun _ => .null) 1 (.ref q1)) 3 (.ref q2)) 4 (.ref q3)) 5 (.ref q4)))), (q1, .inl (cI, 120, .inl (fun _ => 0))), (q2, .inl (cI, 13, .inl (fun _ => 0))), (q3, .inl (cI, 13, .inl (fun _ => 0))), (q4, .inl (cI, 13, .inl (fun _ => 0)))] := hD
  refine lv_aload_n hx hb dM_init_36 rfl (lv_at hl 0 rfl) ?_
  refine lv_bipush (v := 13) hx hb dM_init_37 (by decide) ?_
  refine M_newi hx hb K hP hD hS hA 13 (by decide) (by decide) (Nat.le_of_ble_eq_true rfl) (Nat.le_of_ble_eq_true rfl) dM_init_39 (fun q5 H hP hD hS => ?_)
  refine W.cs (cells' := 5) (slots' := 172) rfl rfl ?_
  have hP : va_P D cl [(o, .inr (ci, mcF (va_up (va_up (va_up (va_up (fun _ => .null) 1 (.ref q1)) 3 (.ref q2)) 4 (.ref q3)) 5 (.ref q4)))), (q1, .inl (cI, 120, .inl (fun _ => 0))), (q2, .inl (cI, 13, .inl (fun _ => 0))), (q3, .inl (cI, 13, .inl (fun _ => 0))), (q4, .inl (cI, 13, .inl (fun _ => 0))), (q5, .inl (cI, 13, .inl (fun _ => 0)))] H := hP
  have hD : va_D A [(o, .inr (ci, mcF (va_up (va_up (va_up (va_up (fun _ => .null) 1 (.ref q1)) 3 (.ref q2)) 4 (.ref q3)) 5 (.ref q4)))), (q1, .inl (cI, 120, .inl (fun _ => 0))), (q2, .inl (cI, 13, .inl (fun _ => 0))), (q3, .inl (cI, 13, .inl (fun _ => 0))), (q4, .inl (cI, 13, .inl (fun _ => 0))), (q5, .inl (cI, 13, .inl (fun _ => 0)))] := hD
  refine va_putF (D := D) (ci := ci) (v := .ref q5) (ty := .array .int) (C := RM) (T := TM) (N := 40) hx hb K.1 inM tyM tyM_ok nmM hown hK hP hD hS 0 rfl hc 6 (by decide) (K.1 _ kM_f22) (fun _ h9 => h9) rfl hin rfl (by decide +kernel) rfl rfl (by show 6 < 40; decide) dM_init_41 (fun H locs hP hD hS => ?_)
  have hP : va_P D cl [(o, .inr (ci, mcF (va_up (va_up (va_up (va_up (va_up (fun _ => .null) 1 (.ref q1)) 3 (.ref q2)) 4 (.ref q3)) 5 (.ref q4)) 6 (.ref q5)))), (q1, .inl (cI, 120, .inl (fun _ => 0))), (q2, .inl (cI, 13, .inl (fun _ => 0))), (q3, .inl (cI, 13, .inl (fun _ => 0))), (q4, .inl (cI, 13, .inl (fun _ => 0))), (q5, .inl (cI, 13, .inl (fun _ => 0)))] H := hP
  have hD : va_D A [(o, .inr (ci, mcF (va_up (va_up (va_up (va_up (va_up (fun _ => .null) 1 (.ref q1)) 3 (.ref q2)) 4 (.ref q3)) 5 (.ref q4)) 6 (.ref q5)))), (q1, .inl (cI, 120, .inl (fun _ => 0))), (q2, .inl (cI, 13, .inl (fun _ => 0))), (q3, .inl (cI, 13, .inl (fun _ => 0))), (q4, .inl (cI, 13, .inl (fun _ => 0))), (q5, .inl (cI, 13, .inl (fun _ => 0)))] := hD
  refine lv_aload_n hx hb dM_init_44 rfl (lv_at hl 0 rfl) ?_
  refine lv_bipush (v := 120) hx hb dM_init_45 (by decide) ?_
  refine M_newi hx hb K hP hD hS hA 120 (by decide) (by decide) (Nat.le_of_ble_eq_true rfl) (Nat.le_of_ble_eq_true rfl) dM_init_47 (fun q6 H hP hD hS => ?_)
  refine W.cs (cells' := 6) (slots' := 292) rfl rfl ?_
  have hP : va_P D cl [(o, .inr (ci, mcF (va_up (va_up (va_up (va_up (va_up (fun _ => .null) 1 (.ref q1)) 3 (.ref q2)) 4 (.ref q3)) 5 (.ref q4)) 6 (.ref q5)))), (q1, .inl (cI, 120, .inl (fun _ => 0))), (q2, .inl (cI, 13, .inl (fun _ => 0))), (q3, .inl (cI, 13, .inl (fun _ => 0))), (q4, .inl (cI, 13, .inl (fun _ => 0))), (q5, .inl (cI, 13, .inl (fun _ => 0))), (q6, .inl (cI, 120, .inl (fun _ => 0)))] H := hP
  have hD : va_D A [(o, .inr (ci, mcF (va_up (va_up (va_up (va_up (va_up (fun _ => .null) 1 (.ref q1)) 3 (.ref q2)) 4 (.ref q3)) 5 (.ref q4)) 6 (.ref q5)))), (q1, .inl (cI, 120, .inl (fun _ => 0))), (q2, .inl (cI, 13, .inl (fun _ => 0))), (q3, .inl (cI, 13, .inl (fun _ => 0))), (q4, .inl (cI, 13, .inl (fun _ => 0))), (q5, .inl (cI, 13, .inl (fun _ => 0))), (q6, .inl (cI, 120, .inl (fun _ => 0)))] := hD
  refine va_putF (D := D) (ci := ci) (v := .ref q6) (ty := .array .int) (C := RM) (T := TM) (N := 40) hx hb K.1 inM tyM tyM_ok nmM hown hK hP hD hS 0 rfl hc 9 (by decide) (K.1 _ kM_f25) (fun _ h9 => h9) rfl hin rfl (by decide +kernel) rfl rfl (by show 9 < 40; decide) dM_init_49 (fun H locs hP hD hS => ?_)
  have hP : va_P D cl [(o, .inr (ci, mcF (va_up (va_up (va_up (va_up (va_up (va_up (fun _ => .null) 1 (.ref q1)) 3 (.ref q2)) 4 (.ref q3)) 5 (.ref q4)) 6 (.ref q5)) 9 (.ref q6)))), (q1, .inl (cI, 120, .inl (fun _ => 0))), (q2, .inl (cI, 13, .inl (fun _ => 0))), (q3, .inl (cI, 13, .inl (fun _ => 0))), (q4, .inl (cI, 13, .inl (fun _ => 0))), (q5, .inl (cI, 13, .inl (fun _ => 0))), (q6, .inl (cI, 120, .inl (fun _ => 0)))] H := hP
  have hD : va_D A [(o, .inr (ci, mcF (va_up (va_up (va_up (va_up (va_up (va_up (fun _ => .null) 1 (.ref q1)) 3 (.ref q2)) 4 (.ref q3)) 5 (.ref q4)) 6 (.ref q5)) 9 (.ref q6)))), (q1, .inl (cI, 120, .inl (fun _ => 0))), (q2, .inl (cI, 13, .inl (fun _ => 0))), (q3, .inl (cI, 13, .inl (fun _ => 0))), (q4, .inl (cI, 13, .inl (fun _ => 0))), (q5, .inl (cI, 13, .inl (fun _ => 0))), (q6, .inl (cI, 120, .inl (fun _ => 0)))] := hD
  refine lv_aload_n hx hb dM_init_52 rfl (lv_at hl 0 rfl) ?_
  refine lv_bipush (v := 120) hx hb dM_init_53 (by decide) ?_
  refine M_newi hx hb K hP hD hS hA 120 (by decide) (by decide) (Nat.le_of_ble_eq_true rfl) (Nat.le_of_ble_eq_true rfl) dM_init_55 (fun q7 H hP hD hS => ?_)
  refine W.cs (cells' := 7) (slots' := 412) rfl rfl ?_
  have hP : va_P D cl [(o, .inr (ci, mcF (va_up (va_up (va_up (va_up (va_up (va_up (fun _ => .null) 1 (.ref q1)) 3 (.ref q2)) 4 (.ref q3)) 5 (.ref q4)) 6 (.ref q5)) 9 (.ref q6)))), (q1, .inl (cI, 120, .inl (fun _ => 0))), (q2, .inl (cI, 13, .inl (fun _ => 0))), (q3, .inl (cI, 13, .inl (fun _ => 0))), (q4, .inl (cI, 13, .inl (fun _ => 0))), (q5, .inl (cI, 13, .inl (fun _ => 0))), (q6, .inl (cI, 120, .inl (fun _ => 0))), (q7, .inl (cI, 120, .inl (fun _ => 0)))] H := hP
  have hD : va_D A [(o, .inr (ci, mcF (va_up (va_up (va_up (va_up (va_up (va_up (fun _ => .null) 1 (.ref q1)) 3 (.ref q2)) 4 (.ref q3)) 5 (.ref q4)) 6 (.ref q5)) 9 (.ref q6)))), (q1, .inl (cI, 120, .inl (fun _ => 0))), (q2, .inl (cI, 13, .inl (fun _ => 0))), (q3, .inl (cI, 13, .inl (fun _ => 0))), (q4, .inl (cI, 13, .inl (fun _ => 0))), (q5, .inl (cI, 13, .inl (fun _ => 0))), (q6, .inl (cI, 120, .inl (fun _ => 0))), (q7, .inl (cI, 120, .inl (fun _ => 0)))] := hD
  refine va_putF (D := D) (ci := ci) (v := .ref q7) (ty := .array .int) (C := RM) (T := TM) (N := 40) hx hb K.1 inM tyM tyM_ok nmM hown hK hP hD hS 0 rfl hc 10 (by decide) (K.1 _ kM_f28) (fun _ h9 => h9) rfl hin rfl (by decide +kernel) rfl rfl (by show 10 < 40; decide) dM_init_57 (fun H locs hP hD hS => ?_)
  have hP : va_P D cl [(o, .inr (ci, mcF (va_up (va_up (va_up (va_up (va_up (va_up (va_up (fun _ => .null) 1 (.ref q1)) 3 (.ref q2)) 4 (.ref q3)) 5 (.ref q4)) 6 (.ref q5)) 9 (.ref q6)) 10 (.ref q7)))), (q1, .inl (cI, 120, .inl (fun _ => 0))), (q2, .inl (cI, 13, .inl (fun _ => 0))), (q3, .inl (cI, 13, .inl (fun _ => 0))), (q4, .inl (cI, 13, .inl (fun _ => 0))), (q5, .inl (cI, 13, .inl (fun _ => 0))), (q6, .inl (cI, 120, .inl (fun _ => 0))), (q7, .inl (cI, 120, .inl (fun _ => 0)))] H := hP
  have hD : va_D A [(o, .inr (ci, mcF (va_up (va_up (va_up (va_up (va_up (va_up (va_up (fun _ => .null) 1 (.ref q1)) 3 (.ref q2)) 4 (.ref q3)) 5 (.ref q4)) 6 (.ref q5)) 9 (.ref q6)) 10 (.ref q7)))), (q1, .inl (cI, 120, .inl (fun _ => 0))), (q2, .inl (cI, 13, .inl (fun _ => 0))), (q3, .inl (cI, 13, .inl (fun _ => 0))), (q4, .inl (cI, 13, .inl (fun _ => 0))), (q5, .inl (cI, 13, .inl (fun _ => 0))), (q6, .inl (cI, 120, .inl (fun _ => 0))), (q7, .inl (cI, 120, .inl (fun _ => 0)))] := hD
  refine lv_aload_n hx hb dM_init_60 rfl (lv_at hl 0 rfl) ?_
  refine lv_bipush (v := 120) hx hb dM_init_61 (by decide) ?_
  refine M_newi hx hb K hP hD hS hA 120 (by decide) (by decide) (Nat.le_of_ble_eq_true rfl) (Nat.le_of_ble_eq_true rfl) dM_init_63 (fun q8 H hP hD hS => ?_)
  refine W.cs (cells' := 8) (slots' := 532) rfl rfl ?_
  have hP : va_P D cl [(o, .inr (ci, mcF (va_up (va_up (va_up (va_up (va_up (va_up (va_up (fun _ => .null) 1 (.ref q1)) 3 (.ref q2)) 4 (.ref q3)) 5 (.ref q4)) 6 (.ref q5)) 9 (.ref q6)) 10 (.ref q7)))), (q1, .inl (cI, 120, .inl (fun _ => 0))), (q2, .inl (cI, 13, .inl (fun _ => 0))), (q3, .inl (cI, 13, .inl (fun _ => 0))), (q4, .inl (cI, 13, .inl (fun _ => 0))), (q5, .inl (cI, 13, .inl (fun _ => 0))), (q6, .inl (cI, 120, .inl (fun _ => 0))), (q7, .inl (cI, 120, .inl (fun _ => 0))), (q8, .inl (cI, 120, .inl (fun _ => 0)))] H := hP
  have hD : va_D A [(o, .inr (ci, mcF (va_up (va_up (va_up (va_up (va_up (va_up (va_up (fun _ => .null) 1 (.ref q1)) 3 (.ref q2)) 4 (.ref q3)) 5 (.ref q4)) 6 (.ref q5)) 9 (.ref q6)) 10 (.ref q7)))), (q1, .inl (cI, 120, .inl (fun _ => 0))), (q2, .inl (cI, 13, .inl (fun _ => 0))), (q3, .inl (cI, 13, .inl (fun _ => 0))), (q4, .inl (cI, 13, .inl (fun _ => 0))), (q5, .inl (cI, 13, .inl (fun _ => 0))), (q6, .inl (cI, 120, .inl (fun _ => 0))), (q7, .inl (cI, 120, .inl (fun _ => 0))), (q8, .inl (cI, 120, .inl (fun _ => 0)))] := hD
  refine va_putF (D := D) (ci := ci) (v := .ref q8) (ty := .array .int) (C := RM) (T := TM) (N := 40) hx hb K.1 inM tyM tyM_ok nmM hown hK hP hD hS 0 rfl hc 11 (by decide) (K.1 _ kM_f31) (fun _ h9 => h9) rfl hin rfl (by decide +kernel) rfl rfl (by show 11 < 40; decide) dM_init_65 (fun H locs hP hD hS => ?_)
  have hP : va_P D cl [(o, .inr (ci, mcF (va_up (va_up (va_up (va_up (va_up (va_up (va_up (va_up (fun _ => .null) 1 (.ref q1)) 3 (.ref q2)) 4 (.ref q3)) 5 (.ref q4)) 6 (.ref q5)) 9 (.ref q6)) 10 (.ref q7)) 11 (.ref q8)))), (q1, .inl (cI, 120, .inl (fun _ => 0))), (q2, .inl (cI, 13, .inl (fun _ => 0))), (q3, .inl (cI, 13, .inl (fun _ => 0))), (q4, .inl (cI, 13, .inl (fun _ => 0))), (q5, .inl (cI, 13, .inl (fun _ => 0))), (q6, .inl (cI, 120, .inl (fun _ => 0))), (q7, .inl (cI, 120, .inl (fun _ => 0))), (q8, .inl (cI, 120, .inl (fun _ => 0)))] H := hP
  have hD : va_D A [(o, .inr (ci, mcF (va_up (va_up (va_up (va_up (va_up (va_up (va_up (va_up (fun _ => .null) 1 (.ref q1)) 3 (.ref q2)) 4 (.ref q3)) 5 (.ref q4)) 6 (.ref q5)) 9 (.ref q6)) 10 (.ref q7)) 11 (.ref q8)))), (q1, .inl (cI, 120, .inl (fun _ => 0))), (q2, .inl (cI, 13, .inl (fun _ => 0))), (q3, .inl (cI, 13, .inl (fun _ => 0))), (q4, .inl (cI, 13, .inl (fun _ => 0))), (q5, .inl (cI, 13, .inl (fun _ => 0))), (q6, .inl (cI, 120, .inl (fun _ => 0))), (q7, .inl (cI, 120, .inl (fun _ => 0))), (q8, .inl (cI, 120, .inl (fun _ => 0)))] := hD
  refine lv_aload_n hx hb dM_init_68 rfl (lv_at hl 0 rfl) ?_
  refine lv_sipush (v := 480) hx hb dM_init_69 (by decide) ?_
  refine M_newi hx hb K hP hD hS hA 480 (by decide) (by decide) (Nat.le_of_ble_eq_true rfl) (Nat.le_of_ble_eq_true rfl) dM_init_72 (fun q9 H hP hD hS => ?_)
  refine W.cs (cells' := 9) (slots' := 1012) rfl rfl ?_
  have hP : va_P D cl [(o, .inr (ci, mcF (va_up (va_up (va_up (va_up (va_up (va_up (va_up (va_up (fun _ => .null) 1 (.ref q1)) 3 (.ref q2)) 4 (.ref q3)) 5 (.ref q4)) 6 (.ref q5)) 9 (.ref q6)) 10 (.ref q7)) 11 (.ref q8)))), (q1, .inl (cI, 120, .inl (fun _ => 0))), (q2, .inl (cI, 13, .inl (fun _ => 0))), (q3, .inl (cI, 13, .inl (fun _ => 0))), (q4, .inl (cI, 13, .inl (fun _ => 0))), (q5, .inl (cI, 13, .inl (fun _ => 0))), (q6, .inl (cI, 120, .inl (fun _ => 0))), (q7, .inl (cI, 120, .inl (fun _ => 0))), (q8, .inl (cI, 120, .inl (fun _ => 0))), (q9, .inl (cI, 480, .inl (fun _ => 0)))] H := hP
  have hD : va_D A [(o, .inr (ci, mcF (va_up (va_up (va_up (va_up (va_up (va_up (va_up (va_up (fun _ => .null) 1 (.ref q1)) 3 (.ref q2)) 4 (.ref q3)) 5 (.ref q4)) 6 (.ref q5)) 9 (.ref q6)) 10 (.ref q7)) 11 (.ref q8)))), (q1, .inl (cI, 120, .inl (fun _ => 0))), (q2, .inl (cI, 13, .inl (fun _ => 0))), (q3, .inl (cI, 13, .inl (fun _ => 0))), (q4, .inl (cI, 13, .inl (fun _ => 0))), (q5, .inl (cI, 13, .inl (fun _ => 0))), (q6, .inl (cI, 120, .inl (fun _ => 0))), (q7, .inl (cI, 120, .inl (fun _ => 0))), (q8, .inl (cI, 120, .inl (fun _ => 0))), (q9, .inl (cI, 480, .inl (fun _ => 0)))] := hD
  refine va_putF (D := D) (ci := ci) (v := .ref q9) (ty := .array .int) (C := RM) (T := TM) (N := 40) hx hb K.1 inM tyM tyM_ok nmM hown hK hP hD hS 0 rfl hc 12 (by decide) (K.1 _ kM_f34) (fun _ h9 => h9) rfl hin rfl (by decide +kernel) rfl rfl (by show 12 < 40; decide) dM_init_74 (fun H locs hP hD hS => ?_)
  have hP : va_P D cl [(o, .inr (ci, mcF (va_up (va_up (va_up (va_up (va_up (va_up (va_up (va_up (va_up (fun _ => .null) 1 (.ref q1)) 3 (.ref q2)) 4 (.ref q3)) 5 (.ref q4)) 6 (.ref q5)) 9 (.ref q6)) 10 (.ref q7)) 11 (.ref q8)) 12 (.ref q9)))), (q1, .inl (cI, 120, .inl (fun _ => 0))), (q2, .inl (cI, 13, .inl (fun _ => 0))), (q3, .inl (cI, 13, .inl (fun _ => 0))), (q4, .inl (cI, 13, .inl (fun _ => 0))), (q5, .inl (cI, 13, .inl (fun _ => 0))), (q6, .inl (cI, 120, .inl (fun _ => 0))), (q7, .inl (cI, 120, .inl (fun _ => 0))), (q8, .inl (cI, 120, .inl (fun _ => 0))), (q9, .inl (cI, 480, .inl (fun _ => 0)))] H := hP
  have hD : va_D A [(o, .inr (ci, mcF (va_up (va_up (va_up (va_up (va_up (va_up (va_up (va_up (va_up (fun _ => .null) 1 (.ref q1)) 3 (.ref q2)) 4 (.ref q3)) 5 (.ref q4)) 6 (.ref q5)) 9 (.ref q6)) 10 (.ref q7)) 11 (.ref q8)) 12 (.ref q9)))), (q1, .inl (cI, 120, .inl (fun _ => 0))), (q2, .inl (cI, 13, .inl (fun _ => 0))), (q3, .inl (cI, 13, .inl (fun _ => 0))), (q4, .inl (cI, 13, .inl (fun _ => 0))), (q5, .inl (cI, 13, .inl (fun _ => 0))), (q6, .inl (cI, 120, .inl (fun _ => 0))), (q7, .inl (cI, 120, .inl (fun _ => 0))), (q8, .inl (cI, 120, .inl (fun _ => 0))), (q9, .inl (cI, 480, .inl (fun _ => 0)))] := hD
  refine lv_aload_n hx hb dM_init_77 rfl (lv_at hl 0 rfl) ?_
  refine lv_bipush (v := 26) hx hb dM_init_78 (by decide) ?_
  refine M_newi hx hb K hP hD hS hA 26 (by decide) (by decide) (Nat.le_of_ble_eq_true rfl) (Nat.le_of_ble_eq_true rfl) dM_init_80 (fun q10 H hP hD hS => ?_)
  refine W.cs (cells' := 10) (slots' := 1038) rfl rfl ?_
  have hP : va_P D cl [(o, .inr (ci, mcF (va_up (va_up (va_up (va_up (va_up (va_up (va_up (va_up (va_up (fun _ => .null) 1 (.ref q1)) 3 (.ref q2)) 4 (.ref q3)) 5 (.ref q4)) 6 (.ref q5)) 9 (.ref q6)) 10 (.ref q7)) 11 (.ref q8)) 12 (.ref q9)))), (q1, .inl (cI, 120, .inl (fun _ => 0))), (q2, .inl (cI, 13, .inl (fun _ => 0))), (q3, .inl (cI, 13, .inl (fun _ => 0))), (q4, .inl (cI, 13, .inl (fun _ => 0))), (q5, .inl (cI, 13, .inl (fun _ => 0))), (q6, .inl (cI, 120, .inl (fun _ => 0))), (q7, .inl (cI, 120, .inl (fun _ => 0))), (q8, .inl (cI, 120, .inl (fun _ => 0))), (q9, .inl (cI, 480, .inl (fun _ => 0))), (q10, .inl (cI, 26, .inl (fun _ => 0)))] H := hP
  have hD : va_D A [(o, .inr (ci, mcF (va_up (va_up (va_up (va_up (va_up (va_up (va_up (va_up (va_up (fun _ => .null) 1 (.ref q1)) 3 (.ref q2)) 4 (.ref q3)) 5 (.ref q4)) 6 (.ref q5)) 9 (.ref q6)) 10 (.ref q7)) 11 (.ref q8)) 12 (.ref q9)))), (q1, .inl (cI, 120, .inl (fun _ => 0))), (q2, .inl (cI, 13, .inl (fun _ => 0))), (q3, .inl (cI, 13, .inl (fun _ => 0))), (q4, .inl (cI, 13, .inl (fun _ => 0))), (q5, .inl (cI, 13, .inl (fun _ => 0))), (q6, .inl (cI, 120, .inl (fun _ => 0))), (q7, .inl (cI, 120, .inl (fun _ => 0))), (q8, .inl (cI, 120, .inl (fun _ => 0))), (q9, .inl (cI, 480, .inl (fun _ => 0))), (q10, .inl (cI, 26, .inl (fun _ => 0)))] := hD
  refine va_putF (D := D) (ci := ci) (v := .ref q10) (ty := .array .int) (C := RM) (T := TM) (N := 40) hx hb K.1 inM tyM tyM_ok nmM hown hK hP hD hS 0 rfl hc 14 (by decide) (K.1 _ kM_f37) (fun _ h9 => h9) rfl hin rfl (by decide +kernel) rfl rfl (by show 14 < 40; decide) dM_init_82 (fun H locs hP hD hS => ?_)
  have hP : va_P D cl [(o, .inr (ci, mcF (va_up (va_up (va_up (va_up (va_up (va_up (va_up (va_up (va_up (va_up (fun _ => .null) 1 (.ref q1)) 3 (.ref q2)) 4 (.ref q3)) 5 (.ref q4)) 6 (.ref q5)) 9 (.ref q6)) 10 (.ref q7)) 11 (.ref q8)) 12 (.ref q9)) 14 (.ref q10)))), (q1, .inl (cI, 120, .inl (fun _ => 0))), (q2, .inl (cI, 13, .inl (fun _ => 0))), (q3, .inl (cI, 13, .inl (fun _ => 0))), (q4, .inl (cI, 13, .inl (fun _ => 0))), (q5, .inl (cI, 13, .inl (fun _ => 0))), (q6, .inl (cI, 120, .inl (fun _ => 0))), (q7, .inl (cI, 120, .inl (fun _ => 0))), (q8, .inl (cI, 120, .inl (fun _ => 0))), (q9, .inl (cI, 480, .inl (fun _ => 0))), (q10, .inl (cI, 26, .inl (fun _ => 0)))] H := hP
  have hD : va_D A [(o, .inr (ci, mcF (va_up (va_up (va_up (va_up (va_up (va_up (va_up (va_up (va_up (va_up (fun _ => .null) 1 (.ref q1)) 3 (.ref q2)) 4 (.ref q3)) 5 (.ref q4)) 6 (.ref q5)) 9 (.ref q6)) 10 (.ref q7)) 11 (.ref q8)) 12 (.ref q9)) 14 (.ref q10)))), (q1, .inl (cI, 120, .inl (fun _ => 0))), (q2, .inl (cI, 13, .inl (fun _ => 0))), (q3, .inl (cI, 13, .inl (fun _ => 0))), (q4, .inl (cI, 13, .inl (fun _ => 0))), (q5, .inl (cI, 13, .inl (fun _ => 0))), (q6, .inl (cI, 120, .inl (fun _ => 0))), (q7, .inl (cI, 120, .inl (fun _ => 0))), (q8, .inl (cI, 120, .inl (fun _ => 0))), (q9, .inl (cI, 480, .inl (fun _ => 0))), (q10, .inl (cI, 26, .inl (fun _ => 0)))] := hD
  refine lv_aload_n hx hb dM_init_85 rfl (lv_at hl 0 rfl) ?_
  refine lv_bipush (v := 26) hx hb dM_init_86 (by decide) ?_
  refine M_newz hx hb K hP hD hS hA 26 (by decide) (by decide) (Nat.le_of_ble_eq_true rfl) (Nat.le_of_ble_eq_true rfl) dM_init_88 (fun q11 H hP hD hS => ?_)
  refine W.cs (cells' := 11) (slots' := 1064) rfl rfl ?_
  have hP : va_P D cl [(o, .inr (ci, mcF (va_up (va_up (va_up (va_up (va_up (va_up (va_up (va_up (va_up (va_up (fun _ => .null) 1 (.ref q1)) 3 (.ref q2)) 4 (.ref q3)) 5 (.ref q4)) 6 (.ref q5)) 9 (.ref q6)) 10 (.ref q7)) 11 (.ref q8)) 12 (.ref q9)) 14 (.ref q10)))), (q1, .inl (cI, 120, .inl (fun _ => 0))), (q2, .inl (cI, 13, .inl (fun _ => 0))), (q3, .inl (cI, 13, .inl (fun _ => 0))), (q4, .inl (cI, 13, .inl (fun _ => 0))), (q5, .inl (cI, 13, .inl (fun _ => 0))), (q6, .inl (cI, 120, .inl (fun _ => 0))), (q7, .inl (cI, 120, .inl (fun _ => 0))), (q8, .inl (cI, 120, .inl (fun _ => 0))), (q9, .inl (cI, 480, .inl (fun _ => 0))), (q10, .inl (cI, 26, .inl (fun _ => 0))), (q11, .inl (cZ, 26, .inl (fun _ => 0)))] H := hP
  have hD : va_D A [(o, .inr (ci, mcF (va_up (va_up (va_up (va_up (va_up (va_up (va_up (va_up (va_up (va_up (fun _ => .null) 1 (.ref q1)) 3 (.ref q2)) 4 (.ref q3)) 5 (.ref q4)) 6 (.ref q5)) 9 (.ref q6)) 10 (.ref q7)) 11 (.ref q8)) 12 (.ref q9)) 14 (.ref q10)))), (q1, .inl (cI, 120, .inl (fun _ => 0))), (q2, .inl (cI, 13, .inl (fun _ => 0))), (q3, .inl (cI, 13, .inl (fun _ => 0))), (q4, .inl (cI, 13, .inl (fun _ => 0))), (q5, .inl (cI, 13, .inl (fun _ => 0))), (q6, .inl (cI, 120, .inl (fun _ => 0))), (q7, .inl (cI, 120, .inl (fun _ => 0))), (q8, .inl (cI, 120, .inl (fun _ => 0))), (q9, .inl (cI, 480, .inl (fun _ => 0))), (q10, .inl (cI, 26, .inl (fun _ => 0))), (q11, .inl (cZ, 26, .inl (fun _ => 0)))] := hD
  refine va_putF (D := D) (ci := ci) (v := .ref q11) (ty := .array .boolean) (C := RM) (T := TM) (N := 40) hx hb K.1 inM tyM tyM_ok nmM hown hK hP hD hS 0 rfl hc 15 (by decide) (K.1 _ kM_f40) (fun _ h9 => h9) rfl hin rfl (by decide +kernel) rfl rfl (by show 15 < 40; decide) dM_init_90 (fun H locs hP hD hS => ?_)
  have hP : va_P D cl [(o, .inr (ci, mcF (va_up (va_up (va_up (va_up (va_up (va_up (va_up (va_up (va_up (va_up (va_up (fun _ => .null) 1 (.ref q1)) 3 (.ref q2)) 4 (.ref q3)) 5 (.ref q4)) 6 (.ref q5)) 9 (.ref q6)) 10 (.ref q7)) 11 (.ref q8)) 12 (.ref q9)) 14 (.ref q10)) 15 (.ref q11)))), (q1, .inl (cI, 120, .inl (fun _ => 0))), (q2, .inl (cI, 13, .inl (fun _ => 0))), (q3, .inl (cI, 13, .inl (fun _ => 0))), (q4, .inl (cI, 13, .inl (fun _ => 0))), (q5, .inl (cI, 13, .inl (fun _ => 0))), (q6, .inl (cI, 120, .inl (fun _ => 0))), (q7, .inl (cI, 120, .inl (fun _ => 0))), (q8, .inl (cI, 120, .inl (fun _ => 0))), (q9, .inl (cI, 480, .inl (fun _ => 0))), (q10, .inl (cI, 26, .inl (fun _ => 0))), (q11, .inl (cZ, 26, .inl (fun _ => 0)))] H := hP
  have hD : va_D A [(o, .inr (ci, mcF (va_up (va_up (va_up (va_up (va_up (va_up (va_up (va_up (va_up (va_up (va_up (fun _ => .null) 1 (.ref q1)) 3 (.ref q2)) 4 (.ref q3)) 5 (.ref q4)) 6 (.ref q5)) 9 (.ref q6)) 10 (.ref q7)) 11 (.ref q8)) 12 (.ref q9)) 14 (.ref q10)) 15 (.ref q11)))), (q1, .inl (cI, 120, .inl (fun _ => 0))), (q2, .inl (cI, 13, .inl (fun _ => 0))), (q3, .inl (cI, 13, .inl (fun _ => 0))), (q4, .inl (cI, 13, .inl (fun _ => 0))), (q5, .inl (cI, 13, .inl (fun _ => 0))), (q6, .inl (cI, 120, .inl (fun _ => 0))), (q7, .inl (cI, 120, .inl (fun _ => 0))), (q8, .inl (cI, 120, .inl (fun _ => 0))), (q9, .inl (cI, 480, .inl (fun _ => 0))), (q10, .inl (cI, 26, .inl (fun _ => 0))), (q11, .inl (cZ, 26, .inl (fun _ => 0)))] := hD
  refine lv_aload_n hx hb dM_init_93 rfl (lv_at hl 0 rfl) ?_
  refine lv_sipush (v := 147) hx hb dM_init_94 (by decide) ?_
  refine M_newi hx hb K hP hD hS hA 147 (by decide) (by decide) (Nat.le_of_ble_eq_true rfl) (Nat.le_of_ble_eq_true rfl) dM_init_97 (fun q12 H hP hD hS => ?_)
  refine W.cs (cells' := 12) (slots' := 1211) rfl rfl ?_
  have hP : va_P D cl [(o, .inr (ci, mcF (va_up (va_up (va_up (va_up (va_up (va_up (va_up (va_up (va_up (va_up (va_up (fun _ => .null) 1 (.ref q1)) 3 (.ref q2)) 4 (.ref q3)) 5 (.ref q4)) 6 (.ref q5)) 9 (.ref q6)) 10 (.ref q7)) 11 (.ref q8)) 12 (.ref q9)) 14 (.ref q10)) 15 (.ref q11)))), (q1, .inl (cI, 120, .inl (fun _ => 0))), (q2, .inl (cI, 13, .inl (fun _ => 0))), (q3, .inl (cI, 13, .inl (fun _ => 0))), (q4, .inl (cI, 13, .inl (fun _ => 0))), (q5, .inl (cI, 13, .inl (fun _ => 0))), (q6, .inl (cI, 120, .inl (fun _ => 0))), (q7, .inl (cI, 120, .inl (fun _ => 0))), (q8, .inl (cI, 120, .inl (fun _ => 0))), (q9, .inl (cI, 480, .inl (fun _ => 0))), (q10, .inl (cI, 26, .inl (fun _ => 0))), (q11, .inl (cZ, 26, .inl (fun _ => 0))), (q12, .inl (cI, 147, .inl (fun _ => 0)))] H := hP
  have hD : va_D A [(o, .inr (ci, mcF (va_up (va_up (va_up (va_up (va_up (va_up (va_up (va_up (va_up (va_up (va_up (fun _ => .null) 1 (.ref q1)) 3 (.ref q2)) 4 (.ref q3)) 5 (.ref q4)) 6 (.ref q5)) 9 (.ref q6)) 10 (.ref q7)) 11 (.ref q8)) 12 (.ref q9)) 14 (.ref q10)) 15 (.ref q11)))), (q1, .inl (cI, 120, .inl (fun _ => 0))), (q2, .inl (cI, 13, .inl (fun _ => 0))), (q3, .inl (cI, 13, .inl (fun _ => 0))), (q4, .inl (cI, 13, .inl (fun _ => 0))), (q5, .inl (cI, 13, .inl (fun _ => 0))), (q6, .inl (cI, 120, .inl (fun _ => 0))), (q7, .inl (cI, 120, .inl (fun _ => 0))), (q8, .inl (cI, 120, .inl (fun _ => 0))), (q9, .inl (cI, 480, .inl (fun _ => 0))), (q10, .inl (cI, 26, .inl (fun _ => 0))), (q11, .inl (cZ, 26, .inl (fun _ => 0))), (q12, .inl (cI, 147, .inl (fun _ => 0)))] := hD
  refine va_putF (D := D) (ci := ci) (v := .ref q12) (ty := .array .int) (C := RM) (T := TM) (N := 40) hx hb K.1 inM tyM tyM_ok nmM hown hK hP hD hS 0 rfl hc 16 (by decide) (K.1 _ kM_f44) (fun _ h9 => h9) rfl hin rfl (by decide +kernel) rfl rfl (by show 16 < 40; decide) dM_init_99 (fun H locs hP hD hS => ?_)
  have hP : va_P D cl [(o, .inr (ci, mcF (va_up (va_up (va_up (va_up (va_up (va_up (va_up (va_up (va_up (va_up (va_up (va_up (fun _ => .null) 1 (.ref q1)) 3 (.ref q2)) 4 (.ref q3)) 5 (.ref q4)) 6 (.ref q5)) 9 (.ref q6)) 10 (.ref q7)) 11 (.ref q8)) 12 (.ref q9)) 14 (.ref q10)) 15 (.ref q11)) 16 (.ref q12)))), (q1, .inl (cI, 120, .inl (fun _ => 0))), (q2, .inl (cI, 13, .inl (fun _ => 0))), (q3, .inl (cI, 13, .inl (fun _ => 0))), (q4, .inl (cI, 13, .inl (fun _ => 0))), (q5, .inl (cI, 13, .inl (fun _ => 0))), (q6, .inl (cI, 120, .inl (fun _ => 0))), (q7, .inl (cI, 120, .inl (fun _ => 0))), (q8, .inl (cI, 120, .inl (fun _ => 0))), (q9, .inl (cI, 480, .inl (fun _ => 0))), (q10, .inl (cI, 26, .inl (fun _ => 0))), (q11, .inl (cZ, 26, .inl (fun _ => 0))), (q12, .inl (cI, 147, .inl (fun _ => 0)))] H := hP
  have hD : va_D A [(o, .inr (ci, mcF (va_up (va_up (va_up (va_up (va_up (va_up (va_up (va_up (va_up (va_up (va_up (va_up (fun _ => .null) 1 (.ref q1)) 3 (.ref q2)) 4 (.ref q3)) 5 (.ref q4)) 6 (.ref q5)) 9 (.ref q6)) 10 (.ref q7)) 11 (.ref q8)) 12 (.ref q9)) 14 (.ref q10)) 15 (.ref q11)) 16 (.ref q12)))), (q1, .inl (cI, 120, .inl (fun _ => 0))), (q2, .inl (cI, 13, .inl (fun _ => 0))), (q3, .inl (cI, 13, .inl (fun _ => 0))), (q4, .inl (cI, 13, .inl (fun _ => 0))), (q5, .inl (cI, 13, .inl (fun _ => 0))), (q6, .inl (cI, 120, .inl (fun _ => 0))), (q7, .inl (cI, 120, .inl (fun _ => 0))), (q8, .inl (cI, 120, .inl (fun _ => 0))), (q9, .inl (cI, 480, .inl (fun _ => 0))), (q10, .inl (cI, 26, .inl (fun _ => 0))), (q11, .inl (cZ, 26, .inl (fun _ => 0))), (q12, .inl (cI, 147, .inl (fun _ => 0)))] := hD
  refine lv_aload_n hx hb dM_init_102 rfl (lv_at hl 0 rfl) ?_
  refine lv_sipush (v := 147) hx hb dM_init_103 (by decide) ?_
  refine M_newi hx hb K hP hD hS hA 147 (by decide) (by decide) (Nat.le_of_ble_eq_true rfl) (Nat.le_of_ble_eq_true rfl) dM_init_106 (fun q13 H hP hD hS => ?_)
  refine W.cs (cells' := 13) (slots' := 1358) rfl rfl ?_
  have hP : va_P D cl [(o, .inr (ci, mcF (va_up (va_up (va_up (va_up (va_up (va_up (va_up (va_up (va_up (va_up (va_up (va_up (fun _ => .null) 1 (.ref q1)) 3 (.ref q2)) 4 (.ref q3)) 5 (.ref q4)) 6 (.ref q5)) 9 (.ref q6)) 10 (.ref q7)) 11 (.ref q8)) 12 (.ref q9)) 14 (.ref q10)) 15 (.ref q11)) 16 (.ref q12)))), (q1, .inl (cI, 120, .inl (fun _ => 0))), (q2, .inl (cI, 13, .inl (fun _ => 0))), (q3, .inl (cI, 13, .inl (fun _ => 0))), (q4, .inl (cI, 13, .inl (fun _ => 0))), (q5, .inl (cI, 13, .inl (fun _ => 0))), (q6, .inl (cI, 120, .inl (fun _ => 0))), (q7, .inl (cI, 120, .inl (fun _ => 0))), (q8, .inl (cI, 120, .inl (fun _ => 0))), (q9, .inl (cI, 480, .inl (fun _ => 0))), (q10, .inl (cI, 26, .inl (fun _ => 0))), (q11, .inl (cZ, 26, .inl (fun _ => 0))), (q12, .inl (cI, 147, .inl (fun _ => 0))), (q13, .inl (cI, 147, .inl (fun _ => 0)))] H := hP
  have hD : va_D A [(o, .inr (ci, mcF (va_up (va_up (va_up (va_up (va_up (va_up (va_up (va_up (va_up (va_up (va_up (va_up (fun _ => .null) 1 (.ref q1)) 3 (.ref q2)) 4 (.ref q3)) 5 (.ref q4)) 6 (.ref q5)) 9 (.ref q6)) 10 (.ref q7)) 11 (.ref q8)) 12 (.ref q9)) 14 (.ref q10)) 15 (.ref q11)) 16 (.ref q12)))), (q1, .inl (cI, 120, .inl (fun _ => 0))), (q2, .inl (cI, 13, .inl (fun _ => 0))), (q3, .inl (cI, 13, .inl (fun _ => 0))), (q4, .inl (cI, 13, .inl (fun _ => 0))), (q5, .inl (cI, 13, .inl (fun _ => 0))), (q6, .inl (cI, 120, .inl (fun _ => 0))), (q7, .inl (cI, 120, .inl (fun _ => 0))), (q8, .inl (cI, 120, .inl (fun _ => 0))), (q9, .inl (cI, 480, .inl (fun _ => 0))), (q10, .inl (cI, 26, .inl (fun _ => 0))), (q11, .inl (cZ, 26, .inl (fun _ => 0))), (q12, .inl (cI, 147, .inl (fun _ => 0))), (q13, .inl (cI, 147, .inl (fun _ => 0)))] := hD
  refine va_putF (D := D) (ci := ci) (v := .ref q13) (ty := .array .int) (C := RM) (T := TM) (N := 40) hx hb K.1 inM tyM tyM_ok nmM hown hK hP hD hS 0 rfl hc 17 (by decide) (K.1 _ kM_f47) (fun _ h9 => h9) rfl hin rfl (by decide +kernel) rfl rfl (by show 17 < 40; decide) dM_init_108 (fun H locs hP hD hS => ?_)
  have hP : va_P D cl [(o, .inr (ci, mcF (va_up (va_up (va_up (va_up (va_up (va_up (va_up (va_up (va_up (va_up (va_up (va_up (va_up (fun _ => .null) 1 (.ref q1)) 3 (.ref q2)) 4 (.ref q3)) 5 (.ref q4)) 6 (.ref q5)) 9 (.ref q6)) 10 (.ref q7)) 11 (.ref q8)) 12 (.ref q9)) 14 (.ref q10)) 15 (.ref q11)) 16 (.ref q12)) 17 (.ref q13)))), (q1, .inl (cI, 120, .inl (fun _ => 0))), (q2, .inl (cI, 13, .inl (fun _ => 0))), (q3, .inl (cI, 13, .inl (fun _ => 0))), (q4, .inl (cI, 13, .inl (fun _ => 0))), (q5, .inl (cI, 13, .inl (fun _ => 0))), (q6, .inl (cI, 120, .inl (fun _ => 0))), (q7, .inl (cI, 120, .inl (fun _ => 0))), (q8, .inl (cI, 120, .inl (fun _ => 0))), (q9, .inl (cI, 480, .inl (fun _ => 0))), (q10, .inl (cI, 26, .inl (fun _ => 0))), (q11, .inl (cZ, 26, .inl (fun _ => 0))), (q12, .inl (cI, 147, .inl (fun _ => 0))), (q13, .inl (cI, 147, .inl (fun _ => 0)))] H := hP
  have hD : va_D A [(o, .inr (ci, mcF (va_up (va_up (va_up (va_up (va_up (va_up (va_up (va_up (va_up (va_up (va_up (va_up (va_up (fun _ => .null) 1 (.ref q1)) 3 (.ref q2)) 4 (.ref q3)) 5 (.ref q4)) 6 (.ref q5)) 9 (.ref q6)) 10 (.ref q7)) 11 (.ref q8)) 12 (.ref q9)) 14 (.ref q10)) 15 (.ref q11)) 16 (.ref q12)) 17 (.ref q13)))), (q1, .inl (cI, 120, .inl (fun _ => 0))), (q2, .inl (cI, 13, .inl (fun _ => 0))), (q3, .inl (cI, 13, .inl (fun _ => 0))), (q4, .inl (cI, 13, .inl (fun _ => 0))), (q5, .inl (cI, 13, .inl (fun _ => 0))), (q6, .inl (cI, 120, .inl (fun _ => 0))), (q7, .inl (cI, 120, .inl (fun _ => 0))), (q8, .inl (cI, 120, .inl (fun _ => 0))), (q9, .inl (cI, 480, .inl (fun _ => 0))), (q10, .inl (cI, 26, .inl (fun _ => 0))), (q11, .inl (cZ, 26, .inl (fun _ => 0))), (q12, .inl (cI, 147, .inl (fun _ => 0))), (q13, .inl (cI, 147, .inl (fun _ => 0)))] := hD
  refine lv_aload_n hx hb dM_init_111 rfl (lv_at hl 0 rfl) ?_
  refine lv_sipush (v := 147) hx hb dM_init_112 (by decide) ?_
  refine M_newi hx hb K hP hD hS hA 147 (by decide) (by decide) (Nat.le_of_ble_eq_true rfl) (Nat.le_of_ble_eq_true rfl) dM_init_115 (fun q14 H hP hD hS => ?_)
  refine W.cs (cells' := 14) (slots' := 1505) rfl rfl ?_
  have hP : va_P D cl [(o, .inr (ci, mcF (va_up (va_up (va_up (va_up (va_up (va_up (va_up (va_up (va_up (va_up (va_up (va_up (va_up (fun _ => .null) 1 (.ref q1)) 3 (.ref q2)) 4 (.ref q3)) 5 (.ref q4)) 6 (.ref q5)) 9 (.ref q6)) 10 (.ref q7)) 11 (.ref q8)) 12 (.ref q9)) 14 (.ref q10)) 15 (.ref q11)) 16 (.ref q12)) 17 (.ref q13)))), (q1, .inl (cI, 120, .inl (fun _ => 0))), (q2, .inl (cI, 13, .inl (fun _ => 0))), (q3, .inl (cI, 13, .inl (fun _ => 0))), (q4, .inl (cI, 13, .inl (fun _ => 0))), (q5, .inl (cI, 13, .inl (fun _ => 0))), (q6, .inl (cI, 120, .inl (fun _ => 0))), (q7, .inl (cI, 120, .inl (fun _ => 0))), (q8, .inl (cI, 120, .inl (fun _ => 0))), (q9, .inl (cI, 480, .inl (fun _ => 0))), (q10, .inl (cI, 26, .inl (fun _ => 0))), (q11, .inl (cZ, 26, .inl (fun _ => 0))), (q12, .inl (cI, 147, .inl (fun _ => 0))), (q13, .inl (cI, 147, .inl (fun _ => 0))), (q14, .inl (cI, 147, .inl (fun _ => 0)))] H := hP
  have hD : va_D A [(o, .inr (ci, mcF (va_up (va_up (va_up (va_up (va_up (va_up (va_up (va_up (va_up (va_up (va_up (va_up (va_up (fun _ => .null) 1 (.ref q1)) 3 (.ref q2)) 4 (.ref q3)) 5 (.ref q4)) 6 (.ref q5)) 9 (.ref q6)) 10 (.ref q7)) 11 (.ref q8)) 12 (.ref q9)) 14 (.ref q10)) 15 (.ref q11)) 16 (.ref q12)) 17 (.ref q13)))), (q1, .inl (cI, 120, .inl (fun _ => 0))), (q2, .inl (cI, 13, .inl (fun _ => 0))), (q3, .inl (cI, 13, .inl (fun _ => 0))), (q4, .inl (cI, 13, .inl (fun _ => 0))), (q5, .inl (cI, 13, .inl (fun _ => 0))), (q6, .inl (cI, 120, .inl (fun _ => 0))), (q7, .inl (cI, 120, .inl (fun _ => 0))), (q8, .inl (cI, 120, .inl (fun _ => 0))), (q9, .inl (cI, 480, .inl (fun _ => 0))), (q10, .inl (cI, 26, .inl (fun _ => 0))), (q11, .inl (cZ, 26, .inl (fun _ => 0))), (q12, .inl (cI, 147, .inl (fun _ => 0))), (q13, .inl (cI, 147, .inl (fun _ => 0))), (q14, .inl (cI, 147, .inl (fun _ => 0)))] := hD
  refine va_putF (D := D) (ci := ci) (v := .ref q14) (ty := .array .int) (C := RM) (T := TM) (N := 40) hx hb K.1 inM tyM tyM_ok nmM hown hK hP hD hS 0 rfl hc 18 (by decide) (K.1 _ kM_f50) (fun _ h9 => h9) rfl hin rfl (by decide +kernel) rfl rfl (by show 18 < 40; decide) dM_init_117 (fun H locs hP hD hS => ?_)
  have hP : va_P D cl [(o, .inr (ci, mcF (va_up (va_up (va_up (va_up (va_up (va_up (va_up (va_up (va_up (va_up (va_up (va_up (va_up (va_up (fun _ => .null) 1 (.ref q1)) 3 (.ref q2)) 4 (.ref q3)) 5 (.ref q4)) 6 (.ref q5)) 9 (.ref q6)) 10 (.ref q7)) 11 (.ref q8)) 12 (.ref q9)) 14 (.ref q10)) 15 (.ref q11)) 16 (.ref q12)) 17 (.ref q13)) 18 (.ref q14)))), (q1, .inl (cI, 120, .inl (fun _ => 0))), (q2, .inl (cI, 13, .inl (fun _ => 0))), (q3, .inl (cI, 13, .inl (fun _ => 0))), (q4, .inl (cI, 13, .inl (fun _ => 0))), (q5, .inl (cI, 13, .inl (fun _ => 0))), (q6, .inl (cI, 120, .inl (fun _ => 0))), (q7, .inl (cI, 120, .inl (fun _ => 0))), (q8, .inl (cI, 120, .inl (fun _ => 0))), (q9, .inl (cI, 480, .inl (fun _ => 0))), (q10, .inl (cI, 26, .inl (fun _ => 0))), (q11, .inl (cZ, 26, .inl (fun _ => 0))), (q12, .inl (cI, 147, .inl (fun _ => 0))), (q13, .inl (cI, 147, .inl (fun _ => 0))), (q14, .inl (cI, 147, .inl (fun _ => 0)))] H := hP
  have hD : va_D A [(o, .inr (ci, mcF (va_up (va_up (va_up (va_up (va_up (va_up (va_up (va_up (va_up (va_up (va_up (va_up (va_up (va_up (fun _ => .null) 1 (.ref q1)) 3 (.ref q2)) 4 (.ref q3)) 5 (.ref q4)) 6 (.ref q5)) 9 (.ref q6)) 10 (.ref q7)) 11 (.ref q8)) 12 (.ref q9)) 14 (.ref q10)) 15 (.ref q11)) 16 (.ref q12)) 17 (.ref q13)) 18 (.ref q14)))), (q1, .inl (cI, 120, .inl (fun _ => 0))), (q2, .inl (cI, 13, .inl (fun _ => 0))), (q3, .inl (cI, 13, .inl (fun _ => 0))), (q4, .inl (cI, 13, .inl (fun _ => 0))), (q5, .inl (cI, 13, .inl (fun _ => 0))), (q6, .inl (cI, 120, .inl (fun _ => 0))), (q7, .inl (cI, 120, .inl (fun _ => 0))), (q8, .inl (cI, 120, .inl (fun _ => 0))), (q9, .inl (cI, 480, .inl (fun _ => 0))), (q10, .inl (cI, 26, .inl (fun _ => 0))), (q11, .inl (cZ, 26, .inl (fun _ => 0))), (q12, .inl (cI, 147, .inl (fun _ => 0))), (q13, .inl (cI, 147, .inl (fun _ => 0))), (q14, .inl (cI, 147, .inl (fun _ => 0)))] := hD
  refine lv_aload_n hx hb dM_init_120 rfl (lv_at hl 0 rfl) ?_
  refine lv_sipush (v := 147) hx hb dM_init_121 (by decide) ?_
  refine M_newi hx hb K hP hD hS hA 147 (by decide) (by decide) (Nat.le_of_ble_eq_true rfl) (Nat.le_of_ble_eq_true rfl) dM_init_124 (fun q15 H hP hD hS => ?_)
  refine W.cs (cells' := 15) (slots' := 1652) rfl rfl ?_
  have hP : va_P D cl [(o, .inr (ci, mcF (va_up (va_up (va_up (va_up (va_up (va_up (va_up (va_up (va_up (va_up (va_up (va_up (va_up (va_up (fun _ => .null) 1 (.ref q1)) 3 (.ref q2)) 4 (.ref q3)) 5 (.ref q4)) 6 (.ref q5)) 9 (.ref q6)) 10 (.ref q7)) 11 (.ref q8)) 12 (.ref q9)) 14 (.ref q10)) 15 (.ref q11)) 16 (.ref q12)) 17 (.ref q13)) 18 (.ref q14)))), (q1, .inl (cI, 120, .inl (fun _ => 0))), (q2, .inl (cI, 13, .inl (fun _ => 0))), (q3, .inl (cI, 13, .inl (fun _ => 0))), (q4, .inl (cI, 13, .inl (fun _ => 0))), (q5, .inl (cI, 13, .inl (fun _ => 0))), (q6, .inl (cI, 120, .inl (fun _ => 0))), (q7, .inl (cI, 120, .inl (fun _ => 0))), (q8, .inl (cI, 120, .inl (fun _ => 0))), (q9, .inl (cI, 480, .inl (fun _ => 0))), (q10, .inl (cI, 26, .inl (fun _ => 0))), (q11, .inl (cZ, 26, .inl (fun _ => 0))), (q12, .inl (cI, 147, .inl (fun _ => 0))), (q13, .inl (cI, 147, .inl (fun _ => 0))), (q14, .inl (cI, 147, .inl (fun _ => 0))), (q15, .inl (cI, 147, .inl (fun _ => 0)))] H := hP
  have hD : va_D A [(o, .inr (ci, mcF (va_up (va_up (va_up (va_up (va_up (va_up (va_up (va_up (va_up (va_up (va_up (va_up (va_up (va_up (fun _ => .null) 1 (.ref q1)) 3 (.ref q2)) 4 (.ref q3)) 5 (.ref q4)) 6 (.ref q5)) 9 (.ref q6)) 10 (.ref q7)) 11 (.ref q8)) 12 (.ref q9)) 14 (.ref q10)) 15 (.ref q11)) 16 (.ref q12)) 17 (.ref q13)) 18 (.ref q14)))), (q1, .inl (cI, 120, .inl (fun _ => 0))), (q2, .inl (cI, 13, .inl (fun _ => 0))), (q3, .inl (cI, 13, .inl (fun _ => 0))), (q4, .inl (cI, 13, .inl (fun _ => 0))), (q5, .inl (cI, 13, .inl (fun _ => 0))), (q6, .inl (cI, 120, .inl (fun _ => 0))), (q7, .inl (cI, 120, .inl (fun _ => 0))), (q8, .inl (cI, 120, .inl (fun _ => 0))), (q9, .inl (cI, 480, .inl (fun _ => 0))), (q10, .inl (cI, 26, .inl (fun _ => 0))), (q11, .inl (cZ, 26, .inl (fun _ => 0))), (q12, .inl (cI, 147, .inl (fun _ => 0))), (q13, .inl (cI, 147, .inl (fun _ => 0))), (q14, .inl (cI, 147, .inl (fun _ => 0))), (q15, .inl (cI, 147, .inl (fun _ => 0)))] := hD
  refine va_putF (D := D) (ci := ci) (v := .ref q15) (ty := .array .int) (C := RM) (T := TM) (N := 40) hx hb K.1 inM tyM tyM_ok nmM hown hK hP hD hS 0 rfl hc 19 (by decide) (K.1 _ kM_f53) (fun _ h9 => h9) rfl hin rfl (by decide +kernel) rfl rfl (by show 19 < 40; decide) dM_init_126 (fun H locs hP hD hS => ?_)
  have hP : va_P D cl [(o, .inr (ci, mcF (va_up (va_up (va_up (va_up (va_up (va_up (va_up (va_up (va_up (va_up (va_up (va_up (va_up (va_up (va_up (fun _ => .null) 1 (.ref q1)) 3 (.ref q2)) 4 (.ref q3)) 5 (.ref q4)) 6 (.ref q5)) 9 (.ref q6)) 10 (.ref q7)) 11 (.ref q8)) 12 (.ref q9)) 14 (.ref q10)) 15 (.ref q11)) 16 (.ref q12)) 17 (.ref q13)) 18 (.ref q14)) 19 (.ref q15)))), (q1, .inl (cI, 120, .inl (fun _ => 0))), (q2, .inl (cI, 13, .inl (fun _ => 0))), (q3, .inl (cI, 13, .inl (fun _ => 0))), (q4, .inl (cI, 13, .inl (fun _ => 0))), (q5, .inl (cI, 13, .inl (fun _ => 0))), (q6, .inl (cI, 120, .inl (fun _ => 0))), (q7, .inl (cI, 120, .inl (fun _ => 0))), (q8, .inl (cI, 120, .inl (fun _ => 0))), (q9, .inl (cI, 480, .inl (fun _ => 0))), (q10, .inl (cI, 26, .inl (fun _ => 0))), (q11, .inl (cZ, 26, .inl (fun _ => 0))), (q12, .inl (cI, 147, .inl (fun _ => 0))), (q13, .inl (cI, 147, .inl (fun _ => 0))), (q14, .inl (cI, 147, .inl (fun _ => 0))), (q15, .inl (cI, 147, .inl (fun _ => 0)))] H := hP
  have hD : va_D A [(o, .inr (ci, mcF (va_up (va_up (va_up (va_up (va_up (va_up (va_up (va_up (va_up (va_up (va_up (va_up (va_up (va_up (va_up (fun _ => .null) 1 (.ref q1)) 3 (.ref q2)) 4 (.ref q3)) 5 (.ref q4)) 6 (.ref q5)) 9 (.ref q6)) 10 (.ref q7)) 11 (.ref q8)) 12 (.ref q9)) 14 (.ref q10)) 15 (.ref q11)) 16 (.ref q12)) 17 (.ref q13)) 18 (.ref q14)) 19 (.ref q15)))), (q1, .inl (cI, 120, .inl (fun _ => 0))), (q2, .inl (cI, 13, .inl (fun _ => 0))), (q3, .inl (cI, 13, .inl (fun _ => 0))), (q4, .inl (cI, 13, .inl (fun _ => 0))), (q5, .inl (cI, 13, .inl (fun _ => 0))), (q6, .inl (cI, 120, .inl (fun _ => 0))), (q7, .inl (cI, 120, .inl (fun _ => 0))), (q8, .inl (cI, 120, .inl (fun _ => 0))), (q9, .inl (cI, 480, .inl (fun _ => 0))), (q10, .inl (cI, 26, .inl (fun _ => 0))), (q11, .inl (cZ, 26, .inl (fun _ => 0))), (q12, .inl (cI, 147, .inl (fun _ => 0))), (q13, .inl (cI, 147, .inl (fun _ => 0))), (q14, .inl (cI, 147, .inl (fun _ => 0))), (q15, .inl (cI, 147, .inl (fun _ => 0)))] := hD
  refine lv_aload_n hx hb dM_init_129 rfl (lv_at hl 0 rfl) ?_
  refine lv_bipush (v := 122) hx hb dM_init_130 (by decide) ?_
  refine M_newi hx hb K hP hD hS hA 122 (by decide) (by decide) (Nat.le_of_ble_eq_true rfl) (Nat.le_of_ble_eq_true rfl) dM_init_132 (fun q16 H hP hD hS => ?_)
  refine W.cs (cells' := 16) (slots' := 1774) rfl rfl ?_
  have hP : va_P D cl [(o, .inr (ci, mcF (va_up (va_up (va_up (va_up (va_up (va_up (va_up (va_up (va_up (va_up (va_up (va_up (va_up (va_up (va_up (fun _ => .null) 1 (.ref q1)) 3 (.ref q2)) 4 (.ref q3)) 5 (.ref q4)) 6 (.ref q5)) 9 (.ref q6)) 10 (.ref q7)) 11 (.ref q8)) 12 (.ref q9)) 14 (.ref q10)) 15 (.ref q11)) 16 (.ref q12)) 17 (.ref q13)) 18 (.ref q14)) 19 (.ref q15)))), (q1, .inl (cI, 120, .inl (fun _ => 0))), (q2, .inl (cI, 13, .inl (fun _ => 0))), (q3, .inl (cI, 13, .inl (fun _ => 0))), (q4, .inl (cI, 13, .inl (fun _ => 0))), (q5, .inl (cI, 13, .inl (fun _ => 0))), (q6, .inl (cI, 120, .inl (fun _ => 0))), (q7, .inl (cI, 120, .inl (fun _ => 0))), (q8, .inl (cI, 120, .inl (fun _ => 0))), (q9, .inl (cI, 480, .inl (fun _ => 0))), (q10, .inl (cI, 26, .inl (fun _ => 0))), (q11, .inl (cZ, 26, .inl (fun _ => 0))), (q12, .inl (cI, 147, .inl (fun _ => 0))), (q13, .inl (cI, 147, .inl (fun _ => 0))), (q14, .inl (cI, 147, .inl (fun _ => 0))), (q15, .inl (cI, 147, .inl (fun _ => 0))), (q16, .inl (cI, 122, .inl (fun _ => 0)))] H := hP
  have hD : va_D A [(o, .inr (ci, mcF (va_up (va_up (va_up (va_up (va_up (va_up (va_up (va_up (va_up (va_up (va_up (va_up (va_up (va_up (va_up (fun _ => .null) 1 (.ref q1)) 3 (.ref q2)) 4 (.ref q3)) 5 (.ref q4)) 6 (.ref q5)) 9 (.ref q6)) 10 (.ref q7)) 11 (.ref q8)) 12 (.ref q9)) 14 (.ref q10)) 15 (.ref q11)) 16 (.ref q12)) 17 (.ref q13)) 18 (.ref q14)) 19 (.ref q15)))), (q1, .inl (cI, 120, .inl (fun _ => 0))), (q2, .inl (cI, 13, .inl (fun _ => 0))), (q3, .inl (cI, 13, .inl (fun _ => 0))), (q4, .inl (cI, 13, .inl (fun _ => 0))), (q5, .inl (cI, 13, .inl (fun _ => 0))), (q6, .inl (cI, 120, .inl (fun _ => 0))), (q7, .inl (cI, 120, .inl (fun _ => 0))), (q8, .inl (cI, 120, .inl (fun _ => 0))), (q9, .inl (cI, 480, .inl (fun _ => 0))), (q10, .inl (cI, 26, .inl (fun _ => 0))), (q11, .inl (cZ, 26, .inl (fun _ => 0))), (q12, .inl (cI, 147, .inl (fun _ => 0))), (q13, .inl (cI, 147, .inl (fun _ => 0))), (q14, .inl (cI, 147, .inl (fun _ => 0))), (q15, .inl (cI, 147, .inl (fun _ => 0))), (q16, .inl (cI, 122, .inl (fun _ => 0)))] := hD
  refine va_putF (D := D) (ci := ci) (v := .ref q16) (ty := .array .int) (C := RM) (T := TM) (N := 40) hx hb K.1 inM tyM tyM_ok nmM hown hK hP hD hS 0 rfl hc 21 (by decide) (K.1 _ kM_f56) (fun _ h9 => h9) rfl hin rfl (by decide +kernel) rfl rfl (by show 21 < 40; decide) dM_init_134 (fun H locs hP hD hS => ?_)
  have hP : va_P D cl [(o, .inr (ci, mcF (va_up (va_up (va_up (va_up (va_up (va_up (va_up (va_up (va_up (va_up (va_up (va_up (va_up (va_up (va_up (va_up (fun _ => .null) 1 (.ref q1)) 3 (.ref q2)) 4 (.ref q3)) 5 (.ref q4)) 6 (.ref q5)) 9 (.ref q6)) 10 (.ref q7)) 11 (.ref q8)) 12 (.ref q9)) 14 (.ref q10)) 15 (.ref q11)) 16 (.ref q12)) 17 (.ref q13)) 18 (.ref q14)) 19 (.ref q15)) 21 (.ref q16)))), (q1, .inl (cI, 120, .inl (fun _ => 0))), (q2, .inl (cI, 13, .inl (fun _ => 0))), (q3, .inl (cI, 13, .inl (fun _ => 0))), (q4, .inl (cI, 13, .inl (fun _ => 0))), (q5, .inl (cI, 13, .inl (fun _ => 0))), (q6, .inl (cI, 120, .inl (fun _ => 0))), (q7, .inl (cI, 120, .inl (fun _ => 0))), (q8, .inl (cI, 120, .inl (fun _ => 0))), (q9, .inl (cI, 480, .inl (fun _ => 0))), (q10, .inl (cI, 26, .inl (fun _ => 0))), (q11, .inl (cZ, 26, .inl (fun _ => 0))), (q12, .inl (cI, 147, .inl (fun _ => 0))), (q13, .inl (cI, 147, .inl (fun _ => 0))), (q14, .inl (cI, 147, .inl (fun _ => 0))), (q15, .inl (cI, 147, .inl (fun _ => 0))), (q16, .inl (cI, 122, .inl (fun _ => 0)))] H := hP
  have hD : va_D A [(o, .inr (ci, mcF (va_up (va_up (va_up (va_up (va_up (va_up (va_up (va_up (va_up (va_up (va_up (va_up (va_up (va_up (va_up (va_up (fun _ => .null) 1 (.ref q1)) 3 (.ref q2)) 4 (.ref q3)) 5 (.ref q4)) 6 (.ref q5)) 9 (.ref q6)) 10 (.ref q7)) 11 (.ref q8)) 12 (.ref q9)) 14 (.ref q10)) 15 (.ref q11)) 16 (.ref q12)) 17 (.ref q13)) 18 (.ref q14)) 19 (.ref q15)) 21 (.ref q16)))), (q1, .inl (cI, 120, .inl (fun _ => 0))), (q2, .inl (cI, 13, .inl (fun _ => 0))), (q3, .inl (cI, 13, .inl (fun _ => 0))), (q4, .inl (cI, 13, .inl (fun _ => 0))), (q5, .inl (cI, 13, .inl (fun _ => 0))), (q6, .inl (cI, 120, .inl (fun _ => 0))), (q7, .inl (cI, 120, .inl (fun _ => 0))), (q8, .inl (cI, 120, .inl (fun _ => 0))), (q9, .inl (cI, 480, .inl (fun _ => 0))), (q10, .inl (cI, 26, .inl (fun _ => 0))), (q11, .inl (cZ, 26, .inl (fun _ => 0))), (q12, .inl (cI, 147, .inl (fun _ => 0))), (q13, .inl (cI, 147, .inl (fun _ => 0))), (q14, .inl (cI, 147, .inl (fun _ => 0))), (q15, .inl (cI, 147, .inl (fun _ => 0))), (q16, .inl (cI, 122, .inl (fun _ => 0)))] := hD
  refine lv_aload_n hx hb dM_init_137 rfl (lv_at hl 0 rfl) ?_
  refine lv_bipush (v := 122) hx hb dM_init_138 (by decide) ?_
  refine M_newi hx hb K hP hD hS hA 122 (by decide) (by decide) (Nat.le_of_ble_eq_true rfl) (Nat.le_of_ble_eq_true rfl) dM_init_140 (fun q17 H hP hD hS => ?_)
  refine W.cs (cells' := 17) (slots' := 1896) rfl rfl ?_
  have hP : va_P D cl [(o, .inr (ci, mcF (va_up (va_up (va_up (va_up (va_up (va_up (va_up (va_up (va_up (va_up (va_up (va_up (va_up (va_up (va_up (va_up (fun _ => .null) 1 (.ref q1)) 3 (.ref q2)) 4 (.ref q3)) 5 (.ref q4)) 6 (.ref q5)) 9 (.ref q6)) 10 (.ref q7)) 11 (.ref q8)) 12 (.ref q9)) 14 (.ref q10)) 15 (.ref q11)) 16 (.ref q12)) 17 (.ref q13)) 18 (.ref q14)) 19 (.ref q15)) 21 (.ref q16)))), (q1, .inl (cI, 120, .inl (fun _ => 0))), (q2, .inl (cI, 13, .inl (fun _ => 0))), (q3, .inl (cI, 13, .inl (fun _ => 0))), (q4, .inl (cI, 13, .inl (fun _ => 0))), (q5, .inl (cI, 13, .inl (fun _ => 0))), (q6, .inl (cI, 120, .inl (fun _ => 0))), (q7, .inl (cI, 120, .inl (fun _ => 0))), (q8, .inl (cI, 120, .inl (fun _ => 0))), (q9, .inl (cI, 480, .inl (fun _ => 0))), (q10, .inl (cI, 26, .inl (fun _ => 0))), (q11, .inl (cZ, 26, .inl (fun _ => 0))), (q12, .inl (cI, 147, .inl (fun _ => 0))), (q13, .inl (cI, 147, .inl (fun _ => 0))), (q14, .inl (cI, 147, .inl (fun _ => 0))), (q15, .inl (cI, 147, .inl (fun _ => 0))), (q16, .inl (cI, 122, .inl (fun _ => 0))), (q17, .inl (cI, 122, .inl (fun _ => 0)))] H := hP
  have hD : va_D A [(o, .inr (ci, mcF (va_up (va_up (va_up (va_up (va_up (va_up (va_up (va_up (va_up (va_up (va_up (va_up (va_up (va_up (va_up (va_up (fun _ => .null) 1 (.ref q1)) 3 (.ref q2)) 4 (.ref q3)) 5 (.ref q4)) 6 (.ref q5)) 9 (.ref q6)) 10 (.ref q7)) 11 (.ref q8)) 12 (.ref q9)) 14 (.ref q10)) 15 (.ref q11)) 16 (.ref q12)) 17 (.ref q13)) 18 (.ref q14)) 19 (.ref q15)) 21 (.ref q16)))), (q1, .inl (cI, 120, .inl (fun _ => 0))), (q2, .inl (cI, 13, .inl (fun _ => 0))), (q3, .inl (cI, 13, .inl (fun _ => 0))), (q4, .inl (cI, 13, .inl (fun _ => 0))), (q5, .inl (cI, 13, .inl (fun _ => 0))), (q6, .inl (cI, 120, .inl (fun _ => 0))), (q7, .inl (cI, 120, .inl (fun _ => 0))), (q8, .inl (cI, 120, .inl (fun _ => 0))), (q9, .inl (cI, 480, .inl (fun _ => 0))), (q10, .inl (cI, 26, .inl (fun _ => 0))), (q11, .inl (cZ, 26, .inl (fun _ => 0))), (q12, .inl (cI, 147, .inl (fun _ => 0))), (q13, .inl (cI, 147, .inl (fun _ => 0))), (q14, .inl (cI, 147, .inl (fun _ => 0))), (q15, .inl (cI, 147, .inl (fun _ => 0))), (q16, .inl (cI, 122, .inl (fun _ => 0))), (q17, .inl (cI, 122, .inl (fun _ => 0)))] := hD
  refine va_putF (D := D) (ci := ci) (v := .ref q17) (ty := .array .int) (C := RM) (T := TM) (N := 40) hx hb K.1 inM tyM tyM_ok nmM hown hK hP hD hS 0 rfl hc 22 (by decide) (K.1 _ kM_f59) (fun _ h9 => h9) rfl hin rfl (by decide +kernel) rfl rfl (by show 22 < 40; decide) dM_init_142 (fun H locs hP hD hS => ?_)
  have hP : va_P D cl [(o, .inr (ci, mcF (va_up (va_up (va_up (va_up (va_up (va_up (va_up (va_up (va_up (va_up (va_up (va_up (va_up (va_up (va_up (va_up (va_up (fun _ => .null) 1 (.ref q1)) 3 (.ref q2)) 4 (.ref q3)) 5 (.ref q4)) 6 (.ref q5)) 9 (.ref q6)) 10 (.ref q7)) 11 (.ref q8)) 12 (.ref q9)) 14 (.ref q10)) 15 (.ref q11)) 16 (.ref q12)) 17 (.ref q13)) 18 (.ref q14)) 19 (.ref q15)) 21 (.ref q16)) 22 (.ref q17)))), (q1, .inl (cI, 120, .inl (fun _ => 0))), (q2, .inl (cI, 13, .inl (fun _ => 0))), (q3, .inl (cI, 13, .inl (fun _ => 0))), (q4, .inl (cI, 13, .inl (fun _ => 0))), (q5, .inl (cI, 13, .inl (fun _ => 0))), (q6, .inl (cI, 120, .inl (fun _ => 0))), (q7, .inl (cI, 120, .inl (fun _ => 0))), (q8, .inl (cI, 120, .inl (fun _ => 0))), (q9, .inl (cI, 480, .inl (fun _ => 0))), (q10, .inl (cI, 26, .inl (fun _ => 0))), (q11, .inl (cZ, 26, .inl (fun _ => 0))), (q12, .inl (cI, 147, .inl (fun _ => 0))), (q13, .inl (cI, 147, .inl (fun _ => 0))), (q14, .inl (cI, 147, .inl (fun _ => 0))), (q15, .inl (cI, 147, .inl (fun _ => 0))), (q16, .inl (cI, 122, .inl (fun _ => 0))), (q17, .inl (cI, 122, .inl (fun _ => 0)))] H := hP
  have hD : va_D A [(o, .inr (ci, mcF (va_up (va_up (va_up (va_up (va_up (va_up (va_up (va_up (va_up (va_up (va_up (va_up (va_up (va_up (va_up (va_up (va_up (fun _ => .null) 1 (.ref q1)) 3 (.ref q2)) 4 (.ref q3)) 5 (.ref q4)) 6 (.ref q5)) 9 (.ref q6)) 10 (.ref q7)) 11 (.ref q8)) 12 (.ref q9)) 14 (.ref q10)) 15 (.ref q11)) 16 (.ref q12)) 17 (.ref q13)) 18 (.ref q14)) 19 (.ref q15)) 21 (.ref q16)) 22 (.ref q17)))), (q1, .inl (cI, 120, .inl (fun _ => 0))), (q2, .inl (cI, 13, .inl (fun _ => 0))), (q3, .inl (cI, 13, .inl (fun _ => 0))), (q4, .inl (cI, 13, .inl (fun _ => 0))), (q5, .inl (cI, 13, .inl (fun _ => 0))), (q6, .inl (cI, 120, .inl (fun _ => 0))), (q7, .inl (cI, 120, .inl (fun _ => 0))), (q8, .inl (cI, 120, .inl (fun _ => 0))), (q9, .inl (cI, 480, .inl (fun _ => 0))), (q10, .inl (cI, 26, .inl (fun _ => 0))), (q11, .inl (cZ, 26, .inl (fun _ => 0))), (q12, .inl (cI, 147, .inl (fun _ => 0))), (q13, .inl (cI, 147, .inl (fun _ => 0))), (q14, .inl (cI, 147, .inl (fun _ => 0))), (q15, .inl (cI, 147, .inl (fun _ => 0))), (q16, .inl (cI, 122, .inl (fun _ => 0))), (q17, .inl (cI, 122, .inl (fun _ => 0)))] := hD
  refine lv_aload_n hx hb dM_init_145 rfl (lv_at hl 0 rfl) ?_
  refine lv_sipush (v := 5200) hx hb dM_init_146 (by decide) ?_
  refine M_newi hx hb K hP hD hS hA 5200 (by decide) (by decide) (Nat.le_of_ble_eq_true rfl) (Nat.le_of_ble_eq_true rfl) dM_init_149 (fun q18 H hP hD hS => ?_)
  refine W.cs (cells' := 18) (slots' := 7096) rfl rfl ?_
  have hP : va_P D cl [(o, .inr (ci, mcF (va_up (va_up (va_up (va_up (va_up (va_up (va_up (va_up (va_up (va_up (va_up (va_up (va_up (va_up (va_up (va_up (va_up (fun _ => .null) 1 (.ref q1)) 3 (.ref q2)) 4 (.ref q3)) 5 (.ref q4)) 6 (.ref q5)) 9 (.ref q6)) 10 (.ref q7)) 11 (.ref q8)) 12 (.ref q9)) 14 (.ref q10)) 15 (.ref q11)) 16 (.ref q12)) 17 (.ref q13)) 18 (.ref q14)) 19 (.ref q15)) 21 (.ref q16)) 22 (.ref q17)))), (q1, .inl (cI, 120, .inl (fun _ => 0))), (q2, .inl (cI, 13, .inl (fun _ => 0))), (q3, .inl (cI, 13, .inl (fun _ => 0))), (q4, .inl (cI, 13, .inl (fun _ => 0))), (q5, .inl (cI, 13, .inl (fun _ => 0))), (q6, .inl (cI, 120, .inl (fun _ => 0))), (q7, .inl (cI, 120, .inl (fun _ => 0))), (q8, .inl (cI, 120, .inl (fun _ => 0))), (q9, .inl (cI, 480, .inl (fun _ => 0))), (q10, .inl (cI, 26, .inl (fun _ => 0))), (q11, .inl (cZ, 26, .inl (fun _ => 0))), (q12, .inl (cI, 147, .inl (fun _ => 0))), (q13, .inl (cI, 147, .inl (fun _ => 0))), (q14, .inl (cI, 147, .inl (fun _ => 0))), (q15, .inl (cI, 147, .inl (fun _ => 0))), (q16, .inl (cI, 122, .inl (fun _ => 0))), (q17, .inl (cI, 122, .inl (fun _ => 0))), (q18, .inl (cI, 5200, .inl (fun _ => 0)))] H := hP
  have hD : va_D A [(o, .inr (ci, mcF (va_up (va_up (va_up (va_up (va_up (va_up (va_up (va_up (va_up (va_up (va_up (va_up (va_up (va_up (va_up (va_up (va_up (fun _ => .null) 1 (.ref q1)) 3 (.ref q2)) 4 (.ref q3)) 5 (.ref q4)) 6 (.ref q5)) 9 (.ref q6)) 10 (.ref q7)) 11 (.ref q8)) 12 (.ref q9)) 14 (.ref q10)) 15 (.ref q11)) 16 (.ref q12)) 17 (.ref q13)) 18 (.ref q14)) 19 (.ref q15)) 21 (.ref q16)) 22 (.ref q17)))), (q1, .inl (cI, 120, .inl (fun _ => 0))), (q2, .inl (cI, 13, .inl (fun _ => 0))), (q3, .inl (cI, 13, .inl (fun _ => 0))), (q4, .inl (cI, 13, .inl (fun _ => 0))), (q5, .inl (cI, 13, .inl (fun _ => 0))), (q6, .inl (cI, 120, .inl (fun _ => 0))), (q7, .inl (cI, 120, .inl (fun _ => 0))), (q8, .inl (cI, 120, .inl (fun _ => 0))), (q9, .inl (cI, 480, .inl (fun _ => 0))), (q10, .inl (cI, 26, .inl (fun _ => 0))), (q11, .inl (cZ, 26, .inl (fun _ => 0))), (q12, .inl (cI, 147, .inl (fun _ => 0))), (q13, .inl (cI, 147, .inl (fun _ => 0))), (q14, .inl (cI, 147, .inl (fun _ => 0))), (q15, .inl (cI, 147, .inl (fun _ => 0))), (q16, .inl (cI, 122, .inl (fun _ => 0))), (q17, .inl (cI, 122, .inl (fun _ => 0))), (q18, .inl (cI, 5200, .inl (fun _ => 0)))] := hD
  refine va_putF (D := D) (ci := ci) (v := .ref q18) (ty := .array .int) (C := RM) (T := TM) (N := 40) hx hb K.1 inM tyM tyM_ok nmM hown hK hP hD hS 0 rfl hc 24 (by decide) (K.1 _ kM_f62) (fun _ h9 => h9) rfl hin rfl (by decide +kernel) rfl rfl (by show 24 < 40; decide) dM_init_151 (fun H locs hP hD hS => ?_)
  have hP : va_P D cl [(o, .inr (ci, mcF (va_up (va_up (va_up (va_up (va_up (va_up (va_up (va_up (va_up (va_up (va_up (va_up (va_up (va_up (va_up (va_up (va_up (va_up (fun _ => .null) 1 (.ref q1)) 3 (.ref q2)) 4 (.ref q3)) 5 (.ref q4)) 6 (.ref q5)) 9 (.ref q6)) 10 (.ref q7)) 11 (.ref q8)) 12 (.ref q9)) 14 (.ref q10)) 15 (.ref q11)) 16 (.ref q12)) 17 (.ref q13)) 18 (.ref q14)) 19 (.ref q15)) 21 (.ref q16)) 22 (.ref q17)) 24 (.ref q18)))), (q1, .inl (cI, 120, .inl (fun _ => 0))), (q2, .inl (cI, 13, .inl (fun _ => 0))), (q3, .inl (cI, 13, .inl (fun _ => 0))), (q4, .inl (cI, 13, .inl (fun _ => 0))), (q5, .inl (cI, 13, .inl (fun _ => 0))), (q6, .inl (cI, 120, .inl (fun _ => 0))), (q7, .inl (cI, 120, .inl (fun _ => 0))), (q8, .inl (cI, 120, .inl (fun _ => 0))), (q9, .inl (cI, 480, .inl (fun _ => 0))), (q10, .inl (cI, 26, .inl (fun _ => 0))), (q11, .inl (cZ, 26, .inl (fun _ => 0))), (q12, .inl (cI, 147, .inl (fun _ => 0))), (q13, .inl (cI, 147, .inl (fun _ => 0))), (q14, .inl (cI, 147, .inl (fun _ => 0))), (q15, .inl (cI, 147, .inl (fun _ => 0))), (q16, .inl (cI, 122, .inl (fun _ => 0))), (q17, .inl (cI, 122, .inl (fun _ => 0))), (q18, .inl (cI, 5200, .inl (fun _ => 0)))] H := hP
  have hD : va_D A [(o, .inr (ci, mcF (va_up (va_up (va_up (va_up (va_up (va_up (va_up (va_up (va_up (va_up (va_up (va_up (va_up (va_up (va_up (va_up (va_up (va_up (fun _ => .null) 1 (.ref q1)) 3 (.ref q2)) 4 (.ref q3)) 5 (.ref q4)) 6 (.ref q5)) 9 (.ref q6)) 10 (.ref q7)) 11 (.ref q8)) 12 (.ref q9)) 14 (.ref q10)) 15 (.ref q11)) 16 (.ref q12)) 17 (.ref q13)) 18 (.ref q14)) 19 (.ref q15)) 21 (.ref q16)) 22 (.ref q17)) 24 (.ref q18)))), (q1, .inl (cI, 120, .inl (fun _ => 0))), (q2, .inl (cI, 13, .inl (fun _ => 0))), (q3, .inl (cI, 13, .inl (fun _ => 0))), (q4, .inl (cI, 13, .inl (fun _ => 0))), (q5, .inl (cI, 13, .inl (fun _ => 0))), (q6, .inl (cI, 120, .inl (fun _ => 0))), (q7, .inl (cI, 120, .inl (fun _ => 0))), (q8, .inl (cI, 120, .inl (fun _ => 0))), (q9, .inl (cI, 480, .inl (fun _ => 0))), (q10, .inl (cI, 26, .inl (fun _ => 0))), (q11, .inl (cZ, 26, .inl (fun _ => 0))), (q12, .inl (cI, 147, .inl (fun _ => 0))), (q13, .inl (cI, 147, .inl (fun _ => 0))), (q14, .inl (cI, 147, .inl (fun _ => 0))), (q15, .inl (cI, 147, .inl (fun _ => 0))), (q16, .inl (cI, 122, .inl (fun _ => 0))), (q17, .inl (cI, 122, .inl (fun _ => 0))), (q18, .inl (cI, 5200, .inl (fun _ => 0)))] := hD
  refine lv_aload_n hx hb dM_init_154 rfl (lv_at hl 0 rfl) ?_
  refine lv_sipush (v := 5200) hx hb dM_init_155 (by decide) ?_
  refine M_newi hx hb K hP hD hS hA 5200 (by decide) (by decide) (Nat.le_of_ble_eq_true rfl) (Nat.le_of_ble_eq_true rfl) dM_init_158 (fun q19 H hP hD hS => ?_)
  refine W.cs (cells' := 19) (slots' := 12296) rfl rfl ?_
  have hP : va_P D cl [(o, .inr (ci, mcF (va_up (va_up (va_up (va_up (va_up (va_up (va_up (va_up (va_up (va_up (va_up (va_up (va_up (va_up (va_up (va_up (va_up (va_up (fun _ => .null) 1 (.ref q1)) 3 (.ref q2)) 4 (.ref q3)) 5 (.ref q4)) 6 (.ref q5)) 9 (.ref q6)) 10 (.ref q7)) 11 (.ref q8)) 12 (.ref q9)) 14 (.ref q10)) 15 (.ref q11)) 16 (.ref q12)) 17 (.ref q13)) 18 (.ref q14)) 19 (.ref q15)) 21 (.ref q16)) 22 (.ref q17)) 24 (.ref q18)))), (q1, .inl (cI, 120, .inl (fun _ => 0))), (q2, .inl (cI, 13, .inl (fun _ => 0))), (q3, .inl (cI, 13, .inl (fun _ => 0))), (q4, .inl (cI, 13, .inl (fun _ => 0))), (q5, .inl (cI, 13, .inl (fun _ => 0))), (q6, .inl (cI, 120, .inl (fun _ => 0))), (q7, .inl (cI, 120, .inl (fun _ => 0))), (q8, .inl (cI, 120, .inl (fun _ => 0))), (q9, .inl (cI, 480, .inl (fun _ => 0))), (q10, .inl (cI, 26, .inl (fun _ => 0))), (q11, .inl (cZ, 26, .inl (fun _ => 0))), (q12, .inl (cI, 147, .inl (fun _ => 0))), (q13, .inl (cI, 147, .inl (fun _ => 0))), (q14, .inl (cI, 147, .inl (fun _ => 0))), (q15, .inl (cI, 147, .inl (fun _ => 0))), (q16, .inl (cI, 122, .inl (fun _ => 0))), (q17, .inl (cI, 122, .inl (fun _ => 0))), (q18, .inl (cI, 5200, .inl (fun _ => 0))), (q19, .inl (cI, 5200, .inl (fun _ => 0)))] H := hP
  have hD : va_D A [(o, .inr (ci, mcF (va_up (va_up (va_up (va_up (va_up (va_up (va_up (va_up (va_up (va_up (va_up (va_up (va_up (va_up (va_up (va_up (va_up (va_up (fun _ => .null) 1 (.ref q1)) 3 (.ref q2)) 4 (.ref q3)) 5 (.ref q4)) 6 (.ref q5)) 9 (.ref q6)) 10 (.ref q7)) 11 (.ref q8)) 12 (.ref q9)) 14 (.ref q10)) 15 (.ref q11)) 16 (.ref q12)) 17 (.ref q13)) 18 (.ref q14)) 19 (.ref q15)) 21 (.ref q16)) 22 (.ref q17)) 24 (.ref q18)))), (q1, .inl (cI, 120, .inl (fun _ => 0))), (q2, .inl (cI, 13, .inl (fun _ => 0))), (q3, .inl (cI, 13, .inl (fun _ => 0))), (q4, .inl (cI, 13, .inl (fun _ => 0))), (q5, .inl (cI, 13, .inl (fun _ => 0))), (q6, .inl (cI, 120, .inl (fun _ => 0))), (q7, .inl (cI, 120, .inl (fun _ => 0))), (q8, .inl (cI, 120, .inl (fun _ => 0))), (q9, .inl (cI, 480, .inl (fun _ => 0))), (q10, .inl (cI, 26, .inl (fun _ => 0))), (q11, .inl (cZ, 26, .inl (fun _ => 0))), (q12, .inl (cI, 147, .inl (fun _ => 0))), (q13, .inl (cI, 147, .inl (fun _ => 0))), (q14, .inl (cI, 147, .inl (fun _ => 0))), (q15, .inl (cI, 147, .inl (fun _ => 0))), (q16, .inl (cI, 122, .inl (fun _ => 0))), (q17, .inl (cI, 122, .inl (fun _ => 0))), (q18, .inl (cI, 5200, .inl (fun _ => 0))), (q19, .inl (cI, 5200, .inl (fun _ => 0)))] := hD
  refine va_putF (D := D) (ci := ci) (v := .ref q19) (ty := .array .int) (C := RM) (T := TM) (N := 40) hx hb K.1 inM tyM tyM_ok nmM hown hK hP hD hS 0 rfl hc 25 (by decide) (K.1 _ kM_f65) (fun _ h9 => h9) rfl hin rfl (by decide +kernel) rfl rfl (by show 25 < 40; decide) dM_init_160 (fun H locs hP hD hS => ?_)
  have hP : va_P D cl [(o, .inr (ci, mcF (va_up (va_up (va_up (va_up (va_up (va_up (va_up (va_up (va_up (va_up (va_up (va_up (va_up (va_up (va_up (va_up (va_up (va_up (va_up (fun _ => .null) 1 (.ref q1)) 3 (.ref q2)) 4 (.ref q3)) 5 (.ref q4)) 6 (.ref q5)) 9 (.ref q6)) 10 (.ref q7)) 11 (.ref q8)) 12 (.ref q9)) 14 (.ref q10)) 15 (.ref q11)) 16 (.ref q12)) 17 (.ref q13)) 18 (.ref q14)) 19 (.ref q15)) 21 (.ref q16)) 22 (.ref q17)) 24 (.ref q18)) 25 (.ref q19)))), (q1, .inl (cI, 120, .inl (fun _ => 0))), (q2, .inl (cI, 13, .inl (fun _ => 0))), (q3, .inl (cI, 13, .inl (fun _ => 0))), (q4, .inl (cI, 13, .inl (fun _ => 0))), (q5, .inl (cI, 13, .inl (fun _ => 0))), (q6, .inl (cI, 120, .inl (fun _ => 0))), (q7, .inl (cI, 120, .inl (fun _ => 0))), (q8, .inl (cI, 120, .inl (fun _ => 0))), (q9, .inl (cI, 480, .inl (fun _ => 0))), (q10, .inl (cI, 26, .inl (fun _ => 0))), (q11, .inl (cZ, 26, .inl (fun _ => 0))), (q12, .inl (cI, 147, .inl (fun _ => 0))), (q13, .inl (cI, 147, .inl (fun _ => 0))), (q14, .inl (cI, 147, .inl (fun _ => 0))), (q15, .inl (cI, 147, .inl (fun _ => 0))), (q16, .inl (cI, 122, .inl (fun _ => 0))), (q17, .inl (cI, 122, .inl (fun _ => 0))), (q18, .inl (cI, 5200, .inl (fun _ => 0))), (q19, .inl (cI, 5200, .inl (fun _ => 0)))] H := hP
  have hD : va_D A [(o, .inr (ci, mcF (va_up (va_up (va_up (va_up (va_up (va_up (va_up (va_up (va_up (va_up (va_up (va_up (va_up (va_up (va_up (va_up (va_up (va_up (va_up (fun _ => .null) 1 (.ref q1)) 3 (.ref q2)) 4 (.ref q3)) 5 (.ref q4)) 6 (.ref q5)) 9 (.ref q6)) 10 (.ref q7)) 11 (.ref q8)) 12 (.ref q9)) 14 (.ref q10)) 15 (.ref q11)) 16 (.ref q12)) 17 (.ref q13)) 18 (.ref q14)) 19 (.ref q15)) 21 (.ref q16)) 22 (.ref q17)) 24 (.ref q18)) 25 (.ref q19)))), (q1, .inl (cI, 120, .inl (fun _ => 0))), (q2, .inl (cI, 13, .inl (fun _ => 0))), (q3, .inl (cI, 13, .inl (fun _ => 0))), (q4, .inl (cI, 13, .inl (fun _ => 0))), (q5, .inl (cI, 13, .inl (fun _ => 0))), (q6, .inl (cI, 120, .inl (fun _ => 0))), (q7, .inl (cI, 120, .inl (fun _ => 0))), (q8, .inl (cI, 120, .inl (fun _ => 0))), (q9, .inl (cI, 480, .inl (fun _ => 0))), (q10, .inl (cI, 26, .inl (fun _ => 0))), (q11, .inl (cZ, 26, .inl (fun _ => 0))), (q12, .inl (cI, 147, .inl (fun _ => 0))), (q13, .inl (cI, 147, .inl (fun _ => 0))), (q14, .inl (cI, 147, .inl (fun _ => 0))), (q15, .inl (cI, 147, .inl (fun _ => 0))), (q16, .inl (cI, 122, .inl (fun _ => 0))), (q17, .inl (cI, 122, .inl (fun _ => 0))), (q18, .inl (cI, 5200, .inl (fun _ => 0))), (q19, .inl (cI, 5200, .inl (fun _ => 0)))] := hD
  refine lv_aload_n hx hb dM_init_163 rfl (lv_at hl 0 rfl) ?_
  refine lv_sipush (v := 5200) hx hb dM_init_164 (by decide) ?_
  refine M_newi hx hb K hP hD hS hA 5200 (by decide) (by decide) (Nat.le_of_ble_eq_true rfl) (Nat.le_of_ble_eq_true rfl) dM_init_167 (fun q20 H hP hD hS => ?_)
  refine W.cs (cells' := 20) (slots' := 17496) rfl rfl ?_
  have hP : va_P D cl [(o, .inr (ci, mcF (va_up (va_up (va_up (va_up (va_up (va_up (va_up (va_up (va_up (va_up (va_up (va_up (va_up (va_up (va_up (va_up (va_up (va_up (va_up (fun _ => .null) 1 (.ref q1)) 3 (.ref q2)) 4 (.ref q3)) 5 (.ref q4)) 6 (.ref q5)) 9 (.ref q6)) 10 (.ref q7)) 11 (.ref q8)) 12 (.ref q9)) 14 (.ref q10)) 15 (.ref q11)) 16 (.ref q12)) 17 (.ref q13)) 18 (.ref q14)) 19 (.ref q15)) 21 (.ref q16)) 22 (.ref q17)) 24 (.ref q18)) 25 (.ref q19)))), (q1, .inl (cI, 120, .inl (fun _ => 0))), (q2, .inl (cI, 13, .inl (fun _ => 0))), (q3, .inl (cI, 13, .inl (fun _ => 0))), (q4, .inl (cI, 13, .inl (fun _ => 0))), (q5, .inl (cI, 13, .inl (fun _ => 0))), (q6, .inl (cI, 120, .inl (fun _ => 0))), (q7, .inl (cI, 120, .inl (fun _ => 0))), (q8, .inl (cI, 120, .inl (fun _ => 0))), (q9, .inl (cI, 480, .inl (fun _ => 0))), (q10, .inl (cI, 26, .inl (fun _ => 0))), (q11, .inl (cZ, 26, .inl (fun _ => 0))), (q12, .inl (cI, 147, .inl (fun _ => 0))), (q13, .inl (cI, 147, .inl (fun _ => 0))), (q14, .inl (cI, 147, .inl (fun _ => 0))), (q15, .inl (cI, 147, .inl (fun _ => 0))), (q16, .inl (cI, 122, .inl (fun _ => 0))), (q17, .inl (cI, 122, .inl (fun _ => 0))), (q18, .inl (cI, 5200, .inl (fun _ => 0))), (q19, .inl (cI, 5200, .inl (fun _ => 0))), (q20, .inl (cI, 5200, .inl (fun _ => 0)))] H := hP
  have hD : va_D A [(o, .inr (ci, mcF (va_up (va_up (va_up (va_up (va_up (va_up (va_up (va_up (va_up (va_up (va_up (va_up (va_up (va_up (va_up (va_up (va_up (va_up (va_up (fun _ => .null) 1 (.ref q1)) 3 (.ref q2)) 4 (.ref q3)) 5 (.ref q4)) 6 (.ref q5)) 9 (.ref q6)) 10 (.ref q7)) 11 (.ref q8)) 12 (.ref q9)) 14 (.ref q10)) 15 (.ref q11)) 16 (.ref q12)) 17 (.ref q13)) 18 (.ref q14)) 19 (.ref q15)) 21 (.ref q16)) 22 (.ref q17)) 24 (.ref q18)) 25 (.ref q19)))), (q1, .inl (cI, 120, .inl (fun _ => 0))), (q2, .inl (cI, 13, .inl (fun _ => 0))), (q3, .inl (cI, 13, .inl (fun _ => 0))), (q4, .inl (cI, 13, .inl (fun _ => 0))), (q5, .inl (cI, 13, .inl (fun _ => 0))), (q6, .inl (cI, 120, .inl (fun _ => 0))), (q7, .inl (cI, 120, .inl (fun _ => 0))), (q8, .inl (cI, 120, .inl (fun _ => 0))), (q9, .inl (cI, 480, .inl (fun _ => 0))), (q10, .inl (cI, 26, .inl (fun _ => 0))), (q11, .inl (cZ, 26, .inl (fun _ => 0))), (q12, .inl (cI, 147, .inl (fun _ => 0))), (q13, .inl (cI, 147, .inl (fun _ => 0))), (q14, .inl (cI, 147, .inl (fun _ => 0))), (q15, .inl (cI, 147, .inl (fun _ => 0))), (q16, .inl (cI, 122, .inl (fun _ => 0))), (q17, .inl (cI, 122, .inl (fun _ => 0))), (q18, .inl (cI, 5200, .inl (fun _ => 0))), (q19, .inl (cI, 5200, .inl (fun _ => 0))), (q20, .inl (cI, 5200, .inl (fun _ => 0)))] := hD
  refine va_putF (D := D) (ci := ci) (v := .ref q20) (ty := .array .int) (C := RM) (T := TM) (N := 40) hx hb K.1 inM tyM tyM_ok nmM hown hK hP hD hS 0 rfl hc 26 (by decide) (K.1 _ kM_f68) (fun _ h9 => h9) rfl hin rfl (by decide +kernel) rfl rfl (by show 26 < 40; decide) dM_init_169 (fun H locs hP hD hS => ?_)
  have hP : va_P D cl [(o, .inr (ci, mcF (va_up (va_up (va_up (va_up (va_up (va_up (va_up (va_up (va_up (va_up (va_up (va_up (va_up (va_up (va_up (va_up (va_up (va_up (va_up (va_up (fun _ => .null) 1 (.ref q1)) 3 (.ref q2)) 4 (.ref q3)) 5 (.ref q4)) 6 (.ref q5)) 9 (.ref q6)) 10 (.ref q7)) 11 (.ref q8)) 12 (.ref q9)) 14 (.ref q10)) 15 (.ref q11)) 16 (.ref q12)) 17 (.ref q13)) 18 (.ref q14)) 19 (.ref q15)) 21 (.ref q16)) 22 (.ref q17)) 24 (.ref q18)) 25 (.ref q19)) 26 (.ref q20)))), (q1, .inl (cI, 120, .inl (fun _ => 0))), (q2, .inl (cI, 13, .inl (fun _ => 0))), (q3, .inl (cI, 13, .inl (fun _ => 0))), (q4, .inl (cI, 13, .inl (fun _ => 0))), (q5, .inl (cI, 13, .inl (fun _ => 0))), (q6, .inl (cI, 120, .inl (fun _ => 0))), (q7, .inl (cI, 120, .inl (fun _ => 0))), (q8, .inl (cI, 120, .inl (fun _ => 0))), (q9, .inl (cI, 480, .inl (fun _ => 0))), (q10, .inl (cI, 26, .inl (fun _ => 0))), (q11, .inl (cZ, 26, .inl (fun _ => 0))), (q12, .inl (cI, 147, .inl (fun _ => 0))), (q13, .inl (cI, 147, .inl (fun _ => 0))), (q14, .inl (cI, 147, .inl (fun _ => 0))), (q15, .inl (cI, 147, .inl (fun _ => 0))), (q16, .inl (cI, 122, .inl (fun _ => 0))), (q17, .inl (cI, 122, .inl (fun _ => 0))), (q18, .inl (cI, 5200, .inl (fun _ => 0))), (q19, .inl (cI, 5200, .inl (fun _ => 0))), (q20, .inl (cI, 5200, .inl (fun _ => 0)))] H := hP
  have hD : va_D A [(o, .inr (ci, mcF (va_up (va_up (va_up (va_up (va_up (va_up (va_up (va_up (va_up (va_up (va_up (va_up (va_up (va_up (va_up (va_up (va_up (va_up (va_up (va_up (fun _ => .null) 1 (.ref q1)) 3 (.ref q2)) 4 (.ref q3)) 5 (.ref q4)) 6 (.ref q5)) 9 (.ref q6)) 10 (.ref q7)) 11 (.ref q8)) 12 (.ref q9)) 14 (.ref q10)) 15 (.ref q11)) 16 (.ref q12)) 17 (.ref q13)) 18 (.ref q14)) 19 (.ref q15)) 21 (.ref q16)) 22 (.ref q17)) 24 (.ref q18)) 25 (.ref q19)) 26 (.ref q20)))), (q1, .inl (cI, 120, .inl (fun _ => 0))), (q2, .inl (cI, 13, .inl (fun _ => 0))), (q3, .inl (cI, 13, .inl (fun _ => 0))), (q4, .inl (cI, 13, .inl (fun _ => 0))), (q5, .inl (cI, 13, .inl (fun _ => 0))), (q6, .inl (cI, 120, .inl (fun _ => 0))), (q7, .inl (cI, 120, .inl (fun _ => 0))), (q8, .inl (cI, 120, .inl (fun _ => 0))), (q9, .inl (cI, 480, .inl (fun _ => 0))), (q10, .inl (cI, 26, .inl (fun _ => 0))), (q11, .inl (cZ, 26, .inl (fun _ => 0))), (q12, .inl (cI, 147, .inl (fun _ => 0))), (q13, .inl (cI, 147, .inl (fun _ => 0))), (q14, .inl (cI, 147, .inl (fun _ => 0))), (q15, .inl (cI, 147, .inl (fun _ => 0))), (q16, .inl (cI, 122, .inl (fun _ => 0))), (q17, .inl (cI, 122, .inl (fun _ => 0))), (q18, .inl (cI, 5200, .inl (fun _ => 0))), (q19, .inl (cI, 5200, .inl (fun _ => 0))), (q20, .inl (cI, 5200, .inl (fun _ => 0)))] := hD
  refine lv_aload_n hx hb dM_init_172 rfl (lv_at hl 0 rfl) ?_
  refine lv_sipush (v := 260) hx hb dM_init_173 (by decide) ?_
  refine M_newi hx hb K hP hD hS hA 260 (by decide) (by decide) (Nat.le_of_ble_eq_true rfl) (Nat.le_of_ble_eq_true rfl) dM_init_176 (fun q21 H hP hD hS => ?_)
  refine W.cs (cells' := 21) (slots' := 17756) rfl rfl ?_
  have hP : va_P D cl [(o, .inr (ci, mcF (va_up (va_up (va_up (va_up (va_up (va_up (va_up (va_up (va_up (va_up (va_up (va_up (va_up (va_up (va_up (va_up (va_up (va_up (va_up (va_up (fun _ => .null) 1 (.ref q1)) 3 (.ref q2)) 4 (.ref q3)) 5 (.ref q4)) 6 (.ref q5)) 9 (.ref q6)) 10 (.ref q7)) 11 (.ref q8)) 12 (.ref q9)) 14 (.ref q10)) 15 (.ref q11)) 16 (.ref q12)) 17 (.ref q13)) 18 (.ref q14)) 19 (.ref q15)) 21 (.ref q16)) 22 (.ref q17)) 24 (.ref q18)) 25 (.ref q19)) 26 (.ref q20)))), (q1, .inl (cI, 120, .inl (fun _ => 0))), (q2, .inl (cI, 13, .inl (fun _ => 0))), (q3, .inl (cI, 13, .inl (fun _ => 0))), (q4, .inl (cI, 13, .inl (fun _ => 0))), (q5, .inl (cI, 13, .inl (fun _ => 0))), (q6, .inl (cI, 120, .inl (fun _ => 0))), (q7, .inl (cI, 120, .inl (fun _ => 0))), (q8, .inl (cI, 120, .inl (fun _ => 0))), (q9, .inl (cI, 480, .inl (fun _ => 0))), (q10, .inl (cI, 26, .inl (fun _ => 0))), (q11, .inl (cZ, 26, .inl (fun _ => 0))), (q12, .inl (cI, 147, .inl (fun _ => 0))), (q13, .inl (cI, 147, .inl (fun _ => 0))), (q14, .inl (cI, 147, .inl (fun _ => 0))), (q15, .inl (cI, 147, .inl (fun _ => 0))), (q16, .inl (cI, 122, .inl (fun _ => 0))), (q17, .inl (cI, 122, .inl (fun _ => 0))), (q18, .inl (cI, 5200, .inl (fun _ => 0))), (q19, .inl (cI, 5200, .inl (fun _ => 0))), (q20, .inl (cI, 5200, .inl (fun _ => 0))), (q21, .inl (cI, 260, .inl (fun _ => 0)))] H := hP
  have hD : va_D A [(o, .inr (ci, mcF (va_up (va_up (va_up (va_up (va_up (va_up (va_up (va_up (va_up (va_up (va_up (va_up (va_up (va_up (va_up (va_up (va_up (va_up (va_up (va_up (fun _ => .null) 1 (.ref q1)) 3 (.ref q2)) 4 (.ref q3)) 5 (.ref q4)) 6 (.ref q5)) 9 (.ref q6)) 10 (.ref q7)) 11 (.ref q8)) 12 (.ref q9)) 14 (.ref q10)) 15 (.ref q11)) 16 (.ref q12)) 17 (.ref q13)) 18 (.ref q14)) 19 (.ref q15)) 21 (.ref q16)) 22 (.ref q17)) 24 (.ref q18)) 25 (.ref q19)) 26 (.ref q20)))), (q1, .inl (cI, 120, .inl (fun _ => 0))), (q2, .inl (cI, 13, .inl (fun _ => 0))), (q3, .inl (cI, 13, .inl (fun _ => 0))), (q4, .inl (cI, 13, .inl (fun _ => 0))), (q5, .inl (cI, 13, .inl (fun _ => 0))), (q6, .inl (cI, 120, .inl (fun _ => 0))), (q7, .inl (cI, 120, .inl (fun _ => 0))), (q8, .inl (cI, 120, .inl (fun _ => 0))), (q9, .inl (cI, 480, .inl (fun _ => 0))), (q10, .inl (cI, 26, .inl (fun _ => 0))), (q11, .inl (cZ, 26, .inl (fun _ => 0))), (q12, .inl (cI, 147, .inl (fun _ => 0))), (q13, .inl (cI, 147, .inl (fun _ => 0))), (q14, .inl (cI, 147, .inl (fun _ => 0))), (q15, .inl (cI, 147, .inl (fun _ => 0))), (q16, .inl (cI, 122, .inl (fun _ => 0))), (q17, .inl (cI, 122, .inl (fun _ => 0))), (q18, .inl (cI, 5200, .inl (fun _ => 0))), (q19, .inl (cI, 5200, .inl (fun _ => 0))), (q20, .inl (cI, 5200, .inl (fun _ => 0))), (q21, .inl (cI, 260, .inl (fun _ => 0)))] := hD
  refine va_putF (D := D) (ci := ci) (v := .ref q21) (ty := .array .int) (C := RM) (T := TM) (N := 40) hx hb K.1 inM tyM tyM_ok nmM hown hK hP hD hS 0 rfl hc 38 (by decide) (K.1 _ kM_f71) (fun _ h9 => h9) rfl hin rfl (by decide +kernel) rfl rfl (by show 38 < 40; decide) dM_init_178 (fun H locs hP hD hS => ?_)
  have hP : va_P D cl [(o, .inr (ci, mcF (va_up (va_up (va_up (va_up (va_up (va_up (va_up (va_up (va_up (va_up (va_up (va_up (va_up (va_up (va_up (va_up (va_up (va_up (va_up (va_up (va_up (fun _ => .null) 1 (.ref q1)) 3 (.ref q2)) 4 (.ref q3)) 5 (.ref q4)) 6 (.ref q5)) 9 (.ref q6)) 10 (.ref q7)) 11 (.ref q8)) 12 (.ref q9)) 14 (.ref q10)) 15 (.ref q11)) 16 (.ref q12)) 17 (.ref q13)) 18 (.ref q14)) 19 (.ref q15)) 21 (.ref q16)) 22 (.ref q17)) 24 (.ref q18)) 25 (.ref q19)) 26 (.ref q20)) 38 (.ref q21)))), (q1, .inl (cI, 120, .inl (fun _ => 0))), (q2, .inl (cI, 13, .inl (fun _ => 0))), (q3, .inl (cI, 13, .inl (fun _ => 0))), (q4, .inl (cI, 13, .inl (fun _ => 0))), (q5, .inl (cI, 13, .inl (fun _ => 0))), (q6, .inl (cI, 120, .inl (fun _ => 0))), (q7, .inl (cI, 120, .inl (fun _ => 0))), (q8, .inl (cI, 120, .inl (fun _ => 0))), (q9, .inl (cI, 480, .inl (fun _ => 0))), (q10, .inl (cI, 26, .inl (fun _ => 0))), (q11, .inl (cZ, 26, .inl (fun _ => 0))), (q12, .inl (cI, 147, .inl (fun _ => 0))), (q13, .inl (cI, 147, .inl (fun _ => 0))), (q14, .inl (cI, 147, .inl (fun _ => 0))), (q15, .inl (cI, 147, .inl (fun _ => 0))), (q16, .inl (cI, 122, .inl (fun _ => 0))), (q17, .inl (cI, 122, .inl (fun _ => 0))), (q18, .inl (cI, 5200, .inl (fun _ => 0))), (q19, .inl (cI, 5200, .inl (fun _ => 0))), (q20, .inl (cI, 5200, .inl (fun _ => 0))), (q21, .inl (cI, 260, .inl (fun _ => 0)))] H := hP
  have hD : va_D A [(o, .inr (ci, mcF (va_up (va_up (va_up (va_up (va_up (va_up (va_up (va_up (va_up (va_up (va_up (va_up (va_up (va_up (va_up (va_up (va_up (va_up (va_up (va_up (va_up (fun _ => .null) 1 (.ref q1)) 3 (.ref q2)) 4 (.ref q3)) 5 (.ref q4)) 6 (.ref q5)) 9 (.ref q6)) 10 (.ref q7)) 11 (.ref q8)) 12 (.ref q9)) 14 (.ref q10)) 15 (.ref q11)) 16 (.ref q12)) 17 (.ref q13)) 18 (.ref q14)) 19 (.ref q15)) 21 (.ref q16)) 22 (.ref q17)) 24 (.ref q18)) 25 (.ref q19)) 26 (.ref q20)) 38 (.ref q21)))), (q1, .inl (cI, 120, .inl (fun _ => 0))), (q2, .inl (cI, 13, .inl (fun _ => 0))), (q3, .inl (cI, 13, .inl (fun _ => 0))), (q4, .inl (cI, 13, .inl (fun _ => 0))), (q5, .inl (cI, 13, .inl (fun _ => 0))), (q6, .inl (cI, 120, .inl (fun _ => 0))), (q7, .inl (cI, 120, .inl (fun _ => 0))), (q8, .inl (cI, 120, .inl (fun _ => 0))), (q9, .inl (cI, 480, .inl (fun _ => 0))), (q10, .inl (cI, 26, .inl (fun _ => 0))), (q11, .inl (cZ, 26, .inl (fun _ => 0))), (q12, .inl (cI, 147, .inl (fun _ => 0))), (q13, .inl (cI, 147, .inl (fun _ => 0))), (q14, .inl (cI, 147, .inl (fun _ => 0))), (q15, .inl (cI, 147, .inl (fun _ => 0))), (q16, .inl (cI, 122, .inl (fun _ => 0))), (q17, .inl (cI, 122, .inl (fun _ => 0))), (q18, .inl (cI, 5200, .inl (fun _ => 0))), (q19, .inl (cI, 5200, .inl (fun _ => 0))), (q20, .inl (cI, 5200, .inl (fun _ => 0))), (q21, .inl (cI, 260, .inl (fun _ => 0)))] := hD
  refine lv_aload_n hx hb dM_init_181 rfl (lv_at hl 0 rfl) ?_
  refine lv_sipush (v := 260) hx hb dM_init_182 (by decide) ?_
  refine M_newi hx hb K hP hD hS hA 260 (by decide) (by decide) (Nat.le_of_ble_eq_true rfl) (Nat.le_of_ble_eq_true rfl) dM_init_185 (fun q22 H hP hD hS => ?_)
  refine W.cs (cells' := 22) (slots' := 18016) rfl rfl ?_
  have hP : va_P D cl [(o, .inr (ci, mcF (va_up (va_up (va_up (va_up (va_up (va_up (va_up (va_up (va_up (va_up (va_up (va_up (va_up (va_up (va_up (va_up (va_up (va_up (va_up (va_up (va_up (fun _ => .null) 1 (.ref q1)) 3 (.ref q2)) 4 (.ref q3)) 5 (.ref q4)) 6 (.ref q5)) 9 (.ref q6)) 10 (.ref q7)) 11 (.ref q8)) 12 (.ref q9)) 14 (.ref q10)) 15 (.ref q11)) 16 (.ref q12)) 17 (.ref q13)) 18 (.ref q14)) 19 (.ref q15)) 21 (.ref q16)) 22 (.ref q17)) 24 (.ref q18)) 25 (.ref q19)) 26 (.ref q20)) 38 (.ref q21)))), (q1, .inl (cI, 120, .inl (fun _ => 0))), (q2, .inl (cI, 13, .inl (fun _ => 0))), (q3, .inl (cI, 13, .inl (fun _ => 0))), (q4, .inl (cI, 13, .inl (fun _ => 0))), (q5, .inl (cI, 13, .inl (fun _ => 0))), (q6, .inl (cI, 120, .inl (fun _ => 0))), (q7, .inl (cI, 120, .inl (fun _ => 0))), (q8, .inl (cI, 120, .inl (fun _ => 0))), (q9, .inl (cI, 480, .inl (fun _ => 0))), (q10, .inl (cI, 26, .inl (fun _ => 0))), (q11, .inl (cZ, 26, .inl (fun _ => 0))), (q12, .inl (cI, 147, .inl (fun _ => 0))), (q13, .inl (cI, 147, .inl (fun _ => 0))), (q14, .inl (cI, 147, .inl (fun _ => 0))), (q15, .inl (cI, 147, .inl (fun _ => 0))), (q16, .inl (cI, 122, .inl (fun _ => 0))), (q17, .inl (cI, 122, .inl (fun _ => 0))), (q18, .inl (cI, 5200, .inl (fun _ => 0))), (q19, .inl (cI, 5200, .inl (fun _ => 0))), (q20, .inl (cI, 5200, .inl (fun _ => 0))), (q21, .inl (cI, 260, .inl (fun _ => 0))), (q22, .inl (cI, 260, .inl (fun _ => 0)))] H := hP
  have hD : va_D A [(o, .inr (ci, mcF (va_up (va_up (va_up (va_up (va_up (va_up (va_up (va_up (va_up (va_up (va_up (va_up (va_up (va_up (va_up (va_up (va_up (va_up (va_up (va_up (va_up (fun _ => .null) 1 (.ref q1)) 3 (.ref q2)) 4 (.ref q3)) 5 (.ref q4)) 6 (.ref q5)) 9 (.ref q6)) 10 (.ref q7)) 11 (.ref q8)) 12 (.ref q9)) 14 (.ref q10)) 15 (.ref q11)) 16 (.ref q12)) 17 (.ref q13)) 18 (.ref q14)) 19 (.ref q15)) 21 (.ref q16)) 22 (.ref q17)) 24 (.ref q18)) 25 (.ref q19)) 26 (.ref q20)) 38 (.ref q21)))), (q1, .inl (cI, 120, .inl (fun _ => 0))), (q2, .inl (cI, 13, .inl (fun _ => 0))), (q3, .inl (cI, 13, .inl (fun _ => 0))), (q4, .inl (cI, 13, .inl (fun _ => 0))), (q5, .inl (cI, 13, .inl (fun _ => 0))), (q6, .inl (cI, 120, .inl (fun _ => 0))), (q7, .inl (cI, 120, .inl (fun _ => 0))), (q8, .inl (cI, 120, .inl (fun _ => 0))), (q9, .inl (cI, 480, .inl (fun _ => 0))), (q10, .inl (cI, 26, .inl (fun _ => 0))), (q11, .inl (cZ, 26, .inl (fun _ => 0))), (q12, .inl (cI, 147, .inl (fun _ => 0))), (q13, .inl (cI, 147, .inl (fun _ => 0))), (q14, .inl (cI, 147, .inl (fun _ => 0))), (q15, .inl (cI, 147, .inl (fun _ => 0))), (q16, .inl (cI, 122, .inl (fun _ => 0))), (q17, .inl (cI, 122, .inl (fun _ => 0))), (q18, .inl (cI, 5200, .inl (fun _ => 0))), (q19, .inl (cI, 5200, .inl (fun _ => 0))), (q20, .inl (cI, 5200, .inl (fun _ => 0))), (q21, .inl (cI, 260, .inl (fun _ => 0))), (q22, .inl (cI, 260, .inl (fun _ => 0)))] := hD
  refine va_putF (D := D) (ci := ci) (v := .ref q22) (ty := .array .int) (C := RM) (T := TM) (N := 40) hx hb K.1 inM tyM tyM_ok nmM hown hK hP hD hS 0 rfl hc 39 (by decide) (K.1 _ kM_f74) (fun _ h9 => h9) rfl hin rfl (by decide +kernel) rfl rfl (by show 39 < 40; decide) dM_init_187 (fun H locs hP hD hS => ?_)
  have hP : va_P D cl [(o, .inr (ci, mcF (va_up (va_up (va_up (va_up (va_up (va_up (va_up (va_up (va_up (va_up (va_up (va_up (va_up (va_up (va_up (va_up (va_up (va_up (va_up (va_up (va_up (va_up (fun _ => .null) 1 (.ref q1)) 3 (.ref q2)) 4 (.ref q3)) 5 (.ref q4)) 6 (.ref q5)) 9 (.ref q6)) 10 (.ref q7)) 11 (.ref q8)) 12 (.ref q9)) 14 (.ref q10)) 15 (.ref q11)) 16 (.ref q12)) 17 (.ref q13)) 18 (.ref q14)) 19 (.ref q15)) 21 (.ref q16)) 22 (.ref q17)) 24 (.ref q18)) 25 (.ref q19)) 26 (.ref q20)) 38 (.ref q21)) 39 (.ref q22)))), (q1, .inl (cI, 120, .inl (fun _ => 0))), (q2, .inl (cI, 13, .inl (fun _ => 0))), (q3, .inl (cI, 13, .inl (fun _ => 0))), (q4, .inl (cI, 13, .inl (fun _ => 0))), (q5, .inl (cI, 13, .inl (fun _ => 0))), (q6, .inl (cI, 120, .inl (fun _ => 0))), (q7, .inl (cI, 120, .inl (fun _ => 0))), (q8, .inl (cI, 120, .inl (fun _ => 0))), (q9, .inl (cI, 480, .inl (fun _ => 0))), (q10, .inl (cI, 26, .inl (fun _ => 0))), (q11, .inl (cZ, 26, .inl (fun _ => 0))), (q12, .inl (cI, 147, .inl (fun _ => 0))), (q13, .inl (cI, 147, .inl (fun _ => 0))), (q14, .inl (cI, 147, .inl (fun _ => 0))), (q15, .inl (cI, 147, .inl (fun _ => 0))), (q16, .inl (cI, 122, .inl (fun _ => 0))), (q17, .inl (cI, 122, .inl (fun _ => 0))), (q18, .inl (cI, 5200, .inl (fun _ => 0))), (q19, .inl (cI, 5200, .inl (fun _ => 0))), (q20, .inl (cI, 5200, .inl (fun _ => 0))), (q21, .inl (cI, 260, .inl (fun _ => 0))), (q22, .inl (cI, 260, .inl (fun _ => 0)))] H := hP
  have hD : va_D A [(o, .inr (ci, mcF (va_up (va_up (va_up (va_up (va_up (va_up (va_up (va_up (va_up (va_up (va_up (va_up (va_up (va_up (va_up (va_up (va_up (va_up (va_up (va_up (va_up (va_up (fun _ => .null) 1 (.ref q1)) 3 (.ref q2)) 4 (.ref q3)) 5 (.ref q4)) 6 (.ref q5)) 9 (.ref q6)) 10 (.ref q7)) 11 (.ref q8)) 12 (.ref q9)) 14 (.ref q10)) 15 (.ref q11)) 16 (.ref q12)) 17 (.ref q13)) 18 (.ref q14)) 19 (.ref q15)) 21 (.ref q16)) 22 (.ref q17)) 24 (.ref q18)) 25 (.ref q19)) 26 (.ref q20)) 38 (.ref q21)) 39 (.ref q22)))), (q1, .inl (cI, 120, .inl (fun _ => 0))), (q2, .inl (cI, 13, .inl (fun _ => 0))), (q3, .inl (cI, 13, .inl (fun _ => 0))), (q4, .inl (cI, 13, .inl (fun _ => 0))), (q5, .inl (cI, 13, .inl (fun _ => 0))), (q6, .inl (cI, 120, .inl (fun _ => 0))), (q7, .inl (cI, 120, .inl (fun _ => 0))), (q8, .inl (cI, 120, .inl (fun _ => 0))), (q9, .inl (cI, 480, .inl (fun _ => 0))), (q10, .inl (cI, 26, .inl (fun _ => 0))), (q11, .inl (cZ, 26, .inl (fun _ => 0))), (q12, .inl (cI, 147, .inl (fun _ => 0))), (q13, .inl (cI, 147, .inl (fun _ => 0))), (q14, .inl (cI, 147, .inl (fun _ => 0))), (q15, .inl (cI, 147, .inl (fun _ => 0))), (q16, .inl (cI, 122, .inl (fun _ => 0))), (q17, .inl (cI, 122, .inl (fun _ => 0))), (q18, .inl (cI, 5200, .inl (fun _ => 0))), (q19, .inl (cI, 5200, .inl (fun _ => 0))), (q20, .inl (cI, 5200, .inl (fun _ => 0))), (q21, .inl (cI, 260, .inl (fun _ => 0))), (q22, .inl (cI, 260, .inl (fun _ => 0)))] := hD
  have hM : mdW D cl A ci cI cZ o (va_up (va_up (va_up (va_up (va_up (va_up (va_up (va_up (va_up (va_up (va_up (va_up (va_up (va_up (va_up (va_up (va_up (va_up (va_up (va_up (va_up (va_up (fun _ => 0) 1 q1) 3 q2) 4 q3) 5 q4) 6 q5) 9 q6) 10 q7) 11 q8) 12 q9) 14 q10) 15 q11) 16 q12) 17 q13) 18 q14) 19 q15) 21 q16) 22 q17) 24 q18) 25 q19) 26 q20) 38 q21) 39 q22) (fun _ => 0) (fun _ _ => 0) H := ⟨hP, hD⟩
  exact W.vret hx hb hr (fun t ht hW => ⟨⟨_, rfl, trivial, by rw [ht]; exact hM, va_K.moved hW.alike hK⟩, hS.F ht⟩) hS.2.2 dM_init_190
end
section
/-! METHODS THAT THROW: a contract beside Met, for starts from which the method throws -/
def xQ (E : String) (XC : State → State → Prop) (mc ms : Nat) (free : Addr → Prop) : Array Value → State → Outcome → State → Prop := fun _ st o t =>
  ∃ (q : Addr) (ce : Cell) (L : List Loc), o = .threw q ∧ XC st t ∧ t.heap[q]? = some ce ∧ ce.vm = .none ∧ st.vm.findClass E = some ce.cls ∧ st.WarmedH t.vm ∧ st.sameButNew ({ t with vm := st.vm } : State) L mc ms ∧ ∀ z ∈ L, free z.base
def Thr (l : Launch) (y : MethodName) (ws : List Cond) (rm : Room) (Pc : Array Value → State → Prop) (E : String) (XC : State → State → Prop) (mc ms : Nat) (free : Addr → Prop) : Prop :=
  MetFree l y (headSpec ws rm) Pc (fun _ _ _ _ _ => True) (xQ E XC mc ms free)
def xMQ (below : List Frame) (E : String) (XC : State → State → Prop) (a : Array Value) (s : State) (mc ms : Nat) (free : Addr → Prop) : State → Prop := fun t => ∃ o, t.status = .running ∧ Ended t below o ∧ xQ E XC mc ms free a s o t
theorem Thr.ofW {l : Launch} {y : MethodName} {ws ws' : List Cond} {rm : Room} {Pc : Array Value → State → Prop} {E : String} {XC : State → State → Prop} {mc ms : Nat} {free : Addr → Prop} {cc : ByteArray} {maxL : Nat} {ret : Option FieldType}
    (hy : plainName y.cls = true) (hw : ws = Cond.code y cc maxL ret :: ws')
    (body : ∀ p e s m args below meth c s₁, BodyLoose p l y (headSpec ws rm) cc maxL ret e s m args below meth c s₁ → c.maxLocals = maxL → Pc args s →
      W p l e (headSpec ws rm).room s m args below meth c s.heap [] 0 0 (xMQ below E XC args s mc ms free) (entryFrame m args maxL)) : Thr l y ws rm Pc E XC mc ms free := by
  refine MetFree.of_bodyS (code := cc) (maxLocals := maxL) (ret := ret) hy ?_ ?_
  · intro args s m h hn
    obtain ⟨meth, c, h1, h2, h3, h4, h5, h6, -, -⟩ := Cond.code_spec hn (atoms_spec (ws := ws) h _ (by rw [hw]; exact List.mem_cons_self))
    exact ⟨meth, c, h1, h2, h3, h4, h5, h6⟩
  · intro p e s m args below meth c s₁ B hml hP _
    have hh0 : s₁.heap = s.heap := by rw [B.state]; rfl
    obtain ⟨t, a1, o, b1, b2, b3⟩ := body p e s m args below meth c s₁ B hml hP s₁ hh0 (Stand.of_body B)
    exact ⟨t, o, a1, b1, b2, b3⟩
section XCALL
variable {l : Launch} {R : Room} {p : Program} {e : Env} {below : List Frame} {s : State} {sargs : Array Value} {y : MethodName} {len W9 : Nat}
/-- a call of such a method, from the frame that calls: it comes back thrown -/
theorem xBack {ws : List Cond} {rm : Room} {Pc : Array Value → State → Prop} {E : String} {XC : State → State → Prop} {mc ms : Nat} {free : Addr → Prop} {bytes : ByteArray} {maxL : Nat} {ret : Option FieldType}
    (hM : Thr l y ws rm Pc E XC mc ms free) (hblind : FrameBlind Pc) (hrc : rm.cells = mc) (hrs : rm.slots = ms)
    (hframes : rm.frames + 1 ≤ R.frames) (hlocals : W9 + (maxL + 11) + rm.locals ≤ R.locals)
    (hws : ∀ w ∈ ws, ∀ a' U, s.WarmedH U.vm → w.before a' U = true) (hcode : Cond.code y bytes maxL ret ∈ ws) (hinit : ∀ a' U, s.WarmedH U.vm → (Cond.initialized y.cls).before a' U = true)
    {m : MethodId} {meth : Method} {c : Code} {U : State} {locs : List Loc} {cells slots : Nat} {g : JFrame} {ig : Instr} {mk : MethodId} {a : Array Value}
    (X : Stand p l e R s m sargs below meth c U locs cells slots) (hg : g.method = m) (hsize : g.locals.size = c.maxLocals) (hdg : decode c.code g.pc = .ok (ig, len))
    (hW : 2 * g.monitorRoom + (g.stack.map fun v => v.category).sum ≤ W9) (hn : U.methodNamed? y = some mk) (hcells : cells + mc ≤ R.cells) (hslots : slots + ms ≤ R.slots) (hp : Pc a U) :
    ∃ (q : Addr) (ce : Cell) (t U' : State) (L : List Loc), Stand p l e R s m sargs below meth c U' (locs ++ L) (cells + mc) (slots + ms) ∧ U'.heap = t.heap ∧ U'.vm = t.vm ∧ XC (U.calling g mk a) t ∧ t.heap[q]? = some ce ∧ ce.vm = .none ∧ U.vm.findClass E = some ce.cls ∧ (∀ z ∈ L, free z.base) ∧
      Steps p.tables e below (doInvoke e (U.setTop g) [] mk a).1 ((U'.setTop g).pushFrame (.throwing q)) := by
  have h1 : (headSpec ws rm).pre.before a U = true := atoms_intro fun w hw => hws w hw _ _ X.warmed
  have h2 : (Cond.code y bytes maxL ret).before a U = true := hws _ hcode _ _ X.warmed
  have h3 : (Cond.initialized y.cls).before a U = true := hinit _ _ X.warmed
  obtain ⟨methY, cY, hmY, hcY, -, hlY, -, -, -, -⟩ := Cond.code_spec hn h2
  obtain ⟨kY, hkY, -⟩ := className_of_methodNamed hn
  have hinitY : kY.init = .initialized := Cond.initialized_spec (findClass_of_methodNamed hn) hkY h3
  have h : At U g.method c below := by rw [hg]; exact X.here
  have h4 : cells + (headSpec ws rm).room.cells ≤ R.cells := by rw [show (headSpec ws rm).room.cells = mc from hrc]; exact hcells
  have h5 : slots + (headSpec ws rm).room.slots ≤ R.slots := by rw [show (headSpec ws rm).room.slots = ms from hrs]; exact hslots
  have hlo : W9 + (maxL + 11) + (headSpec ws rm).room.locals ≤ R.locals := hlocals
  have happ : (headSpec ws rm).appliesLoose y e.platform (U.calling g mk a) = true :=
    Spec.appliesLoose_calling (g := g) h hdg hn hkY hinitY (X.room_calling (g := g) (R' := (headSpec ws rm).room) hsize hmY hcY hframes (by rw [hlY]; omega) h4 h5) h1
  obtain ⟨mid, hmid⟩ := h.above
  have hfr : (U.setTop g).frames = (.java g :: mid) ++ below := by rw [State.frames_setTop' g h.top, hmid]; rfl
  obtain ⟨o, s₂, hsteps, -, hend, hq⟩ := Steps.callFree hM p X.admits X.cas X.clock (acts := []) hfr happ (hblind _ _ _ _ hp) trivial
  have hq' : xQ E XC mc ms free a (U.calling g mk a) o s₂ := hq
  rw [State.frames_setTop' g h.top] at hend
  obtain ⟨g₀, hg0⟩ := Option.isSome_iff_exists.mp h.top
  obtain ⟨r, hr⟩ := State.topJava?_eq_some.mp hg0
  obtain ⟨q, ce, L, rfl, hx, hce, hcv, hcl, hW₂, hsm, hL⟩ := hq'
  obtain ⟨e2, q2, q3, q4, q5, q6⟩ := id hsm
  have e3 : s₂ = ({ (U.calling g mk a).setFrames s₂.frames with heap := s₂.heap, slotsUsed := s₂.slotsUsed } : State).setVm s₂.vm := by
    have : s₂ = ({ s₂ with vm := (U.calling g mk a).vm } : State).setVm s₂.vm := rfl
    rw [e2] at this
    exact this
  have hf₂ : s₂.frames = .throwing q :: .java g :: U.frames.tail := hend
  have hW' : U.WarmedH s₂.vm := hW₂
  obtain ⟨V, hV⟩ : ∃ V : State, V = (({ U with heap := s₂.heap, slotsUsed := s₂.slotsUsed } : State).setVm s₂.vm) := ⟨_, rfl⟩
  have hrV : V.frames = .java g₀ :: r := by rw [hV]; exact hr
  have hs₂ : s₂ = (V.setTop g).pushFrame (.throwing q) := by
    rw [hV]
    refine e3.trans ?_
    rw [hf₂, State.calling_eq h.top, State.setFrames_setFrames, State.pushFrame, State.frames_setTop _ (hV ▸ hrV), State.setTop_of_frames _ (hV ▸ hrV), State.setFrames_setFrames, hr]
    rfl
  have hsame : U.sameButNew ({ U with heap := s₂.heap, slotsUsed := s₂.slotsUsed } : State) L mc ms := by
    refine ⟨?_, q2, q3, q4, q5, q6⟩
    obtain ⟨t, ht, -⟩ := State.frames_cons hr
    show ({ U with heap := s₂.heap, slotsUsed := s₂.slotsUsed } : State) = { U.setFrames U.frames with heap := s₂.heap, slotsUsed := s₂.slotsUsed }
    rw [State.setFrames_self ht]
  refine ⟨q, ce, s₂, V, L, ?_, by rw [hV]; rfl, by rw [hV]; rfl, hx, hce, hcv, hcl, hL, ?_⟩
  · subst hg
    rw [hV]
    exact ⟨X.admits, X.cas, X.clock, X.frames, X.room, X.hears, X.method, X.code, (X.here.setHeapUsed s₂.heap s₂.slotsUsed).setVm hW'.alike, X.tail, State.WarmedH.trans X.warmed hW', X.limits, X.bytes, X.same.trans (hsame.setVm s.vm)⟩
  · rw [← hs₂]
    exact hsteps
end XCALL
section XCATCH
variable {p : Program} {l : Launch} {e : Env} {R : Room} {s : State} {m : MethodId} {args : Array Value} {below : List Frame} {meth : Method} {c : Code} {H : Heap} {locs : List Loc} {cells slots : Nat} {Q : State → Prop}
variable {y : MethodName} {bytes cc : ByteArray} {maxL nL mc ms n index : Nat} {ret : Option FieldType} {ws : List Cond} {rm : Room} {Pc : Array Value → State → Prop} {E : String} {XC : State → State → Prop} {free : Addr → Prop} {Ts : List Cond} {own C : String} {b : Addr} {As rest st : List Value} {pc : Nat} {ls : Array Slot} {A0 : Nat → Prop} {H0 : Heap}
/-- a call on an object that throws, caught by a row of the caller's own table -/
theorem x_catchV (S : CallFix p m c cc nL s args Ts own) (hM : Thr l y ws rm Pc E XC mc ms free) (cw : CallW R s args own C index y bytes maxL ret ws rm mc ms n) (hp : PreV s H C b Pc As)
    (hn : As.length = n) (hsize : ls.size = nL) (hstack : st = As.reverse ++ .ref b :: rest) (hW : 2 * (F0 m pc ls st).monitorRoom + (rest.map fun v => v.category).sum ≤ 8) (hdg : decode cc pc = .ok (.invokevirtual index, 3)) (hf : cells + mc ≤ R.cells ∧ slots + ms ≤ R.slots)
    (hS : va_S A0 H0 H locs) (hfree : ∀ q, free q → A0 q) (hXF : ∀ st0 t : State, st0.heap = H → XC st0 t → va_F A0 st0 t)
    (pre : List ExceptionTableEntry) (xr : ExceptionTableEntry) (suf : List ExceptionTableEntry) (hsplit : c.exceptionTable.toList = pre ++ xr :: suf) {name : String}
    (hpass : ∀ z ∈ pre, covers z pc = false ∨ (z.catchType ≠ 0 ∧ ∃ nm : String, (Cond.classLink own z.catchType nm).before args s = true ∧ va_Nc E nm s)) (hcov : covers xr pc = true) (h0 : xr.catchType ≠ 0)
    (hlink : (Cond.classLink own xr.catchType name).before args s = true) (hcast : (Cond.castable E name).before args s = true)
    (kk : ∀ (q : Addr) (st0 t : State) (H1 : Heap) (locs1 : List Loc), st0.heap = H → t.heap = H1 → s.vm.Alike t.vm → XC st0 t → H.size ≤ H1.size → va_S A0 H0 H1 locs1 → W p l e R s m args below meth c H1 locs1 (cells + mc) (slots + ms) Q (F0 m xr.handlerPc ls [.ref q])) :
    W p l e R s m args below meth c H locs cells slots Q (F0 m pc ls st) := by
  obtain ⟨⟨hrc, hrs, hfr, hlo, hws, hcw, hcode, hini, hy, hlen, hl⟩, hin, hse⟩ := cw
  obtain ⟨hx, hb, hml, ho, -⟩ := S
  obtain ⟨hbl, ⟨cellB, hcB, hoB, hclB⟩, hPc⟩ := hp
  intro T hT X
  subst hb
  have hini' : ∀ a' U, s.WarmedH U.vm → (Cond.initialized y.cls).before a' U = true := fun a' U hW => word_at hW (Or.inl (by first | rfl | simp [Cond.onTables, Cond.keeps, Cond.steady])) hini
  obtain ⟨mk, methM, hnamed, hmethM, hstM, habM⟩ := Cond.instanceMethod_spec hin
  obtain ⟨methM', cM, hmethM', -, -, -, -, -, -, hsigM⟩ := Cond.code_spec hnamed hcode
  cases hmethM.symm.trans hmethM'
  obtain ⟨c2, r2, m2, q1, q2, q3, q4, kP, hkP, hkPi⟩ := Cond.selects_spec hse
  cases hclB.symm.trans q1
  cases (State.methodFound?_of_named hnamed hy).symm.trans q2
  cases hnamed.symm.trans q3
  have hselP : selectMethod e.platform s.vm cellB.cls mk = .method mk := by rw [Launch.admits_selectMethod X.admits]; exact q4
  obtain ⟨vm₁, X₁, hstep₁⟩ := X.invokevirtual hx ho hl hnamed hmethM hstM hkP hkPi hy (a := b) (cell := cellB) (by rw [hT]; exact hcB)
    (fun z h => by rw [h] at hoB; cases hoB) hselP hmethM habM hkP hkPi (g := F0 m pc ls st) rfl (argsL := As) (rest := rest) (hn.trans (hlen _ hsigM)) hstack hdg
  obtain ⟨q, ce, t, U', L, X', e1, e2, hXC, hce, hcv, hcl, hL, hsteps⟩ := xBack (W9 := 8) hM hbl hrc hrs hfr hlo hws hcw hini' (ig := .invokevirtual index) (len := 3) (mk := mk) (g := F0 m pc ls rest) X₁ rfl (hsize.trans hml.symm) hdg hW (X₁.named hnamed) hf.1 hf.2 (hPc (T.setVm vm₁) hT X₁.warmed)
  have hcome : Steps p.tables e below (T.setTop (F0 m pc ls st)) ((U'.setTop (F0 m pc ls rest)).pushFrame (.throwing q)) := hstep₁ _ fun acts => by rw [doInvoke_state]; exact hsteps
  have hpl : e.platform.magicAccessors = ({} : Platform).magicAccessors := by rw [X.admits.platform]
  have hcl' : s.vm.findClass E = some ce.cls := by
    rw [X₁.warmed.alike.findClass] at hcl
    exact hcl
  obtain ⟨c3, c4, hc3, hc4, hasg⟩ := Cond.castable_spec hcast
  cases Option.some.inj (hc3.symm.trans hcl')
  obtain ⟨c5, hc5, hcl5⟩ := Cond.classLink_spec ho hlink e.platform hpl
  cases Option.some.inj (hc4.symm.trans hc5)
  obtain ⟨vm', X9, st9⟩ := X'.thenCaughtThrough q (g := F0 m pc ls rest) rfl hcome (by rw [e1]; exact hce) (by rw [hcv]; rfl) (by obtain ⟨k9, h9, -⟩ := Vm.findClass_spec hcl'; exact ⟨k9, h9⟩) pre xr suf hsplit
    (fun z hz => by
      rcases hpass z hz with h | ⟨hz0, nm, hl1, hn1⟩
      · exact Or.inl h
      · obtain ⟨c6, hc6, hcl6⟩ := Cond.classLink_spec ho hl1 e.platform hpl
        obtain ⟨a8, b8, h1, h2, h3⟩ := hn1
        cases Option.some.inj (h1.symm.trans hcl')
        cases Option.some.inj (h2.symm.trans hc6)
        exact Or.inr ⟨hz0, _, hcl6, h3⟩) hcov (Or.inr ⟨h0, c4, hcl5, hasg⟩)
  have hst0 : ((T.setVm vm₁).calling (F0 m pc ls rest) mk (Value.ref b :: As).toArray).heap = H := hT
  have hF := hXF _ t hst0 hXC
  have hz : H.size ≤ U'.heap.size := by rw [e1, ← hst0]; exact hF.1
  have hS1 : va_S A0 H0 U'.heap (locs ++ L) := by
    refine ⟨Nat.le_trans hS.1 hz, fun q h1 h2 => ?_, fun q hq => ?_⟩
    · rw [e1, hF.2 q (by rw [hst0]; exact Nat.lt_of_lt_of_le h1 hS.1) h2, hst0]
      exact hS.2.1 q h1 h2
    · rcases List.mem_append.mp hq with h | h
      · exact hS.2.2 q h
      · exact hfree _ (hL q h)
  obtain ⟨t2, a1, b1⟩ := kk q _ t U'.heap (locs ++ L) hst0 e1.symm (by rw [← e2]; exact X'.warmed.alike) hXC hz hS1 (U'.setVm vm') rfl X9
  exact ⟨t2, st9.trans a1, b1⟩
end XCATCH
end
section
/-! 'throw new E("text")' in a method without a table of its own; launches without stack traces -/
section XTHROW
variable {p : Program} {l : Launch} {e : Env} {R : Room} {s : State} {m : MethodId} {args : Array Value} {below : List Frame} {meth : Method} {c : Code} {H : Heap} {locs : List Loc} {cells slots : Nat} {Q : State → Prop}
/-- the same frame, as if its method were called anew here -/
theorem x_here {T : State} (X : Stand p l e R s m args below meth c T locs cells slots) {R' : Room} (hf : R'.frames ≤ R.frames) (hl : R'.locals ≤ R.locals) (hc : cells + R'.cells ≤ R.cells) (hs : slots + R'.slots ≤ R.slots) :
    Stand p l e R' ((T.setVm s.vm).setFrames (.invoking m args :: below)) m args below meth c T [] 0 0 := by
  have htop : (T.setVm s.vm).topJava?.isSome := X.here.top
  have hF : ((T.setVm s.vm).setFrames (.invoking m args :: below)).frames = .invoking m args :: below := State.frames_setFrames _ (State.cur_lt_of_top htop)
  obtain ⟨g₀, hg0⟩ := Option.isSome_iff_exists.mp htop
  obtain ⟨r, hr⟩ := State.topJava?_eq_some.mp hg0
  have hl9 : e.platform.stackLimits (T.setVm s.vm).me = e.platform.stackLimits s.me := X.limits
  have hb9 : (T.setVm s.vm).me.stackBytes = s.me.stackBytes := X.bytes
  have hnil : ((T.heap.toList.drop T.heap.size).map (·.slots.size)).sum = 0 := by
    rw [List.drop_eq_nil_of_le (Nat.le_of_eq Array.length_toList)]; rfl
  refine ⟨X.admits, X.cas, X.clock, hF, ?_, X.hears, X.method, X.code, X.here, X.tail, X.warmed, by rw [State.stackLimits_setFrames]; rfl, by rw [State.stackBytes_setFrames]; rfl, ?_⟩
  · have h := X.room
    have hU : ((T.setVm s.vm).setFrames (.invoking m args :: below)).localsInUse = s.localsInUse := by
      rw [State.localsInUse_invoking hF (meth := meth) (c := c) X.method X.code, State.localsInUse_invoking X.frames X.method X.code]
    simp only [State.hasRoom, Bool.and_eq_true, decide_eq_true_eq] at h ⊢
    obtain ⟨⟨⟨⟨h1, h2, h3, h4, h5, h6⟩, h7⟩, h8⟩, h9⟩ := h
    rw [X.frames, List.length_cons] at h2 h3
    have q1 := X.heapSize
    have q2 := X.used
    simp only [hF, hU, List.length_cons, State.stackLimits_setFrames, State.stackBytes_setFrames, hl9, hb9]
    refine ⟨⟨⟨⟨by omega, by omega, by omega, by omega, by omega, h6⟩, ?_⟩, ?_⟩, X.book⟩
    · show T.heap.size + R'.cells ≤ e.platform.maxCells
      omega
    · show T.slotsUsed + R'.slots ≤ e.platform.maxSlots
      omega
  · refine ⟨?_, Nat.le_refl _, Nat.le_refl _, ?_, ?_, fun a c9 h9 => ⟨c9, h9, rfl, rfl, fun _ _ => rfl⟩⟩
    · obtain ⟨t, ht, -⟩ := State.frames_cons hr
      show T.setVm s.vm = { ((T.setVm s.vm).setFrames (.invoking m args :: below)).setFrames (T.setVm s.vm).frames with heap := T.heap, slotsUsed := T.slotsUsed }
      rw [State.setFrames_setFrames, State.setFrames_self ht]
      rfl
    · show T.slotsUsed = T.slotsUsed + ((T.heap.toList.drop T.heap.size).map (·.slots.size)).sum
      rw [hnil]; rfl
    · show ((T.heap.toList.drop T.heap.size).map (·.slots.size)).sum ≤ 0
      rw [hnil]; exact Nat.le_refl _
/-- where nothing old was written, every old cell is as it was -/
theorem x_old {u U : State} {k n : Nat} (h : u.sameButNew ({ U with vm := u.vm } : State) [] k n) : u.heap.size ≤ U.heap.size ∧ ∀ q : Nat, q < u.heap.size → U.heap[q]? = u.heap[q]? := by
  obtain ⟨-, h2, -, -, -, h6⟩ := h
  refine ⟨h2, fun q hq => ?_⟩
  obtain ⟨c9, e1, e2, e3, e4⟩ := h6 q _ (Array.getElem?_eq_getElem hq)
  have hs : c9.slots = (u.heap[q]).slots := Array.ext_getElem? fun i => e4 i (fun hm => nomatch hm)
  have h9 : c9 = u.heap[q] := by
    rw [hs] at e2
    exact e2
  have e5 : U.heap[q]? = some c9 := e1
  rw [e5, h9, Array.getElem?_eq_getElem hq]
theorem x_throwS {cc : ByteArray} {pc : Nat} {ls : Array Slot} {rest : List Value} {XC : State → State → Prop} {free : Addr → Prop} (hexec : p.tables.exec = Jvm.exec) (hb : c.code = cc) (hl : l.stackTraces = false) {own cls text : String} {names : List String} {ik is ic mc ms sa : Nat}
    (hown : s.vm.findClass own = some m.cls) (hcls : Bundle.fit cls = true) (hnames : ∀ n ∈ names, Bundle.fit n = true)
    (hk : (Cond.classLink own ik cls).before args s = true) (hini : (Cond.initialized cls).before args s = true) (hstr : vk_R own is text sa s)
    (hat : ∀ s' : State, s'.vm = s.vm → s'.heap = H → ∀ w ∈ Bundle.ownAtoms own ic cls names, w.before args s' = true) (hsize : ls.size = c.maxLocals)
    (d0 : decode cc pc = .ok (.new ik, 3)) (d3 : decode cc (pc + 3) = .ok (.dup, 1)) (d4 : decode cc (pc + 4) = .ok (.ldc is, 2)) (d6 : decode cc (pc + 6) = .ok (.invokespecial ic, 3)) (d9 : decode cc (pc + 9) = .ok (.athrow, 1))
    (hout : ∀ x ∈ c.exceptionTable.toList, covers x (pc + 9) = false)
    (hRframes : names.length + 3 < R.frames) (hRlocals : (rest.map fun v => v.category).sum + (13 * (names.length + 1) + 43) ≤ R.locals) (hRcells : cells + 1 ≤ R.cells) (hRslots : slots + 6 ≤ R.slots) (hlocks : meth.locks = false)
    (hx : ∀ t : State, s.vm.Alike t.vm → H.size ≤ t.heap.size → (∀ q : Nat, q < H.size → t.heap[q]? = H[q]?) → XC s t)
    (hf : ∀ z ∈ locs, free z.base) (hc : cells + 1 ≤ mc) (hs : slots + 6 ≤ ms) :
    W p l e R s m args below meth c H locs cells slots (xMQ below cls XC args s mc ms free) (F0 m pc ls rest) := by
  intro T hT X
  have htr : e.platform.stackTraces = false := (show e.platform.stackTraces = l.stackTraces by rw [X.admits.platform]).trans hl
  have Y := x_here X (R' := { frames := R.frames, locals := R.locals, cells := 1, slots := 6 }) (Nat.le_refl _) (Nat.le_refl _) hRcells hRslots
  obtain ⟨s', hA⟩ : ∃ z, z = (T.setVm s.vm).setFrames (.invoking m args :: below) := ⟨_, rfl⟩
  rw [← hA] at Y
  have hvm : s'.vm = s.vm := by rw [hA]; rfl
  have hhp : s'.heap = H := by rw [hA]; exact hT
  have hW0 : s.WarmedH s'.vm := by rw [hvm]; exact State.WarmedH.refl s
  have hk' : (Cond.classLink own ik cls).before args s' = true := va_tabs rfl hvm.symm hk
  have hini' : (Cond.initialized cls).before args s' = true := va_tabs rfl hvm.symm hini
  have h := hat s' hvm hhp
  have hown' : s'.vm.findClass own = some m.cls := by rw [hvm]; exact hown
  have hins : (Cond.instantiable cls 6).before args s' = true := h _ (by simp [Bundle.ownAtoms])
  obtain ⟨vm₁, cX, kX, hfX, hkX, -, -, X₁, st1⟩ := Y.newCold hexec (own := own) (C := cls) (index := ik) (n := 6) hown' hk' hins hini'
    (g := F0 m pc ls rest) rfl (by rw [hb]; exact d0) (Nat.le_refl _) (Nat.le_refl _)
  generalize hT1 : (T.setVm vm₁).pushCell { cls := cX, slots := kX.instanceTypes.map defaultValue, vm := .none } = T1 at X₁ st1
  have hcat : (Value.ref T.heap.size).category = 1 := rfl
  have hcellA : T1.heap[T.heap.size]? = some (freshCell cX kX) := by rw [← hT1]; exact State.heap_pushCell_size _ _
  have d3' : decode c.code (pc + 3) = .ok (.dup, 1) := by rw [hb]; exact d3
  have d4' : decode c.code (pc + 4) = .ok (.ldc is, 2) := by rw [hb]; exact d4
  have hstr' : vk_R own is text sa s' := vk_R.warm hW0 hstr
  obtain ⟨U, hsteps, hrun, hend, hW, hsame, ce, hce, hO⟩ := X₁.ctorThrowS hexec htr (own := own) (cls := cls) (names := names) (ic := ic) hown' hcls hnames h (fun x hx => nomatch hx) hfX hkX hcellA (by rw [hhp, hT]; exact Nat.le_refl _) (msg := .ref sa) rfl
    (g := { method := m, pc := pc + 6, locals := ls, stack := .ref sa :: .ref T.heap.size :: .ref T.heap.size :: rest, locked := none }) rfl hsize rfl rfl (rest := rest) rfl
    (by rw [hb]; exact d6) (by rw [hb]; exact d9) hout hRframes (by simp only [List.map_cons, List.sum_cons, hcat]; omega) hlocks
  obtain ⟨f1, f2⟩ := x_old hsame
  rw [hhp] at f1 f2
  have hWs : s.WarmedH U.vm := State.WarmedH.trans hW0 hW
  have hcl : s.vm.findClass cls = some ce.cls := by
    have h9 := hO.cls
    rw [hvm] at h9
    exact h9
  have hall : s.sameButNew ({ U with vm := s.vm } : State) locs mc ms := by
    subst hA
    obtain ⟨e1, e2⟩ := hsame
    rw [State.setFrames_setFrames] at e1
    have h2 : (T.setVm s.vm).sameButNew ({ U with vm := s.vm } : State) [] (0 + 1) (0 + 6) := ⟨e1, e2⟩
    have h3 := X.same.trans h2
    rw [List.append_nil] at h3
    exact h3.mono hc hs
  refine ⟨U, ?_, .threw T.heap.size, hrun, hend, T.heap.size, ce, locs, rfl, hx U hWs.alike f1 f2, hce, hO.vm, hcl, hWs, hall, hf⟩
  refine st1 _ ?_
  show Steps p.tables e below (T1.setTop { method := m, pc := pc + 3, locals := ls, stack := .ref T.heap.size :: rest, locked := none }) _
  jvm_step X₁.here [X₁.here.top, hexec, d3', Value.category]
  exact X₁.ldcString hexec (own := own) (text := text) (index := is) (a := sa) hown' hstr'.1 hstr'.2
    (g := { method := m, pc := pc + 4, locals := ls, stack := .ref T.heap.size :: .ref T.heap.size :: rest, locked := none }) rfl d4' _ hsteps
end XTHROW
end
section
/-! THE START, seen from later: s0 is the law's entry; what lay there lies there still, and the tables have only been warmed -/
def xB (s0 U : State) : Prop := s0.WarmedH U.vm ∧ s0.heap.size ≤ U.heap.size ∧ ∀ q : Nat, q < s0.heap.size → U.heap[q]? = s0.heap[q]?
theorem xB.rf (s : State) : xB s s := ⟨State.WarmedH.refl s, Nat.le_refl _, fun _ _ => rfl⟩
/-- from a method's entry to a later heap of its walk -/
theorem xB.later {s0 s U : State} {A : Nat → Prop} {locs : List Loc} (h : xB s0 s) (hA : ∀ q, A q → s0.heap.size ≤ q) (hS : va_S A s.heap U.heap locs) (hW : s.WarmedH U.vm) : xB s0 U :=
  ⟨State.WarmedH.trans h.1 hW, Nat.le_trans h.2.1 hS.1, fun q hq => (hS.2.1 q (Nat.lt_of_lt_of_le hq h.2.1) (fun z => absurd (hA q z) (by omega))).trans (h.2.2 q hq)⟩
theorem xB.blind {s0 U : State} {g : JFrame} {mk : MethodId} {a : Array Value} (h : xB s0 U) : xB s0 (U.calling g mk a) := h
theorem xB.static {s0 U : State} {a0 a : Array Value} {C n d : String} (hl : (Cond.laysStatic C n d).before a0 s0 = true) (hr : (Cond.isRef (.static C n d)).before a0 s0 = true) (hB : xB s0 U) : (Cond.laysStatic C n d).before a U = true ∧ (Cond.isRef (.static C n d)).before a U = true := by
  obtain ⟨c, k, i, f, x, cell, h1, h2, h3, h4, h5, h6, h7, h8, h9⟩ := Cond.laysStatic_spec hl
  obtain ⟨k', hi', he⟩ := State.fieldFound?_setVm hB.1.alike h2
  have hi' : U.fieldFound? C n d = some (c, k', i, f) := hi'
  have hx : U.heap[x]? = some cell := by rw [hB.2.2 x (Array.getElem?_eq_some_iff.mp h5).1]; exact h5
  have hst : k'.statics = some x := by rw [he]; exact h4
  have hf2 : U.vm.findClass C = some c := by rw [hB.1.alike.findClass]; exact h1
  refine ⟨?_, ?_⟩
  · show (Cond.laysStatic C n d).holds a U none U [] = true
    exact Cond.laysStatic_of hf2 hi' h3 hst hx h6 h7 h8 (by rw [he]; exact h9)
  · have e0 : (Term.static C n d).eval a0 s0 none [] s0 = cell.slots[f.slot]? := by
      simp [Term.eval, State.fieldNamed?, h2, h3, h4, h5, h6]
    have e1 : (Term.static C n d).eval a U none [] U = cell.slots[f.slot]? := by
      simp [Term.eval, State.fieldNamed?, hi', h3, hst, hx, h6]
    simp only [Cond.before, Cond.holds, Cond.value, e0] at hr
    simp only [Cond.before, Cond.holds, Cond.value, e1]
    exact hr
theorem xB.castable {s0 U : State} {a0 a : Array Value} {C D : String} (h : (Cond.castable C D).before a0 s0 = true) (hB : xB s0 U) : (Cond.castable C D).before a U = true := by
  have h1 : va_Nw (.castable C D) s0 := va_Nw.of rfl h
  exact va_Nw.use rfl (va_Nw.warmC hB.1 h1)
theorem xB.good {s0 U : State} {a0 a : Array Value} {w : Cond} (hg : goodWord w = true) (h : w.before a0 s0 = true) (hB : xB s0 U) : w.before a U = true := word_at hB.1 (good_of_word hg) h
def xk : Cond → Bool
  | .castable _ _ => true
  | w => goodWord w || decide (w = .isRef (.static Bundle.tN "UNASSIGNED_STACK" Bundle.steD)) || decide (w = .isRef (.static Bundle.tN "SUPPRESSED_SENTINEL" Bundle.listD)) || decide (w = .laysStatic Bundle.tN "UNASSIGNED_STACK" Bundle.steD) || decide (w = .laysStatic Bundle.tN "SUPPRESSED_SENTINEL" Bundle.listD)
/-- the words of a throw, later -/
theorem x_own {s0 U : State} {a0 a : Array Value} {L : List Cond} (hk : L.all xk = true) (h : ∀ w ∈ L, w.before a0 s0 = true)
    (hU : (Cond.isRef (.static Bundle.tN "UNASSIGNED_STACK" Bundle.steD)).before a0 s0 = true) (hN : (Cond.isRef (.static Bundle.tN "SUPPRESSED_SENTINEL" Bundle.listD)).before a0 s0 = true)
    (lU : (Cond.laysStatic Bundle.tN "UNASSIGNED_STACK" Bundle.steD).before a0 s0 = true) (lN : (Cond.laysStatic Bundle.tN "SUPPRESSED_SENTINEL" Bundle.listD).before a0 s0 = true) (hB : xB s0 U) : ∀ w ∈ L, w.before a U = true := by
  intro w hw
  have h1 := List.all_eq_true.mp hk w hw
  have key : goodWord w = true ∨ (∃ C D, w = .castable C D) ∨ w = .isRef (.static Bundle.tN "UNASSIGNED_STACK" Bundle.steD) ∨ w = .isRef (.static Bundle.tN "SUPPRESSED_SENTINEL" Bundle.listD) ∨ w = .laysStatic Bundle.tN "UNASSIGNED_STACK" Bundle.steD ∨ w = .laysStatic Bundle.tN "SUPPRESSED_SENTINEL" Bundle.listD := by
    unfold xk at h1
    split at h1
    · exact Or.inr (Or.inl ⟨_, _, rfl⟩)
    · simp only [Bool.or_eq_true, decide_eq_true_eq] at h1
      rcases h1 with (((h1 | h1) | h1) | h1) | h1
      · exact Or.inl h1
      · exact Or.inr (Or.inr (Or.inl h1))
      · exact Or.inr (Or.inr (Or.inr (Or.inl h1)))
      · exact Or.inr (Or.inr (Or.inr (Or.inr (Or.inl h1))))
      · exact Or.inr (Or.inr (Or.inr (Or.inr (Or.inr h1))))
  rcases key with k | ⟨C, D, rfl⟩ | rfl | rfl | rfl | rfl
  · exact xB.good k (h w hw) hB
  · exact xB.castable (h _ hw) hB
  · exact (xB.static lU hU hB).2
  · exact (xB.static lN hN hB).2
  · exact (xB.static lU hU hB).1
  · exact (xB.static lN hN hB).1
end
