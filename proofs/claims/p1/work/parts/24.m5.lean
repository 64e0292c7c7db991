def R_St : String := "java/lang/String"
def R_L1 : String := "java/lang/StringLatin1"
abbrev b_St_ix1 : ByteArray := prog_22_method_79_code
def y_St_ix1 : MethodName := ⟨R_St, "indexOf", "(I)I"⟩
theorem kc_St_ix1 : Cond.code y_St_ix1 b_St_ix1 2 (some .int) ∈ lw_g := lw_in (List.mem_append_right _ (List.mem_of_getElem? (i := 438) (by decide +kernel))) rfl
theorem ki_St_ix1 : Cond.instanceMethod y_St_ix1 ∈ lw_g := lw_in (List.mem_append_right _ (List.mem_of_getElem? (i := 436) (by decide +kernel))) rfl
theorem ke_St_ix1 : Cond.selects R_St y_St_ix1 y_St_ix1 ∈ lw_g := lw_in (List.mem_append_right _ (List.mem_of_getElem? (i := 437) (by decide +kernel))) rfl
theorem d_St_ix1_0 : decode b_St_ix1 0 = .ok (.aload_n 0, 1) := by decide +kernel
theorem d_St_ix1_1 : decode b_St_ix1 1 = .ok (.iload_n 1, 1) := by decide +kernel
theorem d_St_ix1_2 : decode b_St_ix1 2 = .ok (.iconst 0, 1) := by decide +kernel
theorem d_St_ix1_3 : decode b_St_ix1 3 = .ok (.invokevirtual 633, 3) := by decide +kernel
theorem d_St_ix1_6 : decode b_St_ix1 6 = .ok (.ireturn, 1) := by decide +kernel
abbrev b_St_ix2 : ByteArray := prog_22_method_80_code
def y_St_ix2 : MethodName := ⟨R_St, "indexOf", "(II)I"⟩
theorem kc_St_ix2 : Cond.code y_St_ix2 b_St_ix2 3 (some .int) ∈ lw_g := lw_in (List.mem_append_right _ (List.mem_of_getElem? (i := 442) (by decide +kernel))) rfl
theorem ki_St_ix2 : Cond.instanceMethod y_St_ix2 ∈ lw_g := lw_in (List.mem_append_right _ (List.mem_of_getElem? (i := 440) (by decide +kernel))) rfl
theorem ke_St_ix2 : Cond.selects R_St y_St_ix2 y_St_ix2 ∈ lw_g := lw_in (List.mem_append_right _ (List.mem_of_getElem? (i := 441) (by decide +kernel))) rfl
theorem d_St_ix2_0 : decode b_St_ix2 0 = .ok (.aload_n 0, 1) := by decide +kernel
theorem d_St_ix2_1 : decode b_St_ix2 1 = .ok (.invokevirtual 492, 3) := by decide +kernel
theorem d_St_ix2_4 : decode b_St_ix2 4 = .ok (.ifCond .eq 19, 3) := by decide +kernel
theorem d_St_ix2_7 : decode b_St_ix2 7 = .ok (.aload_n 0, 1) := by decide +kernel
theorem d_St_ix2_8 : decode b_St_ix2 8 = .ok (.getfield 9, 3) := by decide +kernel
theorem d_St_ix2_11 : decode b_St_ix2 11 = .ok (.iload_n 1, 1) := by decide +kernel
theorem d_St_ix2_12 : decode b_St_ix2 12 = .ok (.iload_n 2, 1) := by decide +kernel
theorem d_St_ix2_13 : decode b_St_ix2 13 = .ok (.aload_n 0, 1) := by decide +kernel
theorem d_St_ix2_14 : decode b_St_ix2 14 = .ok (.invokevirtual 505, 3) := by decide +kernel
theorem d_St_ix2_17 : decode b_St_ix2 17 = .ok (.invokestatic 637, 3) := by decide +kernel
theorem d_St_ix2_20 : decode b_St_ix2 20 = .ok (.goto 16, 3) := by decide +kernel
theorem d_St_ix2_23 : decode b_St_ix2 23 = .ok (.aload_n 0, 1) := by decide +kernel
theorem d_St_ix2_24 : decode b_St_ix2 24 = .ok (.getfield 9, 3) := by decide +kernel
theorem d_St_ix2_27 : decode b_St_ix2 27 = .ok (.iload_n 1, 1) := by decide +kernel
theorem d_St_ix2_28 : decode b_St_ix2 28 = .ok (.iload_n 2, 1) := by decide +kernel
theorem d_St_ix2_29 : decode b_St_ix2 29 = .ok (.aload_n 0, 1) := by decide +kernel
theorem d_St_ix2_30 : decode b_St_ix2 30 = .ok (.invokevirtual 505, 3) := by decide +kernel
theorem d_St_ix2_33 : decode b_St_ix2 33 = .ok (.invokestatic 640, 3) := by decide +kernel
theorem d_St_ix2_36 : decode b_St_ix2 36 = .ok (.ireturn, 1) := by decide +kernel
abbrev b_St_lat : ByteArray := prog_22_method_154_code
def y_St_lat : MethodName := ⟨R_St, "isLatin1", "()Z"⟩
theorem kc_St_lat : Cond.code y_St_lat b_St_lat 1 (some .boolean) ∈ lw_g := lw_in (List.mem_append_right _ (List.mem_of_getElem? (i := 446) (by decide +kernel))) rfl
theorem ki_St_lat : Cond.instanceMethod y_St_lat ∈ lw_g := lw_in (List.mem_append_right _ (List.mem_of_getElem? (i := 444) (by decide +kernel))) rfl
theorem ke_St_lat : Cond.selects R_St y_St_lat y_St_lat ∈ lw_g := lw_in (List.mem_append_right _ (List.mem_of_getElem? (i := 445) (by decide +kernel))) rfl
theorem d_St_lat_0 : decode b_St_lat 0 = .ok (.getstatic 38, 3) := by decide +kernel
theorem d_St_lat_3 : decode b_St_lat 3 = .ok (.ifCond .eq 14, 3) := by decide +kernel
theorem d_St_lat_6 : decode b_St_lat 6 = .ok (.aload_n 0, 1) := by decide +kernel
theorem d_St_lat_7 : decode b_St_lat 7 = .ok (.getfield 15, 3) := by decide +kernel
theorem d_St_lat_10 : decode b_St_lat 10 = .ok (.ifCond .ne 7, 3) := by decide +kernel
theorem d_St_lat_13 : decode b_St_lat 13 = .ok (.iconst 1, 1) := by decide +kernel
theorem d_St_lat_14 : decode b_St_lat 14 = .ok (.goto 4, 3) := by decide +kernel
theorem d_St_lat_17 : decode b_St_lat 17 = .ok (.iconst 0, 1) := by decide +kernel
theorem d_St_lat_18 : decode b_St_lat 18 = .ok (.ireturn, 1) := by decide +kernel
abbrev b_St_len : ByteArray := prog_22_method_54_code
def y_St_len : MethodName := ⟨R_St, "length", "()I"⟩
theorem kc_St_len : Cond.code y_St_len b_St_len 1 (some .int) ∈ lw_g := lw_in (List.mem_append_right _ (List.mem_of_getElem? (i := 451) (by decide +kernel))) rfl
theorem ki_St_len : Cond.instanceMethod y_St_len ∈ lw_g := lw_in (List.mem_append_right _ (List.mem_of_getElem? (i := 449) (by decide +kernel))) rfl
theorem ke_St_len : Cond.selects R_St y_St_len y_St_len ∈ lw_g := lw_in (List.mem_append_right _ (List.mem_of_getElem? (i := 450) (by decide +kernel))) rfl
theorem d_St_len_0 : decode b_St_len 0 = .ok (.aload_n 0, 1) := by decide +kernel
theorem d_St_len_1 : decode b_St_len 1 = .ok (.getfield 9, 3) := by decide +kernel
theorem d_St_len_4 : decode b_St_len 4 = .ok (.arraylength, 1) := by decide +kernel
theorem d_St_len_5 : decode b_St_len 5 = .ok (.aload_n 0, 1) := by decide +kernel
theorem d_St_len_6 : decode b_St_len 6 = .ok (.invokevirtual 335, 3) := by decide +kernel
theorem d_St_len_9 : decode b_St_len 9 = .ok (.ishr, 1) := by decide +kernel
theorem d_St_len_10 : decode b_St_len 10 = .ok (.ireturn, 1) := by decide +kernel
abbrev b_St_cod : ByteArray := prog_22_method_152_code
def y_St_cod : MethodName := ⟨R_St, "coder", "()B"⟩
theorem kc_St_cod : Cond.code y_St_cod b_St_cod 1 (some .byte) ∈ lw_g := lw_in (List.mem_append_right _ (List.mem_of_getElem? (i := 455) (by decide +kernel))) rfl
theorem ki_St_cod : Cond.instanceMethod y_St_cod ∈ lw_g := lw_in (List.mem_append_right _ (List.mem_of_getElem? (i := 453) (by decide +kernel))) rfl
theorem ke_St_cod : Cond.selects R_St y_St_cod y_St_cod ∈ lw_g := lw_in (List.mem_append_right _ (List.mem_of_getElem? (i := 454) (by decide +kernel))) rfl
theorem d_St_cod_0 : decode b_St_cod 0 = .ok (.getstatic 38, 3) := by decide +kernel
theorem d_St_cod_3 : decode b_St_cod 3 = .ok (.ifCond .eq 10, 3) := by decide +kernel
theorem d_St_cod_6 : decode b_St_cod 6 = .ok (.aload_n 0, 1) := by decide +kernel
theorem d_St_cod_7 : decode b_St_cod 7 = .ok (.getfield 15, 3) := by decide +kernel
theorem d_St_cod_10 : decode b_St_cod 10 = .ok (.goto 4, 3) := by decide +kernel
theorem d_St_cod_13 : decode b_St_cod 13 = .ok (.iconst 1, 1) := by decide +kernel
theorem d_St_cod_14 : decode b_St_cod 14 = .ok (.ireturn, 1) := by decide +kernel
abbrev b_L1_ix : ByteArray := prog_24_method_22_code
def y_L1_ix : MethodName := ⟨R_L1, "indexOf", "([BIII)I"⟩
theorem kc_L1_ix : Cond.code y_L1_ix b_L1_ix 4 (some .int) ∈ lw_g := lw_in (List.mem_append_right _ (List.mem_of_getElem? (i := 458) (by decide +kernel))) rfl
theorem ks_L1_ix : Cond.static y_L1_ix ∈ lw_g := lw_in (List.mem_append_right _ (List.mem_of_getElem? (i := 457) (by decide +kernel))) rfl
theorem d_L1_ix_0 : decode b_L1_ix 0 = .ok (.iload_n 1, 1) := by decide +kernel
theorem d_L1_ix_1 : decode b_L1_ix 1 = .ok (.invokestatic 88, 3) := by decide +kernel
theorem d_L1_ix_4 : decode b_L1_ix 4 = .ok (.ifCond .ne 5, 3) := by decide +kernel
theorem d_L1_ix_7 : decode b_L1_ix 7 = .ok (.iconst (-1), 1) := by decide +kernel
theorem d_L1_ix_8 : decode b_L1_ix 8 = .ok (.ireturn, 1) := by decide +kernel
theorem d_L1_ix_9 : decode b_L1_ix 9 = .ok (.iload_n 2, 1) := by decide +kernel
theorem d_L1_ix_10 : decode b_L1_ix 10 = .ok (.iconst 0, 1) := by decide +kernel
theorem d_L1_ix_11 : decode b_L1_ix 11 = .ok (.invokestatic 92, 3) := by decide +kernel
theorem d_L1_ix_14 : decode b_L1_ix 14 = .ok (.istore_n 2, 1) := by decide +kernel
theorem d_L1_ix_15 : decode b_L1_ix 15 = .ok (.iload_n 3, 1) := by decide +kernel
theorem d_L1_ix_16 : decode b_L1_ix 16 = .ok (.aload_n 0, 1) := by decide +kernel
theorem d_L1_ix_17 : decode b_L1_ix 17 = .ok (.arraylength, 1) := by decide +kernel
theorem d_L1_ix_18 : decode b_L1_ix 18 = .ok (.invokestatic 38, 3) := by decide +kernel
theorem d_L1_ix_21 : decode b_L1_ix 21 = .ok (.istore_n 3, 1) := by decide +kernel
theorem d_L1_ix_22 : decode b_L1_ix 22 = .ok (.iload_n 2, 1) := by decide +kernel
theorem d_L1_ix_23 : decode b_L1_ix 23 = .ok (.iload_n 3, 1) := by decide +kernel
theorem d_L1_ix_24 : decode b_L1_ix 24 = .ok (.if_icmp .lt 5, 3) := by decide +kernel
theorem d_L1_ix_27 : decode b_L1_ix 27 = .ok (.iconst (-1), 1) := by decide +kernel
theorem d_L1_ix_28 : decode b_L1_ix 28 = .ok (.ireturn, 1) := by decide +kernel
theorem d_L1_ix_29 : decode b_L1_ix 29 = .ok (.aload_n 0, 1) := by decide +kernel
theorem d_L1_ix_30 : decode b_L1_ix 30 = .ok (.iload_n 1, 1) := by decide +kernel
theorem d_L1_ix_31 : decode b_L1_ix 31 = .ok (.iload_n 2, 1) := by decide +kernel
theorem d_L1_ix_32 : decode b_L1_ix 32 = .ok (.iload_n 3, 1) := by decide +kernel
theorem d_L1_ix_33 : decode b_L1_ix 33 = .ok (.invokestatic 95, 3) := by decide +kernel
theorem d_L1_ix_36 : decode b_L1_ix 36 = .ok (.ireturn, 1) := by decide +kernel
abbrev b_L1_can : ByteArray := prog_24_method_4_code
def y_L1_can : MethodName := ⟨R_L1, "canEncode", "(I)Z"⟩
theorem kc_L1_can : Cond.code y_L1_can b_L1_can 1 (some .boolean) ∈ lw_g := lw_in (List.mem_append_right _ (List.mem_of_getElem? (i := 461) (by decide +kernel))) rfl
theorem ks_L1_can : Cond.static y_L1_can ∈ lw_g := lw_in (List.mem_append_right _ (List.mem_of_getElem? (i := 460) (by decide +kernel))) rfl
theorem d_L1_can_0 : decode b_L1_can 0 = .ok (.iload_n 0, 1) := by decide +kernel
theorem d_L1_can_1 : decode b_L1_can 1 = .ok (.ifCond .lt 14, 3) := by decide +kernel
theorem d_L1_can_4 : decode b_L1_can 4 = .ok (.iload_n 0, 1) := by decide +kernel
theorem d_L1_can_5 : decode b_L1_can 5 = .ok (.sipush 255, 3) := by decide +kernel
theorem d_L1_can_8 : decode b_L1_can 8 = .ok (.if_icmp .gt 7, 3) := by decide +kernel
theorem d_L1_can_11 : decode b_L1_can 11 = .ok (.iconst 1, 1) := by decide +kernel
theorem d_L1_can_12 : decode b_L1_can 12 = .ok (.goto 4, 3) := by decide +kernel
theorem d_L1_can_15 : decode b_L1_can 15 = .ok (.iconst 0, 1) := by decide +kernel
theorem d_L1_can_16 : decode b_L1_can 16 = .ok (.ireturn, 1) := by decide +kernel
abbrev b_L1_ixc : ByteArray := prog_24_method_23_code
def y_L1_ixc : MethodName := ⟨R_L1, "indexOfChar", "([BIII)I"⟩
theorem kc_L1_ixc : Cond.code y_L1_ixc b_L1_ixc 6 (some .int) ∈ lw_g := lw_in (List.mem_append_right _ (List.mem_of_getElem? (i := 470) (by decide +kernel))) rfl
theorem ks_L1_ixc : Cond.static y_L1_ixc ∈ lw_g := lw_in (List.mem_append_right _ (List.mem_of_getElem? (i := 469) (by decide +kernel))) rfl
theorem d_L1_ixc_0 : decode b_L1_ixc 0 = .ok (.iload_n 1, 1) := by decide +kernel
theorem d_L1_ixc_1 : decode b_L1_ixc 1 = .ok (.i2b, 1) := by decide +kernel
theorem d_L1_ixc_2 : decode b_L1_ixc 2 = .ok (.istore 4, 2) := by decide +kernel
theorem d_L1_ixc_4 : decode b_L1_ixc 4 = .ok (.iload_n 2, 1) := by decide +kernel
theorem d_L1_ixc_5 : decode b_L1_ixc 5 = .ok (.istore 5, 2) := by decide +kernel
theorem d_L1_ixc_7 : decode b_L1_ixc 7 = .ok (.iload 5, 2) := by decide +kernel
theorem d_L1_ixc_9 : decode b_L1_ixc 9 = .ok (.iload_n 3, 1) := by decide +kernel
theorem d_L1_ixc_10 : decode b_L1_ixc 10 = .ok (.if_icmp .ge 21, 3) := by decide +kernel
theorem d_L1_ixc_13 : decode b_L1_ixc 13 = .ok (.aload_n 0, 1) := by decide +kernel
theorem d_L1_ixc_14 : decode b_L1_ixc 14 = .ok (.iload 5, 2) := by decide +kernel
theorem d_L1_ixc_16 : decode b_L1_ixc 16 = .ok (.baload, 1) := by decide +kernel
theorem d_L1_ixc_17 : decode b_L1_ixc 17 = .ok (.iload 4, 2) := by decide +kernel
theorem d_L1_ixc_19 : decode b_L1_ixc 19 = .ok (.if_icmp .ne 6, 3) := by decide +kernel
theorem d_L1_ixc_22 : decode b_L1_ixc 22 = .ok (.iload 5, 2) := by decide +kernel
theorem d_L1_ixc_24 : decode b_L1_ixc 24 = .ok (.ireturn, 1) := by decide +kernel
theorem d_L1_ixc_25 : decode b_L1_ixc 25 = .ok (.iinc 5 1, 3) := by decide +kernel
theorem d_L1_ixc_28 : decode b_L1_ixc 28 = .ok (.goto (-21), 3) := by decide +kernel
theorem d_L1_ixc_31 : decode b_L1_ixc 31 = .ok (.iconst (-1), 1) := by decide +kernel
theorem d_L1_ixc_32 : decode b_L1_ixc 32 = .ok (.ireturn, 1) := by decide +kernel
theorem k_St_ini : Cond.initialized R_St ∈ lw_g := lw_in (List.mem_append_right _ (List.mem_of_getElem? (i := 7) (by decide +kernel))) rfl
theorem k_L1_ini : Cond.initialized R_L1 ∈ lw_g := lw_in (List.mem_append_right _ (List.mem_of_getElem? (i := 18) (by decide +kernel))) rfl
theorem k_St_f38 : Cond.fieldLink R_St 38 "java/lang/String" "COMPACT_STRINGS" "Z" ∈ lw_g := lw_in (List.mem_append_right _ (List.mem_of_getElem? (i := 447) (by decide +kernel))) rfl
theorem k_St_f15 : Cond.fieldLink R_St 15 "java/lang/String" "coder" "B" ∈ lw_g := lw_in (List.mem_append_right _ (List.mem_of_getElem? (i := 881) (by decide +kernel))) rfl
theorem k_St_f9 : Cond.fieldLink R_St 9 "java/lang/String" "value" "[B" ∈ lw_g := lw_in (List.mem_append_right _ (List.mem_of_getElem? (i := 880) (by decide +kernel))) rfl
theorem k_St_m633 : Cond.methodLink R_St 633 y_St_ix2 ∈ lw_g := lw_in (List.mem_append_right _ (List.mem_of_getElem? (i := 439) (by decide +kernel))) rfl
theorem k_St_m492 : Cond.methodLink R_St 492 y_St_lat ∈ lw_g := lw_in (List.mem_append_right _ (List.mem_of_getElem? (i := 443) (by decide +kernel))) rfl
theorem k_St_m505 : Cond.methodLink R_St 505 y_St_len ∈ lw_g := lw_in (List.mem_append_right _ (List.mem_of_getElem? (i := 448) (by decide +kernel))) rfl
theorem k_St_m335 : Cond.methodLink R_St 335 y_St_cod ∈ lw_g := lw_in (List.mem_append_right _ (List.mem_of_getElem? (i := 452) (by decide +kernel))) rfl
theorem k_St_m637 : Cond.methodLink R_St 637 y_L1_ix ∈ lw_g := lw_in (List.mem_append_right _ (List.mem_of_getElem? (i := 456) (by decide +kernel))) rfl
theorem k_L1_m88 : Cond.methodLink R_L1 88 y_L1_can ∈ lw_g := lw_in (List.mem_append_right _ (List.mem_of_getElem? (i := 459) (by decide +kernel))) rfl
theorem k_L1_m95 : Cond.methodLink R_L1 95 y_L1_ixc ∈ lw_g := lw_in (List.mem_append_right _ (List.mem_of_getElem? (i := 468) (by decide +kernel))) rfl
theorem k_L1_m92 : Cond.methodLink R_L1 92 Lib.Math.max.name ∈ lw_g := lw_in (List.mem_append_right _ (List.mem_of_getElem? (i := 462) (by decide +kernel))) rfl
theorem ks_Ma_max : Cond.static Lib.Math.max.name ∈ lw_g := lw_in (List.mem_append_right _ (List.mem_of_getElem? (i := 463) (by decide +kernel))) rfl
theorem kc_Ma_max : Cond.code Lib.Math.max.name Lib.Math.max.code 2 (some .int) ∈ lw_g := lw_in (List.mem_append_right _ (List.mem_of_getElem? (i := 464) (by decide +kernel))) rfl
theorem k_L1_m38 : Cond.methodLink R_L1 38 Lib.Math.min.name ∈ lw_g := lw_in (List.mem_append_right _ (List.mem_of_getElem? (i := 465) (by decide +kernel))) rfl
theorem ks_Ma_min : Cond.static Lib.Math.min.name ∈ lw_g := lw_in (List.mem_append_right _ (List.mem_of_getElem? (i := 466) (by decide +kernel))) rfl
theorem kc_Ma_min : Cond.code Lib.Math.min.name Lib.Math.min.code 2 (some .int) ∈ lw_g := lw_in (List.mem_append_right _ (List.mem_of_getElem? (i := 467) (by decide +kernel))) rfl
theorem k_Ma_ini : Cond.initialized "java/lang/Math" ∈ lw_g := lw_in (List.mem_append_right _ (List.mem_of_getElem? (i := 19) (by decide +kernel))) rfl
theorem k_Reader_m65s : Cond.methodLink R_Reader 65 y_St_ix1 ∈ lw_g := lw_in (List.mem_append_right _ (List.mem_of_getElem? (i := 435) (by decide +kernel))) rfl
def stab (Wd : State → Prop) : Prop := ∀ U U2 : State, U2.heap = U.heap → U.vm.Alike U2.vm → Wd U → Wd U2
theorem lw_with {args : Array Value} {s : State} {c0 : Cond} (hgt : ∀ w ∈ lw_g, w.before args s = true) (hcode : c0 ∈ lw_g) : ∀ w ∈ (c0 :: lw_g), w.before args s = true := fun w h => by
  rcases List.mem_cons.mp h with e | e
  · rw [e]; exact hgt _ hcode
  · exact hgt w e
section VRUN
variable {p : Program} {l : Launch} {e : Env} {R : Room} {s : State} {m : MethodId} {args : Array Value} {below : List Frame} {meth : Method} {c : Code} {H : Heap} {locs : List Loc} {cells slots : Nat} {cc : ByteArray} {pc : Nat} {ls : Array Slot} {rest : List Value} {y : MethodName} {bytes : ByteArray} {maxL idx n nL b mc ms : Nat} {own C : String} {ret : Option FieldType} {rm : Room} {Qc : Array Value → State → Outcome → State → Prop} {As : List Value} {free : Addr → Prop} {Wd : State → Prop}
theorem V_run (hx : p.tables.exec = Jvm.exec) (hb : c.code = cc) (hml : c.maxLocals = nL) (hgt : ∀ w ∈ lw_g, w.before args s = true) (hown : s.vm.findClass own = some m.cls) (hst : stab Wd) (hrec : ∃ cellB : Cell, H[b]? = some cellB ∧ cellB.vm.isStatics = false ∧ s.vm.findClass C = some cellB.cls) (hWd : ∀ U : State, U.heap = H → s.WarmedH U.vm → Wd U)
    (hC : Met l y (.code y bytes maxL ret :: lw_g) rm (va_Pc (.ref b :: As) Wd) Qc mc ms free) (hcode : Cond.code y bytes maxL ret ∈ lw_g) (hlink : Cond.methodLink own idx y ∈ lw_g) (hins : Cond.instanceMethod y ∈ lw_g) (hsel : Cond.selects C y y ∈ lw_g) (hini : Cond.initialized y.cls ∈ lw_g) (hrc : rm.cells = mc) (hrs : rm.slots = ms) (hd : y.cls ≠ "java/lang/invoke/MethodHandle" ∧ y.cls ≠ "java/lang/invoke/VarHandle" ∧ (parseMethodDescriptor y.desc).map (fun d => d.parameters.length) = some n) (hR : rm.frames + 1 ≤ R.frames ∧ 8 + (maxL + 11) + rm.locals ≤ R.locals) (hn : As.length = n) (hsize : ls.size = nL) {st : List Value} (hstk : st = As.reverse ++ .ref b :: rest) (hW : 2 * (F0 m pc ls st).monitorRoom + (rest.map fun v => v.category).sum ≤ 8) (hdg : decode cc pc = .ok (.invokevirtual idx, 3)) (hf : cells + mc ≤ R.cells ∧ slots + ms ≤ R.slots) :
    va_Run p l e R s m args below meth c H locs cells slots mc ms (F0 m pc ls st) rest (Qc (Value.ref b :: As).toArray) free :=
  va_runV (Ts := .code y bytes maxL ret :: lw_g) (own := own) (C := C) (nL := nL) (bytes := bytes) (maxL := maxL) (ret := ret) (n := n) ⟨hx, hb, hml, hown, lw_with hgt hcode⟩ hC ⟨callB_of n (Ts := .code y bytes maxL ret :: lw_g) (lw_with hgt hcode) (lw_goodIn _ hcode) rfl hrc hrs (hgt _ hini) (hgt _ hlink) hd hR, hgt _ hins, hgt _ hsel⟩ ⟨fun a U g mk q => ⟨q.1, hst U _ rfl (Vm.Alike.refl U.vm) q.2⟩, hrec, fun U hU hW9 => ⟨rfl, hWd U hU hW9⟩⟩ rfl hn hsize hstk hW hdg hf
theorem V_runS (hx : p.tables.exec = Jvm.exec) (hb : c.code = cc) (hml : c.maxLocals = nL) (hgt : ∀ w ∈ lw_g, w.before args s = true) (hown : s.vm.findClass own = some m.cls) (hst : stab Wd) (hWd : ∀ U : State, U.heap = H → s.WarmedH U.vm → Wd U)
    (hC : Met l y (.code y bytes maxL ret :: lw_g) rm (va_Pc As Wd) Qc mc ms free) (hcode : Cond.code y bytes maxL ret ∈ lw_g) (hlink : Cond.methodLink own idx y ∈ lw_g) (hins : Cond.static y ∈ lw_g) (hini : Cond.initialized y.cls ∈ lw_g) (hrc : rm.cells = mc) (hrs : rm.slots = ms) (hd : y.cls ≠ "java/lang/invoke/MethodHandle" ∧ y.cls ≠ "java/lang/invoke/VarHandle" ∧ (parseMethodDescriptor y.desc).map (fun d => d.parameters.length) = some n) (hR : rm.frames + 1 ≤ R.frames ∧ 8 + (maxL + 11) + rm.locals ≤ R.locals) (hn : As.length = n) (hsize : ls.size = nL) {st : List Value} (hstk : st = As.reverse ++ rest) (hW : 2 * (F0 m pc ls st).monitorRoom + (rest.map fun v => v.category).sum ≤ 8) (hdg : decode cc pc = .ok (.invokestatic idx, 3)) (hf : cells + mc ≤ R.cells ∧ slots + ms ≤ R.slots) :
    va_Run p l e R s m args below meth c H locs cells slots mc ms (F0 m pc ls st) rest (Qc As.toArray) free :=
  va_runS (Ts := .code y bytes maxL ret :: lw_g) (own := own) (nL := nL) (bytes := bytes) (maxL := maxL) (ret := ret) (n := n) ⟨hx, hb, hml, hown, lw_with hgt hcode⟩ hC ⟨callB_of n (Ts := .code y bytes maxL ret :: lw_g) (lw_with hgt hcode) (lw_goodIn _ hcode) rfl hrc hrs (hgt _ hini) (hgt _ hlink) hd hR, hgt _ hins⟩ ⟨fun a U g mk q => ⟨q.1, hst U _ rfl (Vm.Alike.refl U.vm) q.2⟩, fun U hU hW9 => ⟨rfl, hWd U hU hW9⟩⟩ rfl hn hsize hstk hW hdg hf
end VRUN
abbrev noA : Nat → Prop := fun _ => False
def fsB : List Int32 := [43, 45, 42, 47, 60, 61, 58, 65, 68, 80, 94, 63, 38, 33, 64, 37, 92]
def byW (v : Nat) (U : State) : Prop := va_T .byte v 17 (fun j => .int (fsB.getD j 0)) noA U U.heap
def strW (q v : Nat) (U : State) : Prop := va_Z "java/lang/String" "COMPACT_STRINGS" "Z" (.int 1) noA U U.heap ∧ va_O "java/lang/String" q noA U U.heap ∧ va_OF "java/lang/String" "coder" "B" (.int 0) q noA U U.heap ∧ va_OF "java/lang/String" "value" "[B" (.ref v) q noA U U.heap ∧ byW v U
theorem byW.st (v : Nat) : stab (byW v) := fun U U2 hh hv h => by
  unfold byW
  rw [hh]; exact va_T.moved hv h
theorem strW.st (q v : Nat) : stab (strW q v) := fun U U2 hh hv h => by
  obtain ⟨h1, h2, h3, h4, h5⟩ := h
  unfold strW
  rw [hh]
  exact ⟨va_Z.moved hv h1, va_O.moved hv h2, va_OF.moved hv h3, va_OF.moved hv h4, byW.st v U U2 hh hv h5⟩
theorem strW.at {q v : Nat} {s U : State} (h : strW q v s) (hW : s.vm.Alike U.vm) (hk : ∀ a : Nat, a < s.heap.size → U.heap[a]? = s.heap[a]?) : strW q v U := by
  obtain ⟨h1, h2, h3, h4, h5⟩ := h
  exact ⟨(va_Z.moved hW h1).kept (fun a ha _ => hk a ha), (va_O.moved hW h2).kept (fun a ha _ => hk a ha), (va_OF.moved hW h3).kept (fun a ha _ => hk a ha), (va_OF.moved hW h4).kept (fun a ha _ => hk a ha), va_T.kept (va_T.moved hW h5) (fun a ha _ => hk a ha)⟩
theorem strW.rec {q v : Nat} {s : State} (h : strW q v s) {H : Heap} (hk : ∀ a : Nat, a < s.heap.size → H[a]? = s.heap[a]?) : ∃ cellB : Cell, H[q]? = some cellB ∧ cellB.vm.isStatics = false ∧ s.vm.findClass "java/lang/String" = some cellB.cls := by
  obtain ⟨cell, h1, h2, h3, -⟩ := h.2.1.kept (fun a ha _ => hk a ha)
  exact ⟨cell, h1, h2, h3⟩
theorem fs_i2b : ∀ sg, sg < 128 → (nI sg).toInt8.toInt32 = nI sg := by decide +kernel
theorem fs_no : ∀ sg, sg < 128 → (∀ j, j < 17 → fsB.getD j 0 ≠ nI sg) → md_arN (nI sg) = 0 := by decide +kernel
theorem fs_yes : ∀ sg, sg < 128 → ∀ j, j < 17 → fsB.getD j 0 = nI sg → md_arN (nI sg) ≠ 0 ∧ sg ∈ formK ∧ sg ≠ 40 := by decide +kernel
set_option maxHeartbeats 4000000 in
set_option maxRecDepth 100000 in
theorem e_St_lat (l : Launch) (q v : Nat) :
    Met l y_St_lat (.code y_St_lat b_St_lat 1 (some .boolean) :: lw_g) ({ frames := 0, cells := 0, slots := 0, locals := 0 }) (va_Pc [.ref q] (strW q v)) (va_Qi (fun r (_ : Unit) => r = 1) (fun (_ : Unit) _ => True) noA) 0 0 noA := by
  refine Met.ofW (cc := b_St_lat) (maxL := 1) (ret := (some .boolean)) (by decide) rfl ?_
  intro p e s m args below meth c s₁ B hml hv
  obtain ⟨rfl, hU⟩ := hv
  have hx := B.exec
  have hb := B.bytes
  have hr := B.returns
  have hlocks := B.notSynchronized
  have hts := atoms_spec (ws := (.code y_St_lat b_St_lat 1 (some .boolean) :: lw_g)) B.pre
  have hgt : ∀ w ∈ lw_g, w.before _ s = true := fun w h => hts w (List.mem_cons_of_mem _ h)
  have hown : s.vm.findClass R_St = some m.cls := findClass_of_methodNamed B.named
  have hS : va_S noA s.heap s.heap [] := va_S.rf
  have hl := lv_entry ([.ref q]) (n := 1) (Nat.le_of_ble_eq_true rfl)
  rw [lg_entry_eq]
  generalize (lg_sl ([.ref q]) ++ List.replicate (1 - (lg_sl ([.ref q])).length) Slot.unset).toArray = ls at hl ⊢
  have hl : lv_has ls 1 [(0, .ref q)] := hl
  refine va_gets (v := .int 1) hx hb hU.1 hS hown (hgt _ k_St_f38) (fun _ h9 => h9) d_St_lat_0 ?_
  refine lv_if_eq (tgt := 17) hx hb d_St_lat_3 (by decide) (fun c_3 => absurd c_3 (by decide)) (fun c_3 => ?_)
  refine lv_aload_n hx hb d_St_lat_6 rfl (lv_at hl 0 rfl) ?_
  refine vk_getf (v := .int 0) hx hb hU.2.2.1 hS hown (hgt _ k_St_f15) (fun _ h9 => h9) d_St_lat_7 ?_
  refine lv_if_ne (tgt := 17) hx hb d_St_lat_10 (by decide) (fun c_10 => absurd rfl c_10) (fun c_10 => ?_)
  refine lv_iconst (v := 1) hx hb d_St_lat_13 (by decide) ?_
  refine lv_goto (tgt := 18) hx hb d_St_lat_14 (by decide) ?_
  exact W.zret (v := (1)) hx hb hr rfl (fun t ht _ => ⟨⟨_, (), rfl, rfl, trivial⟩, hS.F ht⟩) hS.2.2 d_St_lat_18
set_option maxHeartbeats 4000000 in
set_option maxRecDepth 100000 in
theorem e_St_cod (l : Launch) (q v : Nat) :
    Met l y_St_cod (.code y_St_cod b_St_cod 1 (some .byte) :: lw_g) ({ frames := 0, cells := 0, slots := 0, locals := 0 }) (va_Pc [.ref q] (strW q v)) (va_Qi (fun r (_ : Unit) => r = 0) (fun (_ : Unit) _ => True) noA) 0 0 noA := by
  refine Met.ofW (cc := b_St_cod) (maxL := 1) (ret := (some .byte)) (by decide) rfl ?_
  intro p e s m args below meth c s₁ B hml hv
  obtain ⟨rfl, hU⟩ := hv
  have hx := B.exec
  have hb := B.bytes
  have hr := B.returns
  have hlocks := B.notSynchronized
  have hts := atoms_spec (ws := (.code y_St_cod b_St_cod 1 (some .byte) :: lw_g)) B.pre
  have hgt : ∀ w ∈ lw_g, w.before _ s = true := fun w h => hts w (List.mem_cons_of_mem _ h)
  have hown : s.vm.findClass R_St = some m.cls := findClass_of_methodNamed B.named
  have hS : va_S noA s.heap s.heap [] := va_S.rf
  have hl := lv_entry ([.ref q]) (n := 1) (Nat.le_of_ble_eq_true rfl)
  rw [lg_entry_eq]
  generalize (lg_sl ([.ref q]) ++ List.replicate (1 - (lg_sl ([.ref q])).length) Slot.unset).toArray = ls at hl ⊢
  have hl : lv_has ls 1 [(0, .ref q)] := hl
  refine va_gets (v := .int 1) hx hb hU.1 hS hown (hgt _ k_St_f38) (fun _ h9 => h9) d_St_cod_0 ?_
  refine lv_if_eq (tgt := 13) hx hb d_St_cod_3 (by decide) (fun c_3 => absurd c_3 (by decide)) (fun c_3 => ?_)
  refine lv_aload_n hx hb d_St_cod_6 rfl (lv_at hl 0 rfl) ?_
  refine vk_getf (v := .int 0) hx hb hU.2.2.1 hS hown (hgt _ k_St_f15) (fun _ h9 => h9) d_St_cod_7 ?_
  refine lv_goto (tgt := 14) hx hb d_St_cod_10 (by decide) ?_
  exact W.zret (v := (0)) hx hb hr rfl (fun t ht _ => ⟨⟨_, (), rfl, rfl, trivial⟩, hS.F ht⟩) hS.2.2 d_St_cod_14
set_option maxHeartbeats 4000000 in
set_option maxRecDepth 100000 in
theorem e_St_len (l : Launch) (q v : Nat) :
    Met l y_St_len (.code y_St_len b_St_len 1 (some .int) :: lw_g) ({ frames := 1, cells := 0, slots := 0, locals := 20 }) (va_Pc [.ref q] (strW q v)) (va_Qi (fun r (_ : Unit) => r = 17) (fun (_ : Unit) _ => True) noA) 0 0 noA := by
  refine Met.ofW (cc := b_St_len) (maxL := 1) (ret := (some .int)) (by decide) rfl ?_
  intro p e s m args below meth c s₁ B hml hv
  obtain ⟨rfl, hU⟩ := hv
  have hx := B.exec
  have hb := B.bytes
  have hr := B.returns
  have hlocks := B.notSynchronized
  have hts := atoms_spec (ws := (.code y_St_len b_St_len 1 (some .int) :: lw_g)) B.pre
  have hgt : ∀ w ∈ lw_g, w.before _ s = true := fun w h => hts w (List.mem_cons_of_mem _ h)
  have hown : s.vm.findClass R_St = some m.cls := findClass_of_methodNamed B.named
  have hS : va_S noA s.heap s.heap [] := va_S.rf
  have hl := lv_entry ([.ref q]) (n := 1) (Nat.le_of_ble_eq_true rfl)
  rw [lg_entry_eq]
  generalize (lg_sl ([.ref q]) ++ List.replicate (1 - (lg_sl ([.ref q])).length) Slot.unset).toArray = ls at hl ⊢
  have hl : lv_has ls 1 [(0, .ref q)] := hl
  refine lv_aload_n hx hb d_St_len_0 rfl (lv_at hl 0 rfl) ?_
  refine vk_getf (v := .ref v) hx hb hU.2.2.2.1 hS hown (hgt _ k_St_f9) (fun _ h9 => h9) d_St_len_1 ?_
  refine va_tlen hx hb hU.2.2.2.2 hS (v := 17) rfl d_St_len_4 ?_
  refine lv_aload_n hx hb d_St_len_5 rfl (lv_at hl 0 rfl) ?_
  refine va_calli (V_run (As := []) (rest := [.int (17)]) (n := 0) hx hb hml hgt hown (strW.st _ _) (hU.rec (fun a ha => hS.2.1 a ha (fun z => z))) (fun U h1 h2 => hU.at h2.alike (fun a ha => (congrArg (fun Hh : Heap => Hh[a]?) h1).trans (hS.2.1 a ha (fun z => z)))) (e_St_cod l q v) kc_St_cod k_St_m335 ki_St_cod ke_St_cod k_St_ini rfl rfl (by decide +kernel) ⟨Nat.le_of_ble_eq_true rfl, Nat.le_of_ble_eq_true rfl⟩ rfl hl.1 rfl (lv_room (Nat.le_of_ble_eq_true rfl)) d_St_len_6 ⟨Nat.le_of_ble_eq_true rfl, Nat.le_of_ble_eq_true rfl⟩) hS (fun q _ h => h) (fun q h => h) (fun r S t H1 locs1 ht hvm hw hB hz hk hS => ?_)
  obtain rfl := hw
  refine lv_ishr hx hb d_St_len_9 ?_
  refine lv_as (v := 17) (by decide) ?_
  exact W.iret (v := (17)) hx hb hr (fun t ht _ => ⟨⟨_, (), rfl, rfl, trivial⟩, hS.F ht⟩) hS.2.2 d_St_len_10
set_option maxHeartbeats 4000000 in
set_option maxRecDepth 100000 in
theorem e_L1_can (l : Launch) (sg : Nat) (hsg : sg < 128) :
    Met l y_L1_can (.code y_L1_can b_L1_can 1 (some .boolean) :: lw_g) ({ frames := 0, cells := 0, slots := 0, locals := 0 }) (va_Pc [.int (nI sg)] (fun _ => True)) (va_Qi (fun r (_ : Unit) => r = 1) (fun (_ : Unit) _ => True) noA) 0 0 noA := by
  refine Met.ofW (cc := b_L1_can) (maxL := 1) (ret := (some .boolean)) (by decide) rfl ?_
  intro p e s m args below meth c s₁ B hml hv
  obtain ⟨rfl, -⟩ := hv
  have hx := B.exec
  have hb := B.bytes
  have hr := B.returns
  have hlocks := B.notSynchronized
  have hts := atoms_spec (ws := (.code y_L1_can b_L1_can 1 (some .boolean) :: lw_g)) B.pre
  have hgt : ∀ w ∈ lw_g, w.before _ s = true := fun w h => hts w (List.mem_cons_of_mem _ h)
  have hown : s.vm.findClass R_L1 = some m.cls := findClass_of_methodNamed B.named
  have hS : va_S noA s.heap s.heap [] := va_S.rf
  have hl := lv_entry ([.int (nI sg)]) (n := 1) (Nat.le_of_ble_eq_true rfl)
  rw [lg_entry_eq]
  generalize (lg_sl ([.int (nI sg)]) ++ List.replicate (1 - (lg_sl ([.int (nI sg)])).length) Slot.unset).toArray = ls at hl ⊢
  have hl : lv_has ls 1 [(0, .int (nI sg))] := hl
  refine lv_iload_n hx hb d_L1_can_0 rfl (lv_at hl 0 rfl) ?_
  refine lv_if_lt (tgt := 15) hx hb d_L1_can_1 (by decide) (fun c_1 => absurd c_1 (nI_pos (by omega))) (fun c_1 => ?_)
  refine lv_iload_n hx hb d_L1_can_4 rfl (lv_at hl 0 rfl) ?_
  refine lv_sipush (v := 255) hx hb d_L1_can_5 (by decide) ?_
  refine lv_icmp_gt (tgt := 15) hx hb d_L1_can_8 (by decide) (fun c_8 => absurd c_8 (nI_nlt (a := 255) (b := sg) (by omega) (by decide))) (fun c_8 => ?_)
  refine lv_iconst (v := 1) hx hb d_L1_can_11 (by decide) ?_
  refine lv_goto (tgt := 16) hx hb d_L1_can_12 (by decide) ?_
  exact W.zret (v := (1)) hx hb hr rfl (fun t ht _ => ⟨⟨_, (), rfl, rfl, trivial⟩, hS.F ht⟩) hS.2.2 d_L1_can_16
set_option maxHeartbeats 4000000 in
set_option maxRecDepth 100000 in
theorem e_L1_ixc (l : Launch) (v : Nat) (sg : Nat) (hsg : sg < 128) :
    Met l y_L1_ixc (.code y_L1_ixc b_L1_ixc 6 (some .int) :: lw_g) ({ frames := 0, cells := 0, slots := 0, locals := 0 }) (va_Pc [.ref v, .int (nI sg), .int (0), .int (17)] (byW v)) (va_Qi (fun r (_ : Unit) => (r = -1 ∧ ∀ j, j < 17 → fsB.getD j 0 ≠ nI sg) ∨ (¬ r < 0 ∧ ∃ j, j < 17 ∧ fsB.getD j 0 = nI sg)) (fun (_ : Unit) _ => True) noA) 0 0 noA := by
  refine Met.ofW (cc := b_L1_ixc) (maxL := 6) (ret := (some .int)) (by decide) rfl ?_
  intro p e s m args below meth c s₁ B hml hv
  obtain ⟨rfl, hU⟩ := hv
  have hx := B.exec
  have hb := B.bytes
  have hr := B.returns
  have hlocks := B.notSynchronized
  have hts := atoms_spec (ws := (.code y_L1_ixc b_L1_ixc 6 (some .int) :: lw_g)) B.pre
  have hgt : ∀ w ∈ lw_g, w.before _ s = true := fun w h => hts w (List.mem_cons_of_mem _ h)
  have hown : s.vm.findClass R_L1 = some m.cls := findClass_of_methodNamed B.named
  have hS : va_S noA s.heap s.heap [] := va_S.rf
  have hl := lv_entry ([.ref v, .int (nI sg), .int (0), .int (17)]) (n := 6) (Nat.le_of_ble_eq_true rfl)
  rw [lg_entry_eq]
  generalize (lg_sl ([.ref v, .int (nI sg), .int (0), .int (17)]) ++ List.replicate (6 - (lg_sl ([.ref v, .int (nI sg), .int (0), .int (17)])).length) Slot.unset).toArray = ls at hl ⊢
  have hl : lv_has ls 6 [(0, .ref v), (1, .int (nI sg)), (2, .int (0)), (3, .int (17))] := hl
  refine lv_iload_n hx hb d_L1_ixc_0 rfl (lv_at hl 1 rfl) ?_
  refine lv_i2b (v := nI sg) hx hb d_L1_ixc_1 (fs_i2b sg hsg) ?_
  refine lv_istore (lv' := [(4, .int (nI sg)), (0, .ref v), (1, .int (nI sg)), (2, .int (0)), (3, .int (17))]) hx hb d_L1_ixc_2 hl (by decide) rfl (fun ls hl => ?_)
  refine lv_iload_n hx hb d_L1_ixc_4 rfl (lv_at hl 3 rfl) ?_
  refine lv_as (v := nI 0) rfl ?_
  refine lv_istore (lv' := [(5, .int (nI 0)), (4, .int (nI sg)), (0, .ref v), (1, .int (nI sg)), (2, .int (0)), (3, .int (17))]) hx hb d_L1_ixc_5 hl (by decide) rfl (fun ls hl => ?_)
  have loop : ∀ (z j : Nat) (H : Heap) (locs : List Loc) (ls : Array Slot), j + z = 17 → va_S noA s.heap H locs → lv_has ls 6 [(5, .int (nI j)), (4, .int (nI sg)), (0, .ref v), (1, .int (nI sg)), (2, .int (0)), (3, .int (17))] → (∀ j2, j2 < j → fsB.getD j2 0 ≠ nI sg) → W p l e (headSpec (.code y_L1_ixc b_L1_ixc 6 (some .int) :: lw_g) ({ frames := 0, cells := 0, slots := 0, locals := 0 })).room s m #[Value.ref v, Value.int (nI sg), Value.int 0, Value.int 17] below meth c H locs 0 0 (MQ below (va_Qi (fun r (_ : Unit) => (r = -1 ∧ ∀ j, j < 17 → fsB.getD j 0 ≠ nI sg) ∨ (¬ r < 0 ∧ ∃ j, j < 17 ∧ fsB.getD j 0 = nI sg)) (fun (_ : Unit) _ => True) noA) #[Value.ref v, Value.int (nI sg), Value.int 0, Value.int 17] s 0 0 noA) (F0 m 7 ls []) := by
    intro z
    induction z with
    | zero =>
      intro j H locs ls hj hS hl hno
      obtain rfl : j = 17 := by omega
      refine lv_iload hx hb d_L1_ixc_7 (lv_at hl 0 rfl) ?_
      refine lv_iload_n hx hb d_L1_ixc_9 rfl (lv_at hl 5 rfl) ?_
      refine lv_icmp_ge (tgt := 31) hx hb d_L1_ixc_10 (by decide) (fun c_10 => ?_) (fun c_10 => absurd (by decide) c_10)
      refine lv_iconst (v := (-1)) hx hb d_L1_ixc_31 (by decide) ?_
      exact W.iret (v := ((-1))) hx hb hr (fun t ht _ => ⟨⟨_, (), rfl, Or.inl ⟨rfl, hno⟩, trivial⟩, hS.F ht⟩) hS.2.2 d_L1_ixc_32
    | succ z ih =>
      intro j H locs ls hj hS hl hno
      have hj17 : j < 17 := by omega
      refine lv_iload hx hb d_L1_ixc_7 (lv_at hl 0 rfl) ?_
      refine lv_iload_n hx hb d_L1_ixc_9 rfl (lv_at hl 5 rfl) ?_
      refine lv_icmp_ge (tgt := 31) hx hb d_L1_ixc_10 (by decide) (fun c_10 => absurd c_10 (nI_ge (a := j) (b := 17) hj17 (by decide))) (fun c_10 => ?_)
      refine lv_aload_n hx hb d_L1_ixc_13 rfl (lv_at hl 2 rfl) ?_
      refine lv_iload hx hb d_L1_ixc_14 (lv_at hl 0 rfl) ?_
      refine va_tb hx hb hU hS (i := nI j) (vp_in_nI hj17 (by decide)) (v := .int (fsB.getD j 0)) (by rw [nI_clamp (by omega)]) d_L1_ixc_16 ?_
      refine lv_iload hx hb d_L1_ixc_17 (lv_at hl 1 rfl) ?_
      refine lv_icmp_ne (tgt := 25) hx hb d_L1_ixc_19 (by decide) (fun c_19 => ?_) (fun c_19 => ?_)
      · skip
        refine lv_iinc (v := nI (j + 1)) (lv' := [(5, .int (nI (j + 1))), (4, .int (nI sg)), (0, .ref v), (1, .int (nI sg)), (2, .int (0)), (3, .int (17))]) hx hb d_L1_ixc_25 hl (k := 0) rfl (nI_1 j) (by decide) rfl (fun ls hl => ?_)
        refine lv_goto (tgt := 7) hx hb d_L1_ixc_28 (by decide) ?_
        exact ih (j + 1) H locs ls (by omega) hS hl (fun j2 h2 => by
          rcases Nat.lt_or_ge j2 j with z | z
          · exact hno j2 z
          · rw [show j2 = j by omega]; exact c_19)
      · skip
        refine lv_iload hx hb d_L1_ixc_22 (lv_at hl 0 rfl) ?_
        exact W.iret (v := (nI j)) hx hb hr (fun t ht _ => ⟨⟨_, (), rfl, Or.inr ⟨nI_pos (by omega), j, hj17, c_19⟩, trivial⟩, hS.F ht⟩) hS.2.2 d_L1_ixc_24
  exact loop 17 0 s.heap [] ls rfl hS hl (fun j hj => absurd hj (Nat.not_lt_zero j))
set_option maxHeartbeats 4000000 in
set_option maxRecDepth 100000 in
theorem e_L1_ix (l : Launch) (v : Nat) (sg : Nat) (hsg : sg < 128) :
    Met l y_L1_ix (.code y_L1_ix b_L1_ix 4 (some .int) :: lw_g) ({ frames := 1, cells := 0, slots := 0, locals := 25 }) (va_Pc [.ref v, .int (nI sg), .int (0), .int (17)] (byW v)) (va_Qi (fun r (_ : Unit) => (r = -1 ∧ ∀ j, j < 17 → fsB.getD j 0 ≠ nI sg) ∨ (¬ r < 0 ∧ ∃ j, j < 17 ∧ fsB.getD j 0 = nI sg)) (fun (_ : Unit) _ => True) noA) 0 0 noA := by
  refine Met.ofW (cc := b_L1_ix) (maxL := 4) (ret := (some .int)) (by decide) rfl ?_
  intro p e s m args below meth c s₁ B hml hv
  obtain ⟨rfl, hU⟩ := hv
  have hx := B.exec
  have hb := B.bytes
  have hr := B.returns
  have hlocks := B.notSynchronized
  have hts := atoms_spec (ws := (.code y_L1_ix b_L1_ix 4 (some .int) :: lw_g)) B.pre
  have hgt : ∀ w ∈ lw_g, w.before _ s = true := fun w h => hts w (List.mem_cons_of_mem _ h)
  have hown : s.vm.findClass R_L1 = some m.cls := findClass_of_methodNamed B.named
  have hS : va_S noA s.heap s.heap [] := va_S.rf
  have hl := lv_entry ([.ref v, .int (nI sg), .int (0), .int (17)]) (n := 4) (Nat.le_of_ble_eq_true rfl)
  rw [lg_entry_eq]
  generalize (lg_sl ([.ref v, .int (nI sg), .int (0), .int (17)]) ++ List.replicate (4 - (lg_sl ([.ref v, .int (nI sg), .int (0), .int (17)])).length) Slot.unset).toArray = ls at hl ⊢
  have hl : lv_has ls 4 [(0, .ref v), (1, .int (nI sg)), (2, .int (0)), (3, .int (17))] := hl
  refine lv_iload_n hx hb d_L1_ix_0 rfl (lv_at hl 1 rfl) ?_
  refine va_calli (V_runS (As := [.int (nI sg)]) (rest := []) (n := 1) hx hb hml hgt hown (fun _ _ _ _ _ => trivial) (fun _ _ _ => trivial) (e_L1_can l sg hsg) kc_L1_can k_L1_m88 ks_L1_can k_L1_ini rfl rfl (by decide +kernel) ⟨Nat.le_of_ble_eq_true rfl, Nat.le_of_ble_eq_true rfl⟩ rfl hl.1 rfl (lv_room (Nat.le_of_ble_eq_true rfl)) d_L1_ix_1 ⟨Nat.le_of_ble_eq_true rfl, Nat.le_of_ble_eq_true rfl⟩) hS (fun q _ h => h) (fun q h => h) (fun r S t H1 locs1 ht hvm hw hB hz hk hS => ?_)
  obtain rfl := hw
  refine lv_if_ne (tgt := 9) hx hb d_L1_ix_4 (by decide) (fun c_4 => ?_) (fun c_4 => absurd c_4 (by decide))
  refine lv_iload_n hx hb d_L1_ix_9 rfl (lv_at hl 2 rfl) ?_
  refine lv_iconst (v := 0) hx hb d_L1_ix_10 (by decide) ?_
  refine va_mmax hx hb (hml.trans hl.1.symm) hown (hgt _ k_L1_m92) (hgt _ ks_Ma_max) (hgt _ k_Ma_ini) (hgt _ kc_Ma_max) (Nat.le_of_ble_eq_true rfl) (Nat.le_of_ble_eq_true rfl) (Nat.le_of_ble_eq_true rfl) (Nat.le_of_ble_eq_true rfl) d_L1_ix_11 ?_
  refine lv_as (v := 0) (by decide) ?_
  refine lv_istore_n (lv' := [(2, .int (0)), (0, .ref v), (1, .int (nI sg)), (3, .int (17))]) hx hb d_L1_ix_14 rfl hl (by decide) rfl (fun ls hl => ?_)
  refine lv_iload_n hx hb d_L1_ix_15 rfl (lv_at hl 3 rfl) ?_
  refine lv_aload_n hx hb d_L1_ix_16 rfl (lv_at hl 1 rfl) ?_
  refine va_tlen hx hb hU hS (v := 17) rfl d_L1_ix_17 ?_
  refine va_mmin hx hb (hml.trans hl.1.symm) hown (hgt _ k_L1_m38) (hgt _ ks_Ma_min) (hgt _ k_Ma_ini) (hgt _ kc_Ma_min) (Nat.le_of_ble_eq_true rfl) (Nat.le_of_ble_eq_true rfl) (Nat.le_of_ble_eq_true rfl) (Nat.le_of_ble_eq_true rfl) d_L1_ix_18 ?_
  refine lv_as (v := 17) (by decide) ?_
  refine lv_istore_n (lv' := [(3, .int (17)), (2, .int (0)), (0, .ref v), (1, .int (nI sg))]) hx hb d_L1_ix_21 rfl hl (by decide) rfl (fun ls hl => ?_)
  refine lv_iload_n hx hb d_L1_ix_22 rfl (lv_at hl 1 rfl) ?_
  refine lv_iload_n hx hb d_L1_ix_23 rfl (lv_at hl 0 rfl) ?_
  refine lv_icmp_lt (tgt := 29) hx hb d_L1_ix_24 (by decide) (fun c_24 => ?_) (fun c_24 => absurd (by decide) c_24)
  refine lv_aload_n hx hb d_L1_ix_29 rfl (lv_at hl 2 rfl) ?_
  refine lv_iload_n hx hb d_L1_ix_30 rfl (lv_at hl 3 rfl) ?_
  refine lv_iload_n hx hb d_L1_ix_31 rfl (lv_at hl 1 rfl) ?_
  refine lv_iload_n hx hb d_L1_ix_32 rfl (lv_at hl 0 rfl) ?_
  refine va_calli (V_runS (As := [.ref v, .int (nI sg), .int (0), .int (17)]) (rest := []) (n := 4) hx hb hml hgt hown (byW.st _) (fun U h1 h2 => va_T.kept (va_T.moved h2.alike hU) (fun a ha _ => (congrArg (fun Hh : Heap => Hh[a]?) h1).trans (hS.2.1 a ha (fun z => z)))) (e_L1_ixc l v sg hsg) kc_L1_ixc k_L1_m95 ks_L1_ixc k_L1_ini rfl rfl (by decide +kernel) ⟨Nat.le_of_ble_eq_true rfl, Nat.le_of_ble_eq_true rfl⟩ rfl hl.1 rfl (lv_room (Nat.le_of_ble_eq_true rfl)) d_L1_ix_33 ⟨Nat.le_of_ble_eq_true rfl, Nat.le_of_ble_eq_true rfl⟩) hS (fun q _ h => h) (fun q h => h) (fun r S t H1 locs1 ht hvm hw hB hz hk hS => ?_)
  exact W.iret (v := (r)) hx hb hr (fun t ht _ => ⟨⟨_, (), rfl, hw, trivial⟩, hS.F ht⟩) hS.2.2 d_L1_ix_36
set_option maxHeartbeats 4000000 in
set_option maxRecDepth 100000 in
theorem e_St_ix2 (l : Launch) (q v : Nat) (sg : Nat) (hsg : sg < 128) :
    Met l y_St_ix2 (.code y_St_ix2 b_St_ix2 3 (some .int) :: lw_g) ({ frames := 2, cells := 0, slots := 0, locals := 48 }) (va_Pc [.ref q, .int (nI sg), .int (0)] (strW q v)) (va_Qi (fun r (_ : Unit) => (r = -1 ∧ ∀ j, j < 17 → fsB.getD j 0 ≠ nI sg) ∨ (¬ r < 0 ∧ ∃ j, j < 17 ∧ fsB.getD j 0 = nI sg)) (fun (_ : Unit) _ => True) noA) 0 0 noA := by
  refine Met.ofW (cc := b_St_ix2) (maxL := 3) (ret := (some .int)) (by decide) rfl ?_
  intro p e s m args below meth c s₁ B hml hv
  obtain ⟨rfl, hU⟩ := hv
  have hx := B.exec
  have hb := B.bytes
  have hr := B.returns
  have hlocks := B.notSynchronized
  have hts := atoms_spec (ws := (.code y_St_ix2 b_St_ix2 3 (some .int) :: lw_g)) B.pre
  have hgt : ∀ w ∈ lw_g, w.before _ s = true := fun w h => hts w (List.mem_cons_of_mem _ h)
  have hown : s.vm.findClass R_St = some m.cls := findClass_of_methodNamed B.named
  have hS : va_S noA s.heap s.heap [] := va_S.rf
  have hl := lv_entry ([.ref q, .int (nI sg), .int (0)]) (n := 3) (Nat.le_of_ble_eq_true rfl)
  rw [lg_entry_eq]
  generalize (lg_sl ([.ref q, .int (nI sg), .int (0)]) ++ List.replicate (3 - (lg_sl ([.ref q, .int (nI sg), .int (0)])).length) Slot.unset).toArray = ls at hl ⊢
  have hl : lv_has ls 3 [(0, .ref q), (1, .int (nI sg)), (2, .int (0))] := hl
  refine lv_aload_n hx hb d_St_ix2_0 rfl (lv_at hl 0 rfl) ?_
  refine va_calli (V_run (As := []) (rest := []) (n := 0) hx hb hml hgt hown (strW.st _ _) (hU.rec (fun a ha => hS.2.1 a ha (fun z => z))) (fun U h1 h2 => hU.at h2.alike (fun a ha => (congrArg (fun Hh : Heap => Hh[a]?) h1).trans (hS.2.1 a ha (fun z => z)))) (e_St_lat l q v) kc_St_lat k_St_m492 ki_St_lat ke_St_lat k_St_ini rfl rfl (by decide +kernel) ⟨Nat.le_of_ble_eq_true rfl, Nat.le_of_ble_eq_true rfl⟩ rfl hl.1 rfl (lv_room (Nat.le_of_ble_eq_true rfl)) d_St_ix2_1 ⟨Nat.le_of_ble_eq_true rfl, Nat.le_of_ble_eq_true rfl⟩) hS (fun q _ h => h) (fun q h => h) (fun r S t H1 locs1 ht hvm hw hB hz hk hS => ?_)
  obtain rfl := hw
  refine lv_if_eq (tgt := 23) hx hb d_St_ix2_4 (by decide) (fun c_4 => absurd c_4 (by decide)) (fun c_4 => ?_)
  refine lv_aload_n hx hb d_St_ix2_7 rfl (lv_at hl 0 rfl) ?_
  refine vk_getf (v := .ref v) hx hb hU.2.2.2.1 hS hown (hgt _ k_St_f9) (fun _ h9 => h9) d_St_ix2_8 ?_
  refine lv_iload_n hx hb d_St_ix2_11 rfl (lv_at hl 1 rfl) ?_
  refine lv_iload_n hx hb d_St_ix2_12 rfl (lv_at hl 2 rfl) ?_
  refine lv_aload_n hx hb d_St_ix2_13 rfl (lv_at hl 0 rfl) ?_
  refine va_calli (V_run (As := []) (rest := [.int (0), .int (nI sg), .ref v]) (n := 0) hx hb hml hgt hown (strW.st _ _) (hU.rec (fun a ha => hS.2.1 a ha (fun z => z))) (fun U h1 h2 => hU.at h2.alike (fun a ha => (congrArg (fun Hh : Heap => Hh[a]?) h1).trans (hS.2.1 a ha (fun z => z)))) (e_St_len l q v) kc_St_len k_St_m505 ki_St_len ke_St_len k_St_ini rfl rfl (by decide +kernel) ⟨Nat.le_of_ble_eq_true rfl, Nat.le_of_ble_eq_true rfl⟩ rfl hl.1 rfl (lv_room (Nat.le_of_ble_eq_true rfl)) d_St_ix2_14 ⟨Nat.le_of_ble_eq_true rfl, Nat.le_of_ble_eq_true rfl⟩) hS (fun q _ h => h) (fun q h => h) (fun r S t H1 locs1 ht hvm hw hB hz hk hS => ?_)
  obtain rfl := hw
  refine va_calli (V_runS (As := [.ref v, .int (nI sg), .int (0), .int (17)]) (rest := []) (n := 4) hx hb hml hgt hown (byW.st _) (fun U h1 h2 => va_T.kept (va_T.moved h2.alike hU.2.2.2.2) (fun a ha _ => (congrArg (fun Hh : Heap => Hh[a]?) h1).trans (hS.2.1 a ha (fun z => z)))) (e_L1_ix l v sg hsg) kc_L1_ix k_St_m637 ks_L1_ix k_L1_ini rfl rfl (by decide +kernel) ⟨Nat.le_of_ble_eq_true rfl, Nat.le_of_ble_eq_true rfl⟩ rfl hl.1 rfl (lv_room (Nat.le_of_ble_eq_true rfl)) d_St_ix2_17 ⟨Nat.le_of_ble_eq_true rfl, Nat.le_of_ble_eq_true rfl⟩) hS (fun q _ h => h) (fun q h => h) (fun r S t H1 locs1 ht hvm hw hB hz hk hS => ?_)
  refine lv_goto (tgt := 36) hx hb d_St_ix2_20 (by decide) ?_
  exact W.iret (v := (r)) hx hb hr (fun t ht _ => ⟨⟨_, (), rfl, hw, trivial⟩, hS.F ht⟩) hS.2.2 d_St_ix2_36
set_option maxHeartbeats 4000000 in
set_option maxRecDepth 100000 in
theorem e_St_ix1 (l : Launch) (q v : Nat) (sg : Nat) (hsg : sg < 128) :
    Met l y_St_ix1 (.code y_St_ix1 b_St_ix1 2 (some .int) :: lw_g) ({ frames := 3, cells := 0, slots := 0, locals := 72 }) (va_Pc [.ref q, .int (nI sg)] (strW q v)) (va_Qi (fun r (_ : Unit) => (r = -1 ∧ md_arN (nI sg) = 0) ∨ (¬ r < 0 ∧ md_arN (nI sg) ≠ 0 ∧ sg ∈ formK ∧ sg ≠ 40)) (fun (_ : Unit) _ => True) noA) 0 0 noA := by
  refine Met.ofW (cc := b_St_ix1) (maxL := 2) (ret := (some .int)) (by decide) rfl ?_
  intro p e s m args below meth c s₁ B hml hv
  obtain ⟨rfl, hU⟩ := hv
  have hx := B.exec
  have hb := B.bytes
  have hr := B.returns
  have hlocks := B.notSynchronized
  have hts := atoms_spec (ws := (.code y_St_ix1 b_St_ix1 2 (some .int) :: lw_g)) B.pre
  have hgt : ∀ w ∈ lw_g, w.before _ s = true := fun w h => hts w (List.mem_cons_of_mem _ h)
  have hown : s.vm.findClass R_St = some m.cls := findClass_of_methodNamed B.named
  have hS : va_S noA s.heap s.heap [] := va_S.rf
  have hl := lv_entry ([.ref q, .int (nI sg)]) (n := 2) (Nat.le_of_ble_eq_true rfl)
  rw [lg_entry_eq]
  generalize (lg_sl ([.ref q, .int (nI sg)]) ++ List.replicate (2 - (lg_sl ([.ref q, .int (nI sg)])).length) Slot.unset).toArray = ls at hl ⊢
  have hl : lv_has ls 2 [(0, .ref q), (1, .int (nI sg))] := hl
  refine lv_aload_n hx hb d_St_ix1_0 rfl (lv_at hl 0 rfl) ?_
  refine lv_iload_n hx hb d_St_ix1_1 rfl (lv_at hl 1 rfl) ?_
  refine lv_iconst (v := 0) hx hb d_St_ix1_2 (by decide) ?_
  refine va_calli (V_run (As := [.int (nI sg), .int (0)]) (rest := []) (n := 2) hx hb hml hgt hown (strW.st _ _) (hU.rec (fun a ha => hS.2.1 a ha (fun z => z))) (fun U h1 h2 => hU.at h2.alike (fun a ha => (congrArg (fun Hh : Heap => Hh[a]?) h1).trans (hS.2.1 a ha (fun z => z)))) (e_St_ix2 l q v sg hsg) kc_St_ix2 k_St_m633 ki_St_ix2 ke_St_ix2 k_St_ini rfl rfl (by decide +kernel) ⟨Nat.le_of_ble_eq_true rfl, Nat.le_of_ble_eq_true rfl⟩ rfl hl.1 rfl (lv_room (Nat.le_of_ble_eq_true rfl)) d_St_ix1_3 ⟨Nat.le_of_ble_eq_true rfl, Nat.le_of_ble_eq_true rfl⟩) hS (fun q _ h => h) (fun q h => h) (fun r S t H1 locs1 ht hvm hw hB hz hk hS => ?_)
  exact W.iret (v := (r)) hx hb hr (fun t ht _ => ⟨⟨_, (), rfl, hw.elim (fun z => Or.inl ⟨z.1, fs_no sg hsg z.2⟩) (fun z => Or.inr ⟨z.1, fs_yes sg hsg z.2.choose z.2.choose_spec.1 z.2.choose_spec.2⟩), trivial⟩, hS.F ht⟩) hS.2.2 d_St_ix1_6
