section MROW3
variable {p : Program} {l : Launch} {e : Env} {R : Room} {s : State} {m : MethodId} {args : Array Value} {below : List Frame} {meth : Method} {c : Code} {H : Heap} {locs : List Loc} {cells slots : Nat} {Q : State → Prop}
variable {cc : ByteArray} {pc : Nat} {ls : Array Slot} {rest : List Value} {D : va_G} {cl : List vw_C} {A : Nat → Prop} {tys : List (ClassId × FieldType)} {H0 : Heap} {ci tI tZ : Nat} {cI cZ : ClassId} {o : Nat} {ad : Nat → Nat} {fi : Nat → Int32} {fa : Nat → Nat → Int32}
theorem M_zaldn (hx : p.tables.exec = Jvm.exec) (hb : c.code = cc) (K : mdC D cl tys ci tI tZ cI cZ s m args) (hM : mdW D cl A ci cI cZ o ad fi fa H) {j : Nat} (hj : j < 26) {v : Int32} (hv : fa 15 j = v) (hdg : decode cc pc = .ok (.baload, 1))
    (kk : W p l e R s m args below meth c H locs cells slots Q (F0 m (pc + 1) ls (.int v :: rest))) : W p l e R s m args below meth c H locs cells slots Q (F0 m pc ls (.int (nI j) :: .ref (ad 15) :: rest)) := by
  subst hv
  refine va_zald hx hb K.2.2.1 hM.1 (mdO 15) tZ (cA := cZ) (n := 26) (f := fa 15) rfl K.2.2.2.2.2 (vp_in_nI hj (by decide)) hdg ?_
  rw [nI_clamp (by omega)]
  exact kk
theorem M_zastn (hx : p.tables.exec = Jvm.exec) (hb : c.code = cc) (K : mdC D cl tys ci tI tZ cI cZ s m args) (hM : mdW D cl A ci cI cZ o ad fi fa H) (hS : va_S A H0 H locs) {j : Nat} (hj : j < 26) (hdg : decode cc pc = .ok (.bastore, 1))
    (kk : ∀ (H1 : Heap) (locs1 : List Loc), mdW D cl A ci cI cZ o ad fi (va_up fa 15 (upd (fa 15) j 1)) H1 → va_S A H0 H1 locs1 → W p l e R s m args below meth c H1 locs1 cells slots Q (F0 m (pc + 1) ls rest)) : W p l e R s m args below meth c H locs cells slots Q (F0 m pc ls (.int 1 :: .int (nI j) :: .ref (ad 15) :: rest)) := by
  refine va_zast hx hb K.2.2.1 hM.1 hM.2 hS (mdO 15) tZ (cA := cZ) (n := 26) (f := fa 15) rfl K.2.2.2.2.2 (vp_in_nI hj (by decide)) hdg (fun H1 locs1 p1 d1 s1 => kk H1 locs1 ⟨?_, ?_⟩ s1)
  · rw [nI_clamp (by omega), show vp_nar .boolean 1 = 1 by decide] at p1; exact p1
  · rw [nI_clamp (by omega), show vp_nar .boolean 1 = 1 by decide] at d1; exact d1
end MROW3
/-- the sum of the first j of the given marks -/
theorem md_g1 {q j : Nat} : upd (fun _ => (0 : Int32)) q 1 j = if j = q then 1 else 0 := rfl
set_option maxHeartbeats 4000000 in
set_option maxRecDepth 100000 in
theorem c_clear (l : Launch) (D : va_G) (cl : List vw_C) (tys : List (ClassId × FieldType)) (A : Nat → Prop) (ci tI tZ : Nat) (cI cZ : ClassId) (o : Nat) (ad : Nat → Nat) (fi : Nat → Int32) (fa : Nat → Nat → Int32) (hz : ∀ k, fi k = 0) (ha : ∀ k j, fa k j = 0) :
    Met l yM_clear (.code yM_clear bM_clear 2 (some .int) :: lw_g) ({ frames := 1, cells := 0, slots := 0, locals := 21 }) (va_Pc [.ref o] (mdPre D cl tys A ci tI tZ cI cZ o ad fi fa)) (va_Qi (fun r S => r = 0 ∧ S.1 0 = 0) (mdB D cl tys A ci cI cZ o ad) A) 0 0 A := by
  refine Met.ofW (cc := bM_clear) (maxL := 2) (ret := (some .int)) (by decide) rfl ?_
  intro p e s m args below meth c s₁ B hml hv
  obtain ⟨rfl, hM, hK, hc, hI, hZ⟩ := hv
  have hx := B.exec
  have hb := B.bytes
  have hr := B.returns
  have hts := atoms_spec (ws := (.code yM_clear bM_clear 2 (some .int) :: lw_g)) B.pre
  have hown : s.vm.findClass RM = some m.cls := findClass_of_methodNamed B.named
  have K : mdC D cl tys ci tI tZ cI cZ s m _ := ⟨fun w h => hts w (List.mem_cons_of_mem _ h), hown, hK, hc, hI, hZ⟩
  have hlocks := B.notSynchronized
  have hS : va_S A s.heap s.heap [] := va_S.rf
  have hl := lv_entry ([.ref o]) (n := 2) (Nat.le_of_ble_eq_true rfl)
  rw [lg_entry_eq]
  generalize (lg_sl ([.ref o]) ++ List.replicate (2 - (lg_sl ([.ref o])).length) Slot.unset).toArray = ls at hl ⊢
  have hl : lv_has ls 2 [(0, .ref o)] := hl
  refine lv_aload_n hx hb dM_clear_0 rfl (lv_at hl 0 rfl) ?_
  refine lv_iconst (v := 0) hx hb dM_clear_1 (by decide) ?_
  refine M_puti hx hb K hM hS 0 kM_f77 dM_clear_2 (kk := fun H locs hM hS => ?_)
  refine lv_aload_n hx hb dM_clear_5 rfl (lv_at hl 0 rfl) ?_
  refine M_getv hx hb K hM 28 (v := 0) (hz 28) kM_f115 dM_clear_6 (kk := ?_)
  refine lv_iconst (v := 1) hx hb dM_clear_9 (by decide) ?_
  refine lv_icmp_ne (tgt := 19) hx hb dM_clear_10 (by decide) (fun c_10 => ?_) (fun c_10 => absurd c_10 (by decide))
  refine lv_aload_n hx hb dM_clear_19 rfl (lv_at hl 0 rfl) ?_
  refine M_getv hx hb K hM 2 (v := 0) (hz 2) kM_f121 dM_clear_20 (kk := ?_)
  refine lv_istore_n (lv' := [(1, .int (0)), (0, .ref o)]) hx hb dM_clear_23 rfl hl (by decide) rfl (fun ls hl => ?_)
  refine lv_aload_n hx hb dM_clear_24 rfl (lv_at hl 1 rfl) ?_
  refine lv_iconst (v := 0) hx hb dM_clear_25 (by decide) ?_
  refine M_puti hx hb K hM hS 2 kM_f121 dM_clear_26 (kk := fun H locs hM hS => ?_)
  refine lv_iload_n hx hb dM_clear_29 rfl (lv_at hl 0 rfl) ?_
  refine W.iret (v := (0)) hx hb hr (M_endi hM hK hS ?_) hS.2.2 dM_clear_30
  exact ⟨rfl, rfl⟩
set_option maxHeartbeats 4000000 in
set_option maxRecDepth 100000 in
theorem c_isWhole (l : Launch) (D : va_G) (cl : List vw_C) (tys : List (ClassId × FieldType)) (A : Nat → Prop) (ci tI tZ : Nat) (cI cZ : ClassId) (o : Nat) (ad : Nat → Nat) (fi : Nat → Int32) (fa : Nat → Nat → Int32) (h2 : fi 2 = 0) :
    Met l yM_isWhole (.code yM_isWhole bM_isWhole 1 (some .boolean) :: lw_g) ({ frames := 4, cells := 0, slots := 0, locals := 88 }) (va_Pc [.ref o] (mdPre D cl tys A ci tI tZ cI cZ o ad fi fa)) (va_Qi (fun r S => r = 0 ∧ (∀ k, k ≠ 7 → k ≠ 8 → k ≠ 13 → S.1 k = fi k)) (mdB D cl tys A ci cI cZ o ad) A) 0 0 A := by
  refine Met.ofW (cc := bM_isWhole) (maxL := 1) (ret := (some .boolean)) (by decide) rfl ?_
  intro p e s m args below meth c s₁ B hml hv
  obtain ⟨rfl, hM, hK, hc, hI, hZ⟩ := hv
  have hx := B.exec
  have hb := B.bytes
  have hr := B.returns
  have hts := atoms_spec (ws := (.code yM_isWhole bM_isWhole 1 (some .boolean) :: lw_g)) B.pre
  have hown : s.vm.findClass RM = some m.cls := findClass_of_methodNamed B.named
  have K : mdC D cl tys ci tI tZ cI cZ s m _ := ⟨fun w h => hts w (List.mem_cons_of_mem _ h), hown, hK, hc, hI, hZ⟩
  have hlocks := B.notSynchronized
  have hS : va_S A s.heap s.heap [] := va_S.rf
  have hl := lv_entry ([.ref o]) (n := 1) (Nat.le_of_ble_eq_true rfl)
  rw [lg_entry_eq]
  generalize (lg_sl ([.ref o]) ++ List.replicate (1 - (lg_sl ([.ref o])).length) Slot.unset).toArray = ls at hl ⊢
  have hl : lv_has ls 1 [(0, .ref o)] := hl
  refine lv_aload_n hx hb dM_isWhole_0 rfl (lv_at hl 0 rfl) ?_
  refine lv_aload_n hx hb dM_isWhole_1 rfl (lv_at hl 0 rfl) ?_
  refine M_getv hx hb K hM 2 (v := nI 0) (h2.trans nI_0.symm) kM_f121 dM_isWhole_2 (kk := ?_)
  refine va_calli (M_run (As := [.int (nI 0)]) (rest := []) (n := 1) hx hb hml K hM (c_scan l D cl tys A ci tI tZ cI cZ o ad _ _ 0 (by decide)) kM_c_scan kM_m124 kM_i_scan kM_s_scan rfl rfl ⟨rfl, by decide +kernel⟩ ⟨Nat.le_of_ble_eq_true rfl, Nat.le_of_ble_eq_true rfl⟩ rfl hl.1 rfl (lv_room (Nat.le_of_ble_eq_true rfl)) dM_isWhole_5 ⟨Nat.le_of_ble_eq_true rfl, Nat.le_of_ble_eq_true rfl⟩) hS (fun q _ h => h) (fun q h => h) (fun r u t H1 locs1 ht hvm hw hB hz hk hS => ?_)
  obtain ⟨hM, -⟩ := hB
  rw [ht] at hM
  obtain ⟨hF2, ⟨rfl, hv⟩ | ⟨rfl, t9, hv, hq9⟩⟩ := hw
  · cases hv
  obtain rfl : t9 = md_t0 := (Option.some.inj hv).symm
  obtain ⟨op, hq⟩ := hq9
  refine lv_if_eq (tgt := 39) hx hb dM_isWhole_8 (by decide) (fun c_8 => absurd c_8 (by decide)) (fun c_8 => ?_)
  refine lv_aload_n hx hb dM_isWhole_11 rfl (lv_at hl 0 rfl) ?_
  refine M_getv hx hb K hM 7 (v := nI 0) hq.1.1 kM_f84 dM_isWhole_12 (kk := ?_)
  refine lv_if_ne (tgt := 39) hx hb dM_isWhole_15 (by decide) (fun c_15 => absurd (by decide) c_15) (fun c_15 => ?_)
  refine lv_aload_n hx hb dM_isWhole_18 rfl (lv_at hl 0 rfl) ?_
  refine M_getv hx hb K hM 8 (v := nI 0) hq.1.2.1 kM_f87 dM_isWhole_19 (kk := ?_)
  refine lv_bipush (v := 6) hx hb dM_isWhole_22 (by decide) ?_
  refine lv_icmp_eq (tgt := 35) hx hb dM_isWhole_24 (by decide) (fun c_24 => absurd c_24 (by decide)) (fun c_24 => ?_)
  refine lv_aload_n hx hb dM_isWhole_27 rfl (lv_at hl 0 rfl) ?_
  refine M_getv hx hb K hM 8 (v := nI 0) hq.1.2.1 kM_f87 dM_isWhole_28 (kk := ?_)
  refine lv_iconst (v := 4) hx hb dM_isWhole_31 (by decide) ?_
  refine lv_icmp_ne (tgt := 39) hx hb dM_isWhole_32 (by decide) (fun c_32 => ?_) (fun c_32 => absurd c_32 (by decide))
  refine lv_iconst (v := 0) hx hb dM_isWhole_39 (by decide) ?_
  refine W.zret (v := (0)) hx hb hr rfl (M_endi hM hK hS ?_) hS.2.2 dM_isWhole_40
  exact ⟨rfl, hF2.1⟩
set_option maxHeartbeats 4000000 in
set_option maxRecDepth 100000 in
theorem c_whole (l : Launch) (D : va_G) (cl : List vw_C) (tys : List (ClassId × FieldType)) (A : Nat → Prop) (ci tI tZ : Nat) (cI cZ : ClassId) (o : Nat) (ad : Nat → Nat) (fi : Nat → Int32) (fa : Nat → Nat → Int32) (hz : ∀ k, fi k = 0) (ha : ∀ k j, fa k j = 0) :
    Met l yM_whole (.code yM_whole bM_whole 1 (some .int) :: lw_g) ({ frames := 5, cells := 0, slots := 0, locals := 109 }) (va_Pc [.ref o] (mdPre D cl tys A ci tI tZ cI cZ o ad fi fa)) (va_Qi (fun r S => r = 0 ∧ S.1 0 = 0) (mdB D cl tys A ci cI cZ o ad) A) 0 0 A := by
  refine Met.ofW (cc := bM_whole) (maxL := 1) (ret := (some .int)) (by decide) rfl ?_
  intro p e s m args below meth c s₁ B hml hv
  obtain ⟨rfl, hM, hK, hc, hI, hZ⟩ := hv
  have hx := B.exec
  have hb := B.bytes
  have hr := B.returns
  have hts := atoms_spec (ws := (.code yM_whole bM_whole 1 (some .int) :: lw_g)) B.pre
  have hown : s.vm.findClass RM = some m.cls := findClass_of_methodNamed B.named
  have K : mdC D cl tys ci tI tZ cI cZ s m _ := ⟨fun w h => hts w (List.mem_cons_of_mem _ h), hown, hK, hc, hI, hZ⟩
  have hlocks := B.notSynchronized
  have hS : va_S A s.heap s.heap [] := va_S.rf
  have hl := lv_entry ([.ref o]) (n := 1) (Nat.le_of_ble_eq_true rfl)
  rw [lg_entry_eq]
  generalize (lg_sl ([.ref o]) ++ List.replicate (1 - (lg_sl ([.ref o])).length) Slot.unset).toArray = ls at hl ⊢
  have hl : lv_has ls 1 [(0, .ref o)] := hl
  refine lv_aload_n hx hb dM_whole_0 rfl (lv_at hl 0 rfl) ?_
  refine lv_iconst (v := 0) hx hb dM_whole_1 (by decide) ?_
  refine M_puti hx hb K hM hS 0 kM_f77 dM_whole_2 (kk := fun H locs hM hS => ?_)
  refine lv_aload_n hx hb dM_whole_5 rfl (lv_at hl 0 rfl) ?_
  refine va_calli (M_run (As := []) (rest := []) (n := 0) hx hb hml K hM (c_isWhole l D cl tys A ci tI tZ cI cZ o ad _ _ (hz 2)) kM_c_isWhole kM_m127 kM_i_isWhole kM_s_isWhole rfl rfl ⟨rfl, by decide +kernel⟩ ⟨Nat.le_of_ble_eq_true rfl, Nat.le_of_ble_eq_true rfl⟩ rfl hl.1 rfl (lv_room (Nat.le_of_ble_eq_true rfl)) dM_whole_6 ⟨Nat.le_of_ble_eq_true rfl, Nat.le_of_ble_eq_true rfl⟩) hS (fun q _ h => h) (fun q h => h) (fun r u t H1 locs1 ht hvm hw hB hz hk hS => ?_)
  obtain ⟨hM, -⟩ := hB
  rw [ht] at hM
  obtain ⟨rfl, hF2⟩ := hw
  refine lv_if_eq (tgt := 16) hx hb dM_whole_9 (by decide) (fun c_9 => ?_) (fun c_9 => absurd rfl c_9)
  refine lv_iconst (v := 0) hx hb dM_whole_16 (by decide) ?_
  refine W.iret (v := (0)) hx hb hr (M_endi hM hK hS ?_) hS.2.2 dM_whole_17
  exact ⟨rfl, hF2 0 (by decide) (by decide) (by decide)⟩
set_option maxHeartbeats 4000000 in
set_option maxRecDepth 100000 in
theorem c_start (l : Launch) (D : va_G) (cl : List vw_C) (tys : List (ClassId × FieldType)) (A : Nat → Prop) (ci tI tZ : Nat) (cI cZ : ClassId) (o : Nat) (ad : Nat → Nat) (fi : Nat → Int32) (fa : Nat → Nat → Int32) (hz : ∀ k, fi k = 0) (ha : ∀ k j, fa k j = 0) :
    Met l yM_start (.code yM_start bM_start 2 (some .int) :: lw_g) ({ frames := 5, cells := 0, slots := 0, locals := 109 }) (va_Pc [.ref o] (mdPre D cl tys A ci tI tZ cI cZ o ad fi fa)) (va_Qi (fun r S => r = 0 ∧ S.1 0 = 1) (mdB D cl tys A ci cI cZ o ad) A) 0 0 A := by
  refine Met.ofW (cc := bM_start) (maxL := 2) (ret := (some .int)) (by decide) rfl ?_
  intro p e s m args below meth c s₁ B hml hv
  obtain ⟨rfl, hM, hK, hc, hI, hZ⟩ := hv
  have hx := B.exec
  have hb := B.bytes
  have hr := B.returns
  have hts := atoms_spec (ws := (.code yM_start bM_start 2 (some .int) :: lw_g)) B.pre
  have hown : s.vm.findClass RM = some m.cls := findClass_of_methodNamed B.named
  have K : mdC D cl tys ci tI tZ cI cZ s m _ := ⟨fun w h => hts w (List.mem_cons_of_mem _ h), hown, hK, hc, hI, hZ⟩
  have hlocks := B.notSynchronized
  have hS : va_S A s.heap s.heap [] := va_S.rf
  have hl := lv_entry ([.ref o]) (n := 2) (Nat.le_of_ble_eq_true rfl)
  rw [lg_entry_eq]
  generalize (lg_sl ([.ref o]) ++ List.replicate (2 - (lg_sl ([.ref o])).length) Slot.unset).toArray = ls at hl ⊢
  have hl : lv_has ls 2 [(0, .ref o)] := hl
  refine lv_aload_n hx hb dM_start_0 rfl (lv_at hl 0 rfl) ?_
  refine lv_iconst (v := 0) hx hb dM_start_1 (by decide) ?_
  refine M_puti hx hb K hM hS 0 kM_f77 dM_start_2 (kk := fun H locs hM hS => ?_)
  refine lv_aload_n hx hb dM_start_5 rfl (lv_at hl 0 rfl) ?_
  refine M_getv hx hb K hM 28 (v := 0) (hz 28) kM_f115 dM_start_6 (kk := ?_)
  refine lv_iconst (v := 1) hx hb dM_start_9 (by decide) ?_
  refine lv_icmp_eq (tgt := 20) hx hb dM_start_10 (by decide) (fun c_10 => absurd c_10 (by decide)) (fun c_10 => ?_)
  refine lv_aload_n hx hb dM_start_13 rfl (lv_at hl 0 rfl) ?_
  refine va_calli (M_run (As := []) (rest := []) (n := 0) hx hb hml K hM (c_isWhole l D cl tys A ci tI tZ cI cZ o ad _ _ (hz 2)) kM_c_isWhole kM_m127 kM_i_isWhole kM_s_isWhole rfl rfl ⟨rfl, by decide +kernel⟩ ⟨Nat.le_of_ble_eq_true rfl, Nat.le_of_ble_eq_true rfl⟩ rfl hl.1 rfl (lv_room (Nat.le_of_ble_eq_true rfl)) dM_start_14 ⟨Nat.le_of_ble_eq_true rfl, Nat.le_of_ble_eq_true rfl⟩) hS (fun q _ h => h) (fun q h => h) (fun r u t H1 locs1 ht hvm hw hB hz hk hS => ?_)
  obtain ⟨hM, -⟩ := hB
  rw [ht] at hM
  obtain ⟨rfl, hF2⟩ := hw
  refine lv_if_ne (tgt := 26) hx hb dM_start_17 (by decide) (fun c_17 => absurd rfl c_17) (fun c_17 => ?_)
  refine lv_aload_n hx hb dM_start_20 rfl (lv_at hl 0 rfl) ?_
  refine lv_iconst (v := 1) hx hb dM_start_21 (by decide) ?_
  refine va_calli (M_run (As := [.int (1)]) (rest := []) (n := 1) hx hb hml K hM (c_fail l D cl tys A ci tI tZ cI cZ o ad _ _ (1)) kM_c_fail kM_m118 kM_i_fail kM_s_fail rfl rfl ⟨rfl, by decide +kernel⟩ ⟨Nat.le_of_ble_eq_true rfl, Nat.le_of_ble_eq_true rfl⟩ rfl hl.1 rfl (lv_room (Nat.le_of_ble_eq_true rfl)) dM_start_22 ⟨Nat.le_of_ble_eq_true rfl, Nat.le_of_ble_eq_true rfl⟩) hS (fun q _ h => h) (fun q h => h) (fun r u t H1 locs1 ht hvm hw hB hz hk hS => ?_)
  obtain ⟨hM, -⟩ := hB
  rw [ht] at hM
  obtain ⟨rfl, rfl⟩ := hw
  dsimp only at hM
  refine W.iret (v := (0)) hx hb hr (M_endi hM hK hS ?_) hS.2.2 dM_start_25
  exact ⟨rfl, rfl⟩
set_option maxHeartbeats 4000000 in
set_option maxRecDepth 100000 in
theorem c_run (l : Launch) (D : va_G) (cl : List vw_C) (tys : List (ClassId × FieldType)) (A : Nat → Prop) (ci tI tZ : Nat) (cI cZ : ClassId) (o : Nat) (ad : Nat → Nat) (fi : Nat → Int32) (fa : Nat → Nat → Int32) (k : Int32) (hz : ∀ k, fi k = 0) (ha : ∀ k j, fa k j = 0) :
    Met l yM_run (.code yM_run bM_run 4 (some .int) :: lw_g) ({ frames := 1, cells := 0, slots := 0, locals := 21 }) (va_Pc [.ref o, .int k] (mdPre D cl tys A ci tI tZ cI cZ o ad fi fa)) (va_Qi (fun r S => r = 0 ∧ S.1 0 = if k < 1 ∨ ¬ k ≤ 10 then 2 else 1) (mdB D cl tys A ci cI cZ o ad) A) 0 0 A := by
  refine Met.ofW (cc := bM_run) (maxL := 4) (ret := (some .int)) (by decide) rfl ?_
  intro p e s m args below meth c s₁ B hml hv
  obtain ⟨rfl, hM, hK, hc, hI, hZ⟩ := hv
  have hx := B.exec
  have hb := B.bytes
  have hr := B.returns
  have hts := atoms_spec (ws := (.code yM_run bM_run 4 (some .int) :: lw_g)) B.pre
  have hown : s.vm.findClass RM = some m.cls := findClass_of_methodNamed B.named
  have K : mdC D cl tys ci tI tZ cI cZ s m _ := ⟨fun w h => hts w (List.mem_cons_of_mem _ h), hown, hK, hc, hI, hZ⟩
  have hlocks := B.notSynchronized
  have hS : va_S A s.heap s.heap [] := va_S.rf
  have hl := lv_entry ([.ref o, .int k]) (n := 4) (Nat.le_of_ble_eq_true rfl)
  rw [lg_entry_eq]
  generalize (lg_sl ([.ref o, .int k]) ++ List.replicate (4 - (lg_sl ([.ref o, .int k])).length) Slot.unset).toArray = ls at hl ⊢
  have hl : lv_has ls 4 [(0, .ref o), (1, .int k)] := hl
  refine lv_aload_n hx hb dM_run_0 rfl (lv_at hl 0 rfl) ?_
  refine lv_iconst (v := 0) hx hb dM_run_1 (by decide) ?_
  refine M_puti hx hb K hM hS 0 kM_f77 dM_run_2 (kk := fun H locs hM hS => ?_)
  refine lv_iload_n hx hb dM_run_5 rfl (lv_at hl 1 rfl) ?_
  refine lv_iconst (v := 1) hx hb dM_run_6 (by decide) ?_
  refine lv_icmp_lt (tgt := 16) hx hb dM_run_7 (by decide) (fun c_7 => ?_) (fun c_7 => ?_)
  · skip
    refine lv_aload_n hx hb dM_run_16 rfl (lv_at hl 0 rfl) ?_
    refine lv_iconst (v := 2) hx hb dM_run_17 (by decide) ?_
    refine va_calli (M_run (As := [.int (2)]) (rest := []) (n := 1) hx hb hml K hM (c_fail l D cl tys A ci tI tZ cI cZ o ad _ _ (2)) kM_c_fail kM_m118 kM_i_fail kM_s_fail rfl rfl ⟨rfl, by decide +kernel⟩ ⟨Nat.le_of_ble_eq_true rfl, Nat.le_of_ble_eq_true rfl⟩ rfl hl.1 rfl (lv_room (Nat.le_of_ble_eq_true rfl)) dM_run_18 ⟨Nat.le_of_ble_eq_true rfl, Nat.le_of_ble_eq_true rfl⟩) hS (fun q _ h => h) (fun q h => h) (fun r u t H1 locs1 ht hvm hw hB hz hk hS => ?_)
    obtain ⟨hM, -⟩ := hB
    rw [ht] at hM
    obtain ⟨rfl, rfl⟩ := hw
    dsimp only at hM
    refine W.iret (v := (0)) hx hb hr (M_endi hM hK hS ?_) hS.2.2 dM_run_21
    exact ⟨rfl, by simp [va_up, c_7]⟩
  · skip
    refine lv_iload_n hx hb dM_run_10 rfl (lv_at hl 1 rfl) ?_
    refine lv_bipush (v := 10) hx hb dM_run_11 (by decide) ?_
    refine lv_icmp_le (tgt := 22) hx hb dM_run_13 (by decide) (fun c_13 => ?_) (fun c_13 => ?_)
    · skip
      refine lv_aload_n hx hb dM_run_22 rfl (lv_at hl 0 rfl) ?_
      refine M_getv hx hb K hM 28 (v := 0) (hz 28) kM_f115 dM_run_23 (kk := ?_)
      refine lv_iconst (v := 1) hx hb dM_run_26 (by decide) ?_
      refine lv_icmp_eq (tgt := 36) hx hb dM_run_27 (by decide) (fun c_27 => absurd c_27 (by decide)) (fun c_27 => ?_)
      refine lv_aload_n hx hb dM_run_30 rfl (lv_at hl 0 rfl) ?_
      refine lv_iconst (v := 1) hx hb dM_run_31 (by decide) ?_
      refine va_calli (M_run (As := [.int (1)]) (rest := []) (n := 1) hx hb hml K hM (c_fail l D cl tys A ci tI tZ cI cZ o ad _ _ (1)) kM_c_fail kM_m118 kM_i_fail kM_s_fail rfl rfl ⟨rfl, by decide +kernel⟩ ⟨Nat.le_of_ble_eq_true rfl, Nat.le_of_ble_eq_true rfl⟩ rfl hl.1 rfl (lv_room (Nat.le_of_ble_eq_true rfl)) dM_run_32 ⟨Nat.le_of_ble_eq_true rfl, Nat.le_of_ble_eq_true rfl⟩) hS (fun q _ h => h) (fun q h => h) (fun r u t H1 locs1 ht hvm hw hB hz hk hS => ?_)
      obtain ⟨hM, -⟩ := hB
      rw [ht] at hM
      obtain ⟨rfl, rfl⟩ := hw
      dsimp only at hM
      refine W.iret (v := (0)) hx hb hr (M_endi hM hK hS ?_) hS.2.2 dM_run_35
      exact ⟨rfl, by simp [va_up, c_7, c_13]⟩
    · skip
      refine lv_aload_n hx hb dM_run_16 rfl (lv_at hl 0 rfl) ?_
      refine lv_iconst (v := 2) hx hb dM_run_17 (by decide) ?_
      refine va_calli (M_run (As := [.int (2)]) (rest := []) (n := 1) hx hb hml K hM (c_fail l D cl tys A ci tI tZ cI cZ o ad _ _ (2)) kM_c_fail kM_m118 kM_i_fail kM_s_fail rfl rfl ⟨rfl, by decide +kernel⟩ ⟨Nat.le_of_ble_eq_true rfl, Nat.le_of_ble_eq_true rfl⟩ rfl hl.1 rfl (lv_room (Nat.le_of_ble_eq_true rfl)) dM_run_18 ⟨Nat.le_of_ble_eq_true rfl, Nat.le_of_ble_eq_true rfl⟩) hS (fun q _ h => h) (fun q h => h) (fun r u t H1 locs1 ht hvm hw hB hz hk hS => ?_)
      obtain ⟨hM, -⟩ := hB
      rw [ht] at hM
      obtain ⟨rfl, rfl⟩ := hw
      dsimp only at hM
      refine W.iret (v := (0)) hx hb hr (M_endi hM hK hS ?_) hS.2.2 dM_run_21
      exact ⟨rfl, by simp [va_up, c_7, c_13]⟩
set_option maxHeartbeats 4000000 in
set_option maxRecDepth 100000 in
theorem c_stop (l : Launch) (D : va_G) (cl : List vw_C) (tys : List (ClassId × FieldType)) (A : Nat → Prop) (ci tI tZ : Nat) (cI cZ : ClassId) (o : Nat) (ad : Nat → Nat) (fi : Nat → Int32) (fa : Nat → Nat → Int32) (hz : ∀ k, fi k = 0) (ha : ∀ k j, fa k j = 0) :
    Met l yM_stop (.code yM_stop bM_stop 1 (some .int) :: lw_g) ({ frames := 1, cells := 0, slots := 0, locals := 21 }) (va_Pc [.ref o] (mdPre D cl tys A ci tI tZ cI cZ o ad fi fa)) (va_Qi (fun r S => r = 0 ∧ S.1 0 = 1) (mdB D cl tys A ci cI cZ o ad) A) 0 0 A := by
  refine Met.ofW (cc := bM_stop) (maxL := 1) (ret := (some .int)) (by decide) rfl ?_
  intro p e s m args below meth c s₁ B hml hv
  obtain ⟨rfl, hM, hK, hc, hI, hZ⟩ := hv
  have hx := B.exec
  have hb := B.bytes
  have hr := B.returns
  have hts := atoms_spec (ws := (.code yM_stop bM_stop 1 (some .int) :: lw_g)) B.pre
  have hown : s.vm.findClass RM = some m.cls := findClass_of_methodNamed B.named
  have K : mdC D cl tys ci tI tZ cI cZ s m _ := ⟨fun w h => hts w (List.mem_cons_of_mem _ h), hown, hK, hc, hI, hZ⟩
  have hlocks := B.notSynchronized
  have hS : va_S A s.heap s.heap [] := va_S.rf
  have hl := lv_entry ([.ref o]) (n := 1) (Nat.le_of_ble_eq_true rfl)
  rw [lg_entry_eq]
  generalize (lg_sl ([.ref o]) ++ List.replicate (1 - (lg_sl ([.ref o])).length) Slot.unset).toArray = ls at hl ⊢
  have hl : lv_has ls 1 [(0, .ref o)] := hl
  refine lv_aload_n hx hb dM_stop_0 rfl (lv_at hl 0 rfl) ?_
  refine lv_iconst (v := 0) hx hb dM_stop_1 (by decide) ?_
  refine M_puti hx hb K hM hS 0 kM_f77 dM_stop_2 (kk := fun H locs hM hS => ?_)
  refine lv_aload_n hx hb dM_stop_5 rfl (lv_at hl 0 rfl) ?_
  refine M_getv hx hb K hM 28 (v := 0) (hz 28) kM_f115 dM_stop_6 (kk := ?_)
  refine lv_iconst (v := 1) hx hb dM_stop_9 (by decide) ?_
  refine lv_icmp_eq (tgt := 19) hx hb dM_stop_10 (by decide) (fun c_10 => absurd c_10 (by decide)) (fun c_10 => ?_)
  refine lv_aload_n hx hb dM_stop_13 rfl (lv_at hl 0 rfl) ?_
  refine lv_iconst (v := 1) hx hb dM_stop_14 (by decide) ?_
  refine va_calli (M_run (As := [.int (1)]) (rest := []) (n := 1) hx hb hml K hM (c_fail l D cl tys A ci tI tZ cI cZ o ad _ _ (1)) kM_c_fail kM_m118 kM_i_fail kM_s_fail rfl rfl ⟨rfl, by decide +kernel⟩ ⟨Nat.le_of_ble_eq_true rfl, Nat.le_of_ble_eq_true rfl⟩ rfl hl.1 rfl (lv_room (Nat.le_of_ble_eq_true rfl)) dM_stop_15 ⟨Nat.le_of_ble_eq_true rfl, Nat.le_of_ble_eq_true rfl⟩) hS (fun q _ h => h) (fun q h => h) (fun r u t H1 locs1 ht hvm hw hB hz hk hS => ?_)
  obtain ⟨hM, -⟩ := hB
  rw [ht] at hM
  obtain ⟨rfl, rfl⟩ := hw
  dsimp only at hM
  refine W.iret (v := (0)) hx hb hr (M_endi hM hK hS ?_) hS.2.2 dM_stop_18
  exact ⟨rfl, rfl⟩
set_option maxHeartbeats 4000000 in
set_option maxRecDepth 100000 in
theorem c_sign (l : Launch) (D : va_G) (cl : List vw_C) (tys : List (ClassId × FieldType)) (A : Nat → Prop) (ci tI tZ : Nat) (cI cZ : ClassId) (o : Nat) (ad : Nat → Nat) (fi : Nat → Int32) (fa : Nat → Nat → Int32) (k : Int32) (hz : ∀ k, fi k = 0) (ha : ∀ k j, fa k j = 0) :
    Met l yM_sign (.code yM_sign bM_sign 8 (some .int) :: lw_g) ({ frames := 1, cells := 0, slots := 0, locals := 21 }) (va_Pc [.ref o, .int k] (mdPre D cl tys A ci tI tZ cI cZ o ad fi fa)) (va_Qi (fun r S => r = 0 ∧ S.1 0 = if k < 0 ∨ ¬ k ≤ 59 then 2 else 1) (mdB D cl tys A ci cI cZ o ad) A) 0 0 A := by
  refine Met.ofW (cc := bM_sign) (maxL := 8) (ret := (some .int)) (by decide) rfl ?_
  intro p e s m args below meth c s₁ B hml hv
  obtain ⟨rfl, hM, hK, hc, hI, hZ⟩ := hv
  have hx := B.exec
  have hb := B.bytes
  have hr := B.returns
  have hts := atoms_spec (ws := (.code yM_sign bM_sign 8 (some .int) :: lw_g)) B.pre
  have hown : s.vm.findClass RM = some m.cls := findClass_of_methodNamed B.named
  have K : mdC D cl tys ci tI tZ cI cZ s m _ := ⟨fun w h => hts w (List.mem_cons_of_mem _ h), hown, hK, hc, hI, hZ⟩
  have hlocks := B.notSynchronized
  have hS : va_S A s.heap s.heap [] := va_S.rf
  have hl := lv_entry ([.ref o, .int k]) (n := 8) (Nat.le_of_ble_eq_true rfl)
  rw [lg_entry_eq]
  generalize (lg_sl ([.ref o, .int k]) ++ List.replicate (8 - (lg_sl ([.ref o, .int k])).length) Slot.unset).toArray = ls at hl ⊢
  have hl : lv_has ls 8 [(0, .ref o), (1, .int k)] := hl
  refine lv_aload_n hx hb dM_sign_0 rfl (lv_at hl 0 rfl) ?_
  refine lv_iconst (v := 0) hx hb dM_sign_1 (by decide) ?_
  refine M_puti hx hb K hM hS 0 kM_f77 dM_sign_2 (kk := fun H locs hM hS => ?_)
  refine lv_iload_n hx hb dM_sign_5 rfl (lv_at hl 1 rfl) ?_
  refine lv_if_lt (tgt := 15) hx hb dM_sign_6 (by decide) (fun c_6 => ?_) (fun c_6 => ?_)
  · skip
    refine lv_aload_n hx hb dM_sign_15 rfl (lv_at hl 0 rfl) ?_
    refine lv_iconst (v := 2) hx hb dM_sign_16 (by decide) ?_
    refine va_calli (M_run (As := [.int (2)]) (rest := []) (n := 1) hx hb hml K hM (c_fail l D cl tys A ci tI tZ cI cZ o ad _ _ (2)) kM_c_fail kM_m118 kM_i_fail kM_s_fail rfl rfl ⟨rfl, by decide +kernel⟩ ⟨Nat.le_of_ble_eq_true rfl, Nat.le_of_ble_eq_true rfl⟩ rfl hl.1 rfl (lv_room (Nat.le_of_ble_eq_true rfl)) dM_sign_17 ⟨Nat.le_of_ble_eq_true rfl, Nat.le_of_ble_eq_true rfl⟩) hS (fun q _ h => h) (fun q h => h) (fun r u t H1 locs1 ht hvm hw hB hz hk hS => ?_)
    obtain ⟨hM, -⟩ := hB
    rw [ht] at hM
    obtain ⟨rfl, rfl⟩ := hw
    dsimp only at hM
    refine W.iret (v := (0)) hx hb hr (M_endi hM hK hS ?_) hS.2.2 dM_sign_20
    exact ⟨rfl, by simp [va_up, c_6]⟩
  · skip
    refine lv_iload_n hx hb dM_sign_9 rfl (lv_at hl 1 rfl) ?_
    refine lv_bipush (v := 59) hx hb dM_sign_10 (by decide) ?_
    refine lv_icmp_le (tgt := 21) hx hb dM_sign_12 (by decide) (fun c_12 => ?_) (fun c_12 => ?_)
    · skip
      refine lv_aload_n hx hb dM_sign_21 rfl (lv_at hl 0 rfl) ?_
      refine M_getv hx hb K hM 28 (v := 0) (hz 28) kM_f115 dM_sign_22 (kk := ?_)
      refine lv_iconst (v := 2) hx hb dM_sign_25 (by decide) ?_
      refine lv_icmp_eq (tgt := 35) hx hb dM_sign_26 (by decide) (fun c_26 => absurd c_26 (by decide)) (fun c_26 => ?_)
      refine lv_aload_n hx hb dM_sign_29 rfl (lv_at hl 0 rfl) ?_
      refine lv_iconst (v := 1) hx hb dM_sign_30 (by decide) ?_
      refine va_calli (M_run (As := [.int (1)]) (rest := []) (n := 1) hx hb hml K hM (c_fail l D cl tys A ci tI tZ cI cZ o ad _ _ (1)) kM_c_fail kM_m118 kM_i_fail kM_s_fail rfl rfl ⟨rfl, by decide +kernel⟩ ⟨Nat.le_of_ble_eq_true rfl, Nat.le_of_ble_eq_true rfl⟩ rfl hl.1 rfl (lv_room (Nat.le_of_ble_eq_true rfl)) dM_sign_31 ⟨Nat.le_of_ble_eq_true rfl, Nat.le_of_ble_eq_true rfl⟩) hS (fun q _ h => h) (fun q h => h) (fun r u t H1 locs1 ht hvm hw hB hz hk hS => ?_)
      obtain ⟨hM, -⟩ := hB
      rw [ht] at hM
      obtain ⟨rfl, rfl⟩ := hw
      dsimp only at hM
      refine W.iret (v := (0)) hx hb hr (M_endi hM hK hS ?_) hS.2.2 dM_sign_34
      exact ⟨rfl, by simp [va_up, c_6, c_12]⟩
    · skip
      refine lv_aload_n hx hb dM_sign_15 rfl (lv_at hl 0 rfl) ?_
      refine lv_iconst (v := 2) hx hb dM_sign_16 (by decide) ?_
      refine va_calli (M_run (As := [.int (2)]) (rest := []) (n := 1) hx hb hml K hM (c_fail l D cl tys A ci tI tZ cI cZ o ad _ _ (2)) kM_c_fail kM_m118 kM_i_fail kM_s_fail rfl rfl ⟨rfl, by decide +kernel⟩ ⟨Nat.le_of_ble_eq_true rfl, Nat.le_of_ble_eq_true rfl⟩ rfl hl.1 rfl (lv_room (Nat.le_of_ble_eq_true rfl)) dM_sign_17 ⟨Nat.le_of_ble_eq_true rfl, Nat.le_of_ble_eq_true rfl⟩) hS (fun q _ h => h) (fun q h => h) (fun r u t H1 locs1 ht hvm hw hB hz hk hS => ?_)
      obtain ⟨hM, -⟩ := hB
      rw [ht] at hM
      obtain ⟨rfl, rfl⟩ := hw
      dsimp only at hM
      refine W.iret (v := (0)) hx hb hr (M_endi hM hK hS ?_) hS.2.2 dM_sign_20
      exact ⟨rfl, by simp [va_up, c_6, c_12]⟩
theorem md_rng {x M : Int32} {n : Nat} (hM : M.toInt = n) (h : ¬ x < 0) (h5 : x ≤ M) : ∃ j : Nat, j ≤ n ∧ x = nI j := nI_of2 hM h h5
set_option maxHeartbeats 4000000 in
set_option maxRecDepth 100000 in
theorem c_global (l : Launch) (D : va_G) (cl : List vw_C) (tys : List (ClassId × FieldType)) (A : Nat → Prop) (ci tI tZ : Nat) (cI cZ : ClassId) (o : Nat) (ad : Nat → Nat) (fi : Nat → Int32) (fa : Nat → Nat → Int32) (k : Int32) (hz : ∀ k, fi k = 0) (ha : ∀ k j, fa k j = 0) :
    Met l yM_global (.code yM_global bM_global 2 (some .int) :: lw_g) ({ frames := 1, cells := 0, slots := 0, locals := 21 }) (va_Pc [.ref o, .int k] (mdPre D cl tys A ci tI tZ cI cZ o ad fi fa)) (va_Qi (fun r S => r = 0 ∧ S.1 0 = if k < 0 ∨ ¬ k ≤ 25 then 1 else 2) (mdB D cl tys A ci cI cZ o ad) A) 0 0 A := by
  refine Met.ofW (cc := bM_global) (maxL := 2) (ret := (some .int)) (by decide) rfl ?_
  intro p e s m args below meth c s₁ B hml hv
  obtain ⟨rfl, hM, hK, hc, hI, hZ⟩ := hv
  have hx := B.exec
  have hb := B.bytes
  have hr := B.returns
  have hts := atoms_spec (ws := (.code yM_global bM_global 2 (some .int) :: lw_g)) B.pre
  have hown : s.vm.findClass RM = some m.cls := findClass_of_methodNamed B.named
  have K : mdC D cl tys ci tI tZ cI cZ s m _ := ⟨fun w h => hts w (List.mem_cons_of_mem _ h), hown, hK, hc, hI, hZ⟩
  have hlocks := B.notSynchronized
  have hS : va_S A s.heap s.heap [] := va_S.rf
  have hl := lv_entry ([.ref o, .int k]) (n := 2) (Nat.le_of_ble_eq_true rfl)
  rw [lg_entry_eq]
  generalize (lg_sl ([.ref o, .int k]) ++ List.replicate (2 - (lg_sl ([.ref o, .int k])).length) Slot.unset).toArray = ls at hl ⊢
  have hl : lv_has ls 2 [(0, .ref o), (1, .int k)] := hl
  refine lv_aload_n hx hb dM_global_0 rfl (lv_at hl 0 rfl) ?_
  refine lv_iconst (v := 0) hx hb dM_global_1 (by decide) ?_
  refine M_puti hx hb K hM hS 0 kM_f77 dM_global_2 (kk := fun H locs hM hS => ?_)
  refine lv_iload_n hx hb dM_global_5 rfl (lv_at hl 1 rfl) ?_
  refine lv_if_lt (tgt := 15) hx hb dM_global_6 (by decide) (fun c_6 => ?_) (fun c_6 => ?_)
  · skip
    refine lv_aload_n hx hb dM_global_15 rfl (lv_at hl 0 rfl) ?_
    refine lv_iconst (v := 1) hx hb dM_global_16 (by decide) ?_
    refine va_calli (M_run (As := [.int (1)]) (rest := []) (n := 1) hx hb hml K hM (c_fail l D cl tys A ci tI tZ cI cZ o ad _ _ (1)) kM_c_fail kM_m118 kM_i_fail kM_s_fail rfl rfl ⟨rfl, by decide +kernel⟩ ⟨Nat.le_of_ble_eq_true rfl, Nat.le_of_ble_eq_true rfl⟩ rfl hl.1 rfl (lv_room (Nat.le_of_ble_eq_true rfl)) dM_global_17 ⟨Nat.le_of_ble_eq_true rfl, Nat.le_of_ble_eq_true rfl⟩) hS (fun q _ h => h) (fun q h => h) (fun r u t H1 locs1 ht hvm hw hB hz hk hS => ?_)
    obtain ⟨hM, -⟩ := hB
    rw [ht] at hM
    obtain ⟨rfl, rfl⟩ := hw
    dsimp only at hM
    refine W.iret (v := (0)) hx hb hr (M_endi hM hK hS ?_) hS.2.2 dM_global_20
    exact ⟨rfl, by simp [va_up, c_6]⟩
  · skip
    refine lv_iload_n hx hb dM_global_9 rfl (lv_at hl 1 rfl) ?_
    refine lv_bipush (v := 25) hx hb dM_global_10 (by decide) ?_
    refine lv_icmp_le (tgt := 21) hx hb dM_global_12 (by decide) (fun c_12 => ?_) (fun c_12 => ?_)
    · skip
      obtain ⟨j, hj, ej⟩ := md_rng (n := 25) (by decide) c_6 c_12
      refine lv_aload_n hx hb dM_global_21 rfl (lv_at hl 0 rfl) ?_
      refine M_geta hx hb K hM 16 kM_f44 dM_global_22 (kk := ?_)
      refine lv_bipush (v := 121) hx hb dM_global_25 (by decide) ?_
      refine lv_iload_n hx hb dM_global_27 rfl (lv_at hl 1 rfl) ?_
      refine lv_iadd hx hb dM_global_28 ?_
      refine lv_as (v := nI (121 + j)) (by rw [ej]; exact nI_add 121 j) ?_
      refine M_aldn hx hb K hM 16 (j := 121 + j) (show 121 + j < 147 by omega) (v := 0) (ha 16 _) dM_global_29 (kk := ?_)
      refine lv_iconst (v := 1) hx hb dM_global_30 (by decide) ?_
      refine lv_icmp_eq (tgt := 40) hx hb dM_global_31 (by decide) (fun c_31 => absurd c_31 (by decide)) (fun c_31 => ?_)
      refine lv_aload_n hx hb dM_global_34 rfl (lv_at hl 0 rfl) ?_
      refine lv_iconst (v := 2) hx hb dM_global_35 (by decide) ?_
      refine va_calli (M_run (As := [.int (2)]) (rest := []) (n := 1) hx hb hml K hM (c_fail l D cl tys A ci tI tZ cI cZ o ad _ _ (2)) kM_c_fail kM_m118 kM_i_fail kM_s_fail rfl rfl ⟨rfl, by decide +kernel⟩ ⟨Nat.le_of_ble_eq_true rfl, Nat.le_of_ble_eq_true rfl⟩ rfl hl.1 rfl (lv_room (Nat.le_of_ble_eq_true rfl)) dM_global_36 ⟨Nat.le_of_ble_eq_true rfl, Nat.le_of_ble_eq_true rfl⟩) hS (fun q _ h => h) (fun q h => h) (fun r u t H1 locs1 ht hvm hw hB hz hk hS => ?_)
      obtain ⟨hM, -⟩ := hB
      rw [ht] at hM
      obtain ⟨rfl, rfl⟩ := hw
      dsimp only at hM
      refine W.iret (v := (0)) hx hb hr (M_endi hM hK hS ?_) hS.2.2 dM_global_39
      exact ⟨rfl, by simp [va_up, c_6, c_12]⟩
    · skip
      refine lv_aload_n hx hb dM_global_15 rfl (lv_at hl 0 rfl) ?_
      refine lv_iconst (v := 1) hx hb dM_global_16 (by decide) ?_
      refine va_calli (M_run (As := [.int (1)]) (rest := []) (n := 1) hx hb hml K hM (c_fail l D cl tys A ci tI tZ cI cZ o ad _ _ (1)) kM_c_fail kM_m118 kM_i_fail kM_s_fail rfl rfl ⟨rfl, by decide +kernel⟩ ⟨Nat.le_of_ble_eq_true rfl, Nat.le_of_ble_eq_true rfl⟩ rfl hl.1 rfl (lv_room (Nat.le_of_ble_eq_true rfl)) dM_global_17 ⟨Nat.le_of_ble_eq_true rfl, Nat.le_of_ble_eq_true rfl⟩) hS (fun q _ h => h) (fun q h => h) (fun r u t H1 locs1 ht hvm hw hB hz hk hS => ?_)
      obtain ⟨hM, -⟩ := hB
      rw [ht] at hM
      obtain ⟨rfl, rfl⟩ := hw
      dsimp only at hM
      refine W.iret (v := (0)) hx hb hr (M_endi hM hK hS ?_) hS.2.2 dM_global_20
      exact ⟨rfl, by simp [va_up, c_6, c_12]⟩
theorem md_sw_out {k : Int32} (h : k < 0 ∨ ¬ k ≤ 5) : k.toInt < 0 ∨ 5 < k.toInt := by
  rcases h with h | h
  · exact Or.inl (Int32.lt_iff_toInt_lt.mp h)
  · exact Or.inr (Int32.lt_iff_toInt_lt.mp (Int32.not_le.mp h))
set_option maxHeartbeats 4000000 in
set_option maxRecDepth 100000 in
theorem c_state (l : Launch) (D : va_G) (cl : List vw_C) (tys : List (ClassId × FieldType)) (A : Nat → Prop) (ci tI tZ : Nat) (cI cZ : ClassId) (o : Nat) (ad : Nat → Nat) (fi : Nat → Int32) (fa : Nat → Nat → Int32) (k : Int32) (hz : ∀ k, fi k = 0) (ha : ∀ k j, fa k j = 0) :
    Met l yM_state (.code yM_state bM_state 2 (some .int) :: lw_g) ({ frames := 1, cells := 0, slots := 0, locals := 21 }) (va_Pc [.ref o, .int k] (mdPre D cl tys A ci tI tZ cI cZ o ad fi fa)) (va_Qi (fun r S => r = 0 ∧ S.1 0 = if k < 0 ∨ ¬ k ≤ 5 then 1 else 0) (mdB D cl tys A ci cI cZ o ad) A) 0 0 A := by
  refine Met.ofW (cc := bM_state) (maxL := 2) (ret := (some .int)) (by decide) rfl ?_
  intro p e s m args below meth c s₁ B hml hv
  obtain ⟨rfl, hM, hK, hc, hI, hZ⟩ := hv
  have hx := B.exec
  have hb := B.bytes
  have hr := B.returns
  have hts := atoms_spec (ws := (.code yM_state bM_state 2 (some .int) :: lw_g)) B.pre
  have hown : s.vm.findClass RM = some m.cls := findClass_of_methodNamed B.named
  have K : mdC D cl tys ci tI tZ cI cZ s m _ := ⟨fun w h => hts w (List.mem_cons_of_mem _ h), hown, hK, hc, hI, hZ⟩
  have hlocks := B.notSynchronized
  have hS : va_S A s.heap s.heap [] := va_S.rf
  have hl := lv_entry ([.ref o, .int k]) (n := 2) (Nat.le_of_ble_eq_true rfl)
  rw [lg_entry_eq]
  generalize (lg_sl ([.ref o, .int k]) ++ List.replicate (2 - (lg_sl ([.ref o, .int k])).length) Slot.unset).toArray = ls at hl ⊢
  have hl : lv_has ls 2 [(0, .ref o), (1, .int k)] := hl
  refine lv_aload_n hx hb dM_state_0 rfl (lv_at hl 0 rfl) ?_
  refine lv_iconst (v := 0) hx hb dM_state_1 (by decide) ?_
  refine M_puti hx hb K hM hS 0 kM_f77 dM_state_2 (kk := fun H locs hM hS => ?_)
  refine lv_iload_n hx hb dM_state_5 rfl (lv_at hl 1 rfl) ?_
  by_cases hr5 : k < 0 ∨ ¬ k ≤ 5
  · refine lv_tableOut (tgt := 102) hx hb dM_state_6 (md_sw_out hr5) (by decide) ?_
    refine lv_aload_n hx hb dM_state_102 rfl (lv_at hl 0 rfl) ?_
    refine lv_iconst (v := 1) hx hb dM_state_103 (by decide) ?_
    refine va_calli (M_run (As := [.int (1)]) (rest := []) (n := 1) hx hb hml K hM (c_fail l D cl tys A ci tI tZ cI cZ o ad _ _ (1)) kM_c_fail kM_m118 kM_i_fail kM_s_fail rfl rfl ⟨rfl, by decide +kernel⟩ ⟨Nat.le_of_ble_eq_true rfl, Nat.le_of_ble_eq_true rfl⟩ rfl hl.1 rfl (lv_room (Nat.le_of_ble_eq_true rfl)) dM_state_104 ⟨Nat.le_of_ble_eq_true rfl, Nat.le_of_ble_eq_true rfl⟩) hS (fun q _ h => h) (fun q h => h) (fun r u t H1 locs1 ht hvm hw hB hz hk hS => ?_)
    obtain ⟨hM, -⟩ := hB
    rw [ht] at hM
    obtain ⟨rfl, rfl⟩ := hw
    dsimp only at hM
    refine W.iret (v := (0)) hx hb hr (M_endi hM hK hS ?_) hS.2.2 dM_state_107
    exact ⟨rfl, by first | (rw [if_neg hr5]; rfl) | (rw [if_pos hr5]; rfl)⟩
  · obtain ⟨j, hj, ej⟩ := md_rng (n := 5) (by decide) (fun q => hr5 (Or.inl q)) (Classical.byContradiction fun q => hr5 (Or.inr q))
    rcases (show j = 0 ∨ j = 1 ∨ j = 2 ∨ j = 3 ∨ j = 4 ∨ j = 5 by omega) with rfl | rfl | rfl | rfl | rfl | rfl
    · refine lv_tableIn (tgt := 44) (off := 38) hx hb dM_state_6 (by rw [ej]; decide) (by rw [ej]; decide) (by rw [ej]; decide) (by decide) ?_
      refine lv_aload_n hx hb dM_state_44 rfl (lv_at hl 0 rfl) ?_
      refine M_getv hx hb K hM 28 (v := 0) (hz 28) kM_f115 dM_state_45 (kk := ?_)
      refine W.iret (v := (0)) hx hb hr (M_endi hM hK hS ?_) hS.2.2 dM_state_48
      exact ⟨rfl, by first | (rw [if_neg hr5]; rfl) | (rw [if_pos hr5]; rfl)⟩
    · refine lv_tableIn (tgt := 49) (off := 43) hx hb dM_state_6 (by rw [ej]; decide) (by rw [ej]; decide) (by rw [ej]; decide) (by decide) ?_
      refine lv_aload_n hx hb dM_state_49 rfl (lv_at hl 0 rfl) ?_
      refine M_getv hx hb K hM 29 (v := 0) (hz 29) kM_f143 dM_state_50 (kk := ?_)
      refine W.iret (v := (0)) hx hb hr (M_endi hM hK hS ?_) hS.2.2 dM_state_53
      exact ⟨rfl, by first | (rw [if_neg hr5]; rfl) | (rw [if_pos hr5]; rfl)⟩
    · refine lv_tableIn (tgt := 54) (off := 48) hx hb dM_state_6 (by rw [ej]; decide) (by rw [ej]; decide) (by rw [ej]; decide) (by decide) ?_
      refine lv_aload_n hx hb dM_state_54 rfl (lv_at hl 0 rfl) ?_
      refine M_getv hx hb K hM 23 (v := 0) (hz 23) kM_f134 dM_state_55 (kk := ?_)
      refine W.iret (v := (0)) hx hb hr (M_endi hM hK hS ?_) hS.2.2 dM_state_58
      exact ⟨rfl, by first | (rw [if_neg hr5]; rfl) | (rw [if_pos hr5]; rfl)⟩
    · refine lv_tableIn (tgt := 59) (off := 53) hx hb dM_state_6 (by rw [ej]; decide) (by rw [ej]; decide) (by rw [ej]; decide) (by decide) ?_
      refine lv_aload_n hx hb dM_state_59 rfl (lv_at hl 0 rfl) ?_
      refine M_getv hx hb K hM 20 (v := 0) (hz 20) kM_f131 dM_state_60 (kk := ?_)
      refine W.iret (v := (0)) hx hb hr (M_endi hM hK hS ?_) hS.2.2 dM_state_63
      exact ⟨rfl, by first | (rw [if_neg hr5]; rfl) | (rw [if_pos hr5]; rfl)⟩
    · refine lv_tableIn (tgt := 64) (off := 58) hx hb dM_state_6 (by rw [ej]; decide) (by rw [ej]; decide) (by rw [ej]; decide) (by decide) ?_
      refine lv_aload_n hx hb dM_state_64 rfl (lv_at hl 0 rfl) ?_
      refine M_getv hx hb K hM 28 (v := 0) (hz 28) kM_f115 dM_state_65 (kk := ?_)
      refine lv_iconst (v := 1) hx hb dM_state_68 (by decide) ?_
      refine lv_icmp_ne (tgt := 83) hx hb dM_state_69 (by decide) (fun c_69 => ?_) (fun c_69 => absurd c_69 (by decide))
      refine lv_iconst (v := 0) hx hb dM_state_83 (by decide) ?_
      refine W.iret (v := (0)) hx hb hr (M_endi hM hK hS ?_) hS.2.2 dM_state_84
      exact ⟨rfl, by first | (rw [if_neg hr5]; rfl) | (rw [if_pos hr5]; rfl)⟩
    · refine lv_tableIn (tgt := 85) (off := 79) hx hb dM_state_6 (by rw [ej]; decide) (by rw [ej]; decide) (by rw [ej]; decide) (by decide) ?_
      refine lv_aload_n hx hb dM_state_85 rfl (lv_at hl 0 rfl) ?_
      refine M_getv hx hb K hM 28 (v := 0) (hz 28) kM_f115 dM_state_86 (kk := ?_)
      refine lv_iconst (v := 3) hx hb dM_state_89 (by decide) ?_
      refine lv_icmp_ne (tgt := 100) hx hb dM_state_90 (by decide) (fun c_90 => ?_) (fun c_90 => absurd c_90 (by decide))
      refine lv_iconst (v := 0) hx hb dM_state_100 (by decide) ?_
      refine W.iret (v := (0)) hx hb hr (M_endi hM hK hS ?_) hS.2.2 dM_state_101
      exact ⟨rfl, by first | (rw [if_neg hr5]; rfl) | (rw [if_pos hr5]; rfl)⟩
set_option maxHeartbeats 4000000 in
set_option maxRecDepth 100000 in
theorem c_given (l : Launch) (D : va_G) (cl : List vw_C) (tys : List (ClassId × FieldType)) (A : Nat → Prop) (ci tI tZ : Nat) (cI cZ : ClassId) (o : Nat) (ad : Nat → Nat) (fi : Nat → Int32) (fa : Nat → Nat → Int32) (k v : Int32) (hz : ∀ k, fi k = 0) (ha : ∀ k j, fa k j = 0) :
    Met l yM_given (.code yM_given bM_given 5 (some .int) :: lw_g) ({ frames := 1, cells := 0, slots := 0, locals := 21 }) (va_Pc [.ref o, .int k, .int v] (mdPre D cl tys A ci tI tZ cI cZ o ad fi fa)) (va_Qi (fun r S => r = (if k < 0 ∨ ¬ k ≤ 25 then 0 else 1) ∧ S.1 0 = (if k < 0 ∨ ¬ k ≤ 25 then 2 else 0)) (mdB D cl tys A ci cI cZ o ad) A) 0 0 A := by
  refine Met.ofW (cc := bM_given) (maxL := 5) (ret := (some .int)) (by decide) rfl ?_
  intro p e s m args below meth c s₁ B hml hv
  obtain ⟨rfl, hM, hK, hc, hI, hZ⟩ := hv
  have hx := B.exec
  have hb := B.bytes
  have hr := B.returns
  have hts := atoms_spec (ws := (.code yM_given bM_given 5 (some .int) :: lw_g)) B.pre
  have hown : s.vm.findClass RM = some m.cls := findClass_of_methodNamed B.named
  have K : mdC D cl tys ci tI tZ cI cZ s m _ := ⟨fun w h => hts w (List.mem_cons_of_mem _ h), hown, hK, hc, hI, hZ⟩
  have hlocks := B.notSynchronized
  have hS : va_S A s.heap s.heap [] := va_S.rf
  have hl := lv_entry ([.ref o, .int k, .int v]) (n := 5) (Nat.le_of_ble_eq_true rfl)
  rw [lg_entry_eq]
  generalize (lg_sl ([.ref o, .int k, .int v]) ++ List.replicate (5 - (lg_sl ([.ref o, .int k, .int v])).length) Slot.unset).toArray = ls at hl ⊢
  have hl : lv_has ls 5 [(0, .ref o), (1, .int k), (2, .int v)] := hl
  refine lv_aload_n hx hb dM_given_0 rfl (lv_at hl 0 rfl) ?_
  refine lv_iconst (v := 0) hx hb dM_given_1 (by decide) ?_
  refine M_puti hx hb K hM hS 0 kM_f77 dM_given_2 (kk := fun H locs hM hS => ?_)
  refine lv_iload_n hx hb dM_given_5 rfl (lv_at hl 1 rfl) ?_
  refine lv_if_lt (tgt := 15) hx hb dM_given_6 (by decide) (fun c_6 => ?_) (fun c_6 => ?_)
  · skip
    refine lv_aload_n hx hb dM_given_15 rfl (lv_at hl 0 rfl) ?_
    refine lv_iconst (v := 2) hx hb dM_given_16 (by decide) ?_
    refine va_calli (M_run (As := [.int (2)]) (rest := []) (n := 1) hx hb hml K hM (c_fail l D cl tys A ci tI tZ cI cZ o ad _ _ (2)) kM_c_fail kM_m118 kM_i_fail kM_s_fail rfl rfl ⟨rfl, by decide +kernel⟩ ⟨Nat.le_of_ble_eq_true rfl, Nat.le_of_ble_eq_true rfl⟩ rfl hl.1 rfl (lv_room (Nat.le_of_ble_eq_true rfl)) dM_given_17 ⟨Nat.le_of_ble_eq_true rfl, Nat.le_of_ble_eq_true rfl⟩) hS (fun q _ h => h) (fun q h => h) (fun r u t H1 locs1 ht hvm hw hB hz hk hS => ?_)
    obtain ⟨hM, -⟩ := hB
    rw [ht] at hM
    obtain ⟨rfl, rfl⟩ := hw
    dsimp only at hM
    refine W.iret (v := (0)) hx hb hr (M_endi hM hK hS ?_) hS.2.2 dM_given_20
    exact ⟨by simp [c_6], by simp [va_up, c_6]⟩
  · skip
    refine lv_iload_n hx hb dM_given_9 rfl (lv_at hl 1 rfl) ?_
    refine lv_bipush (v := 25) hx hb dM_given_10 (by decide) ?_
    refine lv_icmp_le (tgt := 21) hx hb dM_given_12 (by decide) (fun c_12 => ?_) (fun c_12 => ?_)
    · skip
      obtain ⟨q, hq, ej⟩ := md_rng (n := 25) (by decide) c_6 c_12
      refine lv_aload_n hx hb dM_given_21 rfl (lv_at hl 0 rfl) ?_
      refine M_getv hx hb K hM 28 (v := 0) (hz 28) kM_f115 dM_given_22 (kk := ?_)
      refine lv_iconst (v := 1) hx hb dM_given_25 (by decide) ?_
      refine lv_icmp_ne (tgt := 35) hx hb dM_given_26 (by decide) (fun c_26 => ?_) (fun c_26 => absurd c_26 (by decide))
      refine lv_aload_n hx hb dM_given_35 rfl (lv_at hl 0 rfl) ?_
      refine M_geta hx hb K hM 14 kM_f37 dM_given_36 (kk := ?_)
      refine lv_iload_n hx hb dM_given_39 rfl (lv_at hl 1 rfl) ?_
      refine lv_as (v := nI q) ej ?_
      refine lv_iload_n hx hb dM_given_40 rfl (lv_at hl 2 rfl) ?_
      refine M_astn hx hb K hM hS 14 (j := q) (show q < 26 by omega) dM_given_41 (kk := fun H locs hM hS => ?_)
      refine lv_aload_n hx hb dM_given_42 rfl (lv_at hl 0 rfl) ?_
      refine M_geta hx hb K hM 15 kM_f40 dM_given_43 (kk := ?_)
      refine lv_iload_n hx hb dM_given_46 rfl (lv_at hl 1 rfl) ?_
      refine lv_as (v := nI q) ej ?_
      refine lv_iconst (v := 1) hx hb dM_given_47 (by decide) ?_
      refine M_zastn hx hb K hM hS (j := q) (show q < 26 by omega) dM_given_48 (fun H locs hM hS => ?_)
      refine lv_iconst (v := 0) hx hb dM_given_49 (by decide) ?_
      refine lv_as (v := if q < 0 then 1 else 0) (by rw [if_neg (Nat.not_lt_zero q)]) ?_
      refine lv_istore_n (lv' := [(3, .int (if q < 0 then 1 else 0)), (0, .ref o), (1, .int k), (2, .int v)]) hx hb dM_given_50 rfl hl (by decide) rfl (fun ls hl => ?_)
      refine lv_iconst (v := 0) hx hb dM_given_51 (by decide) ?_
      refine lv_as (v := nI 0) nI_0.symm ?_
      refine lv_istore (lv' := [(4, .int (nI 0)), (3, .int (if q < 0 then 1 else 0)), (0, .ref o), (1, .int k), (2, .int v)]) hx hb dM_given_52 hl (by decide) rfl (fun ls hl => ?_)
      have hg : ¬ (k < 0 ∨ ¬ k ≤ 25) := fun z => z.elim c_6 (fun z => z c_12)
      have loop : ∀ (z i : Nat) (ls : Array Slot), i + z = 26 → lv_has ls 5 [(4, .int (nI i)), (3, .int (if q < i then 1 else 0)), (0, .ref o), (1, .int k), (2, .int v)] → W p l e (headSpec (.code yM_given bM_given 5 (some .int) :: lw_g) ({ frames := 1, cells := 0, slots := 0, locals := 21 })).room s m #[Value.ref o, Value.int k, Value.int v] below meth c H locs 0 0 (MQ below (va_Qi (fun r S => r = (if k < 0 ∨ ¬ k ≤ 25 then 0 else 1) ∧ S.1 0 = (if k < 0 ∨ ¬ k ≤ 25 then 2 else 0)) (mdB D cl tys A ci cI cZ o ad) A) #[Value.ref o, Value.int k, Value.int v] s 0 0 A) (F0 m 54 ls []) := by
        intro z
        induction z with
        | zero =>
          intro i ls hi hl
          obtain rfl : i = 26 := by omega
          refine lv_iload hx hb dM_given_54 (lv_at hl 0 rfl) ?_
          refine lv_bipush (v := 26) hx hb dM_given_56 (by decide) ?_
          refine lv_icmp_ge (tgt := 85) hx hb dM_given_58 (by decide) (fun c_58 => ?_) (fun c_58 => absurd (by decide) c_58)
          refine lv_iload_n hx hb dM_given_85 rfl (lv_at hl 1 rfl) ?_
          refine W.iret (v := (if q < 26 then 1 else 0)) hx hb hr (M_endi hM hK hS ?_) hS.2.2 dM_given_86
          exact ⟨by rw [if_neg hg, if_pos (show q < 26 by omega)], by rw [if_neg hg]; rfl⟩
        | succ z ih =>
          intro i ls hi hl
          refine lv_iload hx hb dM_given_54 (lv_at hl 0 rfl) ?_
          refine lv_bipush (v := 26) hx hb dM_given_56 (by decide) ?_
          refine lv_icmp_ge (tgt := 85) hx hb dM_given_58 (by decide) (fun c_58 => absurd c_58 (nI_ge (b := 26) (show i < 26 by omega) (by decide))) (fun c_58 => ?_)
          refine lv_iload_n hx hb dM_given_61 rfl (lv_at hl 1 rfl) ?_
          refine lv_aload_n hx hb dM_given_62 rfl (lv_at hl 2 rfl) ?_
          refine M_geta hx hb K hM 15 kM_f40 dM_given_63 (kk := ?_)
          refine lv_iload hx hb dM_given_66 (lv_at hl 0 rfl) ?_
          refine M_zaldn hx hb K hM (j := i) (show i < 26 by omega) (v := if i = q then 1 else 0) (by show upd (fa 15) q 1 i = _; unfold upd; split; rfl; exact ha 15 i) dM_given_68 ?_
          refine lv_if_eq (tgt := 76) hx hb dM_given_69 (by decide) (fun c_69 => ?_) (fun c_69 => ?_)
          · skip
            have hiq : ¬ i = q := fun z => absurd c_69 (by rw [if_pos z]; decide)
            refine lv_iconst (v := 0) hx hb dM_given_76 (by decide) ?_
            refine lv_iadd hx hb dM_given_77 ?_
            refine lv_as (v := if q < i + 1 then 1 else 0) (by by_cases hz9 : q < i; rw [if_pos hz9, if_pos (show q < i + 1 by omega)]; rfl; rw [if_neg hz9, if_neg (show ¬ q < i + 1 by omega)]; rfl) ?_
            refine lv_istore_n (lv' := [(3, .int (if q < i + 1 then 1 else 0)), (4, .int (nI i)), (0, .ref o), (1, .int k), (2, .int v)]) hx hb dM_given_78 rfl hl (by decide) rfl (fun ls hl => ?_)
            refine lv_iinc (v := nI (i + 1)) (lv' := [(4, .int (nI (i + 1))), (3, .int (if q < i + 1 then 1 else 0)), (0, .ref o), (1, .int k), (2, .int v)]) hx hb dM_given_79 hl (k := 1) rfl (nI_1 i) (by decide) rfl (fun ls hl => ?_)
            exact lv_goto (tgt := 54) hx hb dM_given_82 (by decide) (ih (i + 1) ls (by omega) (lv_sub hl [0, 1, 2, 3, 4] rfl))
          · skip
            have hiq : i = q := Classical.byContradiction fun z => c_69 (by rw [if_neg z])
            refine lv_iconst (v := 1) hx hb dM_given_72 (by decide) ?_
            refine lv_goto (tgt := 77) hx hb dM_given_73 (by decide) ?_
            refine lv_iadd hx hb dM_given_77 ?_
            refine lv_as (v := if q < i + 1 then 1 else 0) (by rw [if_neg (show ¬ q < i by omega), if_pos (show q < i + 1 by omega)]; rfl) ?_
            refine lv_istore_n (lv' := [(3, .int (if q < i + 1 then 1 else 0)), (4, .int (nI i)), (0, .ref o), (1, .int k), (2, .int v)]) hx hb dM_given_78 rfl hl (by decide) rfl (fun ls hl => ?_)
            refine lv_iinc (v := nI (i + 1)) (lv' := [(4, .int (nI (i + 1))), (3, .int (if q < i + 1 then 1 else 0)), (0, .ref o), (1, .int k), (2, .int v)]) hx hb dM_given_79 hl (k := 1) rfl (nI_1 i) (by decide) rfl (fun ls hl => ?_)
            exact lv_goto (tgt := 54) hx hb dM_given_82 (by decide) (ih (i + 1) ls (by omega) (lv_sub hl [0, 1, 2, 3, 4] rfl))
      exact loop 26 0 ls rfl (lv_sub hl [0, 1, 2, 3, 4] rfl)
    · skip
      refine lv_aload_n hx hb dM_given_15 rfl (lv_at hl 0 rfl) ?_
      refine lv_iconst (v := 2) hx hb dM_given_16 (by decide) ?_
      refine va_calli (M_run (As := [.int (2)]) (rest := []) (n := 1) hx hb hml K hM (c_fail l D cl tys A ci tI tZ cI cZ o ad _ _ (2)) kM_c_fail kM_m118 kM_i_fail kM_s_fail rfl rfl ⟨rfl, by decide +kernel⟩ ⟨Nat.le_of_ble_eq_true rfl, Nat.le_of_ble_eq_true rfl⟩ rfl hl.1 rfl (lv_room (Nat.le_of_ble_eq_true rfl)) dM_given_17 ⟨Nat.le_of_ble_eq_true rfl, Nat.le_of_ble_eq_true rfl⟩) hS (fun q _ h => h) (fun q h => h) (fun r u t H1 locs1 ht hvm hw hB hz hk hS => ?_)
      obtain ⟨hM, -⟩ := hB
      rw [ht] at hM
      obtain ⟨rfl, rfl⟩ := hw
      dsimp only at hM
      refine W.iret (v := (0)) hx hb hr (M_endi hM hK hS ?_) hS.2.2 dM_given_20
      exact ⟨by simp [c_6, c_12], by simp [va_up, c_6, c_12]⟩
