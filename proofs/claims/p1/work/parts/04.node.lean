section MROW2
variable {p : Program} {l : Launch} {e : Env} {R : Room} {s : State} {m : MethodId} {args : Array Value} {below : List Frame} {meth : Method} {c : Code} {H : Heap} {locs : List Loc} {cells slots : Nat} {Q : State → Prop}
variable {cc : ByteArray} {pc : Nat} {ls : Array Slot} {rest : List Value} {D : va_G} {cl : List vw_C} {A : Nat → Prop} {tys : List (ClassId × FieldType)} {H0 : Heap} {ci tI tZ : Nat} {cI cZ : ClassId} {o : Nat} {ad : Nat → Nat} {fi : Nat → Int32} {fa : Nat → Nat → Int32}
theorem lv_as {z v : Int32} (hv : z = v) (k : W p l e R s m args below meth c H locs cells slots Q (F0 m pc ls (.int v :: rest))) : W p l e R s m args below meth c H locs cells slots Q (F0 m pc ls (.int z :: rest)) := by rw [hv]; exact k
theorem M_getv (hx : p.tables.exec = Jvm.exec) (hb : c.code = cc) (K : mdC D cl tys ci tI tZ cI cZ s m args) (hM : mdW D cl A ci cI cZ o ad fi fa H) (k : Nat) {v : Int32} (hv : fi k = v) {idx : Nat} (hl : Cond.fieldLink RM idx "ContinuationCoreModel" (TM k).2.1 (TM k).2.2.1 ∈ lw_g) (hdg : decode cc pc = .ok (.getfield idx, 3)) (hk : mdN k = true := by rfl) (h40 : k < 40 := by decide) (hT : (TM k).1 = "ContinuationCoreModel" := by rfl)
    (kk : W p l e R s m args below meth c H locs cells slots Q (F0 m (pc + 3) ls (.int v :: rest))) : W p l e R s m args below meth c H locs cells slots Q (F0 m pc ls (.ref o :: rest)) := by
  subst hv
  exact M_geti hx hb K hM k hl hdg hk h40 hT kk
theorem M_aldn (hx : p.tables.exec = Jvm.exec) (hb : c.code = cc) (K : mdC D cl tys ci tI tZ cI cZ s m args) (hM : mdW D cl A ci cI cZ o ad fi fa H) (k : Nat) {j : Nat} (hj : j < mdZ k) {v : Int32} (hv : fa k j = v) (hdg : decode cc pc = .ok (.iaload, 1)) (hk : mdI k = true := by rfl) (hz : mdZ k < 2 ^ 31 := by decide)
    (kk : W p l e R s m args below meth c H locs cells slots Q (F0 m (pc + 1) ls (.int v :: rest))) : W p l e R s m args below meth c H locs cells slots Q (F0 m pc ls (.int (nI j) :: .ref (ad k) :: rest)) := by
  subst hv
  refine M_ald hx hb K hM k (vp_in_nI hj hz) hdg hk ?_
  rw [nI_clamp (Nat.lt_trans hj hz)]
  exact kk
theorem M_astn (hx : p.tables.exec = Jvm.exec) (hb : c.code = cc) (K : mdC D cl tys ci tI tZ cI cZ s m args) (hM : mdW D cl A ci cI cZ o ad fi fa H) (hS : va_S A H0 H locs) (k : Nat) {j : Nat} {v : Int32} (hj : j < mdZ k) (hdg : decode cc pc = .ok (.iastore, 1)) (hk : mdI k = true := by rfl) (hz : mdZ k < 2 ^ 31 := by decide)
    (kk : ∀ (H1 : Heap) (locs1 : List Loc), mdW D cl A ci cI cZ o ad fi (va_up fa k (upd (fa k) j v)) H1 → va_S A H0 H1 locs1 → W p l e R s m args below meth c H1 locs1 cells slots Q (F0 m (pc + 1) ls rest)) : W p l e R s m args below meth c H locs cells slots Q (F0 m pc ls (.int v :: .int (nI j) :: .ref (ad k) :: rest)) := by
  refine M_ast hx hb K hM hS k (vp_in_nI hj hz) hdg hk (fun H1 locs1 h1 s1 => kk H1 locs1 ?_ s1)
  rw [nI_clamp (Nat.lt_trans hj hz)] at h1
  exact h1
theorem M_endi {post : Int32 → (Nat → Int32) × (Nat → Nat → Int32) → Prop} (hM : mdW D cl A ci cI cZ o ad fi fa H) (hK : va_K D cl tys s) (hS : va_S A s.heap H locs) {r : Int32} (hp : post r (fi, fa)) : ∀ t : State, t.heap = H → s.WarmedH t.vm → va_Qi post (mdB D cl tys A ci cI cZ o ad) A args s (.returned (some (.int r))) t := fun _ ht hW => ⟨⟨r, (fi, fa), rfl, hp, by rw [ht]; exact hM, va_K.moved hW.alike hK⟩, hS.F ht⟩
theorem M_endv {post : (Nat → Int32) × (Nat → Nat → Int32) → Prop} (hM : mdW D cl A ci cI cZ o ad fi fa H) (hK : va_K D cl tys s) (hS : va_S A s.heap H locs) (hp : post (fi, fa)) : ∀ t : State, t.heap = H → s.WarmedH t.vm → va_Qv post (mdB D cl tys A ci cI cZ o ad) A args s (.returned none) t := fun _ ht hW => ⟨⟨(fi, fa), rfl, hp, by rw [ht]; exact hM, va_K.moved hW.alike hK⟩, hS.F ht⟩
end MROW2
set_option maxHeartbeats 4000000 in
set_option maxRecDepth 100000 in
theorem c_fail (l : Launch) (D : va_G) (cl : List vw_C) (tys : List (ClassId × FieldType)) (A : Nat → Prop) (ci tI tZ : Nat) (cI cZ : ClassId) (o : Nat) (ad : Nat → Nat) (fi : Nat → Int32) (fa : Nat → Nat → Int32) (k : Int32) :
    Met l yM_fail (.code yM_fail bM_fail 2 (some .int) :: lw_g) ({ frames := 0, cells := 0, slots := 0, locals := 0 }) (va_Pc [.ref o, .int k] (mdPre D cl tys A ci tI tZ cI cZ o ad fi fa)) (va_Qi (fun r S => r = 0 ∧ S = (va_up fi 0 k, fa)) (mdB D cl tys A ci cI cZ o ad) A) 0 0 A := by
  refine Met.ofW (cc := bM_fail) (maxL := 2) (ret := (some .int)) (by decide) rfl ?_
  intro p e s m args below meth c s₁ B hml hv
  obtain ⟨rfl, hM, hK, hc, hI, hZ⟩ := hv
  have hx := B.exec
  have hb := B.bytes
  have hr := B.returns
  have hts := atoms_spec (ws := (.code yM_fail bM_fail 2 (some .int) :: lw_g)) B.pre
  have hown : s.vm.findClass RM = some m.cls := findClass_of_methodNamed B.named
  have K : mdC D cl tys ci tI tZ cI cZ s m _ := ⟨fun w h => hts w (List.mem_cons_of_mem _ h), hown, hK, hc, hI, hZ⟩
  have hlocks := B.notSynchronized
  have hS : va_S A s.heap s.heap [] := va_S.rf
  have hl := lv_entry ([.ref o, .int k]) (n := 2) (Nat.le_of_ble_eq_true rfl)
  rw [lg_entry_eq]
  generalize (lg_sl ([.ref o, .int k]) ++ List.replicate (2 - (lg_sl ([.ref o, .int k])).length) Slot.unset).toArray = ls at hl ⊢
  have hl : lv_has ls 2 [(0, .ref o), (1, .int k)] := hl
  refine lv_aload_n hx hb dM_fail_0 rfl (lv_at hl 0 rfl) ?_
  refine lv_iload_n hx hb dM_fail_1 rfl (lv_at hl 1 rfl) ?_
  refine M_puti hx hb K hM hS 0 kM_f77 dM_fail_2 (kk := fun H locs hM hS => ?_)
  refine lv_iconst (v := 0) hx hb dM_fail_5 (by decide) ?_
  refine W.iret (v := (0)) hx hb hr (M_endi hM hK hS ?_) hS.2.2 dM_fail_6
  exact ⟨rfl, rfl⟩
/-- a new node: its three rows -/
def md_node (fa : Nat → Nat → Int32) (n : Nat) (c : Int32) : Nat → Nat → Int32 := va_up (va_up (va_up fa 9 (upd (fa 9) n c)) 10 (upd (fa 10) n 0)) 11 (upd (fa 11) n 0)
set_option maxHeartbeats 4000000 in
set_option maxRecDepth 100000 in
theorem c_newNode (l : Launch) (D : va_G) (cl : List vw_C) (tys : List (ClassId × FieldType)) (A : Nat → Prop) (ci tI tZ : Nat) (cI cZ : ClassId) (o : Nat) (ad : Nat → Nat) (fi : Nat → Int32) (fa : Nat → Nat → Int32) (k : Int32) (n : Nat) (hn : fi 13 = nI n) (hlt : n < 120) :
    Met l yM_newNode (.code yM_newNode bM_newNode 2 (some .int) :: lw_g) ({ frames := 0, cells := 0, slots := 0, locals := 0 }) (va_Pc [.ref o, .int k] (mdPre D cl tys A ci tI tZ cI cZ o ad fi fa)) (va_Qi (fun r S => r = nI n ∧ S = (va_up fi 13 (nI (n + 1)), md_node fa n k)) (mdB D cl tys A ci cI cZ o ad) A) 0 0 A := by
  refine Met.ofW (cc := bM_newNode) (maxL := 2) (ret := (some .int)) (by decide) rfl ?_
  intro p e s m args below meth c s₁ B hml hv
  obtain ⟨rfl, hM, hK, hc, hI, hZ⟩ := hv
  have hx := B.exec
  have hb := B.bytes
  have hr := B.returns
  have hts := atoms_spec (ws := (.code yM_newNode bM_newNode 2 (some .int) :: lw_g)) B.pre
  have hown : s.vm.findClass RM = some m.cls := findClass_of_methodNamed B.named
  have K : mdC D cl tys ci tI tZ cI cZ s m _ := ⟨fun w h => hts w (List.mem_cons_of_mem _ h), hown, hK, hc, hI, hZ⟩
  have hlocks := B.notSynchronized
  have hS : va_S A s.heap s.heap [] := va_S.rf
  have hl := lv_entry ([.ref o, .int k]) (n := 2) (Nat.le_of_ble_eq_true rfl)
  rw [lg_entry_eq]
  generalize (lg_sl ([.ref o, .int k]) ++ List.replicate (2 - (lg_sl ([.ref o, .int k])).length) Slot.unset).toArray = ls at hl ⊢
  have hl : lv_has ls 2 [(0, .ref o), (1, .int k)] := hl
  refine lv_aload_n hx hb dM_newNode_0 rfl (lv_at hl 0 rfl) ?_
  refine M_geta hx hb K hM 9 kM_f25 dM_newNode_1 (kk := ?_)
  refine lv_aload_n hx hb dM_newNode_4 rfl (lv_at hl 0 rfl) ?_
  refine M_getv hx hb K hM 13 (v := nI n) hn kM_f81 dM_newNode_5 (kk := ?_)
  refine lv_iload_n hx hb dM_newNode_8 rfl (lv_at hl 1 rfl) ?_
  refine M_astn hx hb K hM hS 9 (j := n) hlt dM_newNode_9 (kk := fun H locs hM hS => ?_)
  refine lv_aload_n hx hb dM_newNode_10 rfl (lv_at hl 0 rfl) ?_
  refine M_geta hx hb K hM 10 kM_f28 dM_newNode_11 (kk := ?_)
  refine lv_aload_n hx hb dM_newNode_14 rfl (lv_at hl 0 rfl) ?_
  refine M_getv hx hb K hM 13 (v := nI n) hn kM_f81 dM_newNode_15 (kk := ?_)
  refine lv_iconst (v := 0) hx hb dM_newNode_18 (by decide) ?_
  refine M_astn hx hb K hM hS 10 (j := n) hlt dM_newNode_19 (kk := fun H locs hM hS => ?_)
  refine lv_aload_n hx hb dM_newNode_20 rfl (lv_at hl 0 rfl) ?_
  refine M_geta hx hb K hM 11 kM_f31 dM_newNode_21 (kk := ?_)
  refine lv_aload_n hx hb dM_newNode_24 rfl (lv_at hl 0 rfl) ?_
  refine M_getv hx hb K hM 13 (v := nI n) hn kM_f81 dM_newNode_25 (kk := ?_)
  refine lv_iconst (v := 0) hx hb dM_newNode_28 (by decide) ?_
  refine M_astn hx hb K hM hS 11 (j := n) hlt dM_newNode_29 (kk := fun H locs hM hS => ?_)
  refine lv_aload_n hx hb dM_newNode_30 rfl (lv_at hl 0 rfl) ?_
  refine lv_dup hx hb dM_newNode_31 rfl ?_
  refine M_getv hx hb K hM 13 (v := nI n) hn kM_f81 dM_newNode_32 (kk := ?_)
  refine lv_iconst (v := 1) hx hb dM_newNode_35 (by decide) ?_
  refine lv_iadd hx hb dM_newNode_36 ?_
  refine lv_as (v := nI (n + 1)) (nI_1 n) ?_
  refine M_puti hx hb K hM hS 13 kM_f81 dM_newNode_37 (kk := fun H locs hM hS => ?_)
  refine lv_aload_n hx hb dM_newNode_40 rfl (lv_at hl 0 rfl) ?_
  refine M_getv hx hb K hM 13 (v := nI (n + 1)) rfl kM_f81 dM_newNode_41 (kk := ?_)
  refine lv_iconst (v := 1) hx hb dM_newNode_44 (by decide) ?_
  refine lv_isub hx hb dM_newNode_45 ?_
  refine lv_as (v := nI n) (nI_pred n) ?_
  refine W.iret (v := (nI n)) hx hb hr (M_endi hM hK hS ?_) hS.2.2 dM_newNode_46
  exact ⟨rfl, rfl⟩
