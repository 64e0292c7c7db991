set_option maxHeartbeats 4000000 in
set_option maxRecDepth 100000 in
theorem c_fail (l : Launch) (D : va_G) (cl : List vw_C) (tys : List (ClassId × FieldType)) (A : Nat → Prop) (ci tI tZ : Nat) (cI cZ : ClassId) (o : Nat) (ad : Nat → Nat) (fi : Nat → Int32) (fa : Nat → Nat → Int32) (k : Int32) :
    Met l yM_fail (.code yM_fail bM_fail 2 (some .int) :: lw_g) ({ frames := 0, cells := 0, slots := 0, locals := 0 }) (va_Pc [.ref o, .int k] (mdPre D cl tys A ci tI tZ cI cZ o ad fi fa)) (va_Qi (fun r S => r = 0 ∧ S = (va_up fi 0 k, fa)) (mdB D cl tys A ci cI cZ o ad) A) 0 0 A := by
  refine Met.ofW (cc := bM_fail) (maxL := 2) (ret := some .int) (by decide) rfl ?_
  intro p e s m args below meth c s₁ B hml hv
  obtain ⟨rfl, hM, hK, hc, hI, hZ⟩ := hv
  have hx := B.exec
  have hb := B.bytes
  have hr := B.returns
  have hts := atoms_spec (ws := .code yM_fail bM_fail 2 (some .int) :: lw_g) B.pre
  have hown : s.vm.findClass RM = some m.cls := findClass_of_methodNamed B.named
  have K : mdC D cl tys ci tI tZ cI cZ s m _ := ⟨fun w h => hts w (List.mem_cons_of_mem _ h), hown, hK, hc, hI, hZ⟩
  have hlocks := B.notSynchronized
  have hS : va_S A s.heap s.heap [] := va_S.rf
  have hl := lv_entry ([.ref o, .int k]) (n := 2) (Nat.le_of_ble_eq_true rfl)
  rw [lg_entry_eq]
  generalize (lg_sl ([.ref o, .int k]) ++ List.replicate (2 - (lg_sl ([.ref o, .int k])).length) Slot.unset).toArray = ls at hl ⊢
  have hl : lv_has ls 2 [(0, .ref o), (1, .int k)] := hl
  refine lv_aload_n hx hb dM_fail_0 rfl (lv_at hl 0 rfl) ?_
  refine lv_iload_n hx hb dM_fail_1 rfl (lv_at hl 1 rfl) ?_
  refine M_puti hx hb K hM hS 0 kM_f77 dM_fail_2 (kk := fun H locs hM hS => ?_)
  refine lv_iconst (v := 0) hx hb dM_fail_5 (by decide) ?_
  exact W.iret (v := 0) hx hb hr (fun t ht hW => ⟨⟨0, _, rfl, ⟨rfl, rfl⟩, by rw [ht]; exact hM, va_K.moved hW.alike hK⟩, hS.F ht⟩) hS.2.2 dM_fail_6
