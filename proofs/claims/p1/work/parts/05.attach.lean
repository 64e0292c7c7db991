set_option maxHeartbeats 4000000 in
set_option maxRecDepth 100000 in
theorem c_attach0 (l : Launch) (D : va_G) (cl : List vw_C) (tys : List (ClassId × FieldType)) (A : Nat → Prop) (ci tI tZ : Nat) (cI cZ : ClassId) (o : Nat) (ad : Nat → Nat) (fi : Nat → Int32) (fa : Nat → Nat → Int32) (k : Int32) (hd : fi 7 = 0) :
    Met l yM_attach (.code yM_attach bM_attach 3 none :: lw_g) ({ frames := 0, cells := 0, slots := 0, locals := 0 }) (va_Pc [.ref o, .int k] (mdPre D cl tys A ci tI tZ cI cZ o ad fi fa)) (va_Qv (fun S => S = (va_up fi 8 6, fa)) (mdB D cl tys A ci cI cZ o ad) A) 0 0 A := by
  refine Met.ofW (cc := bM_attach) (maxL := 3) (ret := none) (by decide) rfl ?_
  intro p e s m args below meth c s₁ B hml hv
  obtain ⟨rfl, hM, hK, hc, hI, hZ⟩ := hv
  have hx := B.exec
  have hb := B.bytes
  have hr := B.returns
  have hts := atoms_spec (ws := (.code yM_attach bM_attach 3 none :: lw_g)) B.pre
  have hown : s.vm.findClass RM = some m.cls := findClass_of_methodNamed B.named
  have K : mdC D cl tys ci tI tZ cI cZ s m _ := ⟨fun w h => hts w (List.mem_cons_of_mem _ h), hown, hK, hc, hI, hZ⟩
  have hlocks := B.notSynchronized
  have hS : va_S A s.heap s.heap [] := va_S.rf
  have hl := lv_entry ([.ref o, .int k]) (n := 3) (Nat.le_of_ble_eq_true rfl)
  rw [lg_entry_eq]
  generalize (lg_sl ([.ref o, .int k]) ++ List.replicate (3 - (lg_sl ([.ref o, .int k])).length) Slot.unset).toArray = ls at hl ⊢
  have hl : lv_has ls 3 [(0, .ref o), (1, .int k)] := hl
  refine lv_aload_n hx hb dM_attach_0 rfl (lv_at hl 0 rfl) ?_
  refine M_getv hx hb K hM 7 (v := 0) hd kM_f84 dM_attach_1 (kk := ?_)
  refine lv_if_ne (tgt := 14) hx hb dM_attach_4 (by decide) (fun c_4 => absurd rfl c_4) (fun c_4 => ?_)
  refine lv_aload_n hx hb dM_attach_7 rfl (lv_at hl 0 rfl) ?_
  refine lv_bipush (v := 6) hx hb dM_attach_8 (by decide) ?_
  refine M_puti hx hb K hM hS 8 kM_f87 dM_attach_10 (kk := fun H locs hM hS => ?_)
  refine W.vret hx hb hr (M_endv hM hK hS ?_) hS.2.2 dM_attach_13
  exact rfl
set_option maxHeartbeats 4000000 in
set_option maxRecDepth 100000 in
theorem c_attachS (l : Launch) (D : va_G) (cl : List vw_C) (tys : List (ClassId × FieldType)) (A : Nat → Prop) (ci tI tZ : Nat) (cI cZ : ClassId) (o : Nat) (ad : Nat → Nat) (fi : Nat → Int32) (fa : Nat → Nat → Int32) (k : Int32) (d op pt : Nat) (hd : fi 7 = nI (d + 1)) (hd12 : d < 12) (hop : fa 3 d = nI op) (hop2 : op < 120) (hpt : fa 4 d = nI pt) (hpt4 : pt < 4) :
    Met l yM_attach (.code yM_attach bM_attach 3 none :: lw_g) ({ frames := 0, cells := 0, slots := 0, locals := 0 }) (va_Pc [.ref o, .int k] (mdPre D cl tys A ci tI tZ cI cZ o ad fi fa)) (va_Qv (fun S => ∃ g, S = (va_up fi 8 0, va_up (va_up fa 12 g) 4 (upd (fa 4) d (nI (pt + 1))))) (mdB D cl tys A ci cI cZ o ad) A) 0 0 A := by
  refine Met.ofW (cc := bM_attach) (maxL := 3) (ret := none) (by decide) rfl ?_
  intro p e s m args below meth c s₁ B hml hv
  obtain ⟨rfl, hM, hK, hc, hI, hZ⟩ := hv
  have hx := B.exec
  have hb := B.bytes
  have hr := B.returns
  have hts := atoms_spec (ws := (.code yM_attach bM_attach 3 none :: lw_g)) B.pre
  have hown : s.vm.findClass RM = some m.cls := findClass_of_methodNamed B.named
  have K : mdC D cl tys ci tI tZ cI cZ s m _ := ⟨fun w h => hts w (List.mem_cons_of_mem _ h), hown, hK, hc, hI, hZ⟩
  have hlocks := B.notSynchronized
  have hS : va_S A s.heap s.heap [] := va_S.rf
  have hl := lv_entry ([.ref o, .int k]) (n := 3) (Nat.le_of_ble_eq_true rfl)
  rw [lg_entry_eq]
  generalize (lg_sl ([.ref o, .int k]) ++ List.replicate (3 - (lg_sl ([.ref o, .int k])).length) Slot.unset).toArray = ls at hl ⊢
  have hl : lv_has ls 3 [(0, .ref o), (1, .int k)] := hl
  refine lv_aload_n hx hb dM_attach_0 rfl (lv_at hl 0 rfl) ?_
  refine M_getv hx hb K hM 7 (v := nI (d + 1)) hd kM_f84 dM_attach_1 (kk := ?_)
  refine lv_if_ne (tgt := 14) hx hb dM_attach_4 (by decide) (fun c_4 => ?_) (fun c_4 => absurd c_4 (nI_ne0 (Nat.succ_pos d) (by omega)))
  refine lv_aload_n hx hb dM_attach_14 rfl (lv_at hl 0 rfl) ?_
  refine M_getv hx hb K hM 7 (v := nI (d + 1)) hd kM_f84 dM_attach_15 (kk := ?_)
  refine lv_iconst (v := 1) hx hb dM_attach_18 (by decide) ?_
  refine lv_isub hx hb dM_attach_19 ?_
  refine lv_as (v := nI d) (nI_pred d) ?_
  refine lv_istore_n (lv' := [(2, .int (nI d)), (0, .ref o), (1, .int k)]) hx hb dM_attach_20 rfl hl (by decide) rfl (fun ls hl => ?_)
  refine lv_aload_n hx hb dM_attach_21 rfl (lv_at hl 1 rfl) ?_
  refine M_geta hx hb K hM 4 kM_f16 dM_attach_22 (kk := ?_)
  refine lv_iload_n hx hb dM_attach_25 rfl (lv_at hl 0 rfl) ?_
  refine M_aldn hx hb K hM 4 (j := d) (show d < 13 by omega) (v := nI pt) hpt dM_attach_26 (kk := ?_)
  refine lv_iconst (v := 4) hx hb dM_attach_27 (by decide) ?_
  refine lv_icmp_ge (tgt := 52) hx hb dM_attach_28 (by decide) (fun c_28 => absurd c_28 (nI_ge (b := 4) hpt4 (by decide))) (fun c_28 => ?_)
  refine lv_aload_n hx hb dM_attach_31 rfl (lv_at hl 1 rfl) ?_
  refine M_geta hx hb K hM 12 kM_f34 dM_attach_32 (kk := ?_)
  refine lv_iconst (v := 4) hx hb dM_attach_35 (by decide) ?_
  refine lv_aload_n hx hb dM_attach_36 rfl (lv_at hl 1 rfl) ?_
  refine M_geta hx hb K hM 3 kM_f13 dM_attach_37 (kk := ?_)
  refine lv_iload_n hx hb dM_attach_40 rfl (lv_at hl 0 rfl) ?_
  refine M_aldn hx hb K hM 3 (j := d) (show d < 13 by omega) (v := nI op) hop dM_attach_41 (kk := ?_)
  refine lv_imul hx hb dM_attach_42 ?_
  refine lv_as (v := nI (4 * op)) (pk_mul 4 op) ?_
  refine lv_aload_n hx hb dM_attach_43 rfl (lv_at hl 1 rfl) ?_
  refine M_geta hx hb K hM 4 kM_f16 dM_attach_44 (kk := ?_)
  refine lv_iload_n hx hb dM_attach_47 rfl (lv_at hl 0 rfl) ?_
  refine M_aldn hx hb K hM 4 (j := d) (show d < 13 by omega) (v := nI pt) hpt dM_attach_48 (kk := ?_)
  refine lv_iadd hx hb dM_attach_49 ?_
  refine lv_as (v := nI (4 * op + pt)) (nI_add _ _) ?_
  refine lv_iload_n hx hb dM_attach_50 rfl (lv_at hl 2 rfl) ?_
  refine M_astn hx hb K hM hS 12 (j := 4 * op + pt) (show 4 * op + pt < 480 by omega) dM_attach_51 (kk := fun H locs hM hS => ?_)
  refine lv_aload_n hx hb dM_attach_52 rfl (lv_at hl 1 rfl) ?_
  refine M_geta hx hb K hM 4 kM_f16 dM_attach_53 (kk := ?_)
  refine lv_iload_n hx hb dM_attach_56 rfl (lv_at hl 0 rfl) ?_
  refine lv_dup2_11 hx hb dM_attach_57 rfl rfl ?_
  refine M_aldn hx hb K hM 4 (j := d) (show d < 13 by omega) (v := nI pt) hpt dM_attach_58 (kk := ?_)
  refine lv_iconst (v := 1) hx hb dM_attach_59 (by decide) ?_
  refine lv_iadd hx hb dM_attach_60 ?_
  refine lv_as (v := nI (pt + 1)) (nI_1 pt) ?_
  refine M_astn hx hb K hM hS 4 (j := d) (show d < 13 by omega) dM_attach_61 (kk := fun H locs hM hS => ?_)
  refine lv_aload_n hx hb dM_attach_62 rfl (lv_at hl 1 rfl) ?_
  refine lv_iconst (v := 0) hx hb dM_attach_63 (by decide) ?_
  refine M_puti hx hb K hM hS 8 kM_f87 dM_attach_64 (kk := fun H locs hM hS => ?_)
  refine W.vret hx hb hr (M_endv hM hK hS ?_) hS.2.2 dM_attach_67
  exact ⟨_, rfl⟩
/-- how many parts a form with this sign has, 0: no such sign -/
def md_ar (c : Int32) : Int32 := if c = 43 ∨ c = 45 ∨ c = 42 ∨ c = 47 ∨ c = 60 ∨ c = 61 ∨ c = 58 ∨ c = 38 ∨ c = 64 ∨ c = 37 then 2 else if c = 65 ∨ c = 68 ∨ c = 80 ∨ c = 94 ∨ c = 33 ∨ c = 92 then 1 else if c = 63 then 3 else 0
set_option maxHeartbeats 4000000 in
set_option maxRecDepth 100000 in
theorem c_arity (l : Launch) (D : va_G) (cl : List vw_C) (tys : List (ClassId × FieldType)) (A : Nat → Prop) (ci tI tZ : Nat) (cI cZ : ClassId) (o : Nat) (ad : Nat → Nat) (fi : Nat → Int32) (fa : Nat → Nat → Int32) (k : Int32) :
    Met l yM_arity (.code yM_arity bM_arity 2 (some .int) :: lw_g) ({ frames := 0, cells := 0, slots := 0, locals := 0 }) (va_Pc [.ref o, .int k] (mdPre D cl tys A ci tI tZ cI cZ o ad fi fa)) (va_Qi (fun r S => r = md_ar k ∧ S = (fi, fa)) (mdB D cl tys A ci cI cZ o ad) A) 0 0 A := by
  refine Met.ofW (cc := bM_arity) (maxL := 2) (ret := (some .int)) (by decide) rfl ?_
  intro p e s m args below meth c s₁ B hml hv
  obtain ⟨rfl, hM, hK, hc, hI, hZ⟩ := hv
  have hx := B.exec
  have hb := B.bytes
  have hr := B.returns
  have hts := atoms_spec (ws := (.code yM_arity bM_arity 2 (some .int) :: lw_g)) B.pre
  have hown : s.vm.findClass RM = some m.cls := findClass_of_methodNamed B.named
  have K : mdC D cl tys ci tI tZ cI cZ s m _ := ⟨fun w h => hts w (List.mem_cons_of_mem _ h), hown, hK, hc, hI, hZ⟩
  have hlocks := B.notSynchronized
  have hS : va_S A s.heap s.heap [] := va_S.rf
  have hl := lv_entry ([.ref o, .int k]) (n := 2) (Nat.le_of_ble_eq_true rfl)
  rw [lg_entry_eq]
  generalize (lg_sl ([.ref o, .int k]) ++ List.replicate (2 - (lg_sl ([.ref o, .int k])).length) Slot.unset).toArray = ls at hl ⊢
  have hl : lv_has ls 2 [(0, .ref o), (1, .int k)] := hl
  refine lv_iload_n hx hb dM_arity_0 rfl (lv_at hl 1 rfl) ?_
  refine lv_bipush (v := 43) hx hb dM_arity_1 (by decide) ?_
  refine lv_icmp_eq (tgt := 60) hx hb dM_arity_3 (by decide) (fun c_3 => ?_) (fun c_3 => ?_)
  · skip
    refine lv_iconst (v := 2) hx hb dM_arity_60 (by decide) ?_
    refine W.iret (v := (2)) hx hb hr (M_endi hM hK hS ?_) hS.2.2 dM_arity_61
    exact ⟨by simp [md_ar, c_3], rfl⟩
  · skip
    refine lv_iload_n hx hb dM_arity_6 rfl (lv_at hl 1 rfl) ?_
    refine lv_bipush (v := 45) hx hb dM_arity_7 (by decide) ?_
    refine lv_icmp_eq (tgt := 60) hx hb dM_arity_9 (by decide) (fun c_9 => ?_) (fun c_9 => ?_)
    · skip
      refine lv_iconst (v := 2) hx hb dM_arity_60 (by decide) ?_
      refine W.iret (v := (2)) hx hb hr (M_endi hM hK hS ?_) hS.2.2 dM_arity_61
      exact ⟨by simp [md_ar, c_3, c_9], rfl⟩
    · skip
      refine lv_iload_n hx hb dM_arity_12 rfl (lv_at hl 1 rfl) ?_
      refine lv_bipush (v := 42) hx hb dM_arity_13 (by decide) ?_
      refine lv_icmp_eq (tgt := 60) hx hb dM_arity_15 (by decide) (fun c_15 => ?_) (fun c_15 => ?_)
      · skip
        refine lv_iconst (v := 2) hx hb dM_arity_60 (by decide) ?_
        refine W.iret (v := (2)) hx hb hr (M_endi hM hK hS ?_) hS.2.2 dM_arity_61
        exact ⟨by simp [md_ar, c_3, c_9, c_15], rfl⟩
      · skip
        refine lv_iload_n hx hb dM_arity_18 rfl (lv_at hl 1 rfl) ?_
        refine lv_bipush (v := 47) hx hb dM_arity_19 (by decide) ?_
        refine lv_icmp_eq (tgt := 60) hx hb dM_arity_21 (by decide) (fun c_21 => ?_) (fun c_21 => ?_)
        · skip
          refine lv_iconst (v := 2) hx hb dM_arity_60 (by decide) ?_
          refine W.iret (v := (2)) hx hb hr (M_endi hM hK hS ?_) hS.2.2 dM_arity_61
          exact ⟨by simp [md_ar, c_3, c_9, c_15, c_21], rfl⟩
        · skip
          refine lv_iload_n hx hb dM_arity_24 rfl (lv_at hl 1 rfl) ?_
          refine lv_bipush (v := 60) hx hb dM_arity_25 (by decide) ?_
          refine lv_icmp_eq (tgt := 60) hx hb dM_arity_27 (by decide) (fun c_27 => ?_) (fun c_27 => ?_)
          · skip
            refine lv_iconst (v := 2) hx hb dM_arity_60 (by decide) ?_
            refine W.iret (v := (2)) hx hb hr (M_endi hM hK hS ?_) hS.2.2 dM_arity_61
            exact ⟨by simp [md_ar, c_3, c_9, c_15, c_21, c_27], rfl⟩
          · skip
            refine lv_iload_n hx hb dM_arity_30 rfl (lv_at hl 1 rfl) ?_
            refine lv_bipush (v := 61) hx hb dM_arity_31 (by decide) ?_
            refine lv_icmp_eq (tgt := 60) hx hb dM_arity_33 (by decide) (fun c_33 => ?_) (fun c_33 => ?_)
            · skip
              refine lv_iconst (v := 2) hx hb dM_arity_60 (by decide) ?_
              refine W.iret (v := (2)) hx hb hr (M_endi hM hK hS ?_) hS.2.2 dM_arity_61
              exact ⟨by simp [md_ar, c_3, c_9, c_15, c_21, c_27, c_33], rfl⟩
            · skip
              refine lv_iload_n hx hb dM_arity_36 rfl (lv_at hl 1 rfl) ?_
              refine lv_bipush (v := 58) hx hb dM_arity_37 (by decide) ?_
              refine lv_icmp_eq (tgt := 60) hx hb dM_arity_39 (by decide) (fun c_39 => ?_) (fun c_39 => ?_)
              · skip
                refine lv_iconst (v := 2) hx hb dM_arity_60 (by decide) ?_
                refine W.iret (v := (2)) hx hb hr (M_endi hM hK hS ?_) hS.2.2 dM_arity_61
                exact ⟨by simp [md_ar, c_3, c_9, c_15, c_21, c_27, c_33, c_39], rfl⟩
              · skip
                refine lv_iload_n hx hb dM_arity_42 rfl (lv_at hl 1 rfl) ?_
                refine lv_bipush (v := 38) hx hb dM_arity_43 (by decide) ?_
                refine lv_icmp_eq (tgt := 60) hx hb dM_arity_45 (by decide) (fun c_45 => ?_) (fun c_45 => ?_)
                · skip
                  refine lv_iconst (v := 2) hx hb dM_arity_60 (by decide) ?_
                  refine W.iret (v := (2)) hx hb hr (M_endi hM hK hS ?_) hS.2.2 dM_arity_61
                  exact ⟨by simp [md_ar, c_3, c_9, c_15, c_21, c_27, c_33, c_39, c_45], rfl⟩
                · skip
                  refine lv_iload_n hx hb dM_arity_48 rfl (lv_at hl 1 rfl) ?_
                  refine lv_bipush (v := 64) hx hb dM_arity_49 (by decide) ?_
                  refine lv_icmp_eq (tgt := 60) hx hb dM_arity_51 (by decide) (fun c_51 => ?_) (fun c_51 => ?_)
                  · skip
                    refine lv_iconst (v := 2) hx hb dM_arity_60 (by decide) ?_
                    refine W.iret (v := (2)) hx hb hr (M_endi hM hK hS ?_) hS.2.2 dM_arity_61
                    exact ⟨by simp [md_ar, c_3, c_9, c_15, c_21, c_27, c_33, c_39, c_45, c_51], rfl⟩
                  · skip
                    refine lv_iload_n hx hb dM_arity_54 rfl (lv_at hl 1 rfl) ?_
                    refine lv_bipush (v := 37) hx hb dM_arity_55 (by decide) ?_
                    refine lv_icmp_ne (tgt := 62) hx hb dM_arity_57 (by decide) (fun c_57 => ?_) (fun c_57 => ?_)
                    · skip
                      refine lv_iload_n hx hb dM_arity_62 rfl (lv_at hl 1 rfl) ?_
                      refine lv_bipush (v := 65) hx hb dM_arity_63 (by decide) ?_
                      refine lv_icmp_eq (tgt := 98) hx hb dM_arity_65 (by decide) (fun c_65 => ?_) (fun c_65 => ?_)
                      · skip
                        refine lv_iconst (v := 1) hx hb dM_arity_98 (by decide) ?_
                        refine W.iret (v := (1)) hx hb hr (M_endi hM hK hS ?_) hS.2.2 dM_arity_99
                        exact ⟨by simp [md_ar, c_3, c_9, c_15, c_21, c_27, c_33, c_39, c_45, c_51, c_57, c_65], rfl⟩
                      · skip
                        refine lv_iload_n hx hb dM_arity_68 rfl (lv_at hl 1 rfl) ?_
                        refine lv_bipush (v := 68) hx hb dM_arity_69 (by decide) ?_
                        refine lv_icmp_eq (tgt := 98) hx hb dM_arity_71 (by decide) (fun c_71 => ?_) (fun c_71 => ?_)
                        · skip
                          refine lv_iconst (v := 1) hx hb dM_arity_98 (by decide) ?_
                          refine W.iret (v := (1)) hx hb hr (M_endi hM hK hS ?_) hS.2.2 dM_arity_99
                          exact ⟨by simp [md_ar, c_3, c_9, c_15, c_21, c_27, c_33, c_39, c_45, c_51, c_57, c_65, c_71], rfl⟩
                        · skip
                          refine lv_iload_n hx hb dM_arity_74 rfl (lv_at hl 1 rfl) ?_
                          refine lv_bipush (v := 80) hx hb dM_arity_75 (by decide) ?_
                          refine lv_icmp_eq (tgt := 98) hx hb dM_arity_77 (by decide) (fun c_77 => ?_) (fun c_77 => ?_)
                          · skip
                            refine lv_iconst (v := 1) hx hb dM_arity_98 (by decide) ?_
                            refine W.iret (v := (1)) hx hb hr (M_endi hM hK hS ?_) hS.2.2 dM_arity_99
                            exact ⟨by simp [md_ar, c_3, c_9, c_15, c_21, c_27, c_33, c_39, c_45, c_51, c_57, c_65, c_71, c_77], rfl⟩
                          · skip
                            refine lv_iload_n hx hb dM_arity_80 rfl (lv_at hl 1 rfl) ?_
                            refine lv_bipush (v := 94) hx hb dM_arity_81 (by decide) ?_
                            refine lv_icmp_eq (tgt := 98) hx hb dM_arity_83 (by decide) (fun c_83 => ?_) (fun c_83 => ?_)
                            · skip
                              refine lv_iconst (v := 1) hx hb dM_arity_98 (by decide) ?_
                              refine W.iret (v := (1)) hx hb hr (M_endi hM hK hS ?_) hS.2.2 dM_arity_99
                              exact ⟨by simp [md_ar, c_3, c_9, c_15, c_21, c_27, c_33, c_39, c_45, c_51, c_57, c_65, c_71, c_77, c_83], rfl⟩
                            · skip
                              refine lv_iload_n hx hb dM_arity_86 rfl (lv_at hl 1 rfl) ?_
                              refine lv_bipush (v := 33) hx hb dM_arity_87 (by decide) ?_
                              refine lv_icmp_eq (tgt := 98) hx hb dM_arity_89 (by decide) (fun c_89 => ?_) (fun c_89 => ?_)
                              · skip
                                refine lv_iconst (v := 1) hx hb dM_arity_98 (by decide) ?_
                                refine W.iret (v := (1)) hx hb hr (M_endi hM hK hS ?_) hS.2.2 dM_arity_99
                                exact ⟨by simp [md_ar, c_3, c_9, c_15, c_21, c_27, c_33, c_39, c_45, c_51, c_57, c_65, c_71, c_77, c_83, c_89], rfl⟩
                              · skip
                                refine lv_iload_n hx hb dM_arity_92 rfl (lv_at hl 1 rfl) ?_
                                refine lv_bipush (v := 92) hx hb dM_arity_93 (by decide) ?_
                                refine lv_icmp_ne (tgt := 100) hx hb dM_arity_95 (by decide) (fun c_95 => ?_) (fun c_95 => ?_)
                                · skip
                                  refine lv_iload_n hx hb dM_arity_100 rfl (lv_at hl 1 rfl) ?_
                                  refine lv_bipush (v := 63) hx hb dM_arity_101 (by decide) ?_
                                  refine lv_icmp_ne (tgt := 110) hx hb dM_arity_103 (by decide) (fun c_103 => ?_) (fun c_103 => ?_)
                                  · skip
                                    refine lv_iconst (v := 0) hx hb dM_arity_110 (by decide) ?_
                                    refine W.iret (v := (0)) hx hb hr (M_endi hM hK hS ?_) hS.2.2 dM_arity_111
                                    exact ⟨by simp [md_ar, c_3, c_9, c_15, c_21, c_27, c_33, c_39, c_45, c_51, c_57, c_65, c_71, c_77, c_83, c_89, c_95, c_103], rfl⟩
                                  · skip
                                    refine lv_iconst (v := 3) hx hb dM_arity_106 (by decide) ?_
                                    refine lv_goto (tgt := 111) hx hb dM_arity_107 (by decide) ?_
                                    refine W.iret (v := (3)) hx hb hr (M_endi hM hK hS ?_) hS.2.2 dM_arity_111
                                    exact ⟨by simp [md_ar, c_3, c_9, c_15, c_21, c_27, c_33, c_39, c_45, c_51, c_57, c_65, c_71, c_77, c_83, c_89, c_95, c_103], rfl⟩
                                · skip
                                  refine lv_iconst (v := 1) hx hb dM_arity_98 (by decide) ?_
                                  refine W.iret (v := (1)) hx hb hr (M_endi hM hK hS ?_) hS.2.2 dM_arity_99
                                  exact ⟨by simp [md_ar, c_3, c_9, c_15, c_21, c_27, c_33, c_39, c_45, c_51, c_57, c_65, c_71, c_77, c_83, c_89, c_95], rfl⟩
                    · skip
                      refine lv_iconst (v := 2) hx hb dM_arity_60 (by decide) ?_
                      refine W.iret (v := (2)) hx hb hr (M_endi hM hK hS ?_) hS.2.2 dM_arity_61
                      exact ⟨by simp [md_ar, c_3, c_9, c_15, c_21, c_27, c_33, c_39, c_45, c_51, c_57], rfl⟩
