def md_rez (v : Option MT) (fi : Nat → Int32) (fa : Nat → Nat → Int32) (r : Int32) (S : (Nat → Int32) × (Nat → Nat → Int32)) : Prop := mdFr fi fa S ∧ ((r = 0 ∧ v = none) ∨ (r = 1 ∧ ∃ t, v = some t ∧ mdQt S.1 S.2 t))
theorem md_pred {d : Nat} (h : 0 < d) : nI d - 1 = nI (d - 1) := pk_sub h
theorem md_nz {d : Nat} (h : ¬ nI d = 0) : 0 < d := Nat.pos_of_ne_zero fun q => h (by rw [q]; rfl)
def md_sign (c : Int32) : MT → Option MT := fun (d, md, n, pt, fw, mo, nm, dg) =>
  if md = 6 then none
  else if md = 2 then (if ¬ c < 97 ∧ ¬ 122 < c then some (d, 0, n, pt, fw, mo, nm, dg) else none)
  else if md = 3 then md_clos c (d, md, n, pt, fw, mo, nm, dg)
  else if md = 4 ∧ ¬ c < 48 ∧ ¬ 57 < c then (if dg + 1 ≤ 4 then some (d, 4, n, pt, fw, mo, nm, dg + 1) else none)
  else if d = 0 then (if md = 0 then md_begin c (d, 0, n, pt, fw, mo, nm, dg) else none)
  else if md = 1 ∧ ¬ c = 32 ∧ ¬ md_arN c = 0 then md_oper c (d, md, n, pt, fw, mo, nm, dg)
  else if ¬ md = 1 ∧ c = 41 then (if pt (d - 1) < fw (d - 1) then none else some (d - 1, (if d - 1 = 0 then 6 else 0), n, md_add (d - 1) pt, fw, mo, nm, dg))
  else if c = 32 then some (d, 0, n, pt, fw, mo, nm, dg) else md_begin c (d, 0, n, pt, fw, mo, nm, dg)
set_option maxHeartbeats 4000000 in
set_option maxRecDepth 100000 in
theorem c_attachC (l : Launch) (D : va_G) (cl : List vw_C) (tys : List (ClassId × FieldType)) (A : Nat → Prop) (ci tI tZ : Nat) (cI cZ : ClassId) (o : Nat) (ad : Nat → Nat) (fi : Nat → Int32) (fa : Nat → Nat → Int32) (k : Int32) (d : Nat) (op pt : Nat → Nat) (hd : fi 7 = nI d) (hd12 : d ≤ 11) (hL : 0 < d → fa 3 (d - 1) = nI (op (d - 1)) ∧ op (d - 1) < 120 ∧ fa 4 (d - 1) = nI (pt (d - 1)) ∧ pt (d - 1) < 4) :
    Met l yM_attach (.code yM_attach bM_attach 3 none :: lw_g) ({ frames := 0, cells := 0, slots := 0, locals := 0 }) (va_Pc [.ref o, .int k] (mdPre D cl tys A ci tI tZ cI cZ o ad fi fa)) (va_Qv (fun S => (d = 0 ∧ S = (va_up fi 8 6, fa)) ∨ (0 < d ∧ ∃ g, S = (va_up fi 8 0, va_up (va_up fa 12 g) 4 (upd (fa 4) (d - 1) (nI (pt (d - 1) + 1)))))) (mdB D cl tys A ci cI cZ o ad) A) 0 0 A := by
  refine Met.ofW (cc := bM_attach) (maxL := 3) (ret := none) (by decide) rfl ?_
  intro p e s m args below meth c s₁ B hml hv
  obtain ⟨rfl, hM, hK, hc, hI, hZ⟩ := hv
  have hx := B.exec
  have hb := B.bytes
  have hr := B.returns
  have hts := atoms_spec (ws := (.code yM_attach bM_attach 3 none :: lw_g)) B.pre
  have hown : s.vm.findClass RM = some m.cls := findClass_of_methodNamed B.named
  have K : mdC D cl tys ci tI tZ cI cZ s m _ := ⟨fun w h => hts w (List.mem_cons_of_mem _ h), hown, hK, hc, hI, hZ⟩
  have hlocks := B.notSynchronized
  have hS : va_S A s.heap s.heap [] := va_S.rf
  have hl := lv_entry ([.ref o, .int k]) (n := 3) (Nat.le_of_ble_eq_true rfl)
  rw [lg_entry_eq]
  generalize (lg_sl ([.ref o, .int k]) ++ List.replicate (3 - (lg_sl ([.ref o, .int k])).length) Slot.unset).toArray = ls at hl ⊢
  have hl : lv_has ls 3 [(0, .ref o), (1, .int k)] := hl
  refine lv_aload_n hx hb dM_attach_0 rfl (lv_at hl 0 rfl) ?_
  refine M_getv hx hb K hM 7 (v := nI d) hd kM_f84 dM_attach_1 (kk := ?_)
  refine lv_if_ne (tgt := 14) hx hb dM_attach_4 (by decide) (fun c_4 => ?_) (fun c_4 => ?_)
  · skip
    have h0 : 0 < d := md_nz c_4
    obtain ⟨hop, hop2, hpt, hpt4⟩ := hL h0
    refine lv_aload_n hx hb dM_attach_14 rfl (lv_at hl 0 rfl) ?_
    refine M_getv hx hb K hM 7 (v := nI d) hd kM_f84 dM_attach_15 (kk := ?_)
    refine lv_iconst (v := 1) hx hb dM_attach_18 (by decide) ?_
    refine lv_isub hx hb dM_attach_19 ?_
    refine lv_as (v := nI (d - 1)) (md_pred h0) ?_
    refine lv_istore_n (lv' := [(2, .int (nI (d - 1))), (0, .ref o), (1, .int k)]) hx hb dM_attach_20 rfl hl (by decide) rfl (fun ls hl => ?_)
    refine lv_aload_n hx hb dM_attach_21 rfl (lv_at hl 1 rfl) ?_
    refine M_geta hx hb K hM 4 kM_f16 dM_attach_22 (kk := ?_)
    refine lv_iload_n hx hb dM_attach_25 rfl (lv_at hl 0 rfl) ?_
    refine M_aldn hx hb K hM 4 (j := d - 1) (show d - 1 < 13 by omega) (v := nI (pt (d - 1))) hpt dM_attach_26 (kk := ?_)
    refine lv_iconst (v := 4) hx hb dM_attach_27 (by decide) ?_
    refine lv_icmp_ge (tgt := 52) hx hb dM_attach_28 (by decide) (fun c_28 => absurd c_28 (nI_ge (b := 4) hpt4 (by decide))) (fun c_28 => ?_)
    refine lv_aload_n hx hb dM_attach_31 rfl (lv_at hl 1 rfl) ?_
    refine M_geta hx hb K hM 12 kM_f34 dM_attach_32 (kk := ?_)
    refine lv_iconst (v := 4) hx hb dM_attach_35 (by decide) ?_
    refine lv_aload_n hx hb dM_attach_36 rfl (lv_at hl 1 rfl) ?_
    refine M_geta hx hb K hM 3 kM_f13 dM_attach_37 (kk := ?_)
    refine lv_iload_n hx hb dM_attach_40 rfl (lv_at hl 0 rfl) ?_
    refine M_aldn hx hb K hM 3 (j := d - 1) (show d - 1 < 13 by omega) (v := nI (op (d - 1))) hop dM_attach_41 (kk := ?_)
    refine lv_imul hx hb dM_attach_42 ?_
    refine lv_as (v := nI (4 * op (d - 1))) (pk_mul 4 _) ?_
    refine lv_aload_n hx hb dM_attach_43 rfl (lv_at hl 1 rfl) ?_
    refine M_geta hx hb K hM 4 kM_f16 dM_attach_44 (kk := ?_)
    refine lv_iload_n hx hb dM_attach_47 rfl (lv_at hl 0 rfl) ?_
    refine M_aldn hx hb K hM 4 (j := d - 1) (show d - 1 < 13 by omega) (v := nI (pt (d - 1))) hpt dM_attach_48 (kk := ?_)
    refine lv_iadd hx hb dM_attach_49 ?_
    refine lv_as (v := nI (4 * op (d - 1) + pt (d - 1))) (nI_add _ _) ?_
    refine lv_iload_n hx hb dM_attach_50 rfl (lv_at hl 2 rfl) ?_
    refine M_astn hx hb K hM hS 12 (j := 4 * op (d - 1) + pt (d - 1)) (show 4 * op (d - 1) + pt (d - 1) < 480 by omega) dM_attach_51 (kk := fun H locs hM hS => ?_)
    refine lv_aload_n hx hb dM_attach_52 rfl (lv_at hl 1 rfl) ?_
    refine M_geta hx hb K hM 4 kM_f16 dM_attach_53 (kk := ?_)
    refine lv_iload_n hx hb dM_attach_56 rfl (lv_at hl 0 rfl) ?_
    refine lv_dup2_11 hx hb dM_attach_57 rfl rfl ?_
    refine M_aldn hx hb K hM 4 (j := d - 1) (show d - 1 < 13 by omega) (v := nI (pt (d - 1))) hpt dM_attach_58 (kk := ?_)
    refine lv_iconst (v := 1) hx hb dM_attach_59 (by decide) ?_
    refine lv_iadd hx hb dM_attach_60 ?_
    refine lv_as (v := nI (pt (d - 1) + 1)) (nI_1 _) ?_
    refine M_astn hx hb K hM hS 4 (j := d - 1) (show d - 1 < 13 by omega) dM_attach_61 (kk := fun H locs hM hS => ?_)
    refine lv_aload_n hx hb dM_attach_62 rfl (lv_at hl 1 rfl) ?_
    refine lv_iconst (v := 0) hx hb dM_attach_63 (by decide) ?_
    refine M_puti hx hb K hM hS 8 kM_f87 dM_attach_64 (kk := fun H locs hM hS => ?_)
    refine W.vret hx hb hr (M_endv hM hK hS ?_) hS.2.2 dM_attach_67
    exact Or.inr ⟨h0, _, rfl⟩
  · skip
    refine lv_aload_n hx hb dM_attach_7 rfl (lv_at hl 0 rfl) ?_
    refine lv_bipush (v := 6) hx hb dM_attach_8 (by decide) ?_
    refine M_puti hx hb K hM hS 8 kM_f87 dM_attach_10 (kk := fun H locs hM hS => ?_)
    refine W.vret hx hb hr (M_endv hM hK hS ?_) hS.2.2 dM_attach_13
    exact Or.inl ⟨(nI_eq (b := 0) (by omega) (by decide)).mp (c_4.trans nI_0.symm), rfl⟩
theorem c_closureSign (l : Launch) (D : va_G) (cl : List vw_C) (tys : List (ClassId × FieldType)) (A : Nat → Prop) (ci tI tZ : Nat) (cI cZ : ClassId) (o : Nat) (ad : Nat → Nat) (fi : Nat → Int32) (fa : Nat → Nat → Int32) (k : Int32) (op : Nat → Nat) (d n : Nat) (pt fw mo : Nat → Nat) (nm : List Nat) (dg : Nat) (hQ : mdQ fi fa op (d + 1) 3 n pt fw mo nm dg) :
    Met l yM_closureSign (.code yM_closureSign bM_closureSign 5 (some .boolean) :: lw_g) ({ frames := 0, cells := 0, slots := 0, locals := 0 }) (va_Pc [.ref o, .int k] (mdPre D cl tys A ci tI tZ cI cZ o ad fi fa)) (va_Qi (md_res (md_clos k (d + 1, 3, n, pt, fw, mo, nm, dg)) fi fa) (mdB D cl tys A ci cI cZ o ad) A) 0 0 A := by
  have h3 := (hQ.2.2.2.2.1 rfl).1
  match nm, hQ, h3 with
  | [], hQ, _ => exact c_clos0 l D cl tys A ci tI tZ cI cZ o ad fi fa k op d n pt fw mo dg hQ
  | [a], hQ, _ => exact c_clos1 l D cl tys A ci tI tZ cI cZ o ad fi fa k op d n a pt fw mo dg hQ
  | [a, b], hQ, _ => exact c_clos2 l D cl tys A ci tI tZ cI cZ o ad fi fa k op d n a b pt fw mo dg hQ
  | [a, b, a2], hQ, _ => exact c_clos3 l D cl tys A ci tI tZ cI cZ o ad fi fa k op d n a b a2 pt fw mo dg hQ
