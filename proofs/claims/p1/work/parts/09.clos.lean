theorem md_cnt {nm : List Nat} (h3 : nm.length ≤ 3) (h : ∀ a ∈ nm, a < 26) : nI (md_pk nm) >>> ((20 : Int32) &&& 31) = nI nm.length := by
  have key : md_pk nm < 2 ^ 31 ∧ md_pk nm / 2 ^ 20 = nm.length := by
    match nm, h3, h with
    | [], _, _ => exact ⟨by decide, by decide⟩
    | [a], _, h => have h1 := h a (by simp); simp [md_pk]; omega
    | [a, b], _, h => have h1 := h a (by simp); have h2 := h b (by simp); simp [md_pk]; omega
    | [a, b, e], _, h => have h1 := h a (by simp); have h2 := h b (by simp); have h3 := h e (by simp); simp [md_pk]; omega
  rw [pk_shrN key.1 _ 20 (by decide), key.2]
theorem md_sel {nm : List Nat} (h3 : nm.length ≤ 3) (h : ∀ a ∈ nm, a < 26) (i : Nat) (hi : i < 2) : (nI (md_pk nm) >>> (nI (5 * i) &&& 31)) &&& 31 = nI (nm.getD i 0) := by
  have key : md_pk nm < 2 ^ 31 ∧ md_pk nm / 2 ^ (5 * i) % 2 ^ 5 = nm.getD i 0 := by
    match nm, h3, h with
    | [], _, _ => exact ⟨by decide, by rcases (show i = 0 ∨ i = 1 by omega) with rfl | rfl <;> decide⟩
    | [a], _, h => have h1 := h a (by simp); refine ⟨by simp [md_pk]; omega, ?_⟩; rcases (show i = 0 ∨ i = 1 by omega) with rfl | rfl <;> simp [md_pk] <;> omega
    | [a, b], _, h => have h1 := h a (by simp); have h2 := h b (by simp); refine ⟨by simp [md_pk]; omega, ?_⟩; rcases (show i = 0 ∨ i = 1 by omega) with rfl | rfl <;> simp [md_pk] <;> omega
    | [a, b, e], _, h => have h1 := h a (by simp); have h2 := h b (by simp); have h3 := h e (by simp); refine ⟨by simp [md_pk]; omega, ?_⟩; rcases (show i = 0 ∨ i = 1 by omega) with rfl | rfl <;> simp [md_pk] <;> omega
  have hs : ((nI (5 * i) &&& 31).toBitVec.smod 32).toNat = 5 * i := by rcases (show i = 0 ∨ i = 1 by omega) with rfl | rfl <;> decide
  rw [pk_shrN key.1 _ (5 * i) hs, pk_andN (Nat.lt_of_le_of_lt (Nat.div_le_self _ _) (Nat.lt_trans key.1 (by decide))) 5 (by decide), key.2]
theorem md_pk_addN {nm : List Nat} {q M : Nat} (h2 : nm.length < 3) (hM : M = 1048576) : (nm.length * M + nm.getD 0 0 + 32 * nm.getD 1 0 + 1024 * nm.getD 2 0) + (M + q * 2 ^ (5 * nm.length)) = (nm ++ [q]).length * M + (nm ++ [q]).getD 0 0 + 32 * (nm ++ [q]).getD 1 0 + 1024 * (nm ++ [q]).getD 2 0 := by
  clear hM
  match nm, h2 with
  | [], _ => simp
  | [a], _ => simp; omega
  | [a, b], _ => simp; omega
theorem md_pk_add {nm : List Nat} {q : Nat} (h2 : nm.length < 3) (hq : q < 26) : nI (md_pk nm) + (1048576 + (nI q <<< (nI (5 * nm.length) &&& 31))) = nI (md_pk (nm ++ [q])) := by
  have hs : ((nI (5 * nm.length) &&& 31).toBitVec.smod 32).toNat = 5 * nm.length := by rcases (show nm.length = 0 ∨ nm.length = 1 ∨ nm.length = 2 by omega) with e | e | e <;> rw [e] <;> decide
  have hb : q * 2 ^ (5 * nm.length) < 2 ^ 32 := by rcases (show nm.length = 0 ∨ nm.length = 1 ∨ nm.length = 2 by omega) with e | e | e <;> rw [e] <;> omega
  obtain ⟨M, hM⟩ : ∃ M : Nat, M = 1048576 := ⟨_, rfl⟩
  have h1 : (1048576 : Int32) = nI M := by rw [hM]; decide
  rw [pk_shlN _ (5 * nm.length) hs hb, h1, nI_add, nI_add]
  refine congrArg nI ?_
  unfold md_pk
  rw [← hM]
  exact md_pk_addN h2 hM
theorem md_let {c : Int32} (h1 : ¬ c < 97) (h2 : ¬ 122 < c) : ∃ q : Nat, q < 26 ∧ c - 97 = nI q := by
  obtain ⟨j, hj, rfl⟩ := nI_of2 (x := c) (M := 122) (n := 122) (by decide) (fun h => h1 (Int32.lt_trans h (by decide))) (Int32.not_lt.mp h2)
  have h97 : 97 ≤ j := by
    rcases Nat.lt_or_ge j 97 with q | q
    · exact absurd (nI_lt q (by decide)) h1
    · exact q
  exact ⟨j - 97, by omega, pk_sub h97⟩
def md_clos (c : Int32) : MT → Option MT := fun (d, _, n, pt, fw, mo, nm, dg) =>
  if c = 46 then some (d, 0, n, pt, fw, mo, nm, dg) else if c < 97 ∨ 122 < c ∨ nm.length = 3 then none
  else if (nm.any fun a => decide (nI a = c - 97)) = true then none else some (d, 3, n, pt, fw, mo, nm ++ [(c - 97).toNatClampNeg], dg)
set_option maxHeartbeats 4000000 in
set_option maxRecDepth 100000 in
theorem c_clos0 (l : Launch) (D : va_G) (cl : List vw_C) (tys : List (ClassId × FieldType)) (A : Nat → Prop) (ci tI tZ : Nat) (cI cZ : ClassId) (o : Nat) (ad : Nat → Nat) (fi : Nat → Int32) (fa : Nat → Nat → Int32) (k : Int32) (op : Nat → Nat) (d n : Nat) (pt fw mo : Nat → Nat) (dg : Nat) (hQ : mdQ fi fa op (d + 1) 3 n pt fw mo [] dg) :
    Met l yM_closureSign (.code yM_closureSign bM_closureSign 5 (some .boolean) :: lw_g) ({ frames := 0, cells := 0, slots := 0, locals := 0 }) (va_Pc [.ref o, .int k] (mdPre D cl tys A ci tI tZ cI cZ o ad fi fa)) (va_Qi (md_res (md_clos k (d + 1, 3, n, pt, fw, mo, [], dg)) fi fa) (mdB D cl tys A ci cI cZ o ad) A) 0 0 A := by
  refine Met.ofW (cc := bM_closureSign) (maxL := 5) (ret := (some .boolean)) (by decide) rfl ?_
  intro p e s m args below meth c s₁ B hml hv
  obtain ⟨rfl, hM, hK, hc, hI, hZ⟩ := hv
  have hx := B.exec
  have hb := B.bytes
  have hr := B.returns
  have hts := atoms_spec (ws := (.code yM_closureSign bM_closureSign 5 (some .boolean) :: lw_g)) B.pre
  have hown : s.vm.findClass RM = some m.cls := findClass_of_methodNamed B.named
  have K : mdC D cl tys ci tI tZ cI cZ s m _ := ⟨fun w h => hts w (List.mem_cons_of_mem _ h), hown, hK, hc, hI, hZ⟩
  have hlocks := B.notSynchronized
  have hS : va_S A s.heap s.heap [] := va_S.rf
  have hl := lv_entry ([.ref o, .int k]) (n := 5) (Nat.le_of_ble_eq_true rfl)
  rw [lg_entry_eq]
  generalize (lg_sl ([.ref o, .int k]) ++ List.replicate (5 - (lg_sl ([.ref o, .int k])).length) Slot.unset).toArray = ls at hl ⊢
  have hl : lv_has ls 5 [(0, .ref o), (1, .int k)] := hl
  have hd11 : d + 1 ≤ 12 := hQ.2.1.1
  have hod := (hQ.2.2.1 d (by omega)).1.2
  have hn := hQ.2.1.2.1
  have hN := hQ.2.2.2.2.1 rfl
  refine lv_aload_n hx hb dM_closureSign_0 rfl (lv_at hl 0 rfl) ?_
  refine M_geta hx hb K hM 3 kM_f13 dM_closureSign_1 (kk := ?_)
  refine lv_aload_n hx hb dM_closureSign_4 rfl (lv_at hl 0 rfl) ?_
  refine M_getv hx hb K hM 7 (v := nI (d + 1)) hQ.1.1 kM_f84 dM_closureSign_5 (kk := ?_)
  refine lv_iconst (v := 1) hx hb dM_closureSign_8 (by decide) ?_
  refine lv_isub hx hb dM_closureSign_9 ?_
  refine lv_as (v := nI d) (nI_pred d) ?_
  refine M_aldn hx hb K hM 3 (j := d) (show d < 13 by omega) (v := nI (op d)) (hQ.2.2.1 d (by omega)).1.1 dM_closureSign_10 (kk := ?_)
  refine lv_istore_n (lv' := [(2, .int (nI (op d))), (0, .ref o), (1, .int k)]) hx hb dM_closureSign_11 rfl hl (by decide) rfl (fun ls hl => ?_)
  refine lv_aload_n hx hb dM_closureSign_12 rfl (lv_at hl 1 rfl) ?_
  refine M_geta hx hb K hM 11 kM_f31 dM_closureSign_13 (kk := ?_)
  refine lv_iload_n hx hb dM_closureSign_16 rfl (lv_at hl 0 rfl) ?_
  refine M_aldn hx hb K hM 11 (j := op d) (show op d < 120 by omega) (v := nI (md_pk [])) hN.2.2 dM_closureSign_17 (kk := ?_)
  refine lv_bipush (v := 20) hx hb dM_closureSign_18 (by decide) ?_
  refine lv_ishr hx hb dM_closureSign_20 ?_
  refine lv_as (v := nI 0) (md_cnt hN.1 hN.2.1) ?_
  refine lv_istore_n (lv' := [(3, .int (nI 0)), (2, .int (nI (op d))), (0, .ref o), (1, .int k)]) hx hb dM_closureSign_21 rfl hl (by decide) rfl (fun ls hl => ?_)
  refine lv_iload_n hx hb dM_closureSign_22 rfl (lv_at hl 3 rfl) ?_
  refine lv_bipush (v := 46) hx hb dM_closureSign_23 (by decide) ?_
  refine lv_icmp_ne (tgt := 35) hx hb dM_closureSign_25 (by decide) (fun c_25 => ?_) (fun c_25 => ?_)
  · skip
    refine lv_iload_n hx hb dM_closureSign_35 rfl (lv_at hl 3 rfl) ?_
    refine lv_bipush (v := 97) hx hb dM_closureSign_36 (by decide) ?_
    refine lv_icmp_lt (tgt := 52) hx hb dM_closureSign_38 (by decide) (fun c_38 => ?_) (fun c_38 => ?_)
    · skip
      refine lv_iconst (v := 0) hx hb dM_closureSign_52 (by decide) ?_
      refine W.zret (v := (0)) hx hb hr rfl (M_endi hM hK hS ?_) hS.2.2 dM_closureSign_53
      exact md_no (by simp [md_clos, c_25, c_25, c_38])
    · skip
      refine lv_iload_n hx hb dM_closureSign_41 rfl (lv_at hl 3 rfl) ?_
      refine lv_bipush (v := 122) hx hb dM_closureSign_42 (by decide) ?_
      refine lv_icmp_gt (tgt := 52) hx hb dM_closureSign_44 (by decide) (fun c_44 => ?_) (fun c_44 => ?_)
      · skip
        refine lv_iconst (v := 0) hx hb dM_closureSign_52 (by decide) ?_
        refine W.zret (v := (0)) hx hb hr rfl (M_endi hM hK hS ?_) hS.2.2 dM_closureSign_53
        exact md_no (by simp [md_clos, c_25, c_25, c_38, c_44])
      · skip
        refine lv_iload_n hx hb dM_closureSign_47 rfl (lv_at hl 0 rfl) ?_
        refine lv_iconst (v := 3) hx hb dM_closureSign_48 (by decide) ?_
        refine lv_icmp_ne (tgt := 54) hx hb dM_closureSign_49 (by decide) (fun c_49 => ?_) (fun c_49 => absurd c_49 (by decide))
        refine lv_iconst (v := 0) hx hb dM_closureSign_54 (by decide) ?_
        refine lv_as (v := nI 0) nI_0.symm ?_
        refine lv_istore (lv' := [(4, .int (nI 0)), (3, .int (nI 0)), (2, .int (nI (op d))), (0, .ref o), (1, .int k)]) hx hb dM_closureSign_55 hl (by decide) rfl (fun ls hl => ?_)
        refine lv_iload hx hb dM_closureSign_57 (lv_at hl 0 rfl) ?_
        refine lv_iload_n hx hb dM_closureSign_59 rfl (lv_at hl 1 rfl) ?_
        refine lv_icmp_ge (tgt := 92) hx hb dM_closureSign_60 (by decide) (fun c_60 => ?_) (fun c_60 => absurd (by decide) c_60)
        obtain ⟨q, hq26, hq⟩ := md_let c_38 c_44
        refine lv_aload_n hx hb dM_closureSign_92 rfl (lv_at hl 3 rfl) ?_
        refine M_geta hx hb K hM 11 kM_f31 dM_closureSign_93 (kk := ?_)
        refine lv_iload_n hx hb dM_closureSign_96 rfl (lv_at hl 2 rfl) ?_
        refine lv_dup2_11 hx hb dM_closureSign_97 rfl rfl ?_
        refine M_aldn hx hb K hM 11 (j := op d) (show op d < 120 by omega) (v := nI (md_pk [])) hN.2.2 dM_closureSign_98 (kk := ?_)
        refine lv_ldc (v := 1048576) hx hb hown (K.1 _ kM_k101) dM_closureSign_99 ?_
        refine lv_iload_n hx hb dM_closureSign_101 rfl (lv_at hl 4 rfl) ?_
        refine lv_bipush (v := 97) hx hb dM_closureSign_102 (by decide) ?_
        refine lv_isub hx hb dM_closureSign_104 ?_
        refine lv_as (v := nI q) hq ?_
        refine lv_iconst (v := 5) hx hb dM_closureSign_105 (by decide) ?_
        refine lv_iload_n hx hb dM_closureSign_106 rfl (lv_at hl 1 rfl) ?_
        refine lv_imul hx hb dM_closureSign_107 ?_
        refine lv_as (v := nI (5 * 0)) (pk_mul 5 0) ?_
        refine lv_ishl hx hb dM_closureSign_108 ?_
        refine lv_iadd hx hb dM_closureSign_109 ?_
        refine lv_iadd hx hb dM_closureSign_110 ?_
        refine lv_as (v := nI (md_pk ([] ++ [q]))) (md_pk_add (nm := []) (by simp) hq26) ?_
        refine M_astn hx hb K hM hS 11 (j := op d) (show op d < 120 by omega) dM_closureSign_111 (kk := fun H locs hM hS => ?_)
        refine lv_iconst (v := 1) hx hb dM_closureSign_112 (by decide) ?_
        refine W.zret (v := (1)) hx hb hr rfl (M_endi hM hK hS ?_) hS.2.2 dM_closureSign_113
        refine ⟨⟨fun _ _ _ _ => rfl, rfl⟩, Or.inr ⟨rfl, (d + 1, 3, n, pt, fw, mo, [] ++ [q], dg), by simp [md_clos, c_25, c_38, c_44, hq, nI_clamp (Nat.lt_trans hq26 (by decide))], op, mdQ_name hQ (by simp) (fun z hz => ?_) rfl rfl rfl rfl rfl rfl rfl upd_s⟩⟩
        rcases List.mem_append.mp hz with hz | hz
        · exact hN.2.1 z hz
        · rw [List.mem_singleton.mp hz]; exact hq26
  · skip
    refine lv_aload_n hx hb dM_closureSign_28 rfl (lv_at hl 2 rfl) ?_
    refine lv_iconst (v := 0) hx hb dM_closureSign_29 (by decide) ?_
    refine M_puti hx hb K hM hS 8 kM_f87 dM_closureSign_30 (kk := fun H locs hM hS => ?_)
    refine lv_iconst (v := 1) hx hb dM_closureSign_33 (by decide) ?_
    refine W.zret (v := (1)) hx hb hr rfl (M_endi hM hK hS ?_) hS.2.2 dM_closureSign_34
    exact ⟨⟨fun j h1 h2 h3 => by simp only [up_n h1, up_n h2, up_n h3], rfl⟩, Or.inr ⟨rfl, (d + 1, 0, n, pt, fw, mo, [], dg), by simp [md_clos, c_25], op, mdQ_mode0 hQ rfl rfl rfl rfl rfl rfl rfl⟩⟩
set_option maxHeartbeats 4000000 in
set_option maxRecDepth 100000 in
theorem c_clos1 (l : Launch) (D : va_G) (cl : List vw_C) (tys : List (ClassId × FieldType)) (A : Nat → Prop) (ci tI tZ : Nat) (cI cZ : ClassId) (o : Nat) (ad : Nat → Nat) (fi : Nat → Int32) (fa : Nat → Nat → Int32) (k : Int32) (op : Nat → Nat) (d n a : Nat) (pt fw mo : Nat → Nat) (dg : Nat) (hQ : mdQ fi fa op (d + 1) 3 n pt fw mo [a] dg) :
    Met l yM_closureSign (.code yM_closureSign bM_closureSign 5 (some .boolean) :: lw_g) ({ frames := 0, cells := 0, slots := 0, locals := 0 }) (va_Pc [.ref o, .int k] (mdPre D cl tys A ci tI tZ cI cZ o ad fi fa)) (va_Qi (md_res (md_clos k (d + 1, 3, n, pt, fw, mo, [a], dg)) fi fa) (mdB D cl tys A ci cI cZ o ad) A) 0 0 A := by
  refine Met.ofW (cc := bM_closureSign) (maxL := 5) (ret := (some .boolean)) (by decide) rfl ?_
  intro p e s m args below meth c s₁ B hml hv
  obtain ⟨rfl, hM, hK, hc, hI, hZ⟩ := hv
  have hx := B.exec
  have hb := B.bytes
  have hr := B.returns
  have hts := atoms_spec (ws := (.code yM_closureSign bM_closureSign 5 (some .boolean) :: lw_g)) B.pre
  have hown : s.vm.findClass RM = some m.cls := findClass_of_methodNamed B.named
  have K : mdC D cl tys ci tI tZ cI cZ s m _ := ⟨fun w h => hts w (List.mem_cons_of_mem _ h), hown, hK, hc, hI, hZ⟩
  have hlocks := B.notSynchronized
  have hS : va_S A s.heap s.heap [] := va_S.rf
  have hl := lv_entry ([.ref o, .int k]) (n := 5) (Nat.le_of_ble_eq_true rfl)
  rw [lg_entry_eq]
  generalize (lg_sl ([.ref o, .int k]) ++ List.replicate (5 - (lg_sl ([.ref o, .int k])).length) Slot.unset).toArray = ls at hl ⊢
  have hl : lv_has ls 5 [(0, .ref o), (1, .int k)] := hl
  have hd11 : d + 1 ≤ 12 := hQ.2.1.1
  have hod := (hQ.2.2.1 d (by omega)).1.2
  have hn := hQ.2.1.2.1
  have hN := hQ.2.2.2.2.1 rfl
  refine lv_aload_n hx hb dM_closureSign_0 rfl (lv_at hl 0 rfl) ?_
  refine M_geta hx hb K hM 3 kM_f13 dM_closureSign_1 (kk := ?_)
  refine lv_aload_n hx hb dM_closureSign_4 rfl (lv_at hl 0 rfl) ?_
  refine M_getv hx hb K hM 7 (v := nI (d + 1)) hQ.1.1 kM_f84 dM_closureSign_5 (kk := ?_)
  refine lv_iconst (v := 1) hx hb dM_closureSign_8 (by decide) ?_
  refine lv_isub hx hb dM_closureSign_9 ?_
  refine lv_as (v := nI d) (nI_pred d) ?_
  refine M_aldn hx hb K hM 3 (j := d) (show d < 13 by omega) (v := nI (op d)) (hQ.2.2.1 d (by omega)).1.1 dM_closureSign_10 (kk := ?_)
  refine lv_istore_n (lv' := [(2, .int (nI (op d))), (0, .ref o), (1, .int k)]) hx hb dM_closureSign_11 rfl hl (by decide) rfl (fun ls hl => ?_)
  refine lv_aload_n hx hb dM_closureSign_12 rfl (lv_at hl 1 rfl) ?_
  refine M_geta hx hb K hM 11 kM_f31 dM_closureSign_13 (kk := ?_)
  refine lv_iload_n hx hb dM_closureSign_16 rfl (lv_at hl 0 rfl) ?_
  refine M_aldn hx hb K hM 11 (j := op d) (show op d < 120 by omega) (v := nI (md_pk [a])) hN.2.2 dM_closureSign_17 (kk := ?_)
  refine lv_bipush (v := 20) hx hb dM_closureSign_18 (by decide) ?_
  refine lv_ishr hx hb dM_closureSign_20 ?_
  refine lv_as (v := nI 1) (md_cnt hN.1 hN.2.1) ?_
  refine lv_istore_n (lv' := [(3, .int (nI 1)), (2, .int (nI (op d))), (0, .ref o), (1, .int k)]) hx hb dM_closureSign_21 rfl hl (by decide) rfl (fun ls hl => ?_)
  refine lv_iload_n hx hb dM_closureSign_22 rfl (lv_at hl 3 rfl) ?_
  refine lv_bipush (v := 46) hx hb dM_closureSign_23 (by decide) ?_
  refine lv_icmp_ne (tgt := 35) hx hb dM_closureSign_25 (by decide) (fun c_25 => ?_) (fun c_25 => ?_)
  · skip
    refine lv_iload_n hx hb dM_closureSign_35 rfl (lv_at hl 3 rfl) ?_
    refine lv_bipush (v := 97) hx hb dM_closureSign_36 (by decide) ?_
    refine lv_icmp_lt (tgt := 52) hx hb dM_closureSign_38 (by decide) (fun c_38 => ?_) (fun c_38 => ?_)
    · skip
      refine lv_iconst (v := 0) hx hb dM_closureSign_52 (by decide) ?_
      refine W.zret (v := (0)) hx hb hr rfl (M_endi hM hK hS ?_) hS.2.2 dM_closureSign_53
      exact md_no (by simp [md_clos, c_25, c_25, c_38])
    · skip
      refine lv_iload_n hx hb dM_closureSign_41 rfl (lv_at hl 3 rfl) ?_
      refine lv_bipush (v := 122) hx hb dM_closureSign_42 (by decide) ?_
      refine lv_icmp_gt (tgt := 52) hx hb dM_closureSign_44 (by decide) (fun c_44 => ?_) (fun c_44 => ?_)
      · skip
        refine lv_iconst (v := 0) hx hb dM_closureSign_52 (by decide) ?_
        refine W.zret (v := (0)) hx hb hr rfl (M_endi hM hK hS ?_) hS.2.2 dM_closureSign_53
        exact md_no (by simp [md_clos, c_25, c_25, c_38, c_44])
      · skip
        refine lv_iload_n hx hb dM_closureSign_47 rfl (lv_at hl 0 rfl) ?_
        refine lv_iconst (v := 3) hx hb dM_closureSign_48 (by decide) ?_
        refine lv_icmp_ne (tgt := 54) hx hb dM_closureSign_49 (by decide) (fun c_49 => ?_) (fun c_49 => absurd c_49 (by decide))
        refine lv_iconst (v := 0) hx hb dM_closureSign_54 (by decide) ?_
        refine lv_as (v := nI 0) nI_0.symm ?_
        refine lv_istore (lv' := [(4, .int (nI 0)), (3, .int (nI 1)), (2, .int (nI (op d))), (0, .ref o), (1, .int k)]) hx hb dM_closureSign_55 hl (by decide) rfl (fun ls hl => ?_)
        refine lv_iload hx hb dM_closureSign_57 (lv_at hl 0 rfl) ?_
        refine lv_iload_n hx hb dM_closureSign_59 rfl (lv_at hl 1 rfl) ?_
        refine lv_icmp_ge (tgt := 92) hx hb dM_closureSign_60 (by decide) (fun c_60 => absurd c_60 (by decide)) (fun c_60 => ?_)
        refine lv_aload_n hx hb dM_closureSign_63 rfl (lv_at hl 3 rfl) ?_
        refine M_geta hx hb K hM 11 kM_f31 dM_closureSign_64 (kk := ?_)
        refine lv_iload_n hx hb dM_closureSign_67 rfl (lv_at hl 2 rfl) ?_
        refine M_aldn hx hb K hM 11 (j := op d) (show op d < 120 by omega) (v := nI (md_pk [a])) hN.2.2 dM_closureSign_68 (kk := ?_)
        refine lv_iconst (v := 5) hx hb dM_closureSign_69 (by decide) ?_
        refine lv_iload hx hb dM_closureSign_70 (lv_at hl 0 rfl) ?_
        refine lv_imul hx hb dM_closureSign_72 ?_
        refine lv_as (v := nI (5 * 0)) (pk_mul 5 0) ?_
        refine lv_ishr hx hb dM_closureSign_73 ?_
        refine lv_bipush (v := 31) hx hb dM_closureSign_74 (by decide) ?_
        refine lv_iand hx hb dM_closureSign_76 ?_
        refine lv_as (v := nI a) (md_sel hN.1 hN.2.1 0 (by decide)) ?_
        refine lv_iload_n hx hb dM_closureSign_77 rfl (lv_at hl 4 rfl) ?_
        refine lv_bipush (v := 97) hx hb dM_closureSign_78 (by decide) ?_
        refine lv_isub hx hb dM_closureSign_80 ?_
        refine lv_icmp_ne (tgt := 86) hx hb dM_closureSign_81 (by decide) (fun d_0 => ?_) (fun d_0 => ?_)
        · skip
          refine lv_iinc (v := nI 1) (lv' := [(4, .int (nI 1)), (3, .int (nI 1)), (2, .int (nI (op d))), (0, .ref o), (1, .int k)]) hx hb dM_closureSign_86 hl (k := 0) rfl (by decide) (by decide) rfl (fun ls hl => ?_)
          refine lv_goto (tgt := 57) hx hb dM_closureSign_89 (by decide) ?_
          refine lv_iload hx hb dM_closureSign_57 (lv_at hl 0 rfl) ?_
          refine lv_iload_n hx hb dM_closureSign_59 rfl (lv_at hl 1 rfl) ?_
          refine lv_icmp_ge (tgt := 92) hx hb dM_closureSign_60 (by decide) (fun c_60 => ?_) (fun c_60 => absurd (by decide) c_60)
          obtain ⟨q, hq26, hq⟩ := md_let c_38 c_44
          rw [hq] at d_0
          refine lv_aload_n hx hb dM_closureSign_92 rfl (lv_at hl 3 rfl) ?_
          refine M_geta hx hb K hM 11 kM_f31 dM_closureSign_93 (kk := ?_)
          refine lv_iload_n hx hb dM_closureSign_96 rfl (lv_at hl 2 rfl) ?_
          refine lv_dup2_11 hx hb dM_closureSign_97 rfl rfl ?_
          refine M_aldn hx hb K hM 11 (j := op d) (show op d < 120 by omega) (v := nI (md_pk [a])) hN.2.2 dM_closureSign_98 (kk := ?_)
          refine lv_ldc (v := 1048576) hx hb hown (K.1 _ kM_k101) dM_closureSign_99 ?_
          refine lv_iload_n hx hb dM_closureSign_101 rfl (lv_at hl 4 rfl) ?_
          refine lv_bipush (v := 97) hx hb dM_closureSign_102 (by decide) ?_
          refine lv_isub hx hb dM_closureSign_104 ?_
          refine lv_as (v := nI q) hq ?_
          refine lv_iconst (v := 5) hx hb dM_closureSign_105 (by decide) ?_
          refine lv_iload_n hx hb dM_closureSign_106 rfl (lv_at hl 1 rfl) ?_
          refine lv_imul hx hb dM_closureSign_107 ?_
          refine lv_as (v := nI (5 * 1)) (pk_mul 5 1) ?_
          refine lv_ishl hx hb dM_closureSign_108 ?_
          refine lv_iadd hx hb dM_closureSign_109 ?_
          refine lv_iadd hx hb dM_closureSign_110 ?_
          refine lv_as (v := nI (md_pk ([a] ++ [q]))) (md_pk_add (nm := [a]) (by simp) hq26) ?_
          refine M_astn hx hb K hM hS 11 (j := op d) (show op d < 120 by omega) dM_closureSign_111 (kk := fun H locs hM hS => ?_)
          refine lv_iconst (v := 1) hx hb dM_closureSign_112 (by decide) ?_
          refine W.zret (v := (1)) hx hb hr rfl (M_endi hM hK hS ?_) hS.2.2 dM_closureSign_113
          refine ⟨⟨fun _ _ _ _ => rfl, rfl⟩, Or.inr ⟨rfl, (d + 1, 3, n, pt, fw, mo, [a] ++ [q], dg), by simp [md_clos, c_25, c_38, c_44, d_0, hq, nI_clamp (Nat.lt_trans hq26 (by decide))], op, mdQ_name hQ (by simp) (fun z hz => ?_) rfl rfl rfl rfl rfl rfl rfl upd_s⟩⟩
          rcases List.mem_append.mp hz with hz | hz
          · exact hN.2.1 z hz
          · rw [List.mem_singleton.mp hz]; exact hq26
        · skip
          refine lv_iconst (v := 0) hx hb dM_closureSign_84 (by decide) ?_
          refine W.zret (v := (0)) hx hb hr rfl (M_endi hM hK hS ?_) hS.2.2 dM_closureSign_85
          exact md_no (by simp [md_clos, c_25, c_38, c_44, d_0])
  · skip
    refine lv_aload_n hx hb dM_closureSign_28 rfl (lv_at hl 2 rfl) ?_
    refine lv_iconst (v := 0) hx hb dM_closureSign_29 (by decide) ?_
    refine M_puti hx hb K hM hS 8 kM_f87 dM_closureSign_30 (kk := fun H locs hM hS => ?_)
    refine lv_iconst (v := 1) hx hb dM_closureSign_33 (by decide) ?_
    refine W.zret (v := (1)) hx hb hr rfl (M_endi hM hK hS ?_) hS.2.2 dM_closureSign_34
    exact ⟨⟨fun j h1 h2 h3 => by simp only [up_n h1, up_n h2, up_n h3], rfl⟩, Or.inr ⟨rfl, (d + 1, 0, n, pt, fw, mo, [a], dg), by simp [md_clos, c_25], op, mdQ_mode0 hQ rfl rfl rfl rfl rfl rfl rfl⟩⟩
set_option maxHeartbeats 4000000 in
set_option maxRecDepth 100000 in
theorem c_clos2 (l : Launch) (D : va_G) (cl : List vw_C) (tys : List (ClassId × FieldType)) (A : Nat → Prop) (ci tI tZ : Nat) (cI cZ : ClassId) (o : Nat) (ad : Nat → Nat) (fi : Nat → Int32) (fa : Nat → Nat → Int32) (k : Int32) (op : Nat → Nat) (d n a b : Nat) (pt fw mo : Nat → Nat) (dg : Nat) (hQ : mdQ fi fa op (d + 1) 3 n pt fw mo [a, b] dg) :
    Met l yM_closureSign (.code yM_closureSign bM_closureSign 5 (some .boolean) :: lw_g) ({ frames := 0, cells := 0, slots := 0, locals := 0 }) (va_Pc [.ref o, .int k] (mdPre D cl tys A ci tI tZ cI cZ o ad fi fa)) (va_Qi (md_res (md_clos k (d + 1, 3, n, pt, fw, mo, [a, b], dg)) fi fa) (mdB D cl tys A ci cI cZ o ad) A) 0 0 A := by
  refine Met.ofW (cc := bM_closureSign) (maxL := 5) (ret := (some .boolean)) (by decide) rfl ?_
  intro p e s m args below meth c s₁ B hml hv
  obtain ⟨rfl, hM, hK, hc, hI, hZ⟩ := hv
  have hx := B.exec
  have hb := B.bytes
  have hr := B.returns
  have hts := atoms_spec (ws := (.code yM_closureSign bM_closureSign 5 (some .boolean) :: lw_g)) B.pre
  have hown : s.vm.findClass RM = some m.cls := findClass_of_methodNamed B.named
  have K : mdC D cl tys ci tI tZ cI cZ s m _ := ⟨fun w h => hts w (List.mem_cons_of_mem _ h), hown, hK, hc, hI, hZ⟩
  have hlocks := B.notSynchronized
  have hS : va_S A s.heap s.heap [] := va_S.rf
  have hl := lv_entry ([.ref o, .int k]) (n := 5) (Nat.le_of_ble_eq_true rfl)
  rw [lg_entry_eq]
  generalize (lg_sl ([.ref o, .int k]) ++ List.replicate (5 - (lg_sl ([.ref o, .int k])).length) Slot.unset).toArray = ls at hl ⊢
  have hl : lv_has ls 5 [(0, .ref o), (1, .int k)] := hl
  have hd11 : d + 1 ≤ 12 := hQ.2.1.1
  have hod := (hQ.2.2.1 d (by omega)).1.2
  have hn := hQ.2.1.2.1
  have hN := hQ.2.2.2.2.1 rfl
  refine lv_aload_n hx hb dM_closureSign_0 rfl (lv_at hl 0 rfl) ?_
  refine M_geta hx hb K hM 3 kM_f13 dM_closureSign_1 (kk := ?_)
  refine lv_aload_n hx hb dM_closureSign_4 rfl (lv_at hl 0 rfl) ?_
  refine M_getv hx hb K hM 7 (v := nI (d + 1)) hQ.1.1 kM_f84 dM_closureSign_5 (kk := ?_)
  refine lv_iconst (v := 1) hx hb dM_closureSign_8 (by decide) ?_
  refine lv_isub hx hb dM_closureSign_9 ?_
  refine lv_as (v := nI d) (nI_pred d) ?_
  refine M_aldn hx hb K hM 3 (j := d) (show d < 13 by omega) (v := nI (op d)) (hQ.2.2.1 d (by omega)).1.1 dM_closureSign_10 (kk := ?_)
  refine lv_istore_n (lv' := [(2, .int (nI (op d))), (0, .ref o), (1, .int k)]) hx hb dM_closureSign_11 rfl hl (by decide) rfl (fun ls hl => ?_)
  refine lv_aload_n hx hb dM_closureSign_12 rfl (lv_at hl 1 rfl) ?_
  refine M_geta hx hb K hM 11 kM_f31 dM_closureSign_13 (kk := ?_)
  refine lv_iload_n hx hb dM_closureSign_16 rfl (lv_at hl 0 rfl) ?_
  refine M_aldn hx hb K hM 11 (j := op d) (show op d < 120 by omega) (v := nI (md_pk [a, b])) hN.2.2 dM_closureSign_17 (kk := ?_)
  refine lv_bipush (v := 20) hx hb dM_closureSign_18 (by decide) ?_
  refine lv_ishr hx hb dM_closureSign_20 ?_
  refine lv_as (v := nI 2) (md_cnt hN.1 hN.2.1) ?_
  refine lv_istore_n (lv' := [(3, .int (nI 2)), (2, .int (nI (op d))), (0, .ref o), (1, .int k)]) hx hb dM_closureSign_21 rfl hl (by decide) rfl (fun ls hl => ?_)
  refine lv_iload_n hx hb dM_closureSign_22 rfl (lv_at hl 3 rfl) ?_
  refine lv_bipush (v := 46) hx hb dM_closureSign_23 (by decide) ?_
  refine lv_icmp_ne (tgt := 35) hx hb dM_closureSign_25 (by decide) (fun c_25 => ?_) (fun c_25 => ?_)
  · skip
    refine lv_iload_n hx hb dM_closureSign_35 rfl (lv_at hl 3 rfl) ?_
    refine lv_bipush (v := 97) hx hb dM_closureSign_36 (by decide) ?_
    refine lv_icmp_lt (tgt := 52) hx hb dM_closureSign_38 (by decide) (fun c_38 => ?_) (fun c_38 => ?_)
    · skip
      refine lv_iconst (v := 0) hx hb dM_closureSign_52 (by decide) ?_
      refine W.zret (v := (0)) hx hb hr rfl (M_endi hM hK hS ?_) hS.2.2 dM_closureSign_53
      exact md_no (by simp [md_clos, c_25, c_25, c_38])
    · skip
      refine lv_iload_n hx hb dM_closureSign_41 rfl (lv_at hl 3 rfl) ?_
      refine lv_bipush (v := 122) hx hb dM_closureSign_42 (by decide) ?_
      refine lv_icmp_gt (tgt := 52) hx hb dM_closureSign_44 (by decide) (fun c_44 => ?_) (fun c_44 => ?_)
      · skip
        refine lv_iconst (v := 0) hx hb dM_closureSign_52 (by decide) ?_
        refine W.zret (v := (0)) hx hb hr rfl (M_endi hM hK hS ?_) hS.2.2 dM_closureSign_53
        exact md_no (by simp [md_clos, c_25, c_25, c_38, c_44])
      · skip
        refine lv_iload_n hx hb dM_closureSign_47 rfl (lv_at hl 0 rfl) ?_
        refine lv_iconst (v := 3) hx hb dM_closureSign_48 (by decide) ?_
        refine lv_icmp_ne (tgt := 54) hx hb dM_closureSign_49 (by decide) (fun c_49 => ?_) (fun c_49 => absurd c_49 (by decide))
        refine lv_iconst (v := 0) hx hb dM_closureSign_54 (by decide) ?_
        refine lv_as (v := nI 0) nI_0.symm ?_
        refine lv_istore (lv' := [(4, .int (nI 0)), (3, .int (nI 2)), (2, .int (nI (op d))), (0, .ref o), (1, .int k)]) hx hb dM_closureSign_55 hl (by decide) rfl (fun ls hl => ?_)
        refine lv_iload hx hb dM_closureSign_57 (lv_at hl 0 rfl) ?_
        refine lv_iload_n hx hb dM_closureSign_59 rfl (lv_at hl 1 rfl) ?_
        refine lv_icmp_ge (tgt := 92) hx hb dM_closureSign_60 (by decide) (fun c_60 => absurd c_60 (by decide)) (fun c_60 => ?_)
        refine lv_aload_n hx hb dM_closureSign_63 rfl (lv_at hl 3 rfl) ?_
        refine M_geta hx hb K hM 11 kM_f31 dM_closureSign_64 (kk := ?_)
        refine lv_iload_n hx hb dM_closureSign_67 rfl (lv_at hl 2 rfl) ?_
        refine M_aldn hx hb K hM 11 (j := op d) (show op d < 120 by omega) (v := nI (md_pk [a, b])) hN.2.2 dM_closureSign_68 (kk := ?_)
        refine lv_iconst (v := 5) hx hb dM_closureSign_69 (by decide) ?_
        refine lv_iload hx hb dM_closureSign_70 (lv_at hl 0 rfl) ?_
        refine lv_imul hx hb dM_closureSign_72 ?_
        refine lv_as (v := nI (5 * 0)) (pk_mul 5 0) ?_
        refine lv_ishr hx hb dM_closureSign_73 ?_
        refine lv_bipush (v := 31) hx hb dM_closureSign_74 (by decide) ?_
        refine lv_iand hx hb dM_closureSign_76 ?_
        refine lv_as (v := nI a) (md_sel hN.1 hN.2.1 0 (by decide)) ?_
        refine lv_iload_n hx hb dM_closureSign_77 rfl (lv_at hl 4 rfl) ?_
        refine lv_bipush (v := 97) hx hb dM_closureSign_78 (by decide) ?_
        refine lv_isub hx hb dM_closureSign_80 ?_
        refine lv_icmp_ne (tgt := 86) hx hb dM_closureSign_81 (by decide) (fun d_0 => ?_) (fun d_0 => ?_)
        · skip
          refine lv_iinc (v := nI 1) (lv' := [(4, .int (nI 1)), (3, .int (nI 2)), (2, .int (nI (op d))), (0, .ref o), (1, .int k)]) hx hb dM_closureSign_86 hl (k := 0) rfl (by decide) (by decide) rfl (fun ls hl => ?_)
          refine lv_goto (tgt := 57) hx hb dM_closureSign_89 (by decide) ?_
          refine lv_iload hx hb dM_closureSign_57 (lv_at hl 0 rfl) ?_
          refine lv_iload_n hx hb dM_closureSign_59 rfl (lv_at hl 1 rfl) ?_
          refine lv_icmp_ge (tgt := 92) hx hb dM_closureSign_60 (by decide) (fun c_60 => absurd c_60 (by decide)) (fun c_60 => ?_)
          refine lv_aload_n hx hb dM_closureSign_63 rfl (lv_at hl 3 rfl) ?_
          refine M_geta hx hb K hM 11 kM_f31 dM_closureSign_64 (kk := ?_)
          refine lv_iload_n hx hb dM_closureSign_67 rfl (lv_at hl 2 rfl) ?_
          refine M_aldn hx hb K hM 11 (j := op d) (show op d < 120 by omega) (v := nI (md_pk [a, b])) hN.2.2 dM_closureSign_68 (kk := ?_)
          refine lv_iconst (v := 5) hx hb dM_closureSign_69 (by decide) ?_
          refine lv_iload hx hb dM_closureSign_70 (lv_at hl 0 rfl) ?_
          refine lv_imul hx hb dM_closureSign_72 ?_
          refine lv_as (v := nI (5 * 1)) (pk_mul 5 1) ?_
          refine lv_ishr hx hb dM_closureSign_73 ?_
          refine lv_bipush (v := 31) hx hb dM_closureSign_74 (by decide) ?_
          refine lv_iand hx hb dM_closureSign_76 ?_
          refine lv_as (v := nI b) (md_sel hN.1 hN.2.1 1 (by decide)) ?_
          refine lv_iload_n hx hb dM_closureSign_77 rfl (lv_at hl 4 rfl) ?_
          refine lv_bipush (v := 97) hx hb dM_closureSign_78 (by decide) ?_
          refine lv_isub hx hb dM_closureSign_80 ?_
          refine lv_icmp_ne (tgt := 86) hx hb dM_closureSign_81 (by decide) (fun d_1 => ?_) (fun d_1 => ?_)
          · skip
            refine lv_iinc (v := nI 2) (lv' := [(4, .int (nI 2)), (3, .int (nI 2)), (2, .int (nI (op d))), (0, .ref o), (1, .int k)]) hx hb dM_closureSign_86 hl (k := 0) rfl (by decide) (by decide) rfl (fun ls hl => ?_)
            refine lv_goto (tgt := 57) hx hb dM_closureSign_89 (by decide) ?_
            refine lv_iload hx hb dM_closureSign_57 (lv_at hl 0 rfl) ?_
            refine lv_iload_n hx hb dM_closureSign_59 rfl (lv_at hl 1 rfl) ?_
            refine lv_icmp_ge (tgt := 92) hx hb dM_closureSign_60 (by decide) (fun c_60 => ?_) (fun c_60 => absurd (by decide) c_60)
            obtain ⟨q, hq26, hq⟩ := md_let c_38 c_44
            rw [hq] at d_0
            rw [hq] at d_1
            refine lv_aload_n hx hb dM_closureSign_92 rfl (lv_at hl 3 rfl) ?_
            refine M_geta hx hb K hM 11 kM_f31 dM_closureSign_93 (kk := ?_)
            refine lv_iload_n hx hb dM_closureSign_96 rfl (lv_at hl 2 rfl) ?_
            refine lv_dup2_11 hx hb dM_closureSign_97 rfl rfl ?_
            refine M_aldn hx hb K hM 11 (j := op d) (show op d < 120 by omega) (v := nI (md_pk [a, b])) hN.2.2 dM_closureSign_98 (kk := ?_)
            refine lv_ldc (v := 1048576) hx hb hown (K.1 _ kM_k101) dM_closureSign_99 ?_
            refine lv_iload_n hx hb dM_closureSign_101 rfl (lv_at hl 4 rfl) ?_
            refine lv_bipush (v := 97) hx hb dM_closureSign_102 (by decide) ?_
            refine lv_isub hx hb dM_closureSign_104 ?_
            refine lv_as (v := nI q) hq ?_
            refine lv_iconst (v := 5) hx hb dM_closureSign_105 (by decide) ?_
            refine lv_iload_n hx hb dM_closureSign_106 rfl (lv_at hl 1 rfl) ?_
            refine lv_imul hx hb dM_closureSign_107 ?_
            refine lv_as (v := nI (5 * 2)) (pk_mul 5 2) ?_
            refine lv_ishl hx hb dM_closureSign_108 ?_
            refine lv_iadd hx hb dM_closureSign_109 ?_
            refine lv_iadd hx hb dM_closureSign_110 ?_
            refine lv_as (v := nI (md_pk ([a, b] ++ [q]))) (md_pk_add (nm := [a, b]) (by simp) hq26) ?_
            refine M_astn hx hb K hM hS 11 (j := op d) (show op d < 120 by omega) dM_closureSign_111 (kk := fun H locs hM hS => ?_)
            refine lv_iconst (v := 1) hx hb dM_closureSign_112 (by decide) ?_
            refine W.zret (v := (1)) hx hb hr rfl (M_endi hM hK hS ?_) hS.2.2 dM_closureSign_113
            refine ⟨⟨fun _ _ _ _ => rfl, rfl⟩, Or.inr ⟨rfl, (d + 1, 3, n, pt, fw, mo, [a, b] ++ [q], dg), by simp [md_clos, c_25, c_38, c_44, d_0, d_1, hq, nI_clamp (Nat.lt_trans hq26 (by decide))], op, mdQ_name hQ (by simp) (fun z hz => ?_) rfl rfl rfl rfl rfl rfl rfl upd_s⟩⟩
            rcases List.mem_append.mp hz with hz | hz
            · exact hN.2.1 z hz
            · rw [List.mem_singleton.mp hz]; exact hq26
          · skip
            refine lv_iconst (v := 0) hx hb dM_closureSign_84 (by decide) ?_
            refine W.zret (v := (0)) hx hb hr rfl (M_endi hM hK hS ?_) hS.2.2 dM_closureSign_85
            exact md_no (by simp [md_clos, c_25, c_38, c_44, d_0, d_1])
        · skip
          refine lv_iconst (v := 0) hx hb dM_closureSign_84 (by decide) ?_
          refine W.zret (v := (0)) hx hb hr rfl (M_endi hM hK hS ?_) hS.2.2 dM_closureSign_85
          exact md_no (by simp [md_clos, c_25, c_38, c_44, d_0])
  · skip
    refine lv_aload_n hx hb dM_closureSign_28 rfl (lv_at hl 2 rfl) ?_
    refine lv_iconst (v := 0) hx hb dM_closureSign_29 (by decide) ?_
    refine M_puti hx hb K hM hS 8 kM_f87 dM_closureSign_30 (kk := fun H locs hM hS => ?_)
    refine lv_iconst (v := 1) hx hb dM_closureSign_33 (by decide) ?_
    refine W.zret (v := (1)) hx hb hr rfl (M_endi hM hK hS ?_) hS.2.2 dM_closureSign_34
    exact ⟨⟨fun j h1 h2 h3 => by simp only [up_n h1, up_n h2, up_n h3], rfl⟩, Or.inr ⟨rfl, (d + 1, 0, n, pt, fw, mo, [a, b], dg), by simp [md_clos, c_25], op, mdQ_mode0 hQ rfl rfl rfl rfl rfl rfl rfl⟩⟩
set_option maxHeartbeats 4000000 in
set_option maxRecDepth 100000 in
theorem c_clos3 (l : Launch) (D : va_G) (cl : List vw_C) (tys : List (ClassId × FieldType)) (A : Nat → Prop) (ci tI tZ : Nat) (cI cZ : ClassId) (o : Nat) (ad : Nat → Nat) (fi : Nat → Int32) (fa : Nat → Nat → Int32) (k : Int32) (op : Nat → Nat) (d n a b a2 : Nat) (pt fw mo : Nat → Nat) (dg : Nat) (hQ : mdQ fi fa op (d + 1) 3 n pt fw mo [a, b, a2] dg) :
    Met l yM_closureSign (.code yM_closureSign bM_closureSign 5 (some .boolean) :: lw_g) ({ frames := 0, cells := 0, slots := 0, locals := 0 }) (va_Pc [.ref o, .int k] (mdPre D cl tys A ci tI tZ cI cZ o ad fi fa)) (va_Qi (md_res (md_clos k (d + 1, 3, n, pt, fw, mo, [a, b, a2], dg)) fi fa) (mdB D cl tys A ci cI cZ o ad) A) 0 0 A := by
  refine Met.ofW (cc := bM_closureSign) (maxL := 5) (ret := (some .boolean)) (by decide) rfl ?_
  intro p e s m args below meth c s₁ B hml hv
  obtain ⟨rfl, hM, hK, hc, hI, hZ⟩ := hv
  have hx := B.exec
  have hb := B.bytes
  have hr := B.returns
  have hts := atoms_spec (ws := (.code yM_closureSign bM_closureSign 5 (some .boolean) :: lw_g)) B.pre
  have hown : s.vm.findClass RM = some m.cls := findClass_of_methodNamed B.named
  have K : mdC D cl tys ci tI tZ cI cZ s m _ := ⟨fun w h => hts w (List.mem_cons_of_mem _ h), hown, hK, hc, hI, hZ⟩
  have hlocks := B.notSynchronized
  have hS : va_S A s.heap s.heap [] := va_S.rf
  have hl := lv_entry ([.ref o, .int k]) (n := 5) (Nat.le_of_ble_eq_true rfl)
  rw [lg_entry_eq]
  generalize (lg_sl ([.ref o, .int k]) ++ List.replicate (5 - (lg_sl ([.ref o, .int k])).length) Slot.unset).toArray = ls at hl ⊢
  have hl : lv_has ls 5 [(0, .ref o), (1, .int k)] := hl
  have hd11 : d + 1 ≤ 12 := hQ.2.1.1
  have hod := (hQ.2.2.1 d (by omega)).1.2
  have hn := hQ.2.1.2.1
  have hN := hQ.2.2.2.2.1 rfl
  refine lv_aload_n hx hb dM_closureSign_0 rfl (lv_at hl 0 rfl) ?_
  refine M_geta hx hb K hM 3 kM_f13 dM_closureSign_1 (kk := ?_)
  refine lv_aload_n hx hb dM_closureSign_4 rfl (lv_at hl 0 rfl) ?_
  refine M_getv hx hb K hM 7 (v := nI (d + 1)) hQ.1.1 kM_f84 dM_closureSign_5 (kk := ?_)
  refine lv_iconst (v := 1) hx hb dM_closureSign_8 (by decide) ?_
  refine lv_isub hx hb dM_closureSign_9 ?_
  refine lv_as (v := nI d) (nI_pred d) ?_
  refine M_aldn hx hb K hM 3 (j := d) (show d < 13 by omega) (v := nI (op d)) (hQ.2.2.1 d (by omega)).1.1 dM_closureSign_10 (kk := ?_)
  refine lv_istore_n (lv' := [(2, .int (nI (op d))), (0, .ref o), (1, .int k)]) hx hb dM_closureSign_11 rfl hl (by decide) rfl (fun ls hl => ?_)
  refine lv_aload_n hx hb dM_closureSign_12 rfl (lv_at hl 1 rfl) ?_
  refine M_geta hx hb K hM 11 kM_f31 dM_closureSign_13 (kk := ?_)
  refine lv_iload_n hx hb dM_closureSign_16 rfl (lv_at hl 0 rfl) ?_
  refine M_aldn hx hb K hM 11 (j := op d) (show op d < 120 by omega) (v := nI (md_pk [a, b, a2])) hN.2.2 dM_closureSign_17 (kk := ?_)
  refine lv_bipush (v := 20) hx hb dM_closureSign_18 (by decide) ?_
  refine lv_ishr hx hb dM_closureSign_20 ?_
  refine lv_as (v := nI 3) (md_cnt hN.1 hN.2.1) ?_
  refine lv_istore_n (lv' := [(3, .int (nI 3)), (2, .int (nI (op d))), (0, .ref o), (1, .int k)]) hx hb dM_closureSign_21 rfl hl (by decide) rfl (fun ls hl => ?_)
  refine lv_iload_n hx hb dM_closureSign_22 rfl (lv_at hl 3 rfl) ?_
  refine lv_bipush (v := 46) hx hb dM_closureSign_23 (by decide) ?_
  refine lv_icmp_ne (tgt := 35) hx hb dM_closureSign_25 (by decide) (fun c_25 => ?_) (fun c_25 => ?_)
  · skip
    refine lv_iload_n hx hb dM_closureSign_35 rfl (lv_at hl 3 rfl) ?_
    refine lv_bipush (v := 97) hx hb dM_closureSign_36 (by decide) ?_
    refine lv_icmp_lt (tgt := 52) hx hb dM_closureSign_38 (by decide) (fun c_38 => ?_) (fun c_38 => ?_)
    · skip
      refine lv_iconst (v := 0) hx hb dM_closureSign_52 (by decide) ?_
      refine W.zret (v := (0)) hx hb hr rfl (M_endi hM hK hS ?_) hS.2.2 dM_closureSign_53
      exact md_no (by simp [md_clos, c_25, c_25, c_38])
    · skip
      refine lv_iload_n hx hb dM_closureSign_41 rfl (lv_at hl 3 rfl) ?_
      refine lv_bipush (v := 122) hx hb dM_closureSign_42 (by decide) ?_
      refine lv_icmp_gt (tgt := 52) hx hb dM_closureSign_44 (by decide) (fun c_44 => ?_) (fun c_44 => ?_)
      · skip
        refine lv_iconst (v := 0) hx hb dM_closureSign_52 (by decide) ?_
        refine W.zret (v := (0)) hx hb hr rfl (M_endi hM hK hS ?_) hS.2.2 dM_closureSign_53
        exact md_no (by simp [md_clos, c_25, c_25, c_38, c_44])
      · skip
        refine lv_iload_n hx hb dM_closureSign_47 rfl (lv_at hl 0 rfl) ?_
        refine lv_iconst (v := 3) hx hb dM_closureSign_48 (by decide) ?_
        refine lv_icmp_ne (tgt := 54) hx hb dM_closureSign_49 (by decide) (fun c_49 => absurd rfl c_49) (fun c_49 => ?_)
        refine lv_iconst (v := 0) hx hb dM_closureSign_52 (by decide) ?_
        refine W.zret (v := (0)) hx hb hr rfl (M_endi hM hK hS ?_) hS.2.2 dM_closureSign_53
        exact md_no (by simp [md_clos, c_25])
  · skip
    refine lv_aload_n hx hb dM_closureSign_28 rfl (lv_at hl 2 rfl) ?_
    refine lv_iconst (v := 0) hx hb dM_closureSign_29 (by decide) ?_
    refine M_puti hx hb K hM hS 8 kM_f87 dM_closureSign_30 (kk := fun H locs hM hS => ?_)
    refine lv_iconst (v := 1) hx hb dM_closureSign_33 (by decide) ?_
    refine W.zret (v := (1)) hx hb hr rfl (M_endi hM hK hS ?_) hS.2.2 dM_closureSign_34
    exact ⟨⟨fun j h1 h2 h3 => by simp only [up_n h1, up_n h2, up_n h3], rfl⟩, Or.inr ⟨rfl, (d + 1, 0, n, pt, fw, mo, [a, b, a2], dg), by simp [md_clos, c_25], op, mdQ_mode0 hQ rfl rfl rfl rfl rfl rfl rfl⟩⟩
