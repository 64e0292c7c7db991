def md_arN (c : Int32) : Nat := if c = 43 ∨ c = 45 ∨ c = 42 ∨ c = 47 ∨ c = 60 ∨ c = 61 ∨ c = 58 ∨ c = 38 ∨ c = 64 ∨ c = 37 then 2 else if c = 65 ∨ c = 68 ∨ c = 80 ∨ c = 94 ∨ c = 33 ∨ c = 92 then 1 else if c = 63 then 3 else 0
theorem md_ar_N (c : Int32) : md_ar c = nI (md_arN c) := by
  unfold md_ar md_arN
  split
  · rfl
  · split
    · rfl
    · split <;> rfl
theorem md_arN_le (c : Int32) : md_arN c ≤ 3 := by
  unfold md_arN
  split
  · omega
  · split
    · omega
    · split <;> omega
def md_oper (c : Int32) : MT → Option MT := fun (d, _, n, pt, fw, mo, _, dg) =>
  if md_arN c = 0 then none else some (d, (if c = 92 then 3 else if c = 33 ∨ c = 64 ∨ c = 37 then 2 else 0), n, pt, va_up fw (d - 1) (md_arN c), va_up mo (d - 1) (md_arN c), [], dg)
set_option maxHeartbeats 4000000 in
set_option maxRecDepth 100000 in
theorem c_operator (l : Launch) (D : va_G) (cl : List vw_C) (tys : List (ClassId × FieldType)) (A : Nat → Prop) (ci tI tZ : Nat) (cI cZ : ClassId) (o : Nat) (ad : Nat → Nat) (fi : Nat → Int32) (fa : Nat → Nat → Int32) (k : Int32) (op : Nat → Nat) (d n : Nat) (pt fw mo : Nat → Nat) (nm : List Nat) (dg : Nat) (hQ : mdQ fi fa op (d + 1) 1 n pt fw mo nm dg) :
    Met l yM_operator (.code yM_operator bM_operator 4 (some .boolean) :: lw_g) ({ frames := 1, cells := 0, slots := 0, locals := 21 }) (va_Pc [.ref o, .int k] (mdPre D cl tys A ci tI tZ cI cZ o ad fi fa)) (va_Qi (md_res (md_oper k (d + 1, 1, n, pt, fw, mo, nm, dg)) fi fa) (mdB D cl tys A ci cI cZ o ad) A) 0 0 A := by
  refine Met.ofW (cc := bM_operator) (maxL := 4) (ret := (some .boolean)) (by decide) rfl ?_
  intro p e s m args below meth c s₁ B hml hv
  obtain ⟨rfl, hM, hK, hc, hI, hZ⟩ := hv
  have hx := B.exec
  have hb := B.bytes
  have hr := B.returns
  have hts := atoms_spec (ws := (.code yM_operator bM_operator 4 (some .boolean) :: lw_g)) B.pre
  have hown : s.vm.findClass RM = some m.cls := findClass_of_methodNamed B.named
  have K : mdC D cl tys ci tI tZ cI cZ s m _ := ⟨fun w h => hts w (List.mem_cons_of_mem _ h), hown, hK, hc, hI, hZ⟩
  have hlocks := B.notSynchronized
  have hS : va_S A s.heap s.heap [] := va_S.rf
  have hl := lv_entry ([.ref o, .int k]) (n := 4) (Nat.le_of_ble_eq_true rfl)
  rw [lg_entry_eq]
  generalize (lg_sl ([.ref o, .int k]) ++ List.replicate (4 - (lg_sl ([.ref o, .int k])).length) Slot.unset).toArray = ls at hl ⊢
  have hl : lv_has ls 4 [(0, .ref o), (1, .int k)] := hl
  have hd11 : d + 1 ≤ 12 := hQ.2.1.1
  have hod := (hQ.2.2.1 d (by omega)).1.2
  have hn := hQ.2.1.2.1
  have har := md_arN_le k
  refine lv_aload_n hx hb dM_operator_0 rfl (lv_at hl 0 rfl) ?_
  refine lv_iload_n hx hb dM_operator_1 rfl (lv_at hl 1 rfl) ?_
  refine va_calli (M_run (As := [.int k]) (rest := []) (n := 1) hx hb hml K hM (c_arity l D cl tys A ci tI tZ cI cZ o ad _ _ k) kM_c_arity kM_m98 kM_i_arity kM_s_arity rfl rfl ⟨rfl, by decide +kernel⟩ ⟨Nat.le_of_ble_eq_true rfl, Nat.le_of_ble_eq_true rfl⟩ rfl hl.1 rfl (lv_room (Nat.le_of_ble_eq_true rfl)) dM_operator_2 ⟨Nat.le_of_ble_eq_true rfl, Nat.le_of_ble_eq_true rfl⟩) hS (fun q _ h => h) (fun q h => h) (fun r u t H1 locs1 ht hvm hw hB hz hk hS => ?_)
  obtain ⟨hM, -⟩ := hB
  rw [ht] at hM
  obtain ⟨rfl, rfl⟩ := hw
  dsimp only at hM
  rw [md_ar_N]
  refine lv_istore_n (lv' := [(2, .int (nI (md_arN k))), (0, .ref o), (1, .int k)]) hx hb dM_operator_5 rfl hl (by decide) rfl (fun ls hl => ?_)
  refine lv_iload_n hx hb dM_operator_6 rfl (lv_at hl 0 rfl) ?_
  refine lv_if_ne (tgt := 12) hx hb dM_operator_7 (by decide) (fun c_7 => ?_) (fun c_7 => ?_)
  · skip
    have h0 : ¬ md_arN k = 0 := fun q => c_7 (by rw [q]; rfl)
    refine lv_aload_n hx hb dM_operator_12 rfl (lv_at hl 1 rfl) ?_
    refine M_getv hx hb K hM 7 (v := nI (d + 1)) hQ.1.1 kM_f84 dM_operator_13 (kk := ?_)
    refine lv_iconst (v := 1) hx hb dM_operator_16 (by decide) ?_
    refine lv_isub hx hb dM_operator_17 ?_
    refine lv_as (v := nI d) (nI_pred d) ?_
    refine lv_istore_n (lv' := [(3, .int (nI d)), (2, .int (nI (md_arN k))), (0, .ref o), (1, .int k)]) hx hb dM_operator_18 rfl hl (by decide) rfl (fun ls hl => ?_)
    refine lv_aload_n hx hb dM_operator_19 rfl (lv_at hl 2 rfl) ?_
    refine M_geta hx hb K hM 9 kM_f25 dM_operator_20 (kk := ?_)
    refine lv_aload_n hx hb dM_operator_23 rfl (lv_at hl 2 rfl) ?_
    refine M_geta hx hb K hM 3 kM_f13 dM_operator_24 (kk := ?_)
    refine lv_iload_n hx hb dM_operator_27 rfl (lv_at hl 0 rfl) ?_
    refine M_aldn hx hb K hM 3 (j := d) (show d < 13 by omega) (v := nI (op d)) (hQ.2.2.1 d (by omega)).1.1 dM_operator_28 (kk := ?_)
    refine lv_iload_n hx hb dM_operator_29 rfl (lv_at hl 3 rfl) ?_
    refine M_astn hx hb K hM hS 9 (j := op d) (show op d < 120 by omega) dM_operator_30 (kk := fun H locs hM hS => ?_)
    refine lv_aload_n hx hb dM_operator_31 rfl (lv_at hl 2 rfl) ?_
    refine M_geta hx hb K hM 5 kM_f19 dM_operator_32 (kk := ?_)
    refine lv_iload_n hx hb dM_operator_35 rfl (lv_at hl 0 rfl) ?_
    refine lv_iload_n hx hb dM_operator_36 rfl (lv_at hl 1 rfl) ?_
    refine M_astn hx hb K hM hS 5 (j := d) (show d < 13 by omega) dM_operator_37 (kk := fun H locs hM hS => ?_)
    refine lv_aload_n hx hb dM_operator_38 rfl (lv_at hl 2 rfl) ?_
    refine M_geta hx hb K hM 6 kM_f22 dM_operator_39 (kk := ?_)
    refine lv_iload_n hx hb dM_operator_42 rfl (lv_at hl 0 rfl) ?_
    refine lv_iload_n hx hb dM_operator_43 rfl (lv_at hl 1 rfl) ?_
    refine M_astn hx hb K hM hS 6 (j := d) (show d < 13 by omega) dM_operator_44 (kk := fun H locs hM hS => ?_)
    refine lv_aload_n hx hb dM_operator_45 rfl (lv_at hl 2 rfl) ?_
    refine lv_iload_n hx hb dM_operator_46 rfl (lv_at hl 3 rfl) ?_
    refine lv_bipush (v := 92) hx hb dM_operator_47 (by decide) ?_
    refine lv_icmp_ne (tgt := 56) hx hb dM_operator_49 (by decide) (fun c_49 => ?_) (fun c_49 => ?_)
    · skip
      refine lv_iload_n hx hb dM_operator_56 rfl (lv_at hl 3 rfl) ?_
      refine lv_bipush (v := 33) hx hb dM_operator_57 (by decide) ?_
      refine lv_icmp_eq (tgt := 74) hx hb dM_operator_59 (by decide) (fun c_59 => ?_) (fun c_59 => ?_)
      · skip
        refine lv_iconst (v := 2) hx hb dM_operator_74 (by decide) ?_
        refine lv_goto (tgt := 79) hx hb dM_operator_75 (by decide) ?_
        refine M_puti hx hb K hM hS 8 kM_f87 dM_operator_79 (kk := fun H locs hM hS => ?_)
        refine lv_iconst (v := 1) hx hb dM_operator_82 (by decide) ?_
        refine W.zret (v := (1)) hx hb hr rfl (M_endi hM hK hS ?_) hS.2.2 dM_operator_83
        exact ⟨⟨fun j h1 h2 h3 => by simp only [up_n h1, up_n h2, up_n h3], rfl⟩, Or.inr ⟨rfl, (d + 1, 2, n, pt, va_up fw d (md_arN k), va_up mo d (md_arN k), [], dg), by first | (simp [md_oper, h0, c_49, c_59]; done) | (simp [md_oper, h0, c_49, c_59]; decide), op, mdQ_oper hQ 2 (md_arN k) (by omega) (by omega) rfl rfl rfl rfl rfl rfl rfl rfl⟩⟩
      · skip
        refine lv_iload_n hx hb dM_operator_62 rfl (lv_at hl 3 rfl) ?_
        refine lv_bipush (v := 64) hx hb dM_operator_63 (by decide) ?_
        refine lv_icmp_eq (tgt := 74) hx hb dM_operator_65 (by decide) (fun c_65 => ?_) (fun c_65 => ?_)
        · skip
          refine lv_iconst (v := 2) hx hb dM_operator_74 (by decide) ?_
          refine lv_goto (tgt := 79) hx hb dM_operator_75 (by decide) ?_
          refine M_puti hx hb K hM hS 8 kM_f87 dM_operator_79 (kk := fun H locs hM hS => ?_)
          refine lv_iconst (v := 1) hx hb dM_operator_82 (by decide) ?_
          refine W.zret (v := (1)) hx hb hr rfl (M_endi hM hK hS ?_) hS.2.2 dM_operator_83
          exact ⟨⟨fun j h1 h2 h3 => by simp only [up_n h1, up_n h2, up_n h3], rfl⟩, Or.inr ⟨rfl, (d + 1, 2, n, pt, va_up fw d (md_arN k), va_up mo d (md_arN k), [], dg), by first | (simp [md_oper, h0, c_49, c_59, c_65]; done) | (simp [md_oper, h0, c_49, c_59, c_65]; decide), op, mdQ_oper hQ 2 (md_arN k) (by omega) (by omega) rfl rfl rfl rfl rfl rfl rfl rfl⟩⟩
        · skip
          refine lv_iload_n hx hb dM_operator_68 rfl (lv_at hl 3 rfl) ?_
          refine lv_bipush (v := 37) hx hb dM_operator_69 (by decide) ?_
          refine lv_icmp_ne (tgt := 78) hx hb dM_operator_71 (by decide) (fun c_71 => ?_) (fun c_71 => ?_)
          · skip
            refine lv_iconst (v := 0) hx hb dM_operator_78 (by decide) ?_
            refine M_puti hx hb K hM hS 8 kM_f87 dM_operator_79 (kk := fun H locs hM hS => ?_)
            refine lv_iconst (v := 1) hx hb dM_operator_82 (by decide) ?_
            refine W.zret (v := (1)) hx hb hr rfl (M_endi hM hK hS ?_) hS.2.2 dM_operator_83
            exact ⟨⟨fun j h1 h2 h3 => by simp only [up_n h1, up_n h2, up_n h3], rfl⟩, Or.inr ⟨rfl, (d + 1, 0, n, pt, va_up fw d (md_arN k), va_up mo d (md_arN k), [], dg), by first | (simp [md_oper, h0, c_49, c_59, c_65, c_71]; done) | (simp [md_oper, h0, c_49, c_59, c_65, c_71]; decide), op, mdQ_oper hQ 0 (md_arN k) (by omega) (by omega) rfl rfl rfl rfl rfl rfl rfl rfl⟩⟩
          · skip
            refine lv_iconst (v := 2) hx hb dM_operator_74 (by decide) ?_
            refine lv_goto (tgt := 79) hx hb dM_operator_75 (by decide) ?_
            refine M_puti hx hb K hM hS 8 kM_f87 dM_operator_79 (kk := fun H locs hM hS => ?_)
            refine lv_iconst (v := 1) hx hb dM_operator_82 (by decide) ?_
            refine W.zret (v := (1)) hx hb hr rfl (M_endi hM hK hS ?_) hS.2.2 dM_operator_83
            exact ⟨⟨fun j h1 h2 h3 => by simp only [up_n h1, up_n h2, up_n h3], rfl⟩, Or.inr ⟨rfl, (d + 1, 2, n, pt, va_up fw d (md_arN k), va_up mo d (md_arN k), [], dg), by first | (simp [md_oper, h0, c_49, c_59, c_65, c_71]; done) | (simp [md_oper, h0, c_49, c_59, c_65, c_71]; decide), op, mdQ_oper hQ 2 (md_arN k) (by omega) (by omega) rfl rfl rfl rfl rfl rfl rfl rfl⟩⟩
    · skip
      refine lv_iconst (v := 3) hx hb dM_operator_52 (by decide) ?_
      refine lv_goto (tgt := 79) hx hb dM_operator_53 (by decide) ?_
      refine M_puti hx hb K hM hS 8 kM_f87 dM_operator_79 (kk := fun H locs hM hS => ?_)
      refine lv_iconst (v := 1) hx hb dM_operator_82 (by decide) ?_
      refine W.zret (v := (1)) hx hb hr rfl (M_endi hM hK hS ?_) hS.2.2 dM_operator_83
      exact ⟨⟨fun j h1 h2 h3 => by simp only [up_n h1, up_n h2, up_n h3], rfl⟩, Or.inr ⟨rfl, (d + 1, 3, n, pt, va_up fw d (md_arN k), va_up mo d (md_arN k), [], dg), by first | (simp [md_oper, h0, c_49]; done) | (simp [md_oper, h0, c_49]; decide), op, mdQ_oper hQ 3 (md_arN k) (by omega) (by omega) rfl rfl rfl rfl rfl rfl rfl rfl⟩⟩
  · skip
    have h0 : md_arN k = 0 := (nI_eq (b := 0) (by omega) (by decide)).mp (c_7.trans nI_0.symm)
    refine lv_iconst (v := 0) hx hb dM_operator_10 (by decide) ?_
    refine W.zret (v := (0)) hx hb hr rfl (M_endi hM hK hS ?_) hS.2.2 dM_operator_11
    exact md_no (by simp [md_oper, h0])
