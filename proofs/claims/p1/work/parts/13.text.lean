/-- the byte number k of a long -/
def md_byte (p : Int64) (k : Nat) : Int32 := (p >>> ((nI (8 * k)).toInt64 &&& 63)).toInt32 &&& 255
def md_dn (z : Nat) : Int32 := nI z - 1
/-- the signs of a long behind the first n of a text -/
def md_put (p : Int64) : Nat → Nat → (Nat → Int32) → Option (Nat × (Nat → Int32))
  | 0, n, tx => some (n, tx)
  | z + 1, n, tx => if md_byte p z = 0 then md_put p z n tx else if md_byte p z < 32 ∨ 126 < md_byte p z ∨ n = 120 then none else md_put p z (n + 1) (upd tx n (md_byte p z))
def md_text (p : Int64) (n : Nat) (tx : Nat → Int32) : Option Nat := (md_put p 8 n tx).bind fun q => (md_scan q.2 q.1).map fun _ => q.1
theorem va_up_id {α : Type} (f : Nat → α) (k : Nat) : va_up f k (f k) = f := by
  funext j
  by_cases h : j = k
  · rw [h, up_s]
  · exact up_n h
theorem md_dn_dec (z : Nat) : md_dn (z + 1) + Int32.ofInt (-1) = md_dn z := by
  rw [show md_dn (z + 1) = nI z from nI_pred z, show Int32.ofInt (-1) = -1 by decide]
  unfold md_dn
  exact (Int32.sub_eq_add_neg ..).symm
set_option maxHeartbeats 4000000 in
set_option maxRecDepth 100000 in
theorem c_text (l : Launch) (D : va_G) (cl : List vw_C) (tys : List (ClassId × FieldType)) (A : Nat → Prop) (ci tI tZ : Nat) (cI cZ : ClassId) (o : Nat) (ad : Nat → Nat) (fi : Nat → Int32) (fa : Nat → Nat → Int32) (pp : Int64) (L0 : Nat) (hst : ¬ fi 28 = 1) (h2 : fi 2 = nI L0) (hL0 : L0 ≤ 120) :
    Met l yM_text (.code yM_text bM_text 6 (some .int) :: lw_g) ({ frames := 4, cells := 0, slots := 0, locals := 88 }) (va_Pc [.ref o, .long pp] (mdPre D cl tys A ci tI tZ cI cZ o ad fi fa)) (va_Qi (fun r S => (md_text pp L0 (fa 1) = none ∧ r = 0 ∧ S.1 0 = 2) ∨ (∃ nn, md_text pp L0 (fa 1) = some nn ∧ r = nI nn ∧ S.1 0 = 0)) (mdB D cl tys A ci cI cZ o ad) A) 0 0 A := by
  refine Met.ofW (cc := bM_text) (maxL := 6) (ret := (some .int)) (by decide) rfl ?_
  intro p e s m args below meth c s₁ B hml hv
  obtain ⟨rfl, hM, hK, hc, hI, hZ⟩ := hv
  have hx := B.exec
  have hb := B.bytes
  have hr := B.returns
  have hts := atoms_spec (ws := (.code yM_text bM_text 6 (some .int) :: lw_g)) B.pre
  have hown : s.vm.findClass RM = some m.cls := findClass_of_methodNamed B.named
  have K : mdC D cl tys ci tI tZ cI cZ s m _ := ⟨fun w h => hts w (List.mem_cons_of_mem _ h), hown, hK, hc, hI, hZ⟩
  have hlocks := B.notSynchronized
  have hS : va_S A s.heap s.heap [] := va_S.rf
  have hl := lv_entry ([.ref o, .long pp]) (n := 6) (Nat.le_of_ble_eq_true rfl)
  rw [lg_entry_eq]
  generalize (lg_sl ([.ref o, .long pp]) ++ List.replicate (6 - (lg_sl ([.ref o, .long pp])).length) Slot.unset).toArray = ls at hl ⊢
  have hl : lv_has ls 6 [(0, .ref o), (1, .long pp)] := hl
  have loop : ∀ (z n : Nat) (tx : Nat → Int32) (H : Heap) (locs : List Loc) (ls : Array Slot), z ≤ 8 → n ≤ 120 → md_put pp 8 L0 (fa 1) = md_put pp z n tx → mdW D cl A ci cI cZ o ad (va_up fi 0 0) (va_up fa 1 tx) H → va_S A s.heap H locs → lv_has ls 6 [(4, .int (md_dn z)), (3, .int (nI n)), (0, .ref o), (1, .long pp)] → W p l e (headSpec (.code yM_text bM_text 6 (some .int) :: lw_g) ({ frames := 4, cells := 0, slots := 0, locals := 88 })).room s m #[Value.ref o, Value.long pp] below meth c H locs 0 0 (MQ below (va_Qi (fun r S => (md_text pp L0 (fa 1) = none ∧ r = 0 ∧ S.1 0 = 2) ∨ (∃ nn, md_text pp L0 (fa 1) = some nn ∧ r = nI nn ∧ S.1 0 = 0)) (mdB D cl tys A ci cI cZ o ad) A) #[Value.ref o, Value.long pp] s 0 0 A) (F0 m 28 ls []) := by
    intro z
    induction z with
    | zero =>
      intro n tx H locs ls hz8 hn hp hM hS hl
      refine lv_iload hx hb dM_text_28 (lv_at hl 0 rfl) ?_
      refine lv_if_lt (tgt := 95) hx hb dM_text_30 (by decide) (fun c_30 => ?_) (fun c_30 => absurd (by decide) c_30)
      refine lv_aload_n hx hb dM_text_95 rfl (lv_at hl 2 rfl) ?_
      refine lv_iload_n hx hb dM_text_96 rfl (lv_at hl 1 rfl) ?_
      refine va_calli (M_run (As := [.int (nI n)]) (rest := []) (n := 1) hx hb hml K hM (c_scan l D cl tys A ci tI tZ cI cZ o ad _ _ n hn) kM_c_scan kM_m124 kM_i_scan kM_s_scan rfl rfl ⟨rfl, by decide +kernel⟩ ⟨Nat.le_of_ble_eq_true rfl, Nat.le_of_ble_eq_true rfl⟩ rfl hl.1 rfl (lv_room (Nat.le_of_ble_eq_true rfl)) dM_text_97 ⟨Nat.le_of_ble_eq_true rfl, Nat.le_of_ble_eq_true rfl⟩) hS (fun q _ h => h) (fun q h => h) (fun r u t H1 locs1 ht hvm hw hB hz hk hS => ?_)
      obtain ⟨hM, -⟩ := hB
      rw [ht] at hM
      obtain ⟨hF2, ⟨rfl, hv⟩ | ⟨rfl, t9, hv, hq9⟩⟩ := hw
      · skip
        refine lv_if_ne (tgt := 109) hx hb dM_text_100 (by decide) (fun c_100 => absurd rfl c_100) (fun c_100 => ?_)
        refine lv_aload_n hx hb dM_text_103 rfl (lv_at hl 2 rfl) ?_
        refine lv_iconst (v := 2) hx hb dM_text_104 (by decide) ?_
        refine va_calli (M_run (As := [.int (2)]) (rest := []) (n := 1) hx hb hml K hM (c_fail l D cl tys A ci tI tZ cI cZ o ad _ _ 2) kM_c_fail kM_m118 kM_i_fail kM_s_fail rfl rfl ⟨rfl, by decide +kernel⟩ ⟨Nat.le_of_ble_eq_true rfl, Nat.le_of_ble_eq_true rfl⟩ rfl hl.1 rfl (lv_room (Nat.le_of_ble_eq_true rfl)) dM_text_105 ⟨Nat.le_of_ble_eq_true rfl, Nat.le_of_ble_eq_true rfl⟩) hS (fun q _ h => h) (fun q h => h) (fun r u t H1 locs1 ht hvm hw hB hz hk hS => ?_)
        obtain ⟨hM, -⟩ := hB
        rw [ht] at hM
        obtain ⟨rfl, rfl⟩ := hw
        dsimp only at hM
        refine W.iret (v := (0)) hx hb hr (M_endi hM hK hS ?_) hS.2.2 dM_text_108
        exact Or.inl ⟨by unfold md_text; rw [hp]; show (md_scan tx n).map _ = none; rw [show md_scan tx n = none from hv]; rfl, rfl, rfl⟩
      · skip
        refine lv_if_ne (tgt := 109) hx hb dM_text_100 (by decide) (fun c_100 => ?_) (fun c_100 => absurd c_100 (by decide))
        refine lv_aload_n hx hb dM_text_109 rfl (lv_at hl 2 rfl) ?_
        refine lv_iload_n hx hb dM_text_110 rfl (lv_at hl 1 rfl) ?_
        refine M_puti hx hb K hM hS 2 kM_f121 dM_text_111 (kk := fun H locs hM hS => ?_)
        refine lv_aload_n hx hb dM_text_114 rfl (lv_at hl 2 rfl) ?_
        refine M_getv hx hb K hM 2 (v := nI n) rfl kM_f121 dM_text_115 (kk := ?_)
        refine W.iret (v := (nI n)) hx hb hr (M_endi hM hK hS ?_) hS.2.2 dM_text_118
        exact Or.inr ⟨n, by unfold md_text; rw [hp]; show (md_scan tx n).map _ = some n; rw [show md_scan tx n = some t9 from hv]; rfl, rfl, hF2.1 0 (by decide) (by decide) (by decide)⟩
    | succ z ih =>
      intro n tx H locs ls hz8 hn hp hM hS hl
      refine lv_iload hx hb dM_text_28 (lv_at hl 0 rfl) ?_
      refine lv_if_lt (tgt := 95) hx hb dM_text_30 (by decide) (fun c_30 => absurd c_30 (by rw [show md_dn (z + 1) = nI z from nI_pred z]; exact nI_pos (by omega))) (fun c_30 => ?_)
      refine lv_lload_n hx hb dM_text_33 rfl (lv_at hl 3 rfl) ?_
      refine lv_bipush (v := 8) hx hb dM_text_34 (by decide) ?_
      refine lv_iload hx hb dM_text_36 (lv_at hl 0 rfl) ?_
      refine lv_as (v := nI z) (nI_pred z) ?_
      refine lv_imul hx hb dM_text_38 ?_
      refine lv_as (v := nI (8 * z)) (pk_mul 8 z) ?_
      refine lv_lshr (v := pp >>> ((nI (8 * z)).toInt64 &&& 63)) hx hb dM_text_39 rfl ?_
      refine lv_l2i (v := (pp >>> ((nI (8 * z)).toInt64 &&& 63)).toInt32) hx hb dM_text_40 rfl ?_
      refine lv_sipush (v := 255) hx hb dM_text_41 (by decide) ?_
      refine lv_iand hx hb dM_text_44 ?_
      refine lv_as (v := md_byte pp z) rfl ?_
      refine lv_istore (lv' := [(5, .int (md_byte pp z)), (4, .int (md_dn (z + 1))), (3, .int (nI n)), (0, .ref o), (1, .long pp)]) hx hb dM_text_45 hl (by decide) rfl (fun ls hl => ?_)
      refine lv_iload hx hb dM_text_47 (lv_at hl 0 rfl) ?_
      refine lv_if_eq (tgt := 89) hx hb dM_text_49 (by decide) (fun c_49 => ?_) (fun c_49 => ?_)
      · skip
        refine lv_iinc (v := md_dn z) (lv' := [(4, .int (md_dn z)), (5, .int (md_byte pp z)), (3, .int (nI n)), (0, .ref o), (1, .long pp)]) hx hb dM_text_89 hl (k := 1) rfl (md_dn_dec z) (by decide) rfl (fun ls hl => ?_)
        exact lv_goto (tgt := 28) hx hb dM_text_92 (by decide) (ih n tx _ _ ls (by omega) hn (by rw [hp]; show (if _ then _ else _) = _; rw [if_pos c_49]) hM hS (lv_sub hl [0, 2, 3, 4] rfl))
      · skip
        refine lv_iload hx hb dM_text_52 (lv_at hl 0 rfl) ?_
        refine lv_bipush (v := 32) hx hb dM_text_54 (by decide) ?_
        refine lv_icmp_lt (tgt := 72) hx hb dM_text_56 (by decide) (fun c_56 => ?_) (fun c_56 => ?_)
        · skip
          refine lv_aload_n hx hb dM_text_72 rfl (lv_at hl 3 rfl) ?_
          refine lv_iconst (v := 2) hx hb dM_text_73 (by decide) ?_
          refine va_calli (M_run (As := [.int (2)]) (rest := []) (n := 1) hx hb hml K hM (c_fail l D cl tys A ci tI tZ cI cZ o ad _ _ 2) kM_c_fail kM_m118 kM_i_fail kM_s_fail rfl rfl ⟨rfl, by decide +kernel⟩ ⟨Nat.le_of_ble_eq_true rfl, Nat.le_of_ble_eq_true rfl⟩ rfl hl.1 rfl (lv_room (Nat.le_of_ble_eq_true rfl)) dM_text_74 ⟨Nat.le_of_ble_eq_true rfl, Nat.le_of_ble_eq_true rfl⟩) hS (fun q _ h => h) (fun q h => h) (fun r u t H1 locs1 ht hvm hw hB hz hk hS => ?_)
          obtain ⟨hM, -⟩ := hB
          rw [ht] at hM
          obtain ⟨rfl, rfl⟩ := hw
          dsimp only at hM
          refine W.iret (v := (0)) hx hb hr (M_endi hM hK hS ?_) hS.2.2 dM_text_77
          exact Or.inl ⟨by unfold md_text; rw [hp]; show (if _ then _ else if _ then _ else _ : Option _).bind _ = none; rw [if_neg c_49, if_pos (Or.inl c_56)]; rfl, rfl, rfl⟩
        · skip
          refine lv_iload hx hb dM_text_59 (lv_at hl 0 rfl) ?_
          refine lv_bipush (v := 126) hx hb dM_text_61 (by decide) ?_
          refine lv_icmp_gt (tgt := 72) hx hb dM_text_63 (by decide) (fun c_63 => ?_) (fun c_63 => ?_)
          · skip
            refine lv_aload_n hx hb dM_text_72 rfl (lv_at hl 3 rfl) ?_
            refine lv_iconst (v := 2) hx hb dM_text_73 (by decide) ?_
            refine va_calli (M_run (As := [.int (2)]) (rest := []) (n := 1) hx hb hml K hM (c_fail l D cl tys A ci tI tZ cI cZ o ad _ _ 2) kM_c_fail kM_m118 kM_i_fail kM_s_fail rfl rfl ⟨rfl, by decide +kernel⟩ ⟨Nat.le_of_ble_eq_true rfl, Nat.le_of_ble_eq_true rfl⟩ rfl hl.1 rfl (lv_room (Nat.le_of_ble_eq_true rfl)) dM_text_74 ⟨Nat.le_of_ble_eq_true rfl, Nat.le_of_ble_eq_true rfl⟩) hS (fun q _ h => h) (fun q h => h) (fun r u t H1 locs1 ht hvm hw hB hz hk hS => ?_)
            obtain ⟨hM, -⟩ := hB
            rw [ht] at hM
            obtain ⟨rfl, rfl⟩ := hw
            dsimp only at hM
            refine W.iret (v := (0)) hx hb hr (M_endi hM hK hS ?_) hS.2.2 dM_text_77
            exact Or.inl ⟨by unfold md_text; rw [hp]; show (if _ then _ else if _ then _ else _ : Option _).bind _ = none; rw [if_neg c_49, if_pos (Or.inr (Or.inl c_63))]; rfl, rfl, rfl⟩
          · skip
            refine lv_iload_n hx hb dM_text_66 rfl (lv_at hl 2 rfl) ?_
            refine lv_bipush (v := 120) hx hb dM_text_67 (by decide) ?_
            refine lv_icmp_ne (tgt := 78) hx hb dM_text_69 (by decide) (fun c_69 => ?_) (fun c_69 => ?_)
            · skip
              have h120 : ¬ n = 120 := fun q => c_69 (by rw [q]; rfl)
              refine lv_aload_n hx hb dM_text_78 rfl (lv_at hl 3 rfl) ?_
              refine M_geta hx hb K hM 1 kM_f7 dM_text_79 (kk := ?_)
              refine lv_iload_n hx hb dM_text_82 rfl (lv_at hl 2 rfl) ?_
              refine lv_iload hx hb dM_text_83 (lv_at hl 0 rfl) ?_
              refine M_astn hx hb K hM hS 1 (j := n) (show n < 120 by omega) dM_text_85 (kk := fun H locs hM hS => ?_)
              rw [show upd (va_up fa 1 tx 1) n (md_byte pp z) = upd tx n (md_byte pp z) from rfl, bx_uu] at hM
              refine lv_iinc (v := nI (n + 1)) (lv' := [(3, .int (nI (n + 1))), (5, .int (md_byte pp z)), (4, .int (md_dn (z + 1))), (0, .ref o), (1, .long pp)]) hx hb dM_text_86 hl (k := 2) rfl (nI_1 n) (by decide) rfl (fun ls hl => ?_)
              refine lv_iinc (v := md_dn z) (lv' := [(4, .int (md_dn z)), (3, .int (nI (n + 1))), (5, .int (md_byte pp z)), (0, .ref o), (1, .long pp)]) hx hb dM_text_89 hl (k := 2) rfl (md_dn_dec z) (by decide) rfl (fun ls hl => ?_)
              exact lv_goto (tgt := 28) hx hb dM_text_92 (by decide) (ih (n + 1) (upd tx n (md_byte pp z)) _ _ ls (by omega) (by omega) (by rw [hp]; show (if _ then _ else _) = _; rw [if_neg c_49, if_neg (fun q => q.elim c_56 (fun q => q.elim c_63 h120))]) hM hS (lv_sub hl [0, 1, 3, 4] rfl))
            · skip
              refine lv_aload_n hx hb dM_text_72 rfl (lv_at hl 3 rfl) ?_
              refine lv_iconst (v := 2) hx hb dM_text_73 (by decide) ?_
              refine va_calli (M_run (As := [.int (2)]) (rest := []) (n := 1) hx hb hml K hM (c_fail l D cl tys A ci tI tZ cI cZ o ad _ _ 2) kM_c_fail kM_m118 kM_i_fail kM_s_fail rfl rfl ⟨rfl, by decide +kernel⟩ ⟨Nat.le_of_ble_eq_true rfl, Nat.le_of_ble_eq_true rfl⟩ rfl hl.1 rfl (lv_room (Nat.le_of_ble_eq_true rfl)) dM_text_74 ⟨Nat.le_of_ble_eq_true rfl, Nat.le_of_ble_eq_true rfl⟩) hS (fun q _ h => h) (fun q h => h) (fun r u t H1 locs1 ht hvm hw hB hz hk hS => ?_)
              obtain ⟨hM, -⟩ := hB
              rw [ht] at hM
              obtain ⟨rfl, rfl⟩ := hw
              dsimp only at hM
              refine W.iret (v := (0)) hx hb hr (M_endi hM hK hS ?_) hS.2.2 dM_text_77
              exact Or.inl ⟨by unfold md_text; rw [hp]; show (if _ then _ else if _ then _ else _ : Option _).bind _ = none; rw [if_neg c_49, if_pos (Or.inr (Or.inr ((nI_eq (b := 120) (by omega) (by decide)).mp c_69)))]; rfl, rfl, rfl⟩
  refine lv_aload_n hx hb dM_text_0 rfl (lv_at hl 0 rfl) ?_
  refine lv_iconst (v := 0) hx hb dM_text_1 (by decide) ?_
  refine M_puti hx hb K hM hS 0 kM_f77 dM_text_2 (kk := fun H locs hM hS => ?_)
  refine lv_aload_n hx hb dM_text_5 rfl (lv_at hl 0 rfl) ?_
  refine M_getv hx hb K hM 28 (v := fi 28) rfl kM_f115 dM_text_6 (kk := ?_)
  refine lv_iconst (v := 1) hx hb dM_text_9 (by decide) ?_
  refine lv_icmp_ne (tgt := 19) hx hb dM_text_10 (by decide) (fun c_10 => ?_) (fun c_10 => absurd c_10 hst)
  refine lv_aload_n hx hb dM_text_19 rfl (lv_at hl 0 rfl) ?_
  refine M_getv hx hb K hM 2 (v := nI L0) h2 kM_f121 dM_text_20 (kk := ?_)
  refine lv_istore_n (lv' := [(3, .int (nI L0)), (0, .ref o), (1, .long pp)]) hx hb dM_text_23 rfl hl (by decide) rfl (fun ls hl => ?_)
  refine lv_bipush (v := 7) hx hb dM_text_24 (by decide) ?_
  refine lv_as (v := md_dn 8) (by decide) ?_
  refine lv_istore (lv' := [(4, .int (md_dn 8)), (3, .int (nI L0)), (0, .ref o), (1, .long pp)]) hx hb dM_text_26 hl (by decide) rfl (fun ls hl => ?_)
  exact loop 8 L0 (fa 1) _ _ ls (Nat.le_refl 8) hL0 rfl (by rw [va_up_id]; exact hM) hS (lv_sub hl [0, 1, 2, 3] rfl)
set_option maxHeartbeats 4000000 in
set_option maxRecDepth 100000 in
theorem c_thrown (l : Launch) (D : va_G) (cl : List vw_C) (tys : List (ClassId × FieldType)) (A : Nat → Prop) (ci tI tZ : Nat) (cI cZ : ClassId) (o : Nat) (ad : Nat → Nat) (fi : Nat → Int32) (fa : Nat → Nat → Int32) :
    Met l yM_thrown (.code yM_thrown bM_thrown 1 (some .int) :: lw_g) ({ frames := 0, cells := 0, slots := 0, locals := 0 }) (va_Pc [.ref o] (mdPre D cl tys A ci tI tZ cI cZ o ad fi fa)) (va_Qi (fun r S => r = fi 0 ∧ S = (fi, fa)) (mdB D cl tys A ci cI cZ o ad) A) 0 0 A := by
  refine Met.ofW (cc := bM_thrown) (maxL := 1) (ret := (some .int)) (by decide) rfl ?_
  intro p e s m args below meth c s₁ B hml hv
  obtain ⟨rfl, hM, hK, hc, hI, hZ⟩ := hv
  have hx := B.exec
  have hb := B.bytes
  have hr := B.returns
  have hts := atoms_spec (ws := (.code yM_thrown bM_thrown 1 (some .int) :: lw_g)) B.pre
  have hown : s.vm.findClass RM = some m.cls := findClass_of_methodNamed B.named
  have K : mdC D cl tys ci tI tZ cI cZ s m _ := ⟨fun w h => hts w (List.mem_cons_of_mem _ h), hown, hK, hc, hI, hZ⟩
  have hlocks := B.notSynchronized
  have hS : va_S A s.heap s.heap [] := va_S.rf
  have hl := lv_entry ([.ref o]) (n := 1) (Nat.le_of_ble_eq_true rfl)
  rw [lg_entry_eq]
  generalize (lg_sl ([.ref o]) ++ List.replicate (1 - (lg_sl ([.ref o])).length) Slot.unset).toArray = ls at hl ⊢
  have hl : lv_has ls 1 [(0, .ref o)] := hl
  refine lv_aload_n hx hb dM_thrown_0 rfl (lv_at hl 0 rfl) ?_
  refine M_getv hx hb K hM 0 (v := fi 0) rfl kM_f77 dM_thrown_1 (kk := ?_)
  refine W.iret (v := (fi 0)) hx hb hr (M_endi hM hK hS ?_) hS.2.2 dM_thrown_4
  exact ⟨rfl, rfl⟩
