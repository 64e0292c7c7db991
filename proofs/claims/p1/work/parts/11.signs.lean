theorem mdFr.m0 {fi : Nat → Int32} {fa : Nat → Nat → Int32} {v : Int32} {S : (Nat → Int32) × (Nat → Nat → Int32)} (h : mdFr (va_up fi 8 v) fa S) : mdFr fi fa S := ⟨fun k h1 h2 h3 => (h.1 k h1 h2 h3).trans (up_n h2), h.2⟩
theorem md_of {v : Option MT} {fi : Nat → Int32} {fa : Nat → Nat → Int32} {r : Int32} {S : (Nat → Int32) × (Nat → Nat → Int32)} (h : md_res v fi fa r S) : md_rez v fi fa r S := ⟨h.1, h.2.elim (fun q => Or.inl ⟨q.1, q.2.1⟩) Or.inr⟩
set_option maxHeartbeats 4000000 in
set_option maxRecDepth 100000 in
theorem c_sign6A (l : Launch) (D : va_G) (cl : List vw_C) (tys : List (ClassId × FieldType)) (A : Nat → Prop) (ci tI tZ : Nat) (cI cZ : ClassId) (o : Nat) (ad : Nat → Nat) (fi : Nat → Int32) (fa : Nat → Nat → Int32) (k : Int32) (op : Nat → Nat) (d n : Nat) (pt fw mo : Nat → Nat) (nm : List Nat) (dg : Nat) (hQ : mdQ fi fa op d 6 n pt fw mo nm dg) (hn : n < 120) :
    Met l yM_signOne (.code yM_signOne bM_signOne 3 (some .boolean) :: lw_g) ({ frames := 2, cells := 0, slots := 0, locals := 44 }) (va_Pc [.ref o, .int k] (mdPre D cl tys A ci tI tZ cI cZ o ad fi fa)) (va_Qi (md_rez (md_sign k (d, 6, n, pt, fw, mo, nm, dg)) fi fa) (mdB D cl tys A ci cI cZ o ad) A) 0 0 A := by
  refine Met.ofW (cc := bM_signOne) (maxL := 3) (ret := (some .boolean)) (by decide) rfl ?_
  intro p e s m args below meth c s₁ B hml hv
  obtain ⟨rfl, hM, hK, hc, hI, hZ⟩ := hv
  have hx := B.exec
  have hb := B.bytes
  have hr := B.returns
  have hts := atoms_spec (ws := (.code yM_signOne bM_signOne 3 (some .boolean) :: lw_g)) B.pre
  have hown : s.vm.findClass RM = some m.cls := findClass_of_methodNamed B.named
  have K : mdC D cl tys ci tI tZ cI cZ s m _ := ⟨fun w h => hts w (List.mem_cons_of_mem _ h), hown, hK, hc, hI, hZ⟩
  have hlocks := B.notSynchronized
  have hS : va_S A s.heap s.heap [] := va_S.rf
  have hl := lv_entry ([.ref o, .int k]) (n := 3) (Nat.le_of_ble_eq_true rfl)
  rw [lg_entry_eq]
  generalize (lg_sl ([.ref o, .int k]) ++ List.replicate (3 - (lg_sl ([.ref o, .int k])).length) Slot.unset).toArray = ls at hl ⊢
  have hl : lv_has ls 3 [(0, .ref o), (1, .int k)] := hl
  have hn2 := hQ.2.1.2.1
  refine lv_aload_n hx hb dM_signOne_0 rfl (lv_at hl 0 rfl) ?_
  refine M_getv hx hb K hM 8 (v := nI 6) hQ.1.2.1 kM_f87 dM_signOne_1 (kk := ?_)
  refine lv_bipush (v := 6) hx hb dM_signOne_4 (by decide) ?_
  refine lv_icmp_ne (tgt := 11) hx hb dM_signOne_6 (by decide) (fun c_6 => absurd (by decide) c_6) (fun c_6 => ?_)
  refine lv_iconst (v := 0) hx hb dM_signOne_9 (by decide) ?_
  refine W.zret (v := (0)) hx hb hr rfl (M_endi hM hK hS ?_) hS.2.2 dM_signOne_10
  exact ⟨mdFr.rf, Or.inl ⟨rfl, by simp [md_sign]⟩⟩
set_option maxHeartbeats 4000000 in
set_option maxRecDepth 100000 in
theorem c_sign2S (l : Launch) (D : va_G) (cl : List vw_C) (tys : List (ClassId × FieldType)) (A : Nat → Prop) (ci tI tZ : Nat) (cI cZ : ClassId) (o : Nat) (ad : Nat → Nat) (fi : Nat → Int32) (fa : Nat → Nat → Int32) (k : Int32) (op : Nat → Nat) (d n : Nat) (pt fw mo : Nat → Nat) (nm : List Nat) (dg : Nat) (hQ : mdQ fi fa op (d + 1) 2 n pt fw mo nm dg) (hn : n < 120) :
    Met l yM_signOne (.code yM_signOne bM_signOne 3 (some .boolean) :: lw_g) ({ frames := 2, cells := 0, slots := 0, locals := 44 }) (va_Pc [.ref o, .int k] (mdPre D cl tys A ci tI tZ cI cZ o ad fi fa)) (va_Qi (md_rez (md_sign k (d + 1, 2, n, pt, fw, mo, nm, dg)) fi fa) (mdB D cl tys A ci cI cZ o ad) A) 0 0 A := by
  refine Met.ofW (cc := bM_signOne) (maxL := 3) (ret := (some .boolean)) (by decide) rfl ?_
  intro p e s m args below meth c s₁ B hml hv
  obtain ⟨rfl, hM, hK, hc, hI, hZ⟩ := hv
  have hx := B.exec
  have hb := B.bytes
  have hr := B.returns
  have hts := atoms_spec (ws := (.code yM_signOne bM_signOne 3 (some .boolean) :: lw_g)) B.pre
  have hown : s.vm.findClass RM = some m.cls := findClass_of_methodNamed B.named
  have K : mdC D cl tys ci tI tZ cI cZ s m _ := ⟨fun w h => hts w (List.mem_cons_of_mem _ h), hown, hK, hc, hI, hZ⟩
  have hlocks := B.notSynchronized
  have hS : va_S A s.heap s.heap [] := va_S.rf
  have hl := lv_entry ([.ref o, .int k]) (n := 3) (Nat.le_of_ble_eq_true rfl)
  rw [lg_entry_eq]
  generalize (lg_sl ([.ref o, .int k]) ++ List.replicate (3 - (lg_sl ([.ref o, .int k])).length) Slot.unset).toArray = ls at hl ⊢
  have hl : lv_has ls 3 [(0, .ref o), (1, .int k)] := hl
  have hn2 := hQ.2.1.2.1
  have hd11 : d + 1 ≤ 12 := hQ.2.1.1
  have hod := (hQ.2.2.1 d (by omega)).1.2
  have hpm := (hQ.2.2.1 d (by omega)).2.2
  refine lv_aload_n hx hb dM_signOne_0 rfl (lv_at hl 0 rfl) ?_
  refine M_getv hx hb K hM 8 (v := nI 2) hQ.1.2.1 kM_f87 dM_signOne_1 (kk := ?_)
  refine lv_bipush (v := 6) hx hb dM_signOne_4 (by decide) ?_
  refine lv_icmp_ne (tgt := 11) hx hb dM_signOne_6 (by decide) (fun c_6 => ?_) (fun c_6 => absurd c_6 (by decide))
  refine lv_aload_n hx hb dM_signOne_11 rfl (lv_at hl 0 rfl) ?_
  refine M_getv hx hb K hM 8 (v := nI 2) hQ.1.2.1 kM_f87 dM_signOne_12 (kk := ?_)
  refine lv_iconst (v := 2) hx hb dM_signOne_15 (by decide) ?_
  refine lv_icmp_ne (tgt := 62) hx hb dM_signOne_16 (by decide) (fun c_16 => absurd (by decide) c_16) (fun c_16 => ?_)
  refine lv_aload_n hx hb dM_signOne_19 rfl (lv_at hl 0 rfl) ?_
  refine M_geta hx hb K hM 10 kM_f28 dM_signOne_20 (kk := ?_)
  refine lv_aload_n hx hb dM_signOne_23 rfl (lv_at hl 0 rfl) ?_
  refine M_geta hx hb K hM 3 kM_f13 dM_signOne_24 (kk := ?_)
  refine lv_aload_n hx hb dM_signOne_27 rfl (lv_at hl 0 rfl) ?_
  refine M_getv hx hb K hM 7 (v := nI (d + 1)) hQ.1.1 kM_f84 dM_signOne_28 (kk := ?_)
  refine lv_iconst (v := 1) hx hb dM_signOne_31 (by decide) ?_
  refine lv_isub hx hb dM_signOne_32 ?_
  refine lv_as (v := nI d) (nI_pred d) ?_
  refine M_aldn hx hb K hM 3 (j := d) (show d < 13 by omega) (v := nI (op d)) (hQ.2.2.1 d (by omega)).1.1 dM_signOne_33 (kk := ?_)
  refine lv_iload_n hx hb dM_signOne_34 rfl (lv_at hl 1 rfl) ?_
  refine lv_bipush (v := 97) hx hb dM_signOne_35 (by decide) ?_
  refine lv_isub hx hb dM_signOne_37 ?_
  refine M_astn hx hb K hM hS 10 (j := op d) (show op d < 120 by omega) dM_signOne_38 (kk := fun H locs hM hS => ?_)
  refine lv_aload_n hx hb dM_signOne_39 rfl (lv_at hl 0 rfl) ?_
  refine lv_iconst (v := 0) hx hb dM_signOne_40 (by decide) ?_
  refine M_puti hx hb K hM hS 8 kM_f87 dM_signOne_41 (kk := fun H locs hM hS => ?_)
  refine lv_iload_n hx hb dM_signOne_44 rfl (lv_at hl 1 rfl) ?_
  refine lv_bipush (v := 97) hx hb dM_signOne_45 (by decide) ?_
  refine lv_icmp_lt (tgt := 60) hx hb dM_signOne_47 (by decide) (fun c_47 => ?_) (fun c_47 => ?_)
  · skip
    refine lv_iconst (v := 0) hx hb dM_signOne_60 (by decide) ?_
    refine W.zret (v := (0)) hx hb hr rfl (M_endi hM hK hS ?_) hS.2.2 dM_signOne_61
    exact ⟨⟨fun j h1 h2 h3 => by simp only [up_n h1, up_n h2, up_n h3], rfl⟩, Or.inl ⟨rfl, by simp [md_sign, c_47]⟩⟩
  · skip
    refine lv_iload_n hx hb dM_signOne_50 rfl (lv_at hl 1 rfl) ?_
    refine lv_bipush (v := 122) hx hb dM_signOne_51 (by decide) ?_
    refine lv_icmp_gt (tgt := 60) hx hb dM_signOne_53 (by decide) (fun c_53 => ?_) (fun c_53 => ?_)
    · skip
      refine lv_iconst (v := 0) hx hb dM_signOne_60 (by decide) ?_
      refine W.zret (v := (0)) hx hb hr rfl (M_endi hM hK hS ?_) hS.2.2 dM_signOne_61
      exact ⟨⟨fun j h1 h2 h3 => by simp only [up_n h1, up_n h2, up_n h3], rfl⟩, Or.inl ⟨rfl, by simp [md_sign, c_47, c_53]⟩⟩
    · skip
      refine lv_iconst (v := 1) hx hb dM_signOne_56 (by decide) ?_
      refine lv_goto (tgt := 61) hx hb dM_signOne_57 (by decide) ?_
      refine W.zret (v := (1)) hx hb hr rfl (M_endi hM hK hS ?_) hS.2.2 dM_signOne_61
      exact ⟨⟨fun j h1 h2 h3 => by simp only [up_n h1, up_n h2, up_n h3], rfl⟩, Or.inr ⟨rfl, (d + 1, 0, n, pt, fw, mo, nm, dg), by simp [md_sign, c_47, c_53], op, mdQ_mode0 hQ rfl rfl rfl rfl rfl rfl rfl⟩⟩
set_option maxHeartbeats 4000000 in
set_option maxRecDepth 100000 in
theorem c_sign3S (l : Launch) (D : va_G) (cl : List vw_C) (tys : List (ClassId × FieldType)) (A : Nat → Prop) (ci tI tZ : Nat) (cI cZ : ClassId) (o : Nat) (ad : Nat → Nat) (fi : Nat → Int32) (fa : Nat → Nat → Int32) (k : Int32) (op : Nat → Nat) (d n : Nat) (pt fw mo : Nat → Nat) (nm : List Nat) (dg : Nat) (hQ : mdQ fi fa op (d + 1) 3 n pt fw mo nm dg) (hn : n < 120) :
    Met l yM_signOne (.code yM_signOne bM_signOne 3 (some .boolean) :: lw_g) ({ frames := 2, cells := 0, slots := 0, locals := 44 }) (va_Pc [.ref o, .int k] (mdPre D cl tys A ci tI tZ cI cZ o ad fi fa)) (va_Qi (md_rez (md_sign k (d + 1, 3, n, pt, fw, mo, nm, dg)) fi fa) (mdB D cl tys A ci cI cZ o ad) A) 0 0 A := by
  refine Met.ofW (cc := bM_signOne) (maxL := 3) (ret := (some .boolean)) (by decide) rfl ?_
  intro p e s m args below meth c s₁ B hml hv
  obtain ⟨rfl, hM, hK, hc, hI, hZ⟩ := hv
  have hx := B.exec
  have hb := B.bytes
  have hr := B.returns
  have hts := atoms_spec (ws := (.code yM_signOne bM_signOne 3 (some .boolean) :: lw_g)) B.pre
  have hown : s.vm.findClass RM = some m.cls := findClass_of_methodNamed B.named
  have K : mdC D cl tys ci tI tZ cI cZ s m _ := ⟨fun w h => hts w (List.mem_cons_of_mem _ h), hown, hK, hc, hI, hZ⟩
  have hlocks := B.notSynchronized
  have hS : va_S A s.heap s.heap [] := va_S.rf
  have hl := lv_entry ([.ref o, .int k]) (n := 3) (Nat.le_of_ble_eq_true rfl)
  rw [lg_entry_eq]
  generalize (lg_sl ([.ref o, .int k]) ++ List.replicate (3 - (lg_sl ([.ref o, .int k])).length) Slot.unset).toArray = ls at hl ⊢
  have hl : lv_has ls 3 [(0, .ref o), (1, .int k)] := hl
  have hn2 := hQ.2.1.2.1
  have hd11 : d + 1 ≤ 12 := hQ.2.1.1
  have hod := (hQ.2.2.1 d (by omega)).1.2
  have hpm := (hQ.2.2.1 d (by omega)).2.2
  refine lv_aload_n hx hb dM_signOne_0 rfl (lv_at hl 0 rfl) ?_
  refine M_getv hx hb K hM 8 (v := nI 3) hQ.1.2.1 kM_f87 dM_signOne_1 (kk := ?_)
  refine lv_bipush (v := 6) hx hb dM_signOne_4 (by decide) ?_
  refine lv_icmp_ne (tgt := 11) hx hb dM_signOne_6 (by decide) (fun c_6 => ?_) (fun c_6 => absurd c_6 (by decide))
  refine lv_aload_n hx hb dM_signOne_11 rfl (lv_at hl 0 rfl) ?_
  refine M_getv hx hb K hM 8 (v := nI 3) hQ.1.2.1 kM_f87 dM_signOne_12 (kk := ?_)
  refine lv_iconst (v := 2) hx hb dM_signOne_15 (by decide) ?_
  refine lv_icmp_ne (tgt := 62) hx hb dM_signOne_16 (by decide) (fun c_16 => ?_) (fun c_16 => absurd c_16 (by decide))
  refine lv_aload_n hx hb dM_signOne_62 rfl (lv_at hl 0 rfl) ?_
  refine M_getv hx hb K hM 8 (v := nI 3) hQ.1.2.1 kM_f87 dM_signOne_63 (kk := ?_)
  refine lv_iconst (v := 3) hx hb dM_signOne_66 (by decide) ?_
  refine lv_icmp_ne (tgt := 76) hx hb dM_signOne_67 (by decide) (fun c_67 => absurd (by decide) c_67) (fun c_67 => ?_)
  refine lv_aload_n hx hb dM_signOne_70 rfl (lv_at hl 0 rfl) ?_
  refine lv_iload_n hx hb dM_signOne_71 rfl (lv_at hl 1 rfl) ?_
  refine va_calli (M_run (As := [.int k]) (rest := []) (n := 1) hx hb hml K hM (c_closureSign l D cl tys A ci tI tZ cI cZ o ad _ _ k op d n pt fw mo nm dg hQ) kM_c_closureSign kM_m102 kM_i_closureSign kM_s_closureSign rfl rfl ⟨rfl, by decide +kernel⟩ ⟨Nat.le_of_ble_eq_true rfl, Nat.le_of_ble_eq_true rfl⟩ rfl hl.1 rfl (lv_room (Nat.le_of_ble_eq_true rfl)) dM_signOne_72 ⟨Nat.le_of_ble_eq_true rfl, Nat.le_of_ble_eq_true rfl⟩) hS (fun q _ h => h) (fun q h => h) (fun r u t H1 locs1 ht hvm hw hB hz hk hS => ?_)
  obtain ⟨hM, -⟩ := hB
  rw [ht] at hM
  obtain ⟨hFr, ⟨rfl, hv, rfl⟩ | ⟨rfl, t9, hv, hq9⟩⟩ := hw
  · skip
    refine W.zret (v := (0)) hx hb hr rfl (M_endi hM hK hS ?_) hS.2.2 dM_signOne_75
    exact ⟨hFr, Or.inl ⟨rfl, by simpa [md_sign] using hv⟩⟩
  · skip
    refine W.zret (v := (1)) hx hb hr rfl (M_endi hM hK hS ?_) hS.2.2 dM_signOne_75
    exact ⟨hFr, Or.inr ⟨rfl, t9, by simpa [md_sign] using hv, hq9⟩⟩
set_option maxHeartbeats 4000000 in
set_option maxRecDepth 100000 in
theorem c_sign40 (l : Launch) (D : va_G) (cl : List vw_C) (tys : List (ClassId × FieldType)) (A : Nat → Prop) (ci tI tZ : Nat) (cI cZ : ClassId) (o : Nat) (ad : Nat → Nat) (fi : Nat → Int32) (fa : Nat → Nat → Int32) (k : Int32) (op : Nat → Nat) (n : Nat) (pt fw mo : Nat → Nat) (nm : List Nat) (dg : Nat) (hQ : mdQ fi fa op 0 4 n pt fw mo nm dg) (hn : n < 120) :
    Met l yM_signOne (.code yM_signOne bM_signOne 3 (some .boolean) :: lw_g) ({ frames := 2, cells := 0, slots := 0, locals := 44 }) (va_Pc [.ref o, .int k] (mdPre D cl tys A ci tI tZ cI cZ o ad fi fa)) (va_Qi (md_rez (md_sign k (0, 4, n, pt, fw, mo, nm, dg)) fi fa) (mdB D cl tys A ci cI cZ o ad) A) 0 0 A := by
  refine Met.ofW (cc := bM_signOne) (maxL := 3) (ret := (some .boolean)) (by decide) rfl ?_
  intro p e s m args below meth c s₁ B hml hv
  obtain ⟨rfl, hM, hK, hc, hI, hZ⟩ := hv
  have hx := B.exec
  have hb := B.bytes
  have hr := B.returns
  have hts := atoms_spec (ws := (.code yM_signOne bM_signOne 3 (some .boolean) :: lw_g)) B.pre
  have hown : s.vm.findClass RM = some m.cls := findClass_of_methodNamed B.named
  have K : mdC D cl tys ci tI tZ cI cZ s m _ := ⟨fun w h => hts w (List.mem_cons_of_mem _ h), hown, hK, hc, hI, hZ⟩
  have hlocks := B.notSynchronized
  have hS : va_S A s.heap s.heap [] := va_S.rf
  have hl := lv_entry ([.ref o, .int k]) (n := 3) (Nat.le_of_ble_eq_true rfl)
  rw [lg_entry_eq]
  generalize (lg_sl ([.ref o, .int k]) ++ List.replicate (3 - (lg_sl ([.ref o, .int k])).length) Slot.unset).toArray = ls at hl ⊢
  have hl : lv_has ls 3 [(0, .ref o), (1, .int k)] := hl
  have hn2 := hQ.2.1.2.1
  obtain ⟨hn0, hdg, hdg4⟩ := hQ.2.2.2.2.2.1 rfl
  refine lv_aload_n hx hb dM_signOne_0 rfl (lv_at hl 0 rfl) ?_
  refine M_getv hx hb K hM 8 (v := nI 4) hQ.1.2.1 kM_f87 dM_signOne_1 (kk := ?_)
  refine lv_bipush (v := 6) hx hb dM_signOne_4 (by decide) ?_
  refine lv_icmp_ne (tgt := 11) hx hb dM_signOne_6 (by decide) (fun c_6 => ?_) (fun c_6 => absurd c_6 (by decide))
  refine lv_aload_n hx hb dM_signOne_11 rfl (lv_at hl 0 rfl) ?_
  refine M_getv hx hb K hM 8 (v := nI 4) hQ.1.2.1 kM_f87 dM_signOne_12 (kk := ?_)
  refine lv_iconst (v := 2) hx hb dM_signOne_15 (by decide) ?_
  refine lv_icmp_ne (tgt := 62) hx hb dM_signOne_16 (by decide) (fun c_16 => ?_) (fun c_16 => absurd c_16 (by decide))
  refine lv_aload_n hx hb dM_signOne_62 rfl (lv_at hl 0 rfl) ?_
  refine M_getv hx hb K hM 8 (v := nI 4) hQ.1.2.1 kM_f87 dM_signOne_63 (kk := ?_)
  refine lv_iconst (v := 3) hx hb dM_signOne_66 (by decide) ?_
  refine lv_icmp_ne (tgt := 76) hx hb dM_signOne_67 (by decide) (fun c_67 => ?_) (fun c_67 => absurd c_67 (by decide))
  refine lv_aload_n hx hb dM_signOne_76 rfl (lv_at hl 0 rfl) ?_
  refine M_getv hx hb K hM 8 (v := nI 4) hQ.1.2.1 kM_f87 dM_signOne_77 (kk := ?_)
  refine lv_iconst (v := 4) hx hb dM_signOne_80 (by decide) ?_
  refine lv_icmp_ne (tgt := 149) hx hb dM_signOne_81 (by decide) (fun c_81 => absurd (by decide) c_81) (fun c_81 => ?_)
  refine lv_iload_n hx hb dM_signOne_84 rfl (lv_at hl 1 rfl) ?_
  refine lv_bipush (v := 48) hx hb dM_signOne_85 (by decide) ?_
  refine lv_icmp_lt (tgt := 149) hx hb dM_signOne_87 (by decide) (fun c_87 => ?_) (fun c_87 => ?_)
  · skip
    refine lv_aload_n hx hb dM_signOne_149 rfl (lv_at hl 0 rfl) ?_
    refine M_getv hx hb K hM 7 (v := nI 0) hQ.1.1 kM_f84 dM_signOne_150 (kk := ?_)
    refine lv_if_ne (tgt := 177) hx hb dM_signOne_153 (by decide) (fun c_153 => absurd (by decide) c_153) (fun c_153 => ?_)
    refine lv_aload_n hx hb dM_signOne_156 rfl (lv_at hl 0 rfl) ?_
    refine M_getv hx hb K hM 8 (v := nI 4) hQ.1.2.1 kM_f87 dM_signOne_157 (kk := ?_)
    refine lv_if_ne (tgt := 175) hx hb dM_signOne_160 (by decide) (fun c_160 => ?_) (fun c_160 => absurd c_160 (by decide))
    refine lv_iconst (v := 0) hx hb dM_signOne_175 (by decide) ?_
    refine W.zret (v := (0)) hx hb hr rfl (M_endi hM hK hS ?_) hS.2.2 dM_signOne_176
    exact ⟨mdFr.rf, Or.inl ⟨rfl, by simp [md_sign, c_87]⟩⟩
  · skip
    refine lv_iload_n hx hb dM_signOne_90 rfl (lv_at hl 1 rfl) ?_
    refine lv_bipush (v := 57) hx hb dM_signOne_91 (by decide) ?_
    refine lv_icmp_gt (tgt := 149) hx hb dM_signOne_93 (by decide) (fun c_93 => ?_) (fun c_93 => ?_)
    · skip
      refine lv_aload_n hx hb dM_signOne_149 rfl (lv_at hl 0 rfl) ?_
      refine M_getv hx hb K hM 7 (v := nI 0) hQ.1.1 kM_f84 dM_signOne_150 (kk := ?_)
      refine lv_if_ne (tgt := 177) hx hb dM_signOne_153 (by decide) (fun c_153 => absurd (by decide) c_153) (fun c_153 => ?_)
      refine lv_aload_n hx hb dM_signOne_156 rfl (lv_at hl 0 rfl) ?_
      refine M_getv hx hb K hM 8 (v := nI 4) hQ.1.2.1 kM_f87 dM_signOne_157 (kk := ?_)
      refine lv_if_ne (tgt := 175) hx hb dM_signOne_160 (by decide) (fun c_160 => ?_) (fun c_160 => absurd c_160 (by decide))
      refine lv_iconst (v := 0) hx hb dM_signOne_175 (by decide) ?_
      refine W.zret (v := (0)) hx hb hr rfl (M_endi hM hK hS ?_) hS.2.2 dM_signOne_176
      exact ⟨mdFr.rf, Or.inl ⟨rfl, by simp [md_sign, c_87, c_93]⟩⟩
    · skip
      refine lv_aload_n hx hb dM_signOne_96 rfl (lv_at hl 0 rfl) ?_
      refine M_getv hx hb K hM 13 (v := nI n) hQ.1.2.2 kM_f81 dM_signOne_97 (kk := ?_)
      refine lv_iconst (v := 1) hx hb dM_signOne_100 (by decide) ?_
      refine lv_isub hx hb dM_signOne_101 ?_
      refine lv_as (v := nI (n - 1)) (md_pred hn0) ?_
      refine lv_istore_n (lv' := [(2, .int (nI (n - 1))), (0, .ref o), (1, .int k)]) hx hb dM_signOne_102 rfl hl (by decide) rfl (fun ls hl => ?_)
      refine lv_aload_n hx hb dM_signOne_103 rfl (lv_at hl 1 rfl) ?_
      refine M_geta hx hb K hM 10 kM_f28 dM_signOne_104 (kk := ?_)
      refine lv_iload_n hx hb dM_signOne_107 rfl (lv_at hl 0 rfl) ?_
      refine lv_aload_n hx hb dM_signOne_108 rfl (lv_at hl 1 rfl) ?_
      refine M_geta hx hb K hM 10 kM_f28 dM_signOne_109 (kk := ?_)
      refine lv_iload_n hx hb dM_signOne_112 rfl (lv_at hl 0 rfl) ?_
      refine M_aldn hx hb K hM 10 (j := n - 1) (show n - 1 < 120 by omega) (v := fa 10 (n - 1)) rfl dM_signOne_113 (kk := ?_)
      refine lv_bipush (v := 10) hx hb dM_signOne_114 (by decide) ?_
      refine lv_imul hx hb dM_signOne_116 ?_
      refine lv_iload_n hx hb dM_signOne_117 rfl (lv_at hl 2 rfl) ?_
      refine lv_iadd hx hb dM_signOne_118 ?_
      refine lv_bipush (v := 48) hx hb dM_signOne_119 (by decide) ?_
      refine lv_isub hx hb dM_signOne_121 ?_
      refine M_astn hx hb K hM hS 10 (j := n - 1) (show n - 1 < 120 by omega) dM_signOne_122 (kk := fun H locs hM hS => ?_)
      refine lv_aload_n hx hb dM_signOne_123 rfl (lv_at hl 1 rfl) ?_
      refine M_geta hx hb K hM 11 kM_f31 dM_signOne_124 (kk := ?_)
      refine lv_iload_n hx hb dM_signOne_127 rfl (lv_at hl 0 rfl) ?_
      refine lv_dup2_11 hx hb dM_signOne_128 rfl rfl ?_
      refine M_aldn hx hb K hM 11 (j := n - 1) (show n - 1 < 120 by omega) (v := nI dg) hdg dM_signOne_129 (kk := ?_)
      refine lv_iconst (v := 1) hx hb dM_signOne_130 (by decide) ?_
      refine lv_iadd hx hb dM_signOne_131 ?_
      refine lv_as (v := nI (dg + 1)) (nI_1 dg) ?_
      refine M_astn hx hb K hM hS 11 (j := n - 1) (show n - 1 < 120 by omega) dM_signOne_132 (kk := fun H locs hM hS => ?_)
      refine lv_aload_n hx hb dM_signOne_133 rfl (lv_at hl 1 rfl) ?_
      refine M_geta hx hb K hM 11 kM_f31 dM_signOne_134 (kk := ?_)
      refine lv_iload_n hx hb dM_signOne_137 rfl (lv_at hl 0 rfl) ?_
      refine M_aldn hx hb K hM 11 (j := n - 1) (show n - 1 < 120 by omega) (v := nI (dg + 1)) upd_s dM_signOne_138 (kk := ?_)
      refine lv_iconst (v := 4) hx hb dM_signOne_139 (by decide) ?_
      refine lv_icmp_gt (tgt := 147) hx hb dM_signOne_140 (by decide) (fun c_140 => ?_) (fun c_140 => ?_)
      · skip
        have h4 : ¬ dg + 1 ≤ 4 := fun q => absurd c_140 (nI_nlt (a := 4) q (by decide))
        refine lv_iconst (v := 0) hx hb dM_signOne_147 (by decide) ?_
        refine W.zret (v := (0)) hx hb hr rfl (M_endi hM hK hS ?_) hS.2.2 dM_signOne_148
        exact ⟨⟨fun _ _ _ _ => rfl, rfl⟩, Or.inl ⟨rfl, by simp [md_sign, c_87, c_93, h4]⟩⟩
      · skip
        have h4 : dg + 1 ≤ 4 := by rcases Nat.lt_or_ge 4 (dg + 1) with q | q; exact absurd (nI_lt q (by omega)) c_140; exact q
        refine lv_iconst (v := 1) hx hb dM_signOne_143 (by decide) ?_
        refine lv_goto (tgt := 148) hx hb dM_signOne_144 (by decide) ?_
        refine W.zret (v := (1)) hx hb hr rfl (M_endi hM hK hS ?_) hS.2.2 dM_signOne_148
        exact ⟨⟨fun _ _ _ _ => rfl, rfl⟩, Or.inr ⟨rfl, (0, 4, n, pt, fw, mo, nm, dg + 1), by simp [md_sign, c_87, c_93, h4], op, mdQ_digit hQ h4 rfl rfl rfl rfl rfl rfl rfl upd_s⟩⟩
set_option maxHeartbeats 4000000 in
set_option maxRecDepth 100000 in
theorem c_sign4S (l : Launch) (D : va_G) (cl : List vw_C) (tys : List (ClassId × FieldType)) (A : Nat → Prop) (ci tI tZ : Nat) (cI cZ : ClassId) (o : Nat) (ad : Nat → Nat) (fi : Nat → Int32) (fa : Nat → Nat → Int32) (k : Int32) (op : Nat → Nat) (d n : Nat) (pt fw mo : Nat → Nat) (nm : List Nat) (dg : Nat) (hQ : mdQ fi fa op (d + 1) 4 n pt fw mo nm dg) (hn : n < 120) :
    Met l yM_signOne (.code yM_signOne bM_signOne 3 (some .boolean) :: lw_g) ({ frames := 2, cells := 0, slots := 0, locals := 44 }) (va_Pc [.ref o, .int k] (mdPre D cl tys A ci tI tZ cI cZ o ad fi fa)) (va_Qi (md_rez (md_sign k (d + 1, 4, n, pt, fw, mo, nm, dg)) fi fa) (mdB D cl tys A ci cI cZ o ad) A) 0 0 A := by
  refine Met.ofW (cc := bM_signOne) (maxL := 3) (ret := (some .boolean)) (by decide) rfl ?_
  intro p e s m args below meth c s₁ B hml hv
  obtain ⟨rfl, hM, hK, hc, hI, hZ⟩ := hv
  have hx := B.exec
  have hb := B.bytes
  have hr := B.returns
  have hts := atoms_spec (ws := (.code yM_signOne bM_signOne 3 (some .boolean) :: lw_g)) B.pre
  have hown : s.vm.findClass RM = some m.cls := findClass_of_methodNamed B.named
  have K : mdC D cl tys ci tI tZ cI cZ s m _ := ⟨fun w h => hts w (List.mem_cons_of_mem _ h), hown, hK, hc, hI, hZ⟩
  have hlocks := B.notSynchronized
  have hS : va_S A s.heap s.heap [] := va_S.rf
  have hl := lv_entry ([.ref o, .int k]) (n := 3) (Nat.le_of_ble_eq_true rfl)
  rw [lg_entry_eq]
  generalize (lg_sl ([.ref o, .int k]) ++ List.replicate (3 - (lg_sl ([.ref o, .int k])).length) Slot.unset).toArray = ls at hl ⊢
  have hl : lv_has ls 3 [(0, .ref o), (1, .int k)] := hl
  have hn2 := hQ.2.1.2.1
  have hd11 : d + 1 ≤ 12 := hQ.2.1.1
  have hod := (hQ.2.2.1 d (by omega)).1.2
  have hpm := (hQ.2.2.1 d (by omega)).2.2
  obtain ⟨hn0, hdg, hdg4⟩ := hQ.2.2.2.2.2.1 rfl
  refine lv_aload_n hx hb dM_signOne_0 rfl (lv_at hl 0 rfl) ?_
  refine M_getv hx hb K hM 8 (v := nI 4) hQ.1.2.1 kM_f87 dM_signOne_1 (kk := ?_)
  refine lv_bipush (v := 6) hx hb dM_signOne_4 (by decide) ?_
  refine lv_icmp_ne (tgt := 11) hx hb dM_signOne_6 (by decide) (fun c_6 => ?_) (fun c_6 => absurd c_6 (by decide))
  refine lv_aload_n hx hb dM_signOne_11 rfl (lv_at hl 0 rfl) ?_
  refine M_getv hx hb K hM 8 (v := nI 4) hQ.1.2.1 kM_f87 dM_signOne_12 (kk := ?_)
  refine lv_iconst (v := 2) hx hb dM_signOne_15 (by decide) ?_
  refine lv_icmp_ne (tgt := 62) hx hb dM_signOne_16 (by decide) (fun c_16 => ?_) (fun c_16 => absurd c_16 (by decide))
  refine lv_aload_n hx hb dM_signOne_62 rfl (lv_at hl 0 rfl) ?_
  refine M_getv hx hb K hM 8 (v := nI 4) hQ.1.2.1 kM_f87 dM_signOne_63 (kk := ?_)
  refine lv_iconst (v := 3) hx hb dM_signOne_66 (by decide) ?_
  refine lv_icmp_ne (tgt := 76) hx hb dM_signOne_67 (by decide) (fun c_67 => ?_) (fun c_67 => absurd c_67 (by decide))
  refine lv_aload_n hx hb dM_signOne_76 rfl (lv_at hl 0 rfl) ?_
  refine M_getv hx hb K hM 8 (v := nI 4) hQ.1.2.1 kM_f87 dM_signOne_77 (kk := ?_)
  refine lv_iconst (v := 4) hx hb dM_signOne_80 (by decide) ?_
  refine lv_icmp_ne (tgt := 149) hx hb dM_signOne_81 (by decide) (fun c_81 => absurd (by decide) c_81) (fun c_81 => ?_)
  refine lv_iload_n hx hb dM_signOne_84 rfl (lv_at hl 1 rfl) ?_
  refine lv_bipush (v := 48) hx hb dM_signOne_85 (by decide) ?_
  refine lv_icmp_lt (tgt := 149) hx hb dM_signOne_87 (by decide) (fun c_87 => ?_) (fun c_87 => ?_)
  · skip
    refine lv_aload_n hx hb dM_signOne_149 rfl (lv_at hl 0 rfl) ?_
    refine M_getv hx hb K hM 7 (v := nI (d + 1)) hQ.1.1 kM_f84 dM_signOne_150 (kk := ?_)
    refine lv_if_ne (tgt := 177) hx hb dM_signOne_153 (by decide) (fun c_153 => ?_) (fun c_153 => absurd c_153 (nI_ne0 (Nat.succ_pos d) (by omega)))
    refine lv_aload_n hx hb dM_signOne_177 rfl (lv_at hl 0 rfl) ?_
    refine M_getv hx hb K hM 8 (v := nI 4) hQ.1.2.1 kM_f87 dM_signOne_178 (kk := ?_)
    refine lv_iconst (v := 1) hx hb dM_signOne_181 (by decide) ?_
    refine lv_icmp_ne (tgt := 201) hx hb dM_signOne_182 (by decide) (fun c_182 => ?_) (fun c_182 => absurd c_182 (by decide))
    refine lv_aload_n hx hb dM_signOne_201 rfl (lv_at hl 0 rfl) ?_
    refine M_getv hx hb K hM 8 (v := nI 4) hQ.1.2.1 kM_f87 dM_signOne_202 (kk := ?_)
    refine lv_iconst (v := 1) hx hb dM_signOne_205 (by decide) ?_
    refine lv_icmp_eq (tgt := 267) hx hb dM_signOne_206 (by decide) (fun c_206 => absurd c_206 (by decide)) (fun c_206 => ?_)
    refine lv_iload_n hx hb dM_signOne_209 rfl (lv_at hl 1 rfl) ?_
    refine lv_bipush (v := 41) hx hb dM_signOne_210 (by decide) ?_
    refine lv_icmp_ne (tgt := 267) hx hb dM_signOne_212 (by decide) (fun c_212 => ?_) (fun c_212 => ?_)
    · skip
      refine lv_aload_n hx hb dM_signOne_267 rfl (lv_at hl 0 rfl) ?_
      refine lv_iconst (v := 0) hx hb dM_signOne_268 (by decide) ?_
      refine M_puti hx hb K hM hS 8 kM_f87 dM_signOne_269 (kk := fun H locs hM hS => ?_)
      refine lv_iload_n hx hb dM_signOne_272 rfl (lv_at hl 1 rfl) ?_
      refine lv_bipush (v := 32) hx hb dM_signOne_273 (by decide) ?_
      refine lv_icmp_eq (tgt := 286) hx hb dM_signOne_275 (by decide) (fun c_275 => ?_) (fun c_275 => ?_)
      · skip
        refine lv_iconst (v := 1) hx hb dM_signOne_286 (by decide) ?_
        refine lv_goto (tgt := 291) hx hb dM_signOne_287 (by decide) ?_
        refine W.zret (v := (1)) hx hb hr rfl (M_endi hM hK hS ?_) hS.2.2 dM_signOne_291
        exact ⟨⟨fun j h1 h2 h3 => by simp only [up_n h1, up_n h2, up_n h3], rfl⟩, Or.inr ⟨rfl, (d + 1, 0, n, pt, fw, mo, nm, dg), by simp [md_sign, c_87, c_212, c_275], op, mdQ_mode0 hQ rfl rfl rfl rfl rfl rfl rfl⟩⟩
      · skip
        refine lv_aload_n hx hb dM_signOne_278 rfl (lv_at hl 0 rfl) ?_
        refine lv_iload_n hx hb dM_signOne_279 rfl (lv_at hl 1 rfl) ?_
        refine va_calli (M_run (As := [.int k]) (rest := []) (n := 1) hx hb hml K hM (c_beginS l D cl tys A ci tI tZ cI cZ o ad _ _ k op d 0 n pt fw mo nm dg (mdQ_mode0 hQ rfl rfl rfl rfl rfl rfl rfl) hn) kM_c_begin kM_m106 kM_i_begin kM_s_begin rfl rfl ⟨rfl, by decide +kernel⟩ ⟨Nat.le_of_ble_eq_true rfl, Nat.le_of_ble_eq_true rfl⟩ rfl hl.1 rfl (lv_room (Nat.le_of_ble_eq_true rfl)) dM_signOne_280 ⟨Nat.le_of_ble_eq_true rfl, Nat.le_of_ble_eq_true rfl⟩) hS (fun q _ h => h) (fun q h => h) (fun r u t H1 locs1 ht hvm hw hB hz hk hS => ?_)
        obtain ⟨hM, -⟩ := hB
        rw [ht] at hM
        obtain ⟨hFr, ⟨rfl, hv, rfl⟩ | ⟨rfl, t9, hv, hq9⟩⟩ := hw
        · skip
          refine lv_if_eq (tgt := 290) hx hb dM_signOne_283 (by decide) (fun c_283 => ?_) (fun c_283 => absurd rfl c_283)
          refine lv_iconst (v := 0) hx hb dM_signOne_290 (by decide) ?_
          refine W.zret (v := (0)) hx hb hr rfl (M_endi hM hK hS ?_) hS.2.2 dM_signOne_291
          exact ⟨(hFr.m0), Or.inl ⟨rfl, by simpa [md_sign, c_87, c_212, c_275] using hv⟩⟩
        · skip
          refine lv_if_eq (tgt := 290) hx hb dM_signOne_283 (by decide) (fun c_283 => absurd c_283 (by decide)) (fun c_283 => ?_)
          refine lv_iconst (v := 1) hx hb dM_signOne_286 (by decide) ?_
          refine lv_goto (tgt := 291) hx hb dM_signOne_287 (by decide) ?_
          refine W.zret (v := (1)) hx hb hr rfl (M_endi hM hK hS ?_) hS.2.2 dM_signOne_291
          exact ⟨(hFr.m0), Or.inr ⟨rfl, t9, by simpa [md_sign, c_87, c_212, c_275] using hv, hq9⟩⟩
    · skip
      refine lv_aload_n hx hb dM_signOne_215 rfl (lv_at hl 0 rfl) ?_
      refine M_geta hx hb K hM 4 kM_f16 dM_signOne_216 (kk := ?_)
      refine lv_aload_n hx hb dM_signOne_219 rfl (lv_at hl 0 rfl) ?_
      refine M_getv hx hb K hM 7 (v := nI (d + 1)) hQ.1.1 kM_f84 dM_signOne_220 (kk := ?_)
      refine lv_iconst (v := 1) hx hb dM_signOne_223 (by decide) ?_
      refine lv_isub hx hb dM_signOne_224 ?_
      refine lv_as (v := nI d) (nI_pred d) ?_
      refine M_aldn hx hb K hM 4 (j := d) (show d < 13 by omega) (v := nI (pt d)) (hQ.2.2.1 d (by omega)).2.1.1 dM_signOne_225 (kk := ?_)
      refine lv_aload_n hx hb dM_signOne_226 rfl (lv_at hl 0 rfl) ?_
      refine M_geta hx hb K hM 5 kM_f19 dM_signOne_227 (kk := ?_)
      refine lv_aload_n hx hb dM_signOne_230 rfl (lv_at hl 0 rfl) ?_
      refine M_getv hx hb K hM 7 (v := nI (d + 1)) hQ.1.1 kM_f84 dM_signOne_231 (kk := ?_)
      refine lv_iconst (v := 1) hx hb dM_signOne_234 (by decide) ?_
      refine lv_isub hx hb dM_signOne_235 ?_
      refine lv_as (v := nI d) (nI_pred d) ?_
      refine M_aldn hx hb K hM 5 (j := d) (show d < 13 by omega) (v := nI (fw d)) (hQ.2.2.1 d (by omega)).2.1.2.1 dM_signOne_236 (kk := ?_)
      refine lv_icmp_ge (tgt := 242) hx hb dM_signOne_237 (by decide) (fun c_237 => ?_) (fun c_237 => ?_)
      · skip
        have hlt : ¬ pt d < fw d := fun q => absurd c_237 (nI_ge q (by omega))
        refine lv_aload_n hx hb dM_signOne_242 rfl (lv_at hl 0 rfl) ?_
        refine lv_dup hx hb dM_signOne_243 rfl ?_
        refine M_getv hx hb K hM 7 (v := nI (d + 1)) hQ.1.1 kM_f84 dM_signOne_244 (kk := ?_)
        refine lv_iconst (v := 1) hx hb dM_signOne_247 (by decide) ?_
        refine lv_isub hx hb dM_signOne_248 ?_
        refine lv_as (v := nI d) (nI_pred d) ?_
        refine M_puti hx hb K hM hS 7 kM_f84 dM_signOne_249 (kk := fun H locs hM hS => ?_)
        refine lv_aload_n hx hb dM_signOne_252 rfl (lv_at hl 0 rfl) ?_
        refine lv_aload_n hx hb dM_signOne_253 rfl (lv_at hl 0 rfl) ?_
        refine M_geta hx hb K hM 3 kM_f13 dM_signOne_254 (kk := ?_)
        refine lv_aload_n hx hb dM_signOne_257 rfl (lv_at hl 0 rfl) ?_
        refine M_getv hx hb K hM 7 (v := nI d) rfl kM_f84 dM_signOne_258 (kk := ?_)
        refine M_aldn hx hb K hM 3 (j := d) (show d < 13 by omega) (v := nI (op d)) (hQ.2.2.1 d (by omega)).1.1 dM_signOne_261 (kk := ?_)
        refine va_callv (M_run (As := [.int (nI (op d))]) (rest := []) (n := 1) hx hb hml K hM (c_attachC l D cl tys A ci tI tZ cI cZ o ad _ _ (nI (op d)) d op pt rfl (by omega) (fun h => by have q := hQ.2.2.1 (d - 1) (by omega); have q2 := hQ.2.2.2.1 (d - 1) (by omega); exact ⟨q.1.1, by omega, q.2.1.1, by omega⟩)) kM_c_attach kM_m94 kM_i_attach kM_s_attach rfl rfl ⟨rfl, by decide +kernel⟩ ⟨Nat.le_of_ble_eq_true rfl, Nat.le_of_ble_eq_true rfl⟩ rfl hl.1 rfl (lv_room (Nat.le_of_ble_eq_true rfl)) dM_signOne_262 ⟨Nat.le_of_ble_eq_true rfl, Nat.le_of_ble_eq_true rfl⟩) hS (fun q _ h => h) (fun q h => h) (fun u t H1 locs1 ht hvm hw hB hz hk hS => ?_)
        obtain ⟨hM, -⟩ := hB
        rw [ht] at hM
        obtain ⟨rfl, rfl⟩ | ⟨h0, g, rfl⟩ := hw
        · skip
          dsimp only at hM
          refine lv_iconst (v := 1) hx hb dM_signOne_265 (by decide) ?_
          refine W.zret (v := (1)) hx hb hr rfl (M_endi hM hK hS ?_) hS.2.2 dM_signOne_266
          exact ⟨⟨fun j h1 h2 h3 => by simp only [up_n h1, up_n h2, up_n h3], rfl⟩, Or.inr ⟨rfl, (0, 6, n, pt, fw, mo, nm, dg), by simp [md_sign, md_add, c_87, c_212, hlt], op, mdQ_close0 hQ rfl rfl rfl⟩⟩
        · skip
          obtain ⟨e2, rfl⟩ : ∃ z, d = z + 1 := ⟨d - 1, by omega⟩
          dsimp only at hM
          refine lv_iconst (v := 1) hx hb dM_signOne_265 (by decide) ?_
          refine W.zret (v := (1)) hx hb hr rfl (M_endi hM hK hS ?_) hS.2.2 dM_signOne_266
          exact ⟨⟨fun j h1 h2 h3 => by simp only [up_n h1, up_n h2, up_n h3], rfl⟩, Or.inr ⟨rfl, (e2 + 1, 0, n, va_up pt e2 (pt e2 + 1), fw, mo, nm, dg), by simp [md_sign, md_add, c_87, c_212, hlt], op, mdQ_closeS hQ rfl rfl rfl rfl rfl rfl rfl⟩⟩
      · skip
        have hlt : pt d < fw d := by rcases Nat.lt_or_ge (pt d) (fw d) with q | q; exact q; exact absurd (nI_le q (by omega)) c_237
        refine lv_iconst (v := 0) hx hb dM_signOne_240 (by decide) ?_
        refine W.zret (v := (0)) hx hb hr rfl (M_endi hM hK hS ?_) hS.2.2 dM_signOne_241
        exact ⟨mdFr.rf, Or.inl ⟨rfl, by simp [md_sign, c_87, c_212, hlt]⟩⟩
  · skip
    refine lv_iload_n hx hb dM_signOne_90 rfl (lv_at hl 1 rfl) ?_
    refine lv_bipush (v := 57) hx hb dM_signOne_91 (by decide) ?_
    refine lv_icmp_gt (tgt := 149) hx hb dM_signOne_93 (by decide) (fun c_93 => ?_) (fun c_93 => ?_)
    · skip
      refine lv_aload_n hx hb dM_signOne_149 rfl (lv_at hl 0 rfl) ?_
      refine M_getv hx hb K hM 7 (v := nI (d + 1)) hQ.1.1 kM_f84 dM_signOne_150 (kk := ?_)
      refine lv_if_ne (tgt := 177) hx hb dM_signOne_153 (by decide) (fun c_153 => ?_) (fun c_153 => absurd c_153 (nI_ne0 (Nat.succ_pos d) (by omega)))
      refine lv_aload_n hx hb dM_signOne_177 rfl (lv_at hl 0 rfl) ?_
      refine M_getv hx hb K hM 8 (v := nI 4) hQ.1.2.1 kM_f87 dM_signOne_178 (kk := ?_)
      refine lv_iconst (v := 1) hx hb dM_signOne_181 (by decide) ?_
      refine lv_icmp_ne (tgt := 201) hx hb dM_signOne_182 (by decide) (fun c_182 => ?_) (fun c_182 => absurd c_182 (by decide))
      refine lv_aload_n hx hb dM_signOne_201 rfl (lv_at hl 0 rfl) ?_
      refine M_getv hx hb K hM 8 (v := nI 4) hQ.1.2.1 kM_f87 dM_signOne_202 (kk := ?_)
      refine lv_iconst (v := 1) hx hb dM_signOne_205 (by decide) ?_
      refine lv_icmp_eq (tgt := 267) hx hb dM_signOne_206 (by decide) (fun c_206 => absurd c_206 (by decide)) (fun c_206 => ?_)
      refine lv_iload_n hx hb dM_signOne_209 rfl (lv_at hl 1 rfl) ?_
      refine lv_bipush (v := 41) hx hb dM_signOne_210 (by decide) ?_
      refine lv_icmp_ne (tgt := 267) hx hb dM_signOne_212 (by decide) (fun c_212 => ?_) (fun c_212 => ?_)
      · skip
        refine lv_aload_n hx hb dM_signOne_267 rfl (lv_at hl 0 rfl) ?_
        refine lv_iconst (v := 0) hx hb dM_signOne_268 (by decide) ?_
        refine M_puti hx hb K hM hS 8 kM_f87 dM_signOne_269 (kk := fun H locs hM hS => ?_)
        refine lv_iload_n hx hb dM_signOne_272 rfl (lv_at hl 1 rfl) ?_
        refine lv_bipush (v := 32) hx hb dM_signOne_273 (by decide) ?_
        refine lv_icmp_eq (tgt := 286) hx hb dM_signOne_275 (by decide) (fun c_275 => ?_) (fun c_275 => ?_)
        · skip
          refine lv_iconst (v := 1) hx hb dM_signOne_286 (by decide) ?_
          refine lv_goto (tgt := 291) hx hb dM_signOne_287 (by decide) ?_
          refine W.zret (v := (1)) hx hb hr rfl (M_endi hM hK hS ?_) hS.2.2 dM_signOne_291
          exact ⟨⟨fun j h1 h2 h3 => by simp only [up_n h1, up_n h2, up_n h3], rfl⟩, Or.inr ⟨rfl, (d + 1, 0, n, pt, fw, mo, nm, dg), by simp [md_sign, c_87, c_93, c_212, c_275], op, mdQ_mode0 hQ rfl rfl rfl rfl rfl rfl rfl⟩⟩
        · skip
          refine lv_aload_n hx hb dM_signOne_278 rfl (lv_at hl 0 rfl) ?_
          refine lv_iload_n hx hb dM_signOne_279 rfl (lv_at hl 1 rfl) ?_
          refine va_calli (M_run (As := [.int k]) (rest := []) (n := 1) hx hb hml K hM (c_beginS l D cl tys A ci tI tZ cI cZ o ad _ _ k op d 0 n pt fw mo nm dg (mdQ_mode0 hQ rfl rfl rfl rfl rfl rfl rfl) hn) kM_c_begin kM_m106 kM_i_begin kM_s_begin rfl rfl ⟨rfl, by decide +kernel⟩ ⟨Nat.le_of_ble_eq_true rfl, Nat.le_of_ble_eq_true rfl⟩ rfl hl.1 rfl (lv_room (Nat.le_of_ble_eq_true rfl)) dM_signOne_280 ⟨Nat.le_of_ble_eq_true rfl, Nat.le_of_ble_eq_true rfl⟩) hS (fun q _ h => h) (fun q h => h) (fun r u t H1 locs1 ht hvm hw hB hz hk hS => ?_)
          obtain ⟨hM, -⟩ := hB
          rw [ht] at hM
          obtain ⟨hFr, ⟨rfl, hv, rfl⟩ | ⟨rfl, t9, hv, hq9⟩⟩ := hw
          · skip
            refine lv_if_eq (tgt := 290) hx hb dM_signOne_283 (by decide) (fun c_283 => ?_) (fun c_283 => absurd rfl c_283)
            refine lv_iconst (v := 0) hx hb dM_signOne_290 (by decide) ?_
            refine W.zret (v := (0)) hx hb hr rfl (M_endi hM hK hS ?_) hS.2.2 dM_signOne_291
            exact ⟨(hFr.m0), Or.inl ⟨rfl, by simpa [md_sign, c_87, c_93, c_212, c_275] using hv⟩⟩
          · skip
            refine lv_if_eq (tgt := 290) hx hb dM_signOne_283 (by decide) (fun c_283 => absurd c_283 (by decide)) (fun c_283 => ?_)
            refine lv_iconst (v := 1) hx hb dM_signOne_286 (by decide) ?_
            refine lv_goto (tgt := 291) hx hb dM_signOne_287 (by decide) ?_
            refine W.zret (v := (1)) hx hb hr rfl (M_endi hM hK hS ?_) hS.2.2 dM_signOne_291
            exact ⟨(hFr.m0), Or.inr ⟨rfl, t9, by simpa [md_sign, c_87, c_93, c_212, c_275] using hv, hq9⟩⟩
      · skip
        refine lv_aload_n hx hb dM_signOne_215 rfl (lv_at hl 0 rfl) ?_
        refine M_geta hx hb K hM 4 kM_f16 dM_signOne_216 (kk := ?_)
        refine lv_aload_n hx hb dM_signOne_219 rfl (lv_at hl 0 rfl) ?_
        refine M_getv hx hb K hM 7 (v := nI (d + 1)) hQ.1.1 kM_f84 dM_signOne_220 (kk := ?_)
        refine lv_iconst (v := 1) hx hb dM_signOne_223 (by decide) ?_
        refine lv_isub hx hb dM_signOne_224 ?_
        refine lv_as (v := nI d) (nI_pred d) ?_
        refine M_aldn hx hb K hM 4 (j := d) (show d < 13 by omega) (v := nI (pt d)) (hQ.2.2.1 d (by omega)).2.1.1 dM_signOne_225 (kk := ?_)
        refine lv_aload_n hx hb dM_signOne_226 rfl (lv_at hl 0 rfl) ?_
        refine M_geta hx hb K hM 5 kM_f19 dM_signOne_227 (kk := ?_)
        refine lv_aload_n hx hb dM_signOne_230 rfl (lv_at hl 0 rfl) ?_
        refine M_getv hx hb K hM 7 (v := nI (d + 1)) hQ.1.1 kM_f84 dM_signOne_231 (kk := ?_)
        refine lv_iconst (v := 1) hx hb dM_signOne_234 (by decide) ?_
        refine lv_isub hx hb dM_signOne_235 ?_
        refine lv_as (v := nI d) (nI_pred d) ?_
        refine M_aldn hx hb K hM 5 (j := d) (show d < 13 by omega) (v := nI (fw d)) (hQ.2.2.1 d (by omega)).2.1.2.1 dM_signOne_236 (kk := ?_)
        refine lv_icmp_ge (tgt := 242) hx hb dM_signOne_237 (by decide) (fun c_237 => ?_) (fun c_237 => ?_)
        · skip
          have hlt : ¬ pt d < fw d := fun q => absurd c_237 (nI_ge q (by omega))
          refine lv_aload_n hx hb dM_signOne_242 rfl (lv_at hl 0 rfl) ?_
          refine lv_dup hx hb dM_signOne_243 rfl ?_
          refine M_getv hx hb K hM 7 (v := nI (d + 1)) hQ.1.1 kM_f84 dM_signOne_244 (kk := ?_)
          refine lv_iconst (v := 1) hx hb dM_signOne_247 (by decide) ?_
          refine lv_isub hx hb dM_signOne_248 ?_
          refine lv_as (v := nI d) (nI_pred d) ?_
          refine M_puti hx hb K hM hS 7 kM_f84 dM_signOne_249 (kk := fun H locs hM hS => ?_)
          refine lv_aload_n hx hb dM_signOne_252 rfl (lv_at hl 0 rfl) ?_
          refine lv_aload_n hx hb dM_signOne_253 rfl (lv_at hl 0 rfl) ?_
          refine M_geta hx hb K hM 3 kM_f13 dM_signOne_254 (kk := ?_)
          refine lv_aload_n hx hb dM_signOne_257 rfl (lv_at hl 0 rfl) ?_
          refine M_getv hx hb K hM 7 (v := nI d) rfl kM_f84 dM_signOne_258 (kk := ?_)
          refine M_aldn hx hb K hM 3 (j := d) (show d < 13 by omega) (v := nI (op d)) (hQ.2.2.1 d (by omega)).1.1 dM_signOne_261 (kk := ?_)
          refine va_callv (M_run (As := [.int (nI (op d))]) (rest := []) (n := 1) hx hb hml K hM (c_attachC l D cl tys A ci tI tZ cI cZ o ad _ _ (nI (op d)) d op pt rfl (by omega) (fun h => by have q := hQ.2.2.1 (d - 1) (by omega); have q2 := hQ.2.2.2.1 (d - 1) (by omega); exact ⟨q.1.1, by omega, q.2.1.1, by omega⟩)) kM_c_attach kM_m94 kM_i_attach kM_s_attach rfl rfl ⟨rfl, by decide +kernel⟩ ⟨Nat.le_of_ble_eq_true rfl, Nat.le_of_ble_eq_true rfl⟩ rfl hl.1 rfl (lv_room (Nat.le_of_ble_eq_true rfl)) dM_signOne_262 ⟨Nat.le_of_ble_eq_true rfl, Nat.le_of_ble_eq_true rfl⟩) hS (fun q _ h => h) (fun q h => h) (fun u t H1 locs1 ht hvm hw hB hz hk hS => ?_)
          obtain ⟨hM, -⟩ := hB
          rw [ht] at hM
          obtain ⟨rfl, rfl⟩ | ⟨h0, g, rfl⟩ := hw
          · skip
            dsimp only at hM
            refine lv_iconst (v := 1) hx hb dM_signOne_265 (by decide) ?_
            refine W.zret (v := (1)) hx hb hr rfl (M_endi hM hK hS ?_) hS.2.2 dM_signOne_266
            exact ⟨⟨fun j h1 h2 h3 => by simp only [up_n h1, up_n h2, up_n h3], rfl⟩, Or.inr ⟨rfl, (0, 6, n, pt, fw, mo, nm, dg), by simp [md_sign, md_add, c_87, c_93, c_212, hlt], op, mdQ_close0 hQ rfl rfl rfl⟩⟩
          · skip
            obtain ⟨e2, rfl⟩ : ∃ z, d = z + 1 := ⟨d - 1, by omega⟩
            dsimp only at hM
            refine lv_iconst (v := 1) hx hb dM_signOne_265 (by decide) ?_
            refine W.zret (v := (1)) hx hb hr rfl (M_endi hM hK hS ?_) hS.2.2 dM_signOne_266
            exact ⟨⟨fun j h1 h2 h3 => by simp only [up_n h1, up_n h2, up_n h3], rfl⟩, Or.inr ⟨rfl, (e2 + 1, 0, n, va_up pt e2 (pt e2 + 1), fw, mo, nm, dg), by simp [md_sign, md_add, c_87, c_93, c_212, hlt], op, mdQ_closeS hQ rfl rfl rfl rfl rfl rfl rfl⟩⟩
        · skip
          have hlt : pt d < fw d := by rcases Nat.lt_or_ge (pt d) (fw d) with q | q; exact q; exact absurd (nI_le q (by omega)) c_237
          refine lv_iconst (v := 0) hx hb dM_signOne_240 (by decide) ?_
          refine W.zret (v := (0)) hx hb hr rfl (M_endi hM hK hS ?_) hS.2.2 dM_signOne_241
          exact ⟨mdFr.rf, Or.inl ⟨rfl, by simp [md_sign, c_87, c_93, c_212, hlt]⟩⟩
    · skip
      refine lv_aload_n hx hb dM_signOne_96 rfl (lv_at hl 0 rfl) ?_
      refine M_getv hx hb K hM 13 (v := nI n) hQ.1.2.2 kM_f81 dM_signOne_97 (kk := ?_)
      refine lv_iconst (v := 1) hx hb dM_signOne_100 (by decide) ?_
      refine lv_isub hx hb dM_signOne_101 ?_
      refine lv_as (v := nI (n - 1)) (md_pred hn0) ?_
      refine lv_istore_n (lv' := [(2, .int (nI (n - 1))), (0, .ref o), (1, .int k)]) hx hb dM_signOne_102 rfl hl (by decide) rfl (fun ls hl => ?_)
      refine lv_aload_n hx hb dM_signOne_103 rfl (lv_at hl 1 rfl) ?_
      refine M_geta hx hb K hM 10 kM_f28 dM_signOne_104 (kk := ?_)
      refine lv_iload_n hx hb dM_signOne_107 rfl (lv_at hl 0 rfl) ?_
      refine lv_aload_n hx hb dM_signOne_108 rfl (lv_at hl 1 rfl) ?_
      refine M_geta hx hb K hM 10 kM_f28 dM_signOne_109 (kk := ?_)
      refine lv_iload_n hx hb dM_signOne_112 rfl (lv_at hl 0 rfl) ?_
      refine M_aldn hx hb K hM 10 (j := n - 1) (show n - 1 < 120 by omega) (v := fa 10 (n - 1)) rfl dM_signOne_113 (kk := ?_)
      refine lv_bipush (v := 10) hx hb dM_signOne_114 (by decide) ?_
      refine lv_imul hx hb dM_signOne_116 ?_
      refine lv_iload_n hx hb dM_signOne_117 rfl (lv_at hl 2 rfl) ?_
      refine lv_iadd hx hb dM_signOne_118 ?_
      refine lv_bipush (v := 48) hx hb dM_signOne_119 (by decide) ?_
      refine lv_isub hx hb dM_signOne_121 ?_
      refine M_astn hx hb K hM hS 10 (j := n - 1) (show n - 1 < 120 by omega) dM_signOne_122 (kk := fun H locs hM hS => ?_)
      refine lv_aload_n hx hb dM_signOne_123 rfl (lv_at hl 1 rfl) ?_
      refine M_geta hx hb K hM 11 kM_f31 dM_signOne_124 (kk := ?_)
      refine lv_iload_n hx hb dM_signOne_127 rfl (lv_at hl 0 rfl) ?_
      refine lv_dup2_11 hx hb dM_signOne_128 rfl rfl ?_
      refine M_aldn hx hb K hM 11 (j := n - 1) (show n - 1 < 120 by omega) (v := nI dg) hdg dM_signOne_129 (kk := ?_)
      refine lv_iconst (v := 1) hx hb dM_signOne_130 (by decide) ?_
      refine lv_iadd hx hb dM_signOne_131 ?_
      refine lv_as (v := nI (dg + 1)) (nI_1 dg) ?_
      refine M_astn hx hb K hM hS 11 (j := n - 1) (show n - 1 < 120 by omega) dM_signOne_132 (kk := fun H locs hM hS => ?_)
      refine lv_aload_n hx hb dM_signOne_133 rfl (lv_at hl 1 rfl) ?_
      refine M_geta hx hb K hM 11 kM_f31 dM_signOne_134 (kk := ?_)
      refine lv_iload_n hx hb dM_signOne_137 rfl (lv_at hl 0 rfl) ?_
      refine M_aldn hx hb K hM 11 (j := n - 1) (show n - 1 < 120 by omega) (v := nI (dg + 1)) upd_s dM_signOne_138 (kk := ?_)
      refine lv_iconst (v := 4) hx hb dM_signOne_139 (by decide) ?_
      refine lv_icmp_gt (tgt := 147) hx hb dM_signOne_140 (by decide) (fun c_140 => ?_) (fun c_140 => ?_)
      · skip
        have h4 : ¬ dg + 1 ≤ 4 := fun q => absurd c_140 (nI_nlt (a := 4) q (by decide))
        refine lv_iconst (v := 0) hx hb dM_signOne_147 (by decide) ?_
        refine W.zret (v := (0)) hx hb hr rfl (M_endi hM hK hS ?_) hS.2.2 dM_signOne_148
        exact ⟨⟨fun _ _ _ _ => rfl, rfl⟩, Or.inl ⟨rfl, by simp [md_sign, c_87, c_93, h4]⟩⟩
      · skip
        have h4 : dg + 1 ≤ 4 := by rcases Nat.lt_or_ge 4 (dg + 1) with q | q; exact absurd (nI_lt q (by omega)) c_140; exact q
        refine lv_iconst (v := 1) hx hb dM_signOne_143 (by decide) ?_
        refine lv_goto (tgt := 148) hx hb dM_signOne_144 (by decide) ?_
        refine W.zret (v := (1)) hx hb hr rfl (M_endi hM hK hS ?_) hS.2.2 dM_signOne_148
        exact ⟨⟨fun _ _ _ _ => rfl, rfl⟩, Or.inr ⟨rfl, ((d + 1), 4, n, pt, fw, mo, nm, dg + 1), by simp [md_sign, c_87, c_93, h4], op, mdQ_digit hQ h4 rfl rfl rfl rfl rfl rfl rfl upd_s⟩⟩
set_option maxHeartbeats 4000000 in
set_option maxRecDepth 100000 in
theorem c_sign00 (l : Launch) (D : va_G) (cl : List vw_C) (tys : List (ClassId × FieldType)) (A : Nat → Prop) (ci tI tZ : Nat) (cI cZ : ClassId) (o : Nat) (ad : Nat → Nat) (fi : Nat → Int32) (fa : Nat → Nat → Int32) (k : Int32) (op : Nat → Nat) (n : Nat) (pt fw mo : Nat → Nat) (nm : List Nat) (dg : Nat) (hQ : mdQ fi fa op 0 0 n pt fw mo nm dg) (hn : n < 120) :
    Met l yM_signOne (.code yM_signOne bM_signOne 3 (some .boolean) :: lw_g) ({ frames := 2, cells := 0, slots := 0, locals := 44 }) (va_Pc [.ref o, .int k] (mdPre D cl tys A ci tI tZ cI cZ o ad fi fa)) (va_Qi (md_rez (md_sign k (0, 0, n, pt, fw, mo, nm, dg)) fi fa) (mdB D cl tys A ci cI cZ o ad) A) 0 0 A := by
  refine Met.ofW (cc := bM_signOne) (maxL := 3) (ret := (some .boolean)) (by decide) rfl ?_
  intro p e s m args below meth c s₁ B hml hv
  obtain ⟨rfl, hM, hK, hc, hI, hZ⟩ := hv
  have hx := B.exec
  have hb := B.bytes
  have hr := B.returns
  have hts := atoms_spec (ws := (.code yM_signOne bM_signOne 3 (some .boolean) :: lw_g)) B.pre
  have hown : s.vm.findClass RM = some m.cls := findClass_of_methodNamed B.named
  have K : mdC D cl tys ci tI tZ cI cZ s m _ := ⟨fun w h => hts w (List.mem_cons_of_mem _ h), hown, hK, hc, hI, hZ⟩
  have hlocks := B.notSynchronized
  have hS : va_S A s.heap s.heap [] := va_S.rf
  have hl := lv_entry ([.ref o, .int k]) (n := 3) (Nat.le_of_ble_eq_true rfl)
  rw [lg_entry_eq]
  generalize (lg_sl ([.ref o, .int k]) ++ List.replicate (3 - (lg_sl ([.ref o, .int k])).length) Slot.unset).toArray = ls at hl ⊢
  have hl : lv_has ls 3 [(0, .ref o), (1, .int k)] := hl
  have hn2 := hQ.2.1.2.1
  refine lv_aload_n hx hb dM_signOne_0 rfl (lv_at hl 0 rfl) ?_
  refine M_getv hx hb K hM 8 (v := nI 0) hQ.1.2.1 kM_f87 dM_signOne_1 (kk := ?_)
  refine lv_bipush (v := 6) hx hb dM_signOne_4 (by decide) ?_
  refine lv_icmp_ne (tgt := 11) hx hb dM_signOne_6 (by decide) (fun c_6 => ?_) (fun c_6 => absurd c_6 (by decide))
  refine lv_aload_n hx hb dM_signOne_11 rfl (lv_at hl 0 rfl) ?_
  refine M_getv hx hb K hM 8 (v := nI 0) hQ.1.2.1 kM_f87 dM_signOne_12 (kk := ?_)
  refine lv_iconst (v := 2) hx hb dM_signOne_15 (by decide) ?_
  refine lv_icmp_ne (tgt := 62) hx hb dM_signOne_16 (by decide) (fun c_16 => ?_) (fun c_16 => absurd c_16 (by decide))
  refine lv_aload_n hx hb dM_signOne_62 rfl (lv_at hl 0 rfl) ?_
  refine M_getv hx hb K hM 8 (v := nI 0) hQ.1.2.1 kM_f87 dM_signOne_63 (kk := ?_)
  refine lv_iconst (v := 3) hx hb dM_signOne_66 (by decide) ?_
  refine lv_icmp_ne (tgt := 76) hx hb dM_signOne_67 (by decide) (fun c_67 => ?_) (fun c_67 => absurd c_67 (by decide))
  refine lv_aload_n hx hb dM_signOne_76 rfl (lv_at hl 0 rfl) ?_
  refine M_getv hx hb K hM 8 (v := nI 0) hQ.1.2.1 kM_f87 dM_signOne_77 (kk := ?_)
  refine lv_iconst (v := 4) hx hb dM_signOne_80 (by decide) ?_
  refine lv_icmp_ne (tgt := 149) hx hb dM_signOne_81 (by decide) (fun c_81 => ?_) (fun c_81 => absurd c_81 (by decide))
  refine lv_aload_n hx hb dM_signOne_149 rfl (lv_at hl 0 rfl) ?_
  refine M_getv hx hb K hM 7 (v := nI 0) hQ.1.1 kM_f84 dM_signOne_150 (kk := ?_)
  refine lv_if_ne (tgt := 177) hx hb dM_signOne_153 (by decide) (fun c_153 => absurd (by decide) c_153) (fun c_153 => ?_)
  refine lv_aload_n hx hb dM_signOne_156 rfl (lv_at hl 0 rfl) ?_
  refine M_getv hx hb K hM 8 (v := nI 0) hQ.1.2.1 kM_f87 dM_signOne_157 (kk := ?_)
  refine lv_if_ne (tgt := 175) hx hb dM_signOne_160 (by decide) (fun c_160 => absurd (by decide) c_160) (fun c_160 => ?_)
  refine lv_aload_n hx hb dM_signOne_163 rfl (lv_at hl 0 rfl) ?_
  refine lv_iload_n hx hb dM_signOne_164 rfl (lv_at hl 1 rfl) ?_
  refine va_calli (M_run (As := [.int k]) (rest := []) (n := 1) hx hb hml K hM (c_begin0 l D cl tys A ci tI tZ cI cZ o ad _ _ k op 0 n pt fw mo nm dg hQ hn) kM_c_begin kM_m106 kM_i_begin kM_s_begin rfl rfl ⟨rfl, by decide +kernel⟩ ⟨Nat.le_of_ble_eq_true rfl, Nat.le_of_ble_eq_true rfl⟩ rfl hl.1 rfl (lv_room (Nat.le_of_ble_eq_true rfl)) dM_signOne_165 ⟨Nat.le_of_ble_eq_true rfl, Nat.le_of_ble_eq_true rfl⟩) hS (fun q _ h => h) (fun q h => h) (fun r u t H1 locs1 ht hvm hw hB hz hk hS => ?_)
  obtain ⟨hM, -⟩ := hB
  rw [ht] at hM
  obtain ⟨hFr, ⟨rfl, hv, rfl⟩ | ⟨rfl, t9, hv, hq9⟩⟩ := hw
  · skip
    refine lv_if_eq (tgt := 175) hx hb dM_signOne_168 (by decide) (fun c_168 => ?_) (fun c_168 => absurd rfl c_168)
    refine lv_iconst (v := 0) hx hb dM_signOne_175 (by decide) ?_
    refine W.zret (v := (0)) hx hb hr rfl (M_endi hM hK hS ?_) hS.2.2 dM_signOne_176
    exact ⟨hFr, Or.inl ⟨rfl, by simpa [md_sign] using hv⟩⟩
  · skip
    refine lv_if_eq (tgt := 175) hx hb dM_signOne_168 (by decide) (fun c_168 => absurd c_168 (by decide)) (fun c_168 => ?_)
    refine lv_iconst (v := 1) hx hb dM_signOne_171 (by decide) ?_
    refine lv_goto (tgt := 176) hx hb dM_signOne_172 (by decide) ?_
    refine W.zret (v := (1)) hx hb hr rfl (M_endi hM hK hS ?_) hS.2.2 dM_signOne_176
    exact ⟨hFr, Or.inr ⟨rfl, t9, by simpa [md_sign] using hv, hq9⟩⟩
set_option maxHeartbeats 4000000 in
set_option maxRecDepth 100000 in
theorem c_sign0S (l : Launch) (D : va_G) (cl : List vw_C) (tys : List (ClassId × FieldType)) (A : Nat → Prop) (ci tI tZ : Nat) (cI cZ : ClassId) (o : Nat) (ad : Nat → Nat) (fi : Nat → Int32) (fa : Nat → Nat → Int32) (k : Int32) (op : Nat → Nat) (d n : Nat) (pt fw mo : Nat → Nat) (nm : List Nat) (dg : Nat) (hQ : mdQ fi fa op (d + 1) 0 n pt fw mo nm dg) (hn : n < 120) :
    Met l yM_signOne (.code yM_signOne bM_signOne 3 (some .boolean) :: lw_g) ({ frames := 2, cells := 0, slots := 0, locals := 44 }) (va_Pc [.ref o, .int k] (mdPre D cl tys A ci tI tZ cI cZ o ad fi fa)) (va_Qi (md_rez (md_sign k (d + 1, 0, n, pt, fw, mo, nm, dg)) fi fa) (mdB D cl tys A ci cI cZ o ad) A) 0 0 A := by
  refine Met.ofW (cc := bM_signOne) (maxL := 3) (ret := (some .boolean)) (by decide) rfl ?_
  intro p e s m args below meth c s₁ B hml hv
  obtain ⟨rfl, hM, hK, hc, hI, hZ⟩ := hv
  have hx := B.exec
  have hb := B.bytes
  have hr := B.returns
  have hts := atoms_spec (ws := (.code yM_signOne bM_signOne 3 (some .boolean) :: lw_g)) B.pre
  have hown : s.vm.findClass RM = some m.cls := findClass_of_methodNamed B.named
  have K : mdC D cl tys ci tI tZ cI cZ s m _ := ⟨fun w h => hts w (List.mem_cons_of_mem _ h), hown, hK, hc, hI, hZ⟩
  have hlocks := B.notSynchronized
  have hS : va_S A s.heap s.heap [] := va_S.rf
  have hl := lv_entry ([.ref o, .int k]) (n := 3) (Nat.le_of_ble_eq_true rfl)
  rw [lg_entry_eq]
  generalize (lg_sl ([.ref o, .int k]) ++ List.replicate (3 - (lg_sl ([.ref o, .int k])).length) Slot.unset).toArray = ls at hl ⊢
  have hl : lv_has ls 3 [(0, .ref o), (1, .int k)] := hl
  have hn2 := hQ.2.1.2.1
  have hd11 : d + 1 ≤ 12 := hQ.2.1.1
  have hod := (hQ.2.2.1 d (by omega)).1.2
  have hpm := (hQ.2.2.1 d (by omega)).2.2
  refine lv_aload_n hx hb dM_signOne_0 rfl (lv_at hl 0 rfl) ?_
  refine M_getv hx hb K hM 8 (v := nI 0) hQ.1.2.1 kM_f87 dM_signOne_1 (kk := ?_)
  refine lv_bipush (v := 6) hx hb dM_signOne_4 (by decide) ?_
  refine lv_icmp_ne (tgt := 11) hx hb dM_signOne_6 (by decide) (fun c_6 => ?_) (fun c_6 => absurd c_6 (by decide))
  refine lv_aload_n hx hb dM_signOne_11 rfl (lv_at hl 0 rfl) ?_
  refine M_getv hx hb K hM 8 (v := nI 0) hQ.1.2.1 kM_f87 dM_signOne_12 (kk := ?_)
  refine lv_iconst (v := 2) hx hb dM_signOne_15 (by decide) ?_
  refine lv_icmp_ne (tgt := 62) hx hb dM_signOne_16 (by decide) (fun c_16 => ?_) (fun c_16 => absurd c_16 (by decide))
  refine lv_aload_n hx hb dM_signOne_62 rfl (lv_at hl 0 rfl) ?_
  refine M_getv hx hb K hM 8 (v := nI 0) hQ.1.2.1 kM_f87 dM_signOne_63 (kk := ?_)
  refine lv_iconst (v := 3) hx hb dM_signOne_66 (by decide) ?_
  refine lv_icmp_ne (tgt := 76) hx hb dM_signOne_67 (by decide) (fun c_67 => ?_) (fun c_67 => absurd c_67 (by decide))
  refine lv_aload_n hx hb dM_signOne_76 rfl (lv_at hl 0 rfl) ?_
  refine M_getv hx hb K hM 8 (v := nI 0) hQ.1.2.1 kM_f87 dM_signOne_77 (kk := ?_)
  refine lv_iconst (v := 4) hx hb dM_signOne_80 (by decide) ?_
  refine lv_icmp_ne (tgt := 149) hx hb dM_signOne_81 (by decide) (fun c_81 => ?_) (fun c_81 => absurd c_81 (by decide))
  refine lv_aload_n hx hb dM_signOne_149 rfl (lv_at hl 0 rfl) ?_
  refine M_getv hx hb K hM 7 (v := nI (d + 1)) hQ.1.1 kM_f84 dM_signOne_150 (kk := ?_)
  refine lv_if_ne (tgt := 177) hx hb dM_signOne_153 (by decide) (fun c_153 => ?_) (fun c_153 => absurd c_153 (nI_ne0 (Nat.succ_pos d) (by omega)))
  refine lv_aload_n hx hb dM_signOne_177 rfl (lv_at hl 0 rfl) ?_
  refine M_getv hx hb K hM 8 (v := nI 0) hQ.1.2.1 kM_f87 dM_signOne_178 (kk := ?_)
  refine lv_iconst (v := 1) hx hb dM_signOne_181 (by decide) ?_
  refine lv_icmp_ne (tgt := 201) hx hb dM_signOne_182 (by decide) (fun c_182 => ?_) (fun c_182 => absurd c_182 (by decide))
  refine lv_aload_n hx hb dM_signOne_201 rfl (lv_at hl 0 rfl) ?_
  refine M_getv hx hb K hM 8 (v := nI 0) hQ.1.2.1 kM_f87 dM_signOne_202 (kk := ?_)
  refine lv_iconst (v := 1) hx hb dM_signOne_205 (by decide) ?_
  refine lv_icmp_eq (tgt := 267) hx hb dM_signOne_206 (by decide) (fun c_206 => absurd c_206 (by decide)) (fun c_206 => ?_)
  refine lv_iload_n hx hb dM_signOne_209 rfl (lv_at hl 1 rfl) ?_
  refine lv_bipush (v := 41) hx hb dM_signOne_210 (by decide) ?_
  refine lv_icmp_ne (tgt := 267) hx hb dM_signOne_212 (by decide) (fun c_212 => ?_) (fun c_212 => ?_)
  · skip
    refine lv_aload_n hx hb dM_signOne_267 rfl (lv_at hl 0 rfl) ?_
    refine lv_iconst (v := 0) hx hb dM_signOne_268 (by decide) ?_
    refine M_puti hx hb K hM hS 8 kM_f87 dM_signOne_269 (kk := fun H locs hM hS => ?_)
    refine lv_iload_n hx hb dM_signOne_272 rfl (lv_at hl 1 rfl) ?_
    refine lv_bipush (v := 32) hx hb dM_signOne_273 (by decide) ?_
    refine lv_icmp_eq (tgt := 286) hx hb dM_signOne_275 (by decide) (fun c_275 => ?_) (fun c_275 => ?_)
    · skip
      refine lv_iconst (v := 1) hx hb dM_signOne_286 (by decide) ?_
      refine lv_goto (tgt := 291) hx hb dM_signOne_287 (by decide) ?_
      refine W.zret (v := (1)) hx hb hr rfl (M_endi hM hK hS ?_) hS.2.2 dM_signOne_291
      exact ⟨⟨fun j h1 h2 h3 => by simp only [up_n h1, up_n h2, up_n h3], rfl⟩, Or.inr ⟨rfl, (d + 1, 0, n, pt, fw, mo, nm, dg), by simp [md_sign, c_212, c_275], op, mdQ_mode0 hQ rfl rfl rfl rfl rfl rfl rfl⟩⟩
    · skip
      refine lv_aload_n hx hb dM_signOne_278 rfl (lv_at hl 0 rfl) ?_
      refine lv_iload_n hx hb dM_signOne_279 rfl (lv_at hl 1 rfl) ?_
      refine va_calli (M_run (As := [.int k]) (rest := []) (n := 1) hx hb hml K hM (c_beginS l D cl tys A ci tI tZ cI cZ o ad _ _ k op d 0 n pt fw mo nm dg (mdQ_mode0 hQ rfl rfl rfl rfl rfl rfl rfl) hn) kM_c_begin kM_m106 kM_i_begin kM_s_begin rfl rfl ⟨rfl, by decide +kernel⟩ ⟨Nat.le_of_ble_eq_true rfl, Nat.le_of_ble_eq_true rfl⟩ rfl hl.1 rfl (lv_room (Nat.le_of_ble_eq_true rfl)) dM_signOne_280 ⟨Nat.le_of_ble_eq_true rfl, Nat.le_of_ble_eq_true rfl⟩) hS (fun q _ h => h) (fun q h => h) (fun r u t H1 locs1 ht hvm hw hB hz hk hS => ?_)
      obtain ⟨hM, -⟩ := hB
      rw [ht] at hM
      obtain ⟨hFr, ⟨rfl, hv, rfl⟩ | ⟨rfl, t9, hv, hq9⟩⟩ := hw
      · skip
        refine lv_if_eq (tgt := 290) hx hb dM_signOne_283 (by decide) (fun c_283 => ?_) (fun c_283 => absurd rfl c_283)
        refine lv_iconst (v := 0) hx hb dM_signOne_290 (by decide) ?_
        refine W.zret (v := (0)) hx hb hr rfl (M_endi hM hK hS ?_) hS.2.2 dM_signOne_291
        exact ⟨(hFr.m0), Or.inl ⟨rfl, by simpa [md_sign, c_212, c_275] using hv⟩⟩
      · skip
        refine lv_if_eq (tgt := 290) hx hb dM_signOne_283 (by decide) (fun c_283 => absurd c_283 (by decide)) (fun c_283 => ?_)
        refine lv_iconst (v := 1) hx hb dM_signOne_286 (by decide) ?_
        refine lv_goto (tgt := 291) hx hb dM_signOne_287 (by decide) ?_
        refine W.zret (v := (1)) hx hb hr rfl (M_endi hM hK hS ?_) hS.2.2 dM_signOne_291
        exact ⟨(hFr.m0), Or.inr ⟨rfl, t9, by simpa [md_sign, c_212, c_275] using hv, hq9⟩⟩
  · skip
    refine lv_aload_n hx hb dM_signOne_215 rfl (lv_at hl 0 rfl) ?_
    refine M_geta hx hb K hM 4 kM_f16 dM_signOne_216 (kk := ?_)
    refine lv_aload_n hx hb dM_signOne_219 rfl (lv_at hl 0 rfl) ?_
    refine M_getv hx hb K hM 7 (v := nI (d + 1)) hQ.1.1 kM_f84 dM_signOne_220 (kk := ?_)
    refine lv_iconst (v := 1) hx hb dM_signOne_223 (by decide) ?_
    refine lv_isub hx hb dM_signOne_224 ?_
    refine lv_as (v := nI d) (nI_pred d) ?_
    refine M_aldn hx hb K hM 4 (j := d) (show d < 13 by omega) (v := nI (pt d)) (hQ.2.2.1 d (by omega)).2.1.1 dM_signOne_225 (kk := ?_)
    refine lv_aload_n hx hb dM_signOne_226 rfl (lv_at hl 0 rfl) ?_
    refine M_geta hx hb K hM 5 kM_f19 dM_signOne_227 (kk := ?_)
    refine lv_aload_n hx hb dM_signOne_230 rfl (lv_at hl 0 rfl) ?_
    refine M_getv hx hb K hM 7 (v := nI (d + 1)) hQ.1.1 kM_f84 dM_signOne_231 (kk := ?_)
    refine lv_iconst (v := 1) hx hb dM_signOne_234 (by decide) ?_
    refine lv_isub hx hb dM_signOne_235 ?_
    refine lv_as (v := nI d) (nI_pred d) ?_
    refine M_aldn hx hb K hM 5 (j := d) (show d < 13 by omega) (v := nI (fw d)) (hQ.2.2.1 d (by omega)).2.1.2.1 dM_signOne_236 (kk := ?_)
    refine lv_icmp_ge (tgt := 242) hx hb dM_signOne_237 (by decide) (fun c_237 => ?_) (fun c_237 => ?_)
    · skip
      have hlt : ¬ pt d < fw d := fun q => absurd c_237 (nI_ge q (by omega))
      refine lv_aload_n hx hb dM_signOne_242 rfl (lv_at hl 0 rfl) ?_
      refine lv_dup hx hb dM_signOne_243 rfl ?_
      refine M_getv hx hb K hM 7 (v := nI (d + 1)) hQ.1.1 kM_f84 dM_signOne_244 (kk := ?_)
      refine lv_iconst (v := 1) hx hb dM_signOne_247 (by decide) ?_
      refine lv_isub hx hb dM_signOne_248 ?_
      refine lv_as (v := nI d) (nI_pred d) ?_
      refine M_puti hx hb K hM hS 7 kM_f84 dM_signOne_249 (kk := fun H locs hM hS => ?_)
      refine lv_aload_n hx hb dM_signOne_252 rfl (lv_at hl 0 rfl) ?_
      refine lv_aload_n hx hb dM_signOne_253 rfl (lv_at hl 0 rfl) ?_
      refine M_geta hx hb K hM 3 kM_f13 dM_signOne_254 (kk := ?_)
      refine lv_aload_n hx hb dM_signOne_257 rfl (lv_at hl 0 rfl) ?_
      refine M_getv hx hb K hM 7 (v := nI d) rfl kM_f84 dM_signOne_258 (kk := ?_)
      refine M_aldn hx hb K hM 3 (j := d) (show d < 13 by omega) (v := nI (op d)) (hQ.2.2.1 d (by omega)).1.1 dM_signOne_261 (kk := ?_)
      refine va_callv (M_run (As := [.int (nI (op d))]) (rest := []) (n := 1) hx hb hml K hM (c_attachC l D cl tys A ci tI tZ cI cZ o ad _ _ (nI (op d)) d op pt rfl (by omega) (fun h => by have q := hQ.2.2.1 (d - 1) (by omega); have q2 := hQ.2.2.2.1 (d - 1) (by omega); exact ⟨q.1.1, by omega, q.2.1.1, by omega⟩)) kM_c_attach kM_m94 kM_i_attach kM_s_attach rfl rfl ⟨rfl, by decide +kernel⟩ ⟨Nat.le_of_ble_eq_true rfl, Nat.le_of_ble_eq_true rfl⟩ rfl hl.1 rfl (lv_room (Nat.le_of_ble_eq_true rfl)) dM_signOne_262 ⟨Nat.le_of_ble_eq_true rfl, Nat.le_of_ble_eq_true rfl⟩) hS (fun q _ h => h) (fun q h => h) (fun u t H1 locs1 ht hvm hw hB hz hk hS => ?_)
      obtain ⟨hM, -⟩ := hB
      rw [ht] at hM
      obtain ⟨rfl, rfl⟩ | ⟨h0, g, rfl⟩ := hw
      · skip
        dsimp only at hM
        refine lv_iconst (v := 1) hx hb dM_signOne_265 (by decide) ?_
        refine W.zret (v := (1)) hx hb hr rfl (M_endi hM hK hS ?_) hS.2.2 dM_signOne_266
        exact ⟨⟨fun j h1 h2 h3 => by simp only [up_n h1, up_n h2, up_n h3], rfl⟩, Or.inr ⟨rfl, (0, 6, n, pt, fw, mo, nm, dg), by simp [md_sign, md_add, c_212, hlt], op, mdQ_close0 hQ rfl rfl rfl⟩⟩
      · skip
        obtain ⟨e2, rfl⟩ : ∃ z, d = z + 1 := ⟨d - 1, by omega⟩
        dsimp only at hM
        refine lv_iconst (v := 1) hx hb dM_signOne_265 (by decide) ?_
        refine W.zret (v := (1)) hx hb hr rfl (M_endi hM hK hS ?_) hS.2.2 dM_signOne_266
        exact ⟨⟨fun j h1 h2 h3 => by simp only [up_n h1, up_n h2, up_n h3], rfl⟩, Or.inr ⟨rfl, (e2 + 1, 0, n, va_up pt e2 (pt e2 + 1), fw, mo, nm, dg), by simp [md_sign, md_add, c_212, hlt], op, mdQ_closeS hQ rfl rfl rfl rfl rfl rfl rfl⟩⟩
    · skip
      have hlt : pt d < fw d := by rcases Nat.lt_or_ge (pt d) (fw d) with q | q; exact q; exact absurd (nI_le q (by omega)) c_237
      refine lv_iconst (v := 0) hx hb dM_signOne_240 (by decide) ?_
      refine W.zret (v := (0)) hx hb hr rfl (M_endi hM hK hS ?_) hS.2.2 dM_signOne_241
      exact ⟨mdFr.rf, Or.inl ⟨rfl, by simp [md_sign, c_212, hlt]⟩⟩
set_option maxHeartbeats 4000000 in
set_option maxRecDepth 100000 in
theorem c_sign1S (l : Launch) (D : va_G) (cl : List vw_C) (tys : List (ClassId × FieldType)) (A : Nat → Prop) (ci tI tZ : Nat) (cI cZ : ClassId) (o : Nat) (ad : Nat → Nat) (fi : Nat → Int32) (fa : Nat → Nat → Int32) (k : Int32) (op : Nat → Nat) (d n : Nat) (pt fw mo : Nat → Nat) (nm : List Nat) (dg : Nat) (hQ : mdQ fi fa op (d + 1) 1 n pt fw mo nm dg) (hn : n < 120) :
    Met l yM_signOne (.code yM_signOne bM_signOne 3 (some .boolean) :: lw_g) ({ frames := 2, cells := 0, slots := 0, locals := 44 }) (va_Pc [.ref o, .int k] (mdPre D cl tys A ci tI tZ cI cZ o ad fi fa)) (va_Qi (md_rez (md_sign k (d + 1, 1, n, pt, fw, mo, nm, dg)) fi fa) (mdB D cl tys A ci cI cZ o ad) A) 0 0 A := by
  refine Met.ofW (cc := bM_signOne) (maxL := 3) (ret := (some .boolean)) (by decide) rfl ?_
  intro p e s m args below meth c s₁ B hml hv
  obtain ⟨rfl, hM, hK, hc, hI, hZ⟩ := hv
  have hx := B.exec
  have hb := B.bytes
  have hr := B.returns
  have hts := atoms_spec (ws := (.code yM_signOne bM_signOne 3 (some .boolean) :: lw_g)) B.pre
  have hown : s.vm.findClass RM = some m.cls := findClass_of_methodNamed B.named
  have K : mdC D cl tys ci tI tZ cI cZ s m _ := ⟨fun w h => hts w (List.mem_cons_of_mem _ h), hown, hK, hc, hI, hZ⟩
  have hlocks := B.notSynchronized
  have hS : va_S A s.heap s.heap [] := va_S.rf
  have hl := lv_entry ([.ref o, .int k]) (n := 3) (Nat.le_of_ble_eq_true rfl)
  rw [lg_entry_eq]
  generalize (lg_sl ([.ref o, .int k]) ++ List.replicate (3 - (lg_sl ([.ref o, .int k])).length) Slot.unset).toArray = ls at hl ⊢
  have hl : lv_has ls 3 [(0, .ref o), (1, .int k)] := hl
  have hn2 := hQ.2.1.2.1
  have hd11 : d + 1 ≤ 12 := hQ.2.1.1
  have hod := (hQ.2.2.1 d (by omega)).1.2
  have hpm := (hQ.2.2.1 d (by omega)).2.2
  refine lv_aload_n hx hb dM_signOne_0 rfl (lv_at hl 0 rfl) ?_
  refine M_getv hx hb K hM 8 (v := nI 1) hQ.1.2.1 kM_f87 dM_signOne_1 (kk := ?_)
  refine lv_bipush (v := 6) hx hb dM_signOne_4 (by decide) ?_
  refine lv_icmp_ne (tgt := 11) hx hb dM_signOne_6 (by decide) (fun c_6 => ?_) (fun c_6 => absurd c_6 (by decide))
  refine lv_aload_n hx hb dM_signOne_11 rfl (lv_at hl 0 rfl) ?_
  refine M_getv hx hb K hM 8 (v := nI 1) hQ.1.2.1 kM_f87 dM_signOne_12 (kk := ?_)
  refine lv_iconst (v := 2) hx hb dM_signOne_15 (by decide) ?_
  refine lv_icmp_ne (tgt := 62) hx hb dM_signOne_16 (by decide) (fun c_16 => ?_) (fun c_16 => absurd c_16 (by decide))
  refine lv_aload_n hx hb dM_signOne_62 rfl (lv_at hl 0 rfl) ?_
  refine M_getv hx hb K hM 8 (v := nI 1) hQ.1.2.1 kM_f87 dM_signOne_63 (kk := ?_)
  refine lv_iconst (v := 3) hx hb dM_signOne_66 (by decide) ?_
  refine lv_icmp_ne (tgt := 76) hx hb dM_signOne_67 (by decide) (fun c_67 => ?_) (fun c_67 => absurd c_67 (by decide))
  refine lv_aload_n hx hb dM_signOne_76 rfl (lv_at hl 0 rfl) ?_
  refine M_getv hx hb K hM 8 (v := nI 1) hQ.1.2.1 kM_f87 dM_signOne_77 (kk := ?_)
  refine lv_iconst (v := 4) hx hb dM_signOne_80 (by decide) ?_
  refine lv_icmp_ne (tgt := 149) hx hb dM_signOne_81 (by decide) (fun c_81 => ?_) (fun c_81 => absurd c_81 (by decide))
  refine lv_aload_n hx hb dM_signOne_149 rfl (lv_at hl 0 rfl) ?_
  refine M_getv hx hb K hM 7 (v := nI (d + 1)) hQ.1.1 kM_f84 dM_signOne_150 (kk := ?_)
  refine lv_if_ne (tgt := 177) hx hb dM_signOne_153 (by decide) (fun c_153 => ?_) (fun c_153 => absurd c_153 (nI_ne0 (Nat.succ_pos d) (by omega)))
  refine lv_aload_n hx hb dM_signOne_177 rfl (lv_at hl 0 rfl) ?_
  refine M_getv hx hb K hM 8 (v := nI 1) hQ.1.2.1 kM_f87 dM_signOne_178 (kk := ?_)
  refine lv_iconst (v := 1) hx hb dM_signOne_181 (by decide) ?_
  refine lv_icmp_ne (tgt := 201) hx hb dM_signOne_182 (by decide) (fun c_182 => absurd (by decide) c_182) (fun c_182 => ?_)
  refine lv_iload_n hx hb dM_signOne_185 rfl (lv_at hl 1 rfl) ?_
  refine lv_bipush (v := 32) hx hb dM_signOne_186 (by decide) ?_
  refine lv_icmp_eq (tgt := 201) hx hb dM_signOne_188 (by decide) (fun c_188 => ?_) (fun c_188 => ?_)
  · skip
    refine lv_aload_n hx hb dM_signOne_201 rfl (lv_at hl 0 rfl) ?_
    refine M_getv hx hb K hM 8 (v := nI 1) hQ.1.2.1 kM_f87 dM_signOne_202 (kk := ?_)
    refine lv_iconst (v := 1) hx hb dM_signOne_205 (by decide) ?_
    refine lv_icmp_eq (tgt := 267) hx hb dM_signOne_206 (by decide) (fun c_206 => ?_) (fun c_206 => absurd (by decide) c_206)
    refine lv_aload_n hx hb dM_signOne_267 rfl (lv_at hl 0 rfl) ?_
    refine lv_iconst (v := 0) hx hb dM_signOne_268 (by decide) ?_
    refine M_puti hx hb K hM hS 8 kM_f87 dM_signOne_269 (kk := fun H locs hM hS => ?_)
    refine lv_iload_n hx hb dM_signOne_272 rfl (lv_at hl 1 rfl) ?_
    refine lv_bipush (v := 32) hx hb dM_signOne_273 (by decide) ?_
    refine lv_icmp_eq (tgt := 286) hx hb dM_signOne_275 (by decide) (fun c_275 => ?_) (fun c_275 => ?_)
    · skip
      refine lv_iconst (v := 1) hx hb dM_signOne_286 (by decide) ?_
      refine lv_goto (tgt := 291) hx hb dM_signOne_287 (by decide) ?_
      refine W.zret (v := (1)) hx hb hr rfl (M_endi hM hK hS ?_) hS.2.2 dM_signOne_291
      exact ⟨⟨fun j h1 h2 h3 => by simp only [up_n h1, up_n h2, up_n h3], rfl⟩, Or.inr ⟨rfl, (d + 1, 0, n, pt, fw, mo, nm, dg), by simp [md_sign, c_188, c_275], op, mdQ_mode0 hQ rfl rfl rfl rfl rfl rfl rfl⟩⟩
    · skip
      refine lv_aload_n hx hb dM_signOne_278 rfl (lv_at hl 0 rfl) ?_
      refine lv_iload_n hx hb dM_signOne_279 rfl (lv_at hl 1 rfl) ?_
      refine va_calli (M_run (As := [.int k]) (rest := []) (n := 1) hx hb hml K hM (c_beginS l D cl tys A ci tI tZ cI cZ o ad _ _ k op d 0 n pt fw mo nm dg (mdQ_mode0 hQ rfl rfl rfl rfl rfl rfl rfl) hn) kM_c_begin kM_m106 kM_i_begin kM_s_begin rfl rfl ⟨rfl, by decide +kernel⟩ ⟨Nat.le_of_ble_eq_true rfl, Nat.le_of_ble_eq_true rfl⟩ rfl hl.1 rfl (lv_room (Nat.le_of_ble_eq_true rfl)) dM_signOne_280 ⟨Nat.le_of_ble_eq_true rfl, Nat.le_of_ble_eq_true rfl⟩) hS (fun q _ h => h) (fun q h => h) (fun r u t H1 locs1 ht hvm hw hB hz hk hS => ?_)
      obtain ⟨hM, -⟩ := hB
      rw [ht] at hM
      obtain ⟨hFr, ⟨rfl, hv, rfl⟩ | ⟨rfl, t9, hv, hq9⟩⟩ := hw
      · skip
        refine lv_if_eq (tgt := 290) hx hb dM_signOne_283 (by decide) (fun c_283 => ?_) (fun c_283 => absurd rfl c_283)
        refine lv_iconst (v := 0) hx hb dM_signOne_290 (by decide) ?_
        refine W.zret (v := (0)) hx hb hr rfl (M_endi hM hK hS ?_) hS.2.2 dM_signOne_291
        exact absurd c_188 c_275
      · skip
        refine lv_if_eq (tgt := 290) hx hb dM_signOne_283 (by decide) (fun c_283 => absurd c_283 (by decide)) (fun c_283 => ?_)
        refine lv_iconst (v := 1) hx hb dM_signOne_286 (by decide) ?_
        refine lv_goto (tgt := 291) hx hb dM_signOne_287 (by decide) ?_
        refine W.zret (v := (1)) hx hb hr rfl (M_endi hM hK hS ?_) hS.2.2 dM_signOne_291
        exact absurd c_188 c_275
  · skip
    refine lv_aload_n hx hb dM_signOne_191 rfl (lv_at hl 0 rfl) ?_
    refine lv_iload_n hx hb dM_signOne_192 rfl (lv_at hl 1 rfl) ?_
    refine va_calli (M_run (As := [.int k]) (rest := []) (n := 1) hx hb hml K hM (c_operator l D cl tys A ci tI tZ cI cZ o ad _ _ k op d n pt fw mo nm dg hQ) kM_c_operator kM_m109 kM_i_operator kM_s_operator rfl rfl ⟨rfl, by decide +kernel⟩ ⟨Nat.le_of_ble_eq_true rfl, Nat.le_of_ble_eq_true rfl⟩ rfl hl.1 rfl (lv_room (Nat.le_of_ble_eq_true rfl)) dM_signOne_193 ⟨Nat.le_of_ble_eq_true rfl, Nat.le_of_ble_eq_true rfl⟩) hS (fun q _ h => h) (fun q h => h) (fun r u t H1 locs1 ht hvm hw hB hz hk hS => ?_)
    obtain ⟨hM, -⟩ := hB
    rw [ht] at hM
    obtain ⟨hFr, ⟨rfl, hv, rfl⟩ | ⟨rfl, t9, hv, hq9⟩⟩ := hw
    · skip
      dsimp only at hM
      have h0 : md_arN k = 0 := by simpa [md_oper] using hv
      refine lv_if_eq (tgt := 201) hx hb dM_signOne_196 (by decide) (fun c_196 => ?_) (fun c_196 => absurd rfl c_196)
      refine lv_aload_n hx hb dM_signOne_201 rfl (lv_at hl 0 rfl) ?_
      refine M_getv hx hb K hM 8 (v := nI 1) hQ.1.2.1 kM_f87 dM_signOne_202 (kk := ?_)
      refine lv_iconst (v := 1) hx hb dM_signOne_205 (by decide) ?_
      refine lv_icmp_eq (tgt := 267) hx hb dM_signOne_206 (by decide) (fun c_206 => ?_) (fun c_206 => absurd (by decide) c_206)
      refine lv_aload_n hx hb dM_signOne_267 rfl (lv_at hl 0 rfl) ?_
      refine lv_iconst (v := 0) hx hb dM_signOne_268 (by decide) ?_
      refine M_puti hx hb K hM hS 8 kM_f87 dM_signOne_269 (kk := fun H locs hM hS => ?_)
      refine lv_iload_n hx hb dM_signOne_272 rfl (lv_at hl 1 rfl) ?_
      refine lv_bipush (v := 32) hx hb dM_signOne_273 (by decide) ?_
      refine lv_icmp_eq (tgt := 286) hx hb dM_signOne_275 (by decide) (fun c_275 => ?_) (fun c_275 => ?_)
      · skip
        refine lv_iconst (v := 1) hx hb dM_signOne_286 (by decide) ?_
        refine lv_goto (tgt := 291) hx hb dM_signOne_287 (by decide) ?_
        refine W.zret (v := (1)) hx hb hr rfl (M_endi hM hK hS ?_) hS.2.2 dM_signOne_291
        exact ⟨⟨fun j h1 h2 h3 => by simp only [up_n h1, up_n h2, up_n h3], rfl⟩, Or.inr ⟨rfl, (d + 1, 0, n, pt, fw, mo, nm, dg), by simp [md_sign, c_188, c_275, h0], op, mdQ_mode0 hQ rfl rfl rfl rfl rfl rfl rfl⟩⟩
      · skip
        refine lv_aload_n hx hb dM_signOne_278 rfl (lv_at hl 0 rfl) ?_
        refine lv_iload_n hx hb dM_signOne_279 rfl (lv_at hl 1 rfl) ?_
        refine va_calli (M_run (As := [.int k]) (rest := []) (n := 1) hx hb hml K hM (c_beginS l D cl tys A ci tI tZ cI cZ o ad _ _ k op d 0 n pt fw mo nm dg (mdQ_mode0 hQ rfl rfl rfl rfl rfl rfl rfl) hn) kM_c_begin kM_m106 kM_i_begin kM_s_begin rfl rfl ⟨rfl, by decide +kernel⟩ ⟨Nat.le_of_ble_eq_true rfl, Nat.le_of_ble_eq_true rfl⟩ rfl hl.1 rfl (lv_room (Nat.le_of_ble_eq_true rfl)) dM_signOne_280 ⟨Nat.le_of_ble_eq_true rfl, Nat.le_of_ble_eq_true rfl⟩) hS (fun q _ h => h) (fun q h => h) (fun r u t H1 locs1 ht hvm hw hB hz hk hS => ?_)
        obtain ⟨hM, -⟩ := hB
        rw [ht] at hM
        obtain ⟨hFr, ⟨rfl, hv, rfl⟩ | ⟨rfl, t9, hv, hq9⟩⟩ := hw
        · skip
          refine lv_if_eq (tgt := 290) hx hb dM_signOne_283 (by decide) (fun c_283 => ?_) (fun c_283 => absurd rfl c_283)
          refine lv_iconst (v := 0) hx hb dM_signOne_290 (by decide) ?_
          refine W.zret (v := (0)) hx hb hr rfl (M_endi hM hK hS ?_) hS.2.2 dM_signOne_291
          exact ⟨(hFr.m0), Or.inl ⟨rfl, by simpa [md_sign, c_188, c_275, h0] using hv⟩⟩
        · skip
          refine lv_if_eq (tgt := 290) hx hb dM_signOne_283 (by decide) (fun c_283 => absurd c_283 (by decide)) (fun c_283 => ?_)
          refine lv_iconst (v := 1) hx hb dM_signOne_286 (by decide) ?_
          refine lv_goto (tgt := 291) hx hb dM_signOne_287 (by decide) ?_
          refine W.zret (v := (1)) hx hb hr rfl (M_endi hM hK hS ?_) hS.2.2 dM_signOne_291
          exact ⟨(hFr.m0), Or.inr ⟨rfl, t9, by simpa [md_sign, c_188, c_275, h0] using hv, hq9⟩⟩
    · skip
      have h0 : ¬ md_arN k = 0 := fun q => by simp [md_oper, q] at hv
      refine lv_if_eq (tgt := 201) hx hb dM_signOne_196 (by decide) (fun c_196 => absurd c_196 (by decide)) (fun c_196 => ?_)
      refine lv_iconst (v := 1) hx hb dM_signOne_199 (by decide) ?_
      refine W.zret (v := (1)) hx hb hr rfl (M_endi hM hK hS ?_) hS.2.2 dM_signOne_200
      exact ⟨hFr, Or.inr ⟨rfl, t9, by simpa [md_sign, c_188, h0] using hv, hq9⟩⟩
