abbrev MT : Type := Nat × Nat × Nat × (Nat → Nat) × (Nat → Nat) × (Nat → Nat) × List Nat × Nat
def mdQt (fi : Nat → Int32) (fa : Nat → Nat → Int32) : MT → Prop := fun (d, md, n, pt, fw, mo, nm, dg) => ∃ op, mdQ fi fa op d md n pt fw mo nm dg
/-- what a scan leaves as it was -/
def mdFr (fi : Nat → Int32) (fa : Nat → Nat → Int32) (S : (Nat → Int32) × (Nat → Nat → Int32)) : Prop := (∀ k, k ≠ 7 → k ≠ 8 → k ≠ 13 → S.1 k = fi k) ∧ S.2 1 = fa 1
def md_add (d : Nat) (pt : Nat → Nat) : Nat → Nat := if d = 0 then pt else va_up pt (d - 1) (pt (d - 1) + 1)
def md_begin (c : Int32) : MT → Option MT := fun (d, _, n, pt, fw, mo, nm, dg) =>
  if 0 < d ∧ pt (d - 1) = mo (d - 1) then none
  else if ¬ c < 48 ∧ ¬ 57 < c then some (d, 4, n + 1, md_add d pt, fw, mo, nm, 1)
  else if (¬ c < 97 ∧ c ≤ 122) ∨ c = 95 then some (d, (if d = 0 then 6 else 0), n + 1, md_add d pt, fw, mo, nm, dg)
  else if ¬ c = 40 ∨ d = 12 then none
  else some (d + 1, 1, n + 1, va_up pt d 0, va_up fw d 1, va_up mo d 4, nm, dg)
def md_res (v : Option MT) (fi : Nat → Int32) (fa : Nat → Nat → Int32) (r : Int32) (S : (Nat → Int32) × (Nat → Nat → Int32)) : Prop := mdFr fi fa S ∧ ((r = 0 ∧ v = none ∧ S = (fi, fa)) ∨ (r = 1 ∧ ∃ t, v = some t ∧ mdQt S.1 S.2 t))
theorem mdFr.rf {fi : Nat → Int32} {fa : Nat → Nat → Int32} : mdFr fi fa (fi, fa) := ⟨fun _ _ _ _ => rfl, rfl⟩
theorem md_no {v : Option MT} {fi : Nat → Int32} {fa : Nat → Nat → Int32} (h : v = none) : md_res v fi fa 0 (fi, fa) := ⟨mdFr.rf, Or.inl ⟨rfl, h, rfl⟩⟩
theorem up_n {α : Type} {f : Nat → α} {k j : Nat} {v : α} (h : j ≠ k) : va_up f k v j = f j := va_up_ne f v h
set_option maxHeartbeats 4000000 in
set_option maxRecDepth 100000 in
theorem c_begin0 (l : Launch) (D : va_G) (cl : List vw_C) (tys : List (ClassId × FieldType)) (A : Nat → Prop) (ci tI tZ : Nat) (cI cZ : ClassId) (o : Nat) (ad : Nat → Nat) (fi : Nat → Int32) (fa : Nat → Nat → Int32) (k : Int32) (op : Nat → Nat) (md n : Nat) (pt fw mo : Nat → Nat) (nm : List Nat) (dg : Nat) (hQ : mdQ fi fa op 0 md n pt fw mo nm dg) (hn : n < 120) :
    Met l yM_begin (.code yM_begin bM_begin 3 (some .boolean) :: lw_g) ({ frames := 1, cells := 0, slots := 0, locals := 22 }) (va_Pc [.ref o, .int k] (mdPre D cl tys A ci tI tZ cI cZ o ad fi fa)) (va_Qi (md_res (md_begin k (0, md, n, pt, fw, mo, nm, dg)) fi fa) (mdB D cl tys A ci cI cZ o ad) A) 0 0 A := by
  refine Met.ofW (cc := bM_begin) (maxL := 3) (ret := (some .boolean)) (by decide) rfl ?_
  intro p e s m args below meth c s₁ B hml hv
  obtain ⟨rfl, hM, hK, hc, hI, hZ⟩ := hv
  have hx := B.exec
  have hb := B.bytes
  have hr := B.returns
  have hts := atoms_spec (ws := (.code yM_begin bM_begin 3 (some .boolean) :: lw_g)) B.pre
  have hown : s.vm.findClass RM = some m.cls := findClass_of_methodNamed B.named
  have K : mdC D cl tys ci tI tZ cI cZ s m _ := ⟨fun w h => hts w (List.mem_cons_of_mem _ h), hown, hK, hc, hI, hZ⟩
  have hlocks := B.notSynchronized
  have hS : va_S A s.heap s.heap [] := va_S.rf
  have hl := lv_entry ([.ref o, .int k]) (n := 3) (Nat.le_of_ble_eq_true rfl)
  rw [lg_entry_eq]
  generalize (lg_sl ([.ref o, .int k]) ++ List.replicate (3 - (lg_sl ([.ref o, .int k])).length) Slot.unset).toArray = ls at hl ⊢
  have hl : lv_has ls 3 [(0, .ref o), (1, .int k)] := hl
  refine lv_aload_n hx hb dM_begin_0 rfl (lv_at hl 0 rfl) ?_
  refine M_getv hx hb K hM 7 (v := nI 0) hQ.1.1 kM_f84 dM_begin_1 (kk := ?_)
  refine lv_if_le (tgt := 34) hx hb dM_begin_4 (by decide) (fun c_4 => ?_) (fun c_4 => absurd (by decide) c_4)
  refine lv_iload_n hx hb dM_begin_34 rfl (lv_at hl 1 rfl) ?_
  refine lv_bipush (v := 48) hx hb dM_begin_35 (by decide) ?_
  refine lv_icmp_lt (tgt := 82) hx hb dM_begin_37 (by decide) (fun c_37 => ?_) (fun c_37 => ?_)
  · skip
    refine lv_iload_n hx hb dM_begin_82 rfl (lv_at hl 1 rfl) ?_
    refine lv_bipush (v := 97) hx hb dM_begin_83 (by decide) ?_
    refine lv_icmp_lt (tgt := 94) hx hb dM_begin_85 (by decide) (fun c_85 => ?_) (fun c_85 => ?_)
    · skip
      refine lv_iload_n hx hb dM_begin_94 rfl (lv_at hl 1 rfl) ?_
      refine lv_bipush (v := 95) hx hb dM_begin_95 (by decide) ?_
      refine lv_icmp_ne (tgt := 135) hx hb dM_begin_97 (by decide) (fun c_97 => ?_) (fun c_97 => ?_)
      · skip
        refine lv_iload_n hx hb dM_begin_135 rfl (lv_at hl 1 rfl) ?_
        refine lv_bipush (v := 40) hx hb dM_begin_136 (by decide) ?_
        refine lv_icmp_ne (tgt := 150) hx hb dM_begin_138 (by decide) (fun c_138 => ?_) (fun c_138 => ?_)
        · skip
          refine lv_iconst (v := 0) hx hb dM_begin_150 (by decide) ?_
          refine W.zret (v := (0)) hx hb hr rfl (M_endi hM hK hS ?_) hS.2.2 dM_begin_151
          exact md_no (by simp [md_begin, md_add, c_37, c_85, c_97, c_138])
        · skip
          refine lv_aload_n hx hb dM_begin_141 rfl (lv_at hl 0 rfl) ?_
          refine M_getv hx hb K hM 7 (v := nI 0) hQ.1.1 kM_f84 dM_begin_142 (kk := ?_)
          refine lv_bipush (v := 12) hx hb dM_begin_145 (by decide) ?_
          refine lv_icmp_ne (tgt := 152) hx hb dM_begin_147 (by decide) (fun c_147 => ?_) (fun c_147 => absurd c_147 (by decide))
          refine lv_aload_n hx hb dM_begin_152 rfl (lv_at hl 0 rfl) ?_
          refine M_geta hx hb K hM 3 kM_f13 dM_begin_153 (kk := ?_)
          refine lv_aload_n hx hb dM_begin_156 rfl (lv_at hl 0 rfl) ?_
          refine M_getv hx hb K hM 7 (v := nI 0) hQ.1.1 kM_f84 dM_begin_157 (kk := ?_)
          refine lv_aload_n hx hb dM_begin_160 rfl (lv_at hl 0 rfl) ?_
          refine lv_bipush (v := 40) hx hb dM_begin_161 (by decide) ?_
          refine va_calli (M_run (As := [.int (40)]) (rest := [.int (nI 0), .ref (ad 3)]) (n := 1) hx hb hml K hM (c_newNode l D cl tys A ci tI tZ cI cZ o ad _ _ (40) n hQ.1.2.2 hn) kM_c_newNode kM_m90 kM_i_newNode kM_s_newNode rfl rfl ⟨rfl, by decide +kernel⟩ ⟨Nat.le_of_ble_eq_true rfl, Nat.le_of_ble_eq_true rfl⟩ rfl hl.1 rfl (lv_room (Nat.le_of_ble_eq_true rfl)) dM_begin_163 ⟨Nat.le_of_ble_eq_true rfl, Nat.le_of_ble_eq_true rfl⟩) hS (fun q _ h => h) (fun q h => h) (fun r u t H1 locs1 ht hvm hw hB hz hk hS => ?_)
          obtain ⟨hM, -⟩ := hB
          rw [ht] at hM
          obtain ⟨rfl, rfl⟩ := hw
          dsimp only at hM
          refine M_astn hx hb K hM hS 3 (j := 0) (show 0 < 13 by omega) dM_begin_166 (kk := fun H locs hM hS => ?_)
          refine lv_aload_n hx hb dM_begin_167 rfl (lv_at hl 0 rfl) ?_
          refine M_geta hx hb K hM 4 kM_f16 dM_begin_168 (kk := ?_)
          refine lv_aload_n hx hb dM_begin_171 rfl (lv_at hl 0 rfl) ?_
          refine M_getv hx hb K hM 7 (v := nI 0) hQ.1.1 kM_f84 dM_begin_172 (kk := ?_)
          refine lv_iconst (v := 0) hx hb dM_begin_175 (by decide) ?_
          refine M_astn hx hb K hM hS 4 (j := 0) (show 0 < 13 by omega) dM_begin_176 (kk := fun H locs hM hS => ?_)
          refine lv_aload_n hx hb dM_begin_177 rfl (lv_at hl 0 rfl) ?_
          refine M_geta hx hb K hM 5 kM_f19 dM_begin_178 (kk := ?_)
          refine lv_aload_n hx hb dM_begin_181 rfl (lv_at hl 0 rfl) ?_
          refine M_getv hx hb K hM 7 (v := nI 0) hQ.1.1 kM_f84 dM_begin_182 (kk := ?_)
          refine lv_iconst (v := 1) hx hb dM_begin_185 (by decide) ?_
          refine M_astn hx hb K hM hS 5 (j := 0) (show 0 < 13 by omega) dM_begin_186 (kk := fun H locs hM hS => ?_)
          refine lv_aload_n hx hb dM_begin_187 rfl (lv_at hl 0 rfl) ?_
          refine M_geta hx hb K hM 6 kM_f22 dM_begin_188 (kk := ?_)
          refine lv_aload_n hx hb dM_begin_191 rfl (lv_at hl 0 rfl) ?_
          refine M_getv hx hb K hM 7 (v := nI 0) hQ.1.1 kM_f84 dM_begin_192 (kk := ?_)
          refine lv_iconst (v := 4) hx hb dM_begin_195 (by decide) ?_
          refine M_astn hx hb K hM hS 6 (j := 0) (show 0 < 13 by omega) dM_begin_196 (kk := fun H locs hM hS => ?_)
          refine lv_aload_n hx hb dM_begin_197 rfl (lv_at hl 0 rfl) ?_
          refine lv_dup hx hb dM_begin_198 rfl ?_
          refine M_getv hx hb K hM 7 (v := nI 0) hQ.1.1 kM_f84 dM_begin_199 (kk := ?_)
          refine lv_iconst (v := 1) hx hb dM_begin_202 (by decide) ?_
          refine lv_iadd hx hb dM_begin_203 ?_
          refine lv_as (v := nI (0 + 1)) (nI_1 _) ?_
          refine M_puti hx hb K hM hS 7 kM_f84 dM_begin_204 (kk := fun H locs hM hS => ?_)
          refine lv_aload_n hx hb dM_begin_207 rfl (lv_at hl 0 rfl) ?_
          refine lv_iconst (v := 1) hx hb dM_begin_208 (by decide) ?_
          refine M_puti hx hb K hM hS 8 kM_f87 dM_begin_209 (kk := fun H locs hM hS => ?_)
          refine lv_iconst (v := 1) hx hb dM_begin_212 (by decide) ?_
          refine W.zret (v := (1)) hx hb hr rfl (M_endi hM hK hS ?_) hS.2.2 dM_begin_213
          exact ⟨⟨fun j h1 h2 h3 => by simp only [up_n h1, up_n h2, up_n h3], rfl⟩, Or.inr ⟨rfl, (0 + 1, 1, n + 1, va_up pt 0 0, va_up fw 0 1, va_up mo 0 4, nm, dg), by simp [md_begin, md_add, c_37, c_85, c_97, c_138, c_147], _, mdQ_open hQ hn (by omega) (fun j hj => by omega) rfl rfl rfl rfl rfl rfl rfl upd_s⟩⟩
      · skip
        refine lv_aload_n hx hb dM_begin_100 rfl (lv_at hl 0 rfl) ?_
        refine lv_iload_n hx hb dM_begin_101 rfl (lv_at hl 1 rfl) ?_
        refine lv_bipush (v := 95) hx hb dM_begin_102 (by decide) ?_
        refine lv_icmp_ne (tgt := 112) hx hb dM_begin_104 (by decide) (fun c_104 => ?_) (fun c_104 => ?_)
        · skip
          refine lv_bipush (v := 110) hx hb dM_begin_112 (by decide) ?_
          refine va_calli (M_run (As := [.int (110)]) (rest := []) (n := 1) hx hb hml K hM (c_newNode l D cl tys A ci tI tZ cI cZ o ad _ _ (110) n hQ.1.2.2 hn) kM_c_newNode kM_m90 kM_i_newNode kM_s_newNode rfl rfl ⟨rfl, by decide +kernel⟩ ⟨Nat.le_of_ble_eq_true rfl, Nat.le_of_ble_eq_true rfl⟩ rfl hl.1 rfl (lv_room (Nat.le_of_ble_eq_true rfl)) dM_begin_114 ⟨Nat.le_of_ble_eq_true rfl, Nat.le_of_ble_eq_true rfl⟩) hS (fun q _ h => h) (fun q h => h) (fun r u t H1 locs1 ht hvm hw hB hz hk hS => ?_)
          obtain ⟨hM, -⟩ := hB
          rw [ht] at hM
          obtain ⟨rfl, rfl⟩ := hw
          dsimp only at hM
          refine lv_istore_n (lv' := [(2, .int (nI n)), (0, .ref o), (1, .int k)]) hx hb dM_begin_117 rfl hl (by decide) rfl (fun ls hl => ?_)
          refine lv_aload_n hx hb dM_begin_118 rfl (lv_at hl 1 rfl) ?_
          refine M_geta hx hb K hM 10 kM_f28 dM_begin_119 (kk := ?_)
          refine lv_iload_n hx hb dM_begin_122 rfl (lv_at hl 0 rfl) ?_
          refine lv_iload_n hx hb dM_begin_123 rfl (lv_at hl 2 rfl) ?_
          refine lv_bipush (v := 97) hx hb dM_begin_124 (by decide) ?_
          refine lv_isub hx hb dM_begin_126 ?_
          refine M_astn hx hb K hM hS 10 (j := n) hn dM_begin_127 (kk := fun H locs hM hS => ?_)
          refine lv_aload_n hx hb dM_begin_128 rfl (lv_at hl 1 rfl) ?_
          refine lv_iload_n hx hb dM_begin_129 rfl (lv_at hl 0 rfl) ?_
          refine va_callv (M_run (As := [.int (nI n)]) (rest := []) (n := 1) hx hb hml K hM (c_attach0 l D cl tys A ci tI tZ cI cZ o ad _ _ (nI n) (hQ.1.1.trans nI_0)) kM_c_attach kM_m94 kM_i_attach kM_s_attach rfl rfl ⟨rfl, by decide +kernel⟩ ⟨Nat.le_of_ble_eq_true rfl, Nat.le_of_ble_eq_true rfl⟩ rfl hl.1 rfl (lv_room (Nat.le_of_ble_eq_true rfl)) dM_begin_130 ⟨Nat.le_of_ble_eq_true rfl, Nat.le_of_ble_eq_true rfl⟩) hS (fun q _ h => h) (fun q h => h) (fun u t H1 locs1 ht hvm hw hB hz hk hS => ?_)
          obtain ⟨hM, -⟩ := hB
          rw [ht] at hM
          obtain rfl := hw
          dsimp only at hM
          refine lv_iconst (v := 1) hx hb dM_begin_133 (by decide) ?_
          refine W.zret (v := (1)) hx hb hr rfl (M_endi hM hK hS ?_) hS.2.2 dM_begin_134
          exact ⟨⟨fun j h1 h2 h3 => by simp only [up_n h1, up_n h2, up_n h3], rfl⟩, Or.inr ⟨rfl, (0, 6, n + 1, pt, fw, mo, nm, dg), by simp [md_begin, md_add, c_37, c_85, c_97, c_104], op, mdQ_leaf0 hQ hn 6 dg rfl rfl rfl (Or.inl rfl)⟩⟩
        · skip
          refine lv_bipush (v := 95) hx hb dM_begin_107 (by decide) ?_
          refine lv_goto (tgt := 114) hx hb dM_begin_109 (by decide) ?_
          refine va_calli (M_run (As := [.int (95)]) (rest := []) (n := 1) hx hb hml K hM (c_newNode l D cl tys A ci tI tZ cI cZ o ad _ _ (95) n hQ.1.2.2 hn) kM_c_newNode kM_m90 kM_i_newNode kM_s_newNode rfl rfl ⟨rfl, by decide +kernel⟩ ⟨Nat.le_of_ble_eq_true rfl, Nat.le_of_ble_eq_true rfl⟩ rfl hl.1 rfl (lv_room (Nat.le_of_ble_eq_true rfl)) dM_begin_114 ⟨Nat.le_of_ble_eq_true rfl, Nat.le_of_ble_eq_true rfl⟩) hS (fun q _ h => h) (fun q h => h) (fun r u t H1 locs1 ht hvm hw hB hz hk hS => ?_)
          obtain ⟨hM, -⟩ := hB
          rw [ht] at hM
          obtain ⟨rfl, rfl⟩ := hw
          dsimp only at hM
          refine lv_istore_n (lv' := [(2, .int (nI n)), (0, .ref o), (1, .int k)]) hx hb dM_begin_117 rfl hl (by decide) rfl (fun ls hl => ?_)
          refine lv_aload_n hx hb dM_begin_118 rfl (lv_at hl 1 rfl) ?_
          refine M_geta hx hb K hM 10 kM_f28 dM_begin_119 (kk := ?_)
          refine lv_iload_n hx hb dM_begin_122 rfl (lv_at hl 0 rfl) ?_
          refine lv_iload_n hx hb dM_begin_123 rfl (lv_at hl 2 rfl) ?_
          refine lv_bipush (v := 97) hx hb dM_begin_124 (by decide) ?_
          refine lv_isub hx hb dM_begin_126 ?_
          refine M_astn hx hb K hM hS 10 (j := n) hn dM_begin_127 (kk := fun H locs hM hS => ?_)
          refine lv_aload_n hx hb dM_begin_128 rfl (lv_at hl 1 rfl) ?_
          refine lv_iload_n hx hb dM_begin_129 rfl (lv_at hl 0 rfl) ?_
          refine va_callv (M_run (As := [.int (nI n)]) (rest := []) (n := 1) hx hb hml K hM (c_attach0 l D cl tys A ci tI tZ cI cZ o ad _ _ (nI n) (hQ.1.1.trans nI_0)) kM_c_attach kM_m94 kM_i_attach kM_s_attach rfl rfl ⟨rfl, by decide +kernel⟩ ⟨Nat.le_of_ble_eq_true rfl, Nat.le_of_ble_eq_true rfl⟩ rfl hl.1 rfl (lv_room (Nat.le_of_ble_eq_true rfl)) dM_begin_130 ⟨Nat.le_of_ble_eq_true rfl, Nat.le_of_ble_eq_true rfl⟩) hS (fun q _ h => h) (fun q h => h) (fun u t H1 locs1 ht hvm hw hB hz hk hS => ?_)
          obtain ⟨hM, -⟩ := hB
          rw [ht] at hM
          obtain rfl := hw
          dsimp only at hM
          refine lv_iconst (v := 1) hx hb dM_begin_133 (by decide) ?_
          refine W.zret (v := (1)) hx hb hr rfl (M_endi hM hK hS ?_) hS.2.2 dM_begin_134
          exact ⟨⟨fun j h1 h2 h3 => by simp only [up_n h1, up_n h2, up_n h3], rfl⟩, Or.inr ⟨rfl, (0, 6, n + 1, pt, fw, mo, nm, dg), by simp [md_begin, md_add, c_37, c_85, c_97, c_104], op, mdQ_leaf0 hQ hn 6 dg rfl rfl rfl (Or.inl rfl)⟩⟩
    · skip
      refine lv_iload_n hx hb dM_begin_88 rfl (lv_at hl 1 rfl) ?_
      refine lv_bipush (v := 122) hx hb dM_begin_89 (by decide) ?_
      refine lv_icmp_le (tgt := 100) hx hb dM_begin_91 (by decide) (fun c_91 => ?_) (fun c_91 => ?_)
      · skip
        refine lv_aload_n hx hb dM_begin_100 rfl (lv_at hl 0 rfl) ?_
        refine lv_iload_n hx hb dM_begin_101 rfl (lv_at hl 1 rfl) ?_
        refine lv_bipush (v := 95) hx hb dM_begin_102 (by decide) ?_
        refine lv_icmp_ne (tgt := 112) hx hb dM_begin_104 (by decide) (fun c_104 => ?_) (fun c_104 => ?_)
        · skip
          refine lv_bipush (v := 110) hx hb dM_begin_112 (by decide) ?_
          refine va_calli (M_run (As := [.int (110)]) (rest := []) (n := 1) hx hb hml K hM (c_newNode l D cl tys A ci tI tZ cI cZ o ad _ _ (110) n hQ.1.2.2 hn) kM_c_newNode kM_m90 kM_i_newNode kM_s_newNode rfl rfl ⟨rfl, by decide +kernel⟩ ⟨Nat.le_of_ble_eq_true rfl, Nat.le_of_ble_eq_true rfl⟩ rfl hl.1 rfl (lv_room (Nat.le_of_ble_eq_true rfl)) dM_begin_114 ⟨Nat.le_of_ble_eq_true rfl, Nat.le_of_ble_eq_true rfl⟩) hS (fun q _ h => h) (fun q h => h) (fun r u t H1 locs1 ht hvm hw hB hz hk hS => ?_)
          obtain ⟨hM, -⟩ := hB
          rw [ht] at hM
          obtain ⟨rfl, rfl⟩ := hw
          dsimp only at hM
          refine lv_istore_n (lv' := [(2, .int (nI n)), (0, .ref o), (1, .int k)]) hx hb dM_begin_117 rfl hl (by decide) rfl (fun ls hl => ?_)
          refine lv_aload_n hx hb dM_begin_118 rfl (lv_at hl 1 rfl) ?_
          refine M_geta hx hb K hM 10 kM_f28 dM_begin_119 (kk := ?_)
          refine lv_iload_n hx hb dM_begin_122 rfl (lv_at hl 0 rfl) ?_
          refine lv_iload_n hx hb dM_begin_123 rfl (lv_at hl 2 rfl) ?_
          refine lv_bipush (v := 97) hx hb dM_begin_124 (by decide) ?_
          refine lv_isub hx hb dM_begin_126 ?_
          refine M_astn hx hb K hM hS 10 (j := n) hn dM_begin_127 (kk := fun H locs hM hS => ?_)
          refine lv_aload_n hx hb dM_begin_128 rfl (lv_at hl 1 rfl) ?_
          refine lv_iload_n hx hb dM_begin_129 rfl (lv_at hl 0 rfl) ?_
          refine va_callv (M_run (As := [.int (nI n)]) (rest := []) (n := 1) hx hb hml K hM (c_attach0 l D cl tys A ci tI tZ cI cZ o ad _ _ (nI n) (hQ.1.1.trans nI_0)) kM_c_attach kM_m94 kM_i_attach kM_s_attach rfl rfl ⟨rfl, by decide +kernel⟩ ⟨Nat.le_of_ble_eq_true rfl, Nat.le_of_ble_eq_true rfl⟩ rfl hl.1 rfl (lv_room (Nat.le_of_ble_eq_true rfl)) dM_begin_130 ⟨Nat.le_of_ble_eq_true rfl, Nat.le_of_ble_eq_true rfl⟩) hS (fun q _ h => h) (fun q h => h) (fun u t H1 locs1 ht hvm hw hB hz hk hS => ?_)
          obtain ⟨hM, -⟩ := hB
          rw [ht] at hM
          obtain rfl := hw
          dsimp only at hM
          refine lv_iconst (v := 1) hx hb dM_begin_133 (by decide) ?_
          refine W.zret (v := (1)) hx hb hr rfl (M_endi hM hK hS ?_) hS.2.2 dM_begin_134
          exact ⟨⟨fun j h1 h2 h3 => by simp only [up_n h1, up_n h2, up_n h3], rfl⟩, Or.inr ⟨rfl, (0, 6, n + 1, pt, fw, mo, nm, dg), by simp [md_begin, md_add, c_37, c_85, c_91, c_104], op, mdQ_leaf0 hQ hn 6 dg rfl rfl rfl (Or.inl rfl)⟩⟩
        · skip
          refine lv_bipush (v := 95) hx hb dM_begin_107 (by decide) ?_
          refine lv_goto (tgt := 114) hx hb dM_begin_109 (by decide) ?_
          refine va_calli (M_run (As := [.int (95)]) (rest := []) (n := 1) hx hb hml K hM (c_newNode l D cl tys A ci tI tZ cI cZ o ad _ _ (95) n hQ.1.2.2 hn) kM_c_newNode kM_m90 kM_i_newNode kM_s_newNode rfl rfl ⟨rfl, by decide +kernel⟩ ⟨Nat.le_of_ble_eq_true rfl, Nat.le_of_ble_eq_true rfl⟩ rfl hl.1 rfl (lv_room (Nat.le_of_ble_eq_true rfl)) dM_begin_114 ⟨Nat.le_of_ble_eq_true rfl, Nat.le_of_ble_eq_true rfl⟩) hS (fun q _ h => h) (fun q h => h) (fun r u t H1 locs1 ht hvm hw hB hz hk hS => ?_)
          obtain ⟨hM, -⟩ := hB
          rw [ht] at hM
          obtain ⟨rfl, rfl⟩ := hw
          dsimp only at hM
          refine lv_istore_n (lv' := [(2, .int (nI n)), (0, .ref o), (1, .int k)]) hx hb dM_begin_117 rfl hl (by decide) rfl (fun ls hl => ?_)
          refine lv_aload_n hx hb dM_begin_118 rfl (lv_at hl 1 rfl) ?_
          refine M_geta hx hb K hM 10 kM_f28 dM_begin_119 (kk := ?_)
          refine lv_iload_n hx hb dM_begin_122 rfl (lv_at hl 0 rfl) ?_
          refine lv_iload_n hx hb dM_begin_123 rfl (lv_at hl 2 rfl) ?_
          refine lv_bipush (v := 97) hx hb dM_begin_124 (by decide) ?_
          refine lv_isub hx hb dM_begin_126 ?_
          refine M_astn hx hb K hM hS 10 (j := n) hn dM_begin_127 (kk := fun H locs hM hS => ?_)
          refine lv_aload_n hx hb dM_begin_128 rfl (lv_at hl 1 rfl) ?_
          refine lv_iload_n hx hb dM_begin_129 rfl (lv_at hl 0 rfl) ?_
          refine va_callv (M_run (As := [.int (nI n)]) (rest := []) (n := 1) hx hb hml K hM (c_attach0 l D cl tys A ci tI tZ cI cZ o ad _ _ (nI n) (hQ.1.1.trans nI_0)) kM_c_attach kM_m94 kM_i_attach kM_s_attach rfl rfl ⟨rfl, by decide +kernel⟩ ⟨Nat.le_of_ble_eq_true rfl, Nat.le_of_ble_eq_true rfl⟩ rfl hl.1 rfl (lv_room (Nat.le_of_ble_eq_true rfl)) dM_begin_130 ⟨Nat.le_of_ble_eq_true rfl, Nat.le_of_ble_eq_true rfl⟩) hS (fun q _ h => h) (fun q h => h) (fun u t H1 locs1 ht hvm hw hB hz hk hS => ?_)
          obtain ⟨hM, -⟩ := hB
          rw [ht] at hM
          obtain rfl := hw
          dsimp only at hM
          refine lv_iconst (v := 1) hx hb dM_begin_133 (by decide) ?_
          refine W.zret (v := (1)) hx hb hr rfl (M_endi hM hK hS ?_) hS.2.2 dM_begin_134
          exact ⟨⟨fun j h1 h2 h3 => by simp only [up_n h1, up_n h2, up_n h3], rfl⟩, Or.inr ⟨rfl, (0, 6, n + 1, pt, fw, mo, nm, dg), by simp [md_begin, md_add, c_37, c_85, c_91, c_104], op, mdQ_leaf0 hQ hn 6 dg rfl rfl rfl (Or.inl rfl)⟩⟩
      · skip
        refine lv_iload_n hx hb dM_begin_94 rfl (lv_at hl 1 rfl) ?_
        refine lv_bipush (v := 95) hx hb dM_begin_95 (by decide) ?_
        refine lv_icmp_ne (tgt := 135) hx hb dM_begin_97 (by decide) (fun c_97 => ?_) (fun c_97 => ?_)
        · skip
          refine lv_iload_n hx hb dM_begin_135 rfl (lv_at hl 1 rfl) ?_
          refine lv_bipush (v := 40) hx hb dM_begin_136 (by decide) ?_
          refine lv_icmp_ne (tgt := 150) hx hb dM_begin_138 (by decide) (fun c_138 => ?_) (fun c_138 => ?_)
          · skip
            refine lv_iconst (v := 0) hx hb dM_begin_150 (by decide) ?_
            refine W.zret (v := (0)) hx hb hr rfl (M_endi hM hK hS ?_) hS.2.2 dM_begin_151
            exact md_no (by simp [md_begin, md_add, c_37, c_85, c_91, c_97, c_138])
          · skip
            refine lv_aload_n hx hb dM_begin_141 rfl (lv_at hl 0 rfl) ?_
            refine M_getv hx hb K hM 7 (v := nI 0) hQ.1.1 kM_f84 dM_begin_142 (kk := ?_)
            refine lv_bipush (v := 12) hx hb dM_begin_145 (by decide) ?_
            refine lv_icmp_ne (tgt := 152) hx hb dM_begin_147 (by decide) (fun c_147 => ?_) (fun c_147 => absurd c_147 (by decide))
            refine lv_aload_n hx hb dM_begin_152 rfl (lv_at hl 0 rfl) ?_
            refine M_geta hx hb K hM 3 kM_f13 dM_begin_153 (kk := ?_)
            refine lv_aload_n hx hb dM_begin_156 rfl (lv_at hl 0 rfl) ?_
            refine M_getv hx hb K hM 7 (v := nI 0) hQ.1.1 kM_f84 dM_begin_157 (kk := ?_)
            refine lv_aload_n hx hb dM_begin_160 rfl (lv_at hl 0 rfl) ?_
            refine lv_bipush (v := 40) hx hb dM_begin_161 (by decide) ?_
            refine va_calli (M_run (As := [.int (40)]) (rest := [.int (nI 0), .ref (ad 3)]) (n := 1) hx hb hml K hM (c_newNode l D cl tys A ci tI tZ cI cZ o ad _ _ (40) n hQ.1.2.2 hn) kM_c_newNode kM_m90 kM_i_newNode kM_s_newNode rfl rfl ⟨rfl, by decide +kernel⟩ ⟨Nat.le_of_ble_eq_true rfl, Nat.le_of_ble_eq_true rfl⟩ rfl hl.1 rfl (lv_room (Nat.le_of_ble_eq_true rfl)) dM_begin_163 ⟨Nat.le_of_ble_eq_true rfl, Nat.le_of_ble_eq_true rfl⟩) hS (fun q _ h => h) (fun q h => h) (fun r u t H1 locs1 ht hvm hw hB hz hk hS => ?_)
            obtain ⟨hM, -⟩ := hB
            rw [ht] at hM
            obtain ⟨rfl, rfl⟩ := hw
            dsimp only at hM
            refine M_astn hx hb K hM hS 3 (j := 0) (show 0 < 13 by omega) dM_begin_166 (kk := fun H locs hM hS => ?_)
            refine lv_aload_n hx hb dM_begin_167 rfl (lv_at hl 0 rfl) ?_
            refine M_geta hx hb K hM 4 kM_f16 dM_begin_168 (kk := ?_)
            refine lv_aload_n hx hb dM_begin_171 rfl (lv_at hl 0 rfl) ?_
            refine M_getv hx hb K hM 7 (v := nI 0) hQ.1.1 kM_f84 dM_begin_172 (kk := ?_)
            refine lv_iconst (v := 0) hx hb dM_begin_175 (by decide) ?_
            refine M_astn hx hb K hM hS 4 (j := 0) (show 0 < 13 by omega) dM_begin_176 (kk := fun H locs hM hS => ?_)
            refine lv_aload_n hx hb dM_begin_177 rfl (lv_at hl 0 rfl) ?_
            refine M_geta hx hb K hM 5 kM_f19 dM_begin_178 (kk := ?_)
            refine lv_aload_n hx hb dM_begin_181 rfl (lv_at hl 0 rfl) ?_
            refine M_getv hx hb K hM 7 (v := nI 0) hQ.1.1 kM_f84 dM_begin_182 (kk := ?_)
            refine lv_iconst (v := 1) hx hb dM_begin_185 (by decide) ?_
            refine M_astn hx hb K hM hS 5 (j := 0) (show 0 < 13 by omega) dM_begin_186 (kk := fun H locs hM hS => ?_)
            refine lv_aload_n hx hb dM_begin_187 rfl (lv_at hl 0 rfl) ?_
            refine M_geta hx hb K hM 6 kM_f22 dM_begin_188 (kk := ?_)
            refine lv_aload_n hx hb dM_begin_191 rfl (lv_at hl 0 rfl) ?_
            refine M_getv hx hb K hM 7 (v := nI 0) hQ.1.1 kM_f84 dM_begin_192 (kk := ?_)
            refine lv_iconst (v := 4) hx hb dM_begin_195 (by decide) ?_
            refine M_astn hx hb K hM hS 6 (j := 0) (show 0 < 13 by omega) dM_begin_196 (kk := fun H locs hM hS => ?_)
            refine lv_aload_n hx hb dM_begin_197 rfl (lv_at hl 0 rfl) ?_
            refine lv_dup hx hb dM_begin_198 rfl ?_
            refine M_getv hx hb K hM 7 (v := nI 0) hQ.1.1 kM_f84 dM_begin_199 (kk := ?_)
            refine lv_iconst (v := 1) hx hb dM_begin_202 (by decide) ?_
            refine lv_iadd hx hb dM_begin_203 ?_
            refine lv_as (v := nI (0 + 1)) (nI_1 _) ?_
            refine M_puti hx hb K hM hS 7 kM_f84 dM_begin_204 (kk := fun H locs hM hS => ?_)
            refine lv_aload_n hx hb dM_begin_207 rfl (lv_at hl 0 rfl) ?_
            refine lv_iconst (v := 1) hx hb dM_begin_208 (by decide) ?_
            refine M_puti hx hb K hM hS 8 kM_f87 dM_begin_209 (kk := fun H locs hM hS => ?_)
            refine lv_iconst (v := 1) hx hb dM_begin_212 (by decide) ?_
            refine W.zret (v := (1)) hx hb hr rfl (M_endi hM hK hS ?_) hS.2.2 dM_begin_213
            exact ⟨⟨fun j h1 h2 h3 => by simp only [up_n h1, up_n h2, up_n h3], rfl⟩, Or.inr ⟨rfl, (0 + 1, 1, n + 1, va_up pt 0 0, va_up fw 0 1, va_up mo 0 4, nm, dg), by simp [md_begin, md_add, c_37, c_85, c_91, c_97, c_138, c_147], _, mdQ_open hQ hn (by omega) (fun j hj => by omega) rfl rfl rfl rfl rfl rfl rfl upd_s⟩⟩
        · skip
          refine lv_aload_n hx hb dM_begin_100 rfl (lv_at hl 0 rfl) ?_
          refine lv_iload_n hx hb dM_begin_101 rfl (lv_at hl 1 rfl) ?_
          refine lv_bipush (v := 95) hx hb dM_begin_102 (by decide) ?_
          refine lv_icmp_ne (tgt := 112) hx hb dM_begin_104 (by decide) (fun c_104 => ?_) (fun c_104 => ?_)
          · skip
            refine lv_bipush (v := 110) hx hb dM_begin_112 (by decide) ?_
            refine va_calli (M_run (As := [.int (110)]) (rest := []) (n := 1) hx hb hml K hM (c_newNode l D cl tys A ci tI tZ cI cZ o ad _ _ (110) n hQ.1.2.2 hn) kM_c_newNode kM_m90 kM_i_newNode kM_s_newNode rfl rfl ⟨rfl, by decide +kernel⟩ ⟨Nat.le_of_ble_eq_true rfl, Nat.le_of_ble_eq_true rfl⟩ rfl hl.1 rfl (lv_room (Nat.le_of_ble_eq_true rfl)) dM_begin_114 ⟨Nat.le_of_ble_eq_true rfl, Nat.le_of_ble_eq_true rfl⟩) hS (fun q _ h => h) (fun q h => h) (fun r u t H1 locs1 ht hvm hw hB hz hk hS => ?_)
            obtain ⟨hM, -⟩ := hB
            rw [ht] at hM
            obtain ⟨rfl, rfl⟩ := hw
            dsimp only at hM
            refine lv_istore_n (lv' := [(2, .int (nI n)), (0, .ref o), (1, .int k)]) hx hb dM_begin_117 rfl hl (by decide) rfl (fun ls hl => ?_)
            refine lv_aload_n hx hb dM_begin_118 rfl (lv_at hl 1 rfl) ?_
            refine M_geta hx hb K hM 10 kM_f28 dM_begin_119 (kk := ?_)
            refine lv_iload_n hx hb dM_begin_122 rfl (lv_at hl 0 rfl) ?_
            refine lv_iload_n hx hb dM_begin_123 rfl (lv_at hl 2 rfl) ?_
            refine lv_bipush (v := 97) hx hb dM_begin_124 (by decide) ?_
            refine lv_isub hx hb dM_begin_126 ?_
            refine M_astn hx hb K hM hS 10 (j := n) hn dM_begin_127 (kk := fun H locs hM hS => ?_)
            refine lv_aload_n hx hb dM_begin_128 rfl (lv_at hl 1 rfl) ?_
            refine lv_iload_n hx hb dM_begin_129 rfl (lv_at hl 0 rfl) ?_
            refine va_callv (M_run (As := [.int (nI n)]) (rest := []) (n := 1) hx hb hml K hM (c_attach0 l D cl tys A ci tI tZ cI cZ o ad _ _ (nI n) (hQ.1.1.trans nI_0)) kM_c_attach kM_m94 kM_i_attach kM_s_attach rfl rfl ⟨rfl, by decide +kernel⟩ ⟨Nat.le_of_ble_eq_true rfl, Nat.le_of_ble_eq_true rfl⟩ rfl hl.1 rfl (lv_room (Nat.le_of_ble_eq_true rfl)) dM_begin_130 ⟨Nat.le_of_ble_eq_true rfl, Nat.le_of_ble_eq_true rfl⟩) hS (fun q _ h => h) (fun q h => h) (fun u t H1 locs1 ht hvm hw hB hz hk hS => ?_)
            obtain ⟨hM, -⟩ := hB
            rw [ht] at hM
            obtain rfl := hw
            dsimp only at hM
            refine lv_iconst (v := 1) hx hb dM_begin_133 (by decide) ?_
            refine W.zret (v := (1)) hx hb hr rfl (M_endi hM hK hS ?_) hS.2.2 dM_begin_134
            exact ⟨⟨fun j h1 h2 h3 => by simp only [up_n h1, up_n h2, up_n h3], rfl⟩, Or.inr ⟨rfl, (0, 6, n + 1, pt, fw, mo, nm, dg), by simp [md_begin, md_add, c_37, c_85, c_91, c_97, c_104], op, mdQ_leaf0 hQ hn 6 dg rfl rfl rfl (Or.inl rfl)⟩⟩
          · skip
            refine lv_bipush (v := 95) hx hb dM_begin_107 (by decide) ?_
            refine lv_goto (tgt := 114) hx hb dM_begin_109 (by decide) ?_
            refine va_calli (M_run (As := [.int (95)]) (rest := []) (n := 1) hx hb hml K hM (c_newNode l D cl tys A ci tI tZ cI cZ o ad _ _ (95) n hQ.1.2.2 hn) kM_c_newNode kM_m90 kM_i_newNode kM_s_newNode rfl rfl ⟨rfl, by decide +kernel⟩ ⟨Nat.le_of_ble_eq_true rfl, Nat.le_of_ble_eq_true rfl⟩ rfl hl.1 rfl (lv_room (Nat.le_of_ble_eq_true rfl)) dM_begin_114 ⟨Nat.le_of_ble_eq_true rfl, Nat.le_of_ble_eq_true rfl⟩) hS (fun q _ h => h) (fun q h => h) (fun r u t H1 locs1 ht hvm hw hB hz hk hS => ?_)
            obtain ⟨hM, -⟩ := hB
            rw [ht] at hM
            obtain ⟨rfl, rfl⟩ := hw
            dsimp only at hM
            refine lv_istore_n (lv' := [(2, .int (nI n)), (0, .ref o), (1, .int k)]) hx hb dM_begin_117 rfl hl (by decide) rfl (fun ls hl => ?_)
            refine lv_aload_n hx hb dM_begin_118 rfl (lv_at hl 1 rfl) ?_
            refine M_geta hx hb K hM 10 kM_f28 dM_begin_119 (kk := ?_)
            refine lv_iload_n hx hb dM_begin_122 rfl (lv_at hl 0 rfl) ?_
            refine lv_iload_n hx hb dM_begin_123 rfl (lv_at hl 2 rfl) ?_
            refine lv_bipush (v := 97) hx hb dM_begin_124 (by decide) ?_
            refine lv_isub hx hb dM_begin_126 ?_
            refine M_astn hx hb K hM hS 10 (j := n) hn dM_begin_127 (kk := fun H locs hM hS => ?_)
            refine lv_aload_n hx hb dM_begin_128 rfl (lv_at hl 1 rfl) ?_
            refine lv_iload_n hx hb dM_begin_129 rfl (lv_at hl 0 rfl) ?_
            refine va_callv (M_run (As := [.int (nI n)]) (rest := []) (n := 1) hx hb hml K hM (c_attach0 l D cl tys A ci tI tZ cI cZ o ad _ _ (nI n) (hQ.1.1.trans nI_0)) kM_c_attach kM_m94 kM_i_attach kM_s_attach rfl rfl ⟨rfl, by decide +kernel⟩ ⟨Nat.le_of_ble_eq_true rfl, Nat.le_of_ble_eq_true rfl⟩ rfl hl.1 rfl (lv_room (Nat.le_of_ble_eq_true rfl)) dM_begin_130 ⟨Nat.le_of_ble_eq_true rfl, Nat.le_of_ble_eq_true rfl⟩) hS (fun q _ h => h) (fun q h => h) (fun u t H1 locs1 ht hvm hw hB hz hk hS => ?_)
            obtain ⟨hM, -⟩ := hB
            rw [ht] at hM
            obtain rfl := hw
            dsimp only at hM
            refine lv_iconst (v := 1) hx hb dM_begin_133 (by decide) ?_
            refine W.zret (v := (1)) hx hb hr rfl (M_endi hM hK hS ?_) hS.2.2 dM_begin_134
            exact ⟨⟨fun j h1 h2 h3 => by simp only [up_n h1, up_n h2, up_n h3], rfl⟩, Or.inr ⟨rfl, (0, 6, n + 1, pt, fw, mo, nm, dg), by simp [md_begin, md_add, c_37, c_85, c_91, c_97, c_104], op, mdQ_leaf0 hQ hn 6 dg rfl rfl rfl (Or.inl rfl)⟩⟩
  · skip
    refine lv_iload_n hx hb dM_begin_40 rfl (lv_at hl 1 rfl) ?_
    refine lv_bipush (v := 57) hx hb dM_begin_41 (by decide) ?_
    refine lv_icmp_gt (tgt := 82) hx hb dM_begin_43 (by decide) (fun c_43 => ?_) (fun c_43 => ?_)
    · skip
      refine lv_iload_n hx hb dM_begin_82 rfl (lv_at hl 1 rfl) ?_
      refine lv_bipush (v := 97) hx hb dM_begin_83 (by decide) ?_
      refine lv_icmp_lt (tgt := 94) hx hb dM_begin_85 (by decide) (fun c_85 => ?_) (fun c_85 => ?_)
      · skip
        refine lv_iload_n hx hb dM_begin_94 rfl (lv_at hl 1 rfl) ?_
        refine lv_bipush (v := 95) hx hb dM_begin_95 (by decide) ?_
        refine lv_icmp_ne (tgt := 135) hx hb dM_begin_97 (by decide) (fun c_97 => ?_) (fun c_97 => ?_)
        · skip
          refine lv_iload_n hx hb dM_begin_135 rfl (lv_at hl 1 rfl) ?_
          refine lv_bipush (v := 40) hx hb dM_begin_136 (by decide) ?_
          refine lv_icmp_ne (tgt := 150) hx hb dM_begin_138 (by decide) (fun c_138 => ?_) (fun c_138 => ?_)
          · skip
            refine lv_iconst (v := 0) hx hb dM_begin_150 (by decide) ?_
            refine W.zret (v := (0)) hx hb hr rfl (M_endi hM hK hS ?_) hS.2.2 dM_begin_151
            exact md_no (by simp [md_begin, md_add, c_37, c_43, c_85, c_97, c_138])
          · skip
            refine lv_aload_n hx hb dM_begin_141 rfl (lv_at hl 0 rfl) ?_
            refine M_getv hx hb K hM 7 (v := nI 0) hQ.1.1 kM_f84 dM_begin_142 (kk := ?_)
            refine lv_bipush (v := 12) hx hb dM_begin_145 (by decide) ?_
            refine lv_icmp_ne (tgt := 152) hx hb dM_begin_147 (by decide) (fun c_147 => ?_) (fun c_147 => absurd c_147 (by decide))
            refine lv_aload_n hx hb dM_begin_152 rfl (lv_at hl 0 rfl) ?_
            refine M_geta hx hb K hM 3 kM_f13 dM_begin_153 (kk := ?_)
            refine lv_aload_n hx hb dM_begin_156 rfl (lv_at hl 0 rfl) ?_
            refine M_getv hx hb K hM 7 (v := nI 0) hQ.1.1 kM_f84 dM_begin_157 (kk := ?_)
            refine lv_aload_n hx hb dM_begin_160 rfl (lv_at hl 0 rfl) ?_
            refine lv_bipush (v := 40) hx hb dM_begin_161 (by decide) ?_
            refine va_calli (M_run (As := [.int (40)]) (rest := [.int (nI 0), .ref (ad 3)]) (n := 1) hx hb hml K hM (c_newNode l D cl tys A ci tI tZ cI cZ o ad _ _ (40) n hQ.1.2.2 hn) kM_c_newNode kM_m90 kM_i_newNode kM_s_newNode rfl rfl ⟨rfl, by decide +kernel⟩ ⟨Nat.le_of_ble_eq_true rfl, Nat.le_of_ble_eq_true rfl⟩ rfl hl.1 rfl (lv_room (Nat.le_of_ble_eq_true rfl)) dM_begin_163 ⟨Nat.le_of_ble_eq_true rfl, Nat.le_of_ble_eq_true rfl⟩) hS (fun q _ h => h) (fun q h => h) (fun r u t H1 locs1 ht hvm hw hB hz hk hS => ?_)
            obtain ⟨hM, -⟩ := hB
            rw [ht] at hM
            obtain ⟨rfl, rfl⟩ := hw
            dsimp only at hM
            refine M_astn hx hb K hM hS 3 (j := 0) (show 0 < 13 by omega) dM_begin_166 (kk := fun H locs hM hS => ?_)
            refine lv_aload_n hx hb dM_begin_167 rfl (lv_at hl 0 rfl) ?_
            refine M_geta hx hb K hM 4 kM_f16 dM_begin_168 (kk := ?_)
            refine lv_aload_n hx hb dM_begin_171 rfl (lv_at hl 0 rfl) ?_
            refine M_getv hx hb K hM 7 (v := nI 0) hQ.1.1 kM_f84 dM_begin_172 (kk := ?_)
            refine lv_iconst (v := 0) hx hb dM_begin_175 (by decide) ?_
            refine M_astn hx hb K hM hS 4 (j := 0) (show 0 < 13 by omega) dM_begin_176 (kk := fun H locs hM hS => ?_)
            refine lv_aload_n hx hb dM_begin_177 rfl (lv_at hl 0 rfl) ?_
            refine M_geta hx hb K hM 5 kM_f19 dM_begin_178 (kk := ?_)
            refine lv_aload_n hx hb dM_begin_181 rfl (lv_at hl 0 rfl) ?_
            refine M_getv hx hb K hM 7 (v := nI 0) hQ.1.1 kM_f84 dM_begin_182 (kk := ?_)
            refine lv_iconst (v := 1) hx hb dM_begin_185 (by decide) ?_
            refine M_astn hx hb K hM hS 5 (j := 0) (show 0 < 13 by omega) dM_begin_186 (kk := fun H locs hM hS => ?_)
            refine lv_aload_n hx hb dM_begin_187 rfl (lv_at hl 0 rfl) ?_
            refine M_geta hx hb K hM 6 kM_f22 dM_begin_188 (kk := ?_)
            refine lv_aload_n hx hb dM_begin_191 rfl (lv_at hl 0 rfl) ?_
            refine M_getv hx hb K hM 7 (v := nI 0) hQ.1.1 kM_f84 dM_begin_192 (kk := ?_)
            refine lv_iconst (v := 4) hx hb dM_begin_195 (by decide) ?_
            refine M_astn hx hb K hM hS 6 (j := 0) (show 0 < 13 by omega) dM_begin_196 (kk := fun H locs hM hS => ?_)
            refine lv_aload_n hx hb dM_begin_197 rfl (lv_at hl 0 rfl) ?_
            refine lv_dup hx hb dM_begin_198 rfl ?_
            refine M_getv hx hb K hM 7 (v := nI 0) hQ.1.1 kM_f84 dM_begin_199 (kk := ?_)
            refine lv_iconst (v := 1) hx hb dM_begin_202 (by decide) ?_
            refine lv_iadd hx hb dM_begin_203 ?_
            refine lv_as (v := nI (0 + 1)) (nI_1 _) ?_
            refine M_puti hx hb K hM hS 7 kM_f84 dM_begin_204 (kk := fun H locs hM hS => ?_)
            refine lv_aload_n hx hb dM_begin_207 rfl (lv_at hl 0 rfl) ?_
            refine lv_iconst (v := 1) hx hb dM_begin_208 (by decide) ?_
            refine M_puti hx hb K hM hS 8 kM_f87 dM_begin_209 (kk := fun H locs hM hS => ?_)
            refine lv_iconst (v := 1) hx hb dM_begin_212 (by decide) ?_
            refine W.zret (v := (1)) hx hb hr rfl (M_endi hM hK hS ?_) hS.2.2 dM_begin_213
            exact ⟨⟨fun j h1 h2 h3 => by simp only [up_n h1, up_n h2, up_n h3], rfl⟩, Or.inr ⟨rfl, (0 + 1, 1, n + 1, va_up pt 0 0, va_up fw 0 1, va_up mo 0 4, nm, dg), by simp [md_begin, md_add, c_37, c_43, c_85, c_97, c_138, c_147], _, mdQ_open hQ hn (by omega) (fun j hj => by omega) rfl rfl rfl rfl rfl rfl rfl upd_s⟩⟩
        · skip
          refine lv_aload_n hx hb dM_begin_100 rfl (lv_at hl 0 rfl) ?_
          refine lv_iload_n hx hb dM_begin_101 rfl (lv_at hl 1 rfl) ?_
          refine lv_bipush (v := 95) hx hb dM_begin_102 (by decide) ?_
          refine lv_icmp_ne (tgt := 112) hx hb dM_begin_104 (by decide) (fun c_104 => ?_) (fun c_104 => ?_)
          · skip
            refine lv_bipush (v := 110) hx hb dM_begin_112 (by decide) ?_
            refine va_calli (M_run (As := [.int (110)]) (rest := []) (n := 1) hx hb hml K hM (c_newNode l D cl tys A ci tI tZ cI cZ o ad _ _ (110) n hQ.1.2.2 hn) kM_c_newNode kM_m90 kM_i_newNode kM_s_newNode rfl rfl ⟨rfl, by decide +kernel⟩ ⟨Nat.le_of_ble_eq_true rfl, Nat.le_of_ble_eq_true rfl⟩ rfl hl.1 rfl (lv_room (Nat.le_of_ble_eq_true rfl)) dM_begin_114 ⟨Nat.le_of_ble_eq_true rfl, Nat.le_of_ble_eq_true rfl⟩) hS (fun q _ h => h) (fun q h => h) (fun r u t H1 locs1 ht hvm hw hB hz hk hS => ?_)
            obtain ⟨hM, -⟩ := hB
            rw [ht] at hM
            obtain ⟨rfl, rfl⟩ := hw
            dsimp only at hM
            refine lv_istore_n (lv' := [(2, .int (nI n)), (0, .ref o), (1, .int k)]) hx hb dM_begin_117 rfl hl (by decide) rfl (fun ls hl => ?_)
            refine lv_aload_n hx hb dM_begin_118 rfl (lv_at hl 1 rfl) ?_
            refine M_geta hx hb K hM 10 kM_f28 dM_begin_119 (kk := ?_)
            refine lv_iload_n hx hb dM_begin_122 rfl (lv_at hl 0 rfl) ?_
            refine lv_iload_n hx hb dM_begin_123 rfl (lv_at hl 2 rfl) ?_
            refine lv_bipush (v := 97) hx hb dM_begin_124 (by decide) ?_
            refine lv_isub hx hb dM_begin_126 ?_
            refine M_astn hx hb K hM hS 10 (j := n) hn dM_begin_127 (kk := fun H locs hM hS => ?_)
            refine lv_aload_n hx hb dM_begin_128 rfl (lv_at hl 1 rfl) ?_
            refine lv_iload_n hx hb dM_begin_129 rfl (lv_at hl 0 rfl) ?_
            refine va_callv (M_run (As := [.int (nI n)]) (rest := []) (n := 1) hx hb hml K hM (c_attach0 l D cl tys A ci tI tZ cI cZ o ad _ _ (nI n) (hQ.1.1.trans nI_0)) kM_c_attach kM_m94 kM_i_attach kM_s_attach rfl rfl ⟨rfl, by decide +kernel⟩ ⟨Nat.le_of_ble_eq_true rfl, Nat.le_of_ble_eq_true rfl⟩ rfl hl.1 rfl (lv_room (Nat.le_of_ble_eq_true rfl)) dM_begin_130 ⟨Nat.le_of_ble_eq_true rfl, Nat.le_of_ble_eq_true rfl⟩) hS (fun q _ h => h) (fun q h => h) (fun u t H1 locs1 ht hvm hw hB hz hk hS => ?_)
            obtain ⟨hM, -⟩ := hB
            rw [ht] at hM
            obtain rfl := hw
            dsimp only at hM
            refine lv_iconst (v := 1) hx hb dM_begin_133 (by decide) ?_
            refine W.zret (v := (1)) hx hb hr rfl (M_endi hM hK hS ?_) hS.2.2 dM_begin_134
            exact ⟨⟨fun j h1 h2 h3 => by simp only [up_n h1, up_n h2, up_n h3], rfl⟩, Or.inr ⟨rfl, (0, 6, n + 1, pt, fw, mo, nm, dg), by simp [md_begin, md_add, c_37, c_43, c_85, c_97, c_104], op, mdQ_leaf0 hQ hn 6 dg rfl rfl rfl (Or.inl rfl)⟩⟩
          · skip
            refine lv_bipush (v := 95) hx hb dM_begin_107 (by decide) ?_
            refine lv_goto (tgt := 114) hx hb dM_begin_109 (by decide) ?_
            refine va_calli (M_run (As := [.int (95)]) (rest := []) (n := 1) hx hb hml K hM (c_newNode l D cl tys A ci tI tZ cI cZ o ad _ _ (95) n hQ.1.2.2 hn) kM_c_newNode kM_m90 kM_i_newNode kM_s_newNode rfl rfl ⟨rfl, by decide +kernel⟩ ⟨Nat.le_of_ble_eq_true rfl, Nat.le_of_ble_eq_true rfl⟩ rfl hl.1 rfl (lv_room (Nat.le_of_ble_eq_true rfl)) dM_begin_114 ⟨Nat.le_of_ble_eq_true rfl, Nat.le_of_ble_eq_true rfl⟩) hS (fun q _ h => h) (fun q h => h) (fun r u t H1 locs1 ht hvm hw hB hz hk hS => ?_)
            obtain ⟨hM, -⟩ := hB
            rw [ht] at hM
            obtain ⟨rfl, rfl⟩ := hw
            dsimp only at hM
            refine lv_istore_n (lv' := [(2, .int (nI n)), (0, .ref o), (1, .int k)]) hx hb dM_begin_117 rfl hl (by decide) rfl (fun ls hl => ?_)
            refine lv_aload_n hx hb dM_begin_118 rfl (lv_at hl 1 rfl) ?_
            refine M_geta hx hb K hM 10 kM_f28 dM_begin_119 (kk := ?_)
            refine lv_iload_n hx hb dM_begin_122 rfl (lv_at hl 0 rfl) ?_
            refine lv_iload_n hx hb dM_begin_123 rfl (lv_at hl 2 rfl) ?_
            refine lv_bipush (v := 97) hx hb dM_begin_124 (by decide) ?_
            refine lv_isub hx hb dM_begin_126 ?_
            refine M_astn hx hb K hM hS 10 (j := n) hn dM_begin_127 (kk := fun H locs hM hS => ?_)
            refine lv_aload_n hx hb dM_begin_128 rfl (lv_at hl 1 rfl) ?_
            refine lv_iload_n hx hb dM_begin_129 rfl (lv_at hl 0 rfl) ?_
            refine va_callv (M_run (As := [.int (nI n)]) (rest := []) (n := 1) hx hb hml K hM (c_attach0 l D cl tys A ci tI tZ cI cZ o ad _ _ (nI n) (hQ.1.1.trans nI_0)) kM_c_attach kM_m94 kM_i_attach kM_s_attach rfl rfl ⟨rfl, by decide +kernel⟩ ⟨Nat.le_of_ble_eq_true rfl, Nat.le_of_ble_eq_true rfl⟩ rfl hl.1 rfl (lv_room (Nat.le_of_ble_eq_true rfl)) dM_begin_130 ⟨Nat.le_of_ble_eq_true rfl, Nat.le_of_ble_eq_true rfl⟩) hS (fun q _ h => h) (fun q h => h) (fun u t H1 locs1 ht hvm hw hB hz hk hS => ?_)
            obtain ⟨hM, -⟩ := hB
            rw [ht] at hM
            obtain rfl := hw
            dsimp only at hM
            refine lv_iconst (v := 1) hx hb dM_begin_133 (by decide) ?_
            refine W.zret (v := (1)) hx hb hr rfl (M_endi hM hK hS ?_) hS.2.2 dM_begin_134
            exact ⟨⟨fun j h1 h2 h3 => by simp only [up_n h1, up_n h2, up_n h3], rfl⟩, Or.inr ⟨rfl, (0, 6, n + 1, pt, fw, mo, nm, dg), by simp [md_begin, md_add, c_37, c_43, c_85, c_97, c_104], op, mdQ_leaf0 hQ hn 6 dg rfl rfl rfl (Or.inl rfl)⟩⟩
      · skip
        refine lv_iload_n hx hb dM_begin_88 rfl (lv_at hl 1 rfl) ?_
        refine lv_bipush (v := 122) hx hb dM_begin_89 (by decide) ?_
        refine lv_icmp_le (tgt := 100) hx hb dM_begin_91 (by decide) (fun c_91 => ?_) (fun c_91 => ?_)
        · skip
          refine lv_aload_n hx hb dM_begin_100 rfl (lv_at hl 0 rfl) ?_
          refine lv_iload_n hx hb dM_begin_101 rfl (lv_at hl 1 rfl) ?_
          refine lv_bipush (v := 95) hx hb dM_begin_102 (by decide) ?_
          refine lv_icmp_ne (tgt := 112) hx hb dM_begin_104 (by decide) (fun c_104 => ?_) (fun c_104 => ?_)
          · skip
            refine lv_bipush (v := 110) hx hb dM_begin_112 (by decide) ?_
            refine va_calli (M_run (As := [.int (110)]) (rest := []) (n := 1) hx hb hml K hM (c_newNode l D cl tys A ci tI tZ cI cZ o ad _ _ (110) n hQ.1.2.2 hn) kM_c_newNode kM_m90 kM_i_newNode kM_s_newNode rfl rfl ⟨rfl, by decide +kernel⟩ ⟨Nat.le_of_ble_eq_true rfl, Nat.le_of_ble_eq_true rfl⟩ rfl hl.1 rfl (lv_room (Nat.le_of_ble_eq_true rfl)) dM_begin_114 ⟨Nat.le_of_ble_eq_true rfl, Nat.le_of_ble_eq_true rfl⟩) hS (fun q _ h => h) (fun q h => h) (fun r u t H1 locs1 ht hvm hw hB hz hk hS => ?_)
            obtain ⟨hM, -⟩ := hB
            rw [ht] at hM
            obtain ⟨rfl, rfl⟩ := hw
            dsimp only at hM
            refine lv_istore_n (lv' := [(2, .int (nI n)), (0, .ref o), (1, .int k)]) hx hb dM_begin_117 rfl hl (by decide) rfl (fun ls hl => ?_)
            refine lv_aload_n hx hb dM_begin_118 rfl (lv_at hl 1 rfl) ?_
            refine M_geta hx hb K hM 10 kM_f28 dM_begin_119 (kk := ?_)
            refine lv_iload_n hx hb dM_begin_122 rfl (lv_at hl 0 rfl) ?_
            refine lv_iload_n hx hb dM_begin_123 rfl (lv_at hl 2 rfl) ?_
            refine lv_bipush (v := 97) hx hb dM_begin_124 (by decide) ?_
            refine lv_isub hx hb dM_begin_126 ?_
            refine M_astn hx hb K hM hS 10 (j := n) hn dM_begin_127 (kk := fun H locs hM hS => ?_)
            refine lv_aload_n hx hb dM_begin_128 rfl (lv_at hl 1 rfl) ?_
            refine lv_iload_n hx hb dM_begin_129 rfl (lv_at hl 0 rfl) ?_
            refine va_callv (M_run (As := [.int (nI n)]) (rest := []) (n := 1) hx hb hml K hM (c_attach0 l D cl tys A ci tI tZ cI cZ o ad _ _ (nI n) (hQ.1.1.trans nI_0)) kM_c_attach kM_m94 kM_i_attach kM_s_attach rfl rfl ⟨rfl, by decide +kernel⟩ ⟨Nat.le_of_ble_eq_true rfl, Nat.le_of_ble_eq_true rfl⟩ rfl hl.1 rfl (lv_room (Nat.le_of_ble_eq_true rfl)) dM_begin_130 ⟨Nat.le_of_ble_eq_true rfl, Nat.le_of_ble_eq_true rfl⟩) hS (fun q _ h => h) (fun q h => h) (fun u t H1 locs1 ht hvm hw hB hz hk hS => ?_)
            obtain ⟨hM, -⟩ := hB
            rw [ht] at hM
            obtain rfl := hw
            dsimp only at hM
            refine lv_iconst (v := 1) hx hb dM_begin_133 (by decide) ?_
            refine W.zret (v := (1)) hx hb hr rfl (M_endi hM hK hS ?_) hS.2.2 dM_begin_134
            exact ⟨⟨fun j h1 h2 h3 => by simp only [up_n h1, up_n h2, up_n h3], rfl⟩, Or.inr ⟨rfl, (0, 6, n + 1, pt, fw, mo, nm, dg), by simp [md_begin, md_add, c_37, c_43, c_85, c_91, c_104], op, mdQ_leaf0 hQ hn 6 dg rfl rfl rfl (Or.inl rfl)⟩⟩
          · skip
            refine lv_bipush (v := 95) hx hb dM_begin_107 (by decide) ?_
            refine lv_goto (tgt := 114) hx hb dM_begin_109 (by decide) ?_
            refine va_calli (M_run (As := [.int (95)]) (rest := []) (n := 1) hx hb hml K hM (c_newNode l D cl tys A ci tI tZ cI cZ o ad _ _ (95) n hQ.1.2.2 hn) kM_c_newNode kM_m90 kM_i_newNode kM_s_newNode rfl rfl ⟨rfl, by decide +kernel⟩ ⟨Nat.le_of_ble_eq_true rfl, Nat.le_of_ble_eq_true rfl⟩ rfl hl.1 rfl (lv_room (Nat.le_of_ble_eq_true rfl)) dM_begin_114 ⟨Nat.le_of_ble_eq_true rfl, Nat.le_of_ble_eq_true rfl⟩) hS (fun q _ h => h) (fun q h => h) (fun r u t H1 locs1 ht hvm hw hB hz hk hS => ?_)
            obtain ⟨hM, -⟩ := hB
            rw [ht] at hM
            obtain ⟨rfl, rfl⟩ := hw
            dsimp only at hM
            refine lv_istore_n (lv' := [(2, .int (nI n)), (0, .ref o), (1, .int k)]) hx hb dM_begin_117 rfl hl (by decide) rfl (fun ls hl => ?_)
            refine lv_aload_n hx hb dM_begin_118 rfl (lv_at hl 1 rfl) ?_
            refine M_geta hx hb K hM 10 kM_f28 dM_begin_119 (kk := ?_)
            refine lv_iload_n hx hb dM_begin_122 rfl (lv_at hl 0 rfl) ?_
            refine lv_iload_n hx hb dM_begin_123 rfl (lv_at hl 2 rfl) ?_
            refine lv_bipush (v := 97) hx hb dM_begin_124 (by decide) ?_
            refine lv_isub hx hb dM_begin_126 ?_
            refine M_astn hx hb K hM hS 10 (j := n) hn dM_begin_127 (kk := fun H locs hM hS => ?_)
            refine lv_aload_n hx hb dM_begin_128 rfl (lv_at hl 1 rfl) ?_
            refine lv_iload_n hx hb dM_begin_129 rfl (lv_at hl 0 rfl) ?_
            refine va_callv (M_run (As := [.int (nI n)]) (rest := []) (n := 1) hx hb hml K hM (c_attach0 l D cl tys A ci tI tZ cI cZ o ad _ _ (nI n) (hQ.1.1.trans nI_0)) kM_c_attach kM_m94 kM_i_attach kM_s_attach rfl rfl ⟨rfl, by decide +kernel⟩ ⟨Nat.le_of_ble_eq_true rfl, Nat.le_of_ble_eq_true rfl⟩ rfl hl.1 rfl (lv_room (Nat.le_of_ble_eq_true rfl)) dM_begin_130 ⟨Nat.le_of_ble_eq_true rfl, Nat.le_of_ble_eq_true rfl⟩) hS (fun q _ h => h) (fun q h => h) (fun u t H1 locs1 ht hvm hw hB hz hk hS => ?_)
            obtain ⟨hM, -⟩ := hB
            rw [ht] at hM
            obtain rfl := hw
            dsimp only at hM
            refine lv_iconst (v := 1) hx hb dM_begin_133 (by decide) ?_
            refine W.zret (v := (1)) hx hb hr rfl (M_endi hM hK hS ?_) hS.2.2 dM_begin_134
            exact ⟨⟨fun j h1 h2 h3 => by simp only [up_n h1, up_n h2, up_n h3], rfl⟩, Or.inr ⟨rfl, (0, 6, n + 1, pt, fw, mo, nm, dg), by simp [md_begin, md_add, c_37, c_43, c_85, c_91, c_104], op, mdQ_leaf0 hQ hn 6 dg rfl rfl rfl (Or.inl rfl)⟩⟩
        · skip
          refine lv_iload_n hx hb dM_begin_94 rfl (lv_at hl 1 rfl) ?_
          refine lv_bipush (v := 95) hx hb dM_begin_95 (by decide) ?_
          refine lv_icmp_ne (tgt := 135) hx hb dM_begin_97 (by decide) (fun c_97 => ?_) (fun c_97 => ?_)
          · skip
            refine lv_iload_n hx hb dM_begin_135 rfl (lv_at hl 1 rfl) ?_
            refine lv_bipush (v := 40) hx hb dM_begin_136 (by decide) ?_
            refine lv_icmp_ne (tgt := 150) hx hb dM_begin_138 (by decide) (fun c_138 => ?_) (fun c_138 => ?_)
            · skip
              refine lv_iconst (v := 0) hx hb dM_begin_150 (by decide) ?_
              refine W.zret (v := (0)) hx hb hr rfl (M_endi hM hK hS ?_) hS.2.2 dM_begin_151
              exact md_no (by simp [md_begin, md_add, c_37, c_43, c_85, c_91, c_97, c_138])
            · skip
              refine lv_aload_n hx hb dM_begin_141 rfl (lv_at hl 0 rfl) ?_
              refine M_getv hx hb K hM 7 (v := nI 0) hQ.1.1 kM_f84 dM_begin_142 (kk := ?_)
              refine lv_bipush (v := 12) hx hb dM_begin_145 (by decide) ?_
              refine lv_icmp_ne (tgt := 152) hx hb dM_begin_147 (by decide) (fun c_147 => ?_) (fun c_147 => absurd c_147 (by decide))
              refine lv_aload_n hx hb dM_begin_152 rfl (lv_at hl 0 rfl) ?_
              refine M_geta hx hb K hM 3 kM_f13 dM_begin_153 (kk := ?_)
              refine lv_aload_n hx hb dM_begin_156 rfl (lv_at hl 0 rfl) ?_
              refine M_getv hx hb K hM 7 (v := nI 0) hQ.1.1 kM_f84 dM_begin_157 (kk := ?_)
              refine lv_aload_n hx hb dM_begin_160 rfl (lv_at hl 0 rfl) ?_
              refine lv_bipush (v := 40) hx hb dM_begin_161 (by decide) ?_
              refine va_calli (M_run (As := [.int (40)]) (rest := [.int (nI 0), .ref (ad 3)]) (n := 1) hx hb hml K hM (c_newNode l D cl tys A ci tI tZ cI cZ o ad _ _ (40) n hQ.1.2.2 hn) kM_c_newNode kM_m90 kM_i_newNode kM_s_newNode rfl rfl ⟨rfl, by decide +kernel⟩ ⟨Nat.le_of_ble_eq_true rfl, Nat.le_of_ble_eq_true rfl⟩ rfl hl.1 rfl (lv_room (Nat.le_of_ble_eq_true rfl)) dM_begin_163 ⟨Nat.le_of_ble_eq_true rfl, Nat.le_of_ble_eq_true rfl⟩) hS (fun q _ h => h) (fun q h => h) (fun r u t H1 locs1 ht hvm hw hB hz hk hS => ?_)
              obtain ⟨hM, -⟩ := hB
              rw [ht] at hM
              obtain ⟨rfl, rfl⟩ := hw
              dsimp only at hM
              refine M_astn hx hb K hM hS 3 (j := 0) (show 0 < 13 by omega) dM_begin_166 (kk := fun H locs hM hS => ?_)
              refine lv_aload_n hx hb dM_begin_167 rfl (lv_at hl 0 rfl) ?_
              refine M_geta hx hb K hM 4 kM_f16 dM_begin_168 (kk := ?_)
              refine lv_aload_n hx hb dM_begin_171 rfl (lv_at hl 0 rfl) ?_
              refine M_getv hx hb K hM 7 (v := nI 0) hQ.1.1 kM_f84 dM_begin_172 (kk := ?_)
              refine lv_iconst (v := 0) hx hb dM_begin_175 (by decide) ?_
              refine M_astn hx hb K hM hS 4 (j := 0) (show 0 < 13 by omega) dM_begin_176 (kk := fun H locs hM hS => ?_)
              refine lv_aload_n hx hb dM_begin_177 rfl (lv_at hl 0 rfl) ?_
              refine M_geta hx hb K hM 5 kM_f19 dM_begin_178 (kk := ?_)
              refine lv_aload_n hx hb dM_begin_181 rfl (lv_at hl 0 rfl) ?_
              refine M_getv hx hb K hM 7 (v := nI 0) hQ.1.1 kM_f84 dM_begin_182 (kk := ?_)
              refine lv_iconst (v := 1) hx hb dM_begin_185 (by decide) ?_
              refine M_astn hx hb K hM hS 5 (j := 0) (show 0 < 13 by omega) dM_begin_186 (kk := fun H locs hM hS => ?_)
              refine lv_aload_n hx hb dM_begin_187 rfl (lv_at hl 0 rfl) ?_
              refine M_geta hx hb K hM 6 kM_f22 dM_begin_188 (kk := ?_)
              refine lv_aload_n hx hb dM_begin_191 rfl (lv_at hl 0 rfl) ?_
              refine M_getv hx hb K hM 7 (v := nI 0) hQ.1.1 kM_f84 dM_begin_192 (kk := ?_)
              refine lv_iconst (v := 4) hx hb dM_begin_195 (by decide) ?_
              refine M_astn hx hb K hM hS 6 (j := 0) (show 0 < 13 by omega) dM_begin_196 (kk := fun H locs hM hS => ?_)
              refine lv_aload_n hx hb dM_begin_197 rfl (lv_at hl 0 rfl) ?_
              refine lv_dup hx hb dM_begin_198 rfl ?_
              refine M_getv hx hb K hM 7 (v := nI 0) hQ.1.1 kM_f84 dM_begin_199 (kk := ?_)
              refine lv_iconst (v := 1) hx hb dM_begin_202 (by decide) ?_
              refine lv_iadd hx hb dM_begin_203 ?_
              refine lv_as (v := nI (0 + 1)) (nI_1 _) ?_
              refine M_puti hx hb K hM hS 7 kM_f84 dM_begin_204 (kk := fun H locs hM hS => ?_)
              refine lv_aload_n hx hb dM_begin_207 rfl (lv_at hl 0 rfl) ?_
              refine lv_iconst (v := 1) hx hb dM_begin_208 (by decide) ?_
              refine M_puti hx hb K hM hS 8 kM_f87 dM_begin_209 (kk := fun H locs hM hS => ?_)
              refine lv_iconst (v := 1) hx hb dM_begin_212 (by decide) ?_
              refine W.zret (v := (1)) hx hb hr rfl (M_endi hM hK hS ?_) hS.2.2 dM_begin_213
              exact ⟨⟨fun j h1 h2 h3 => by simp only [up_n h1, up_n h2, up_n h3], rfl⟩, Or.inr ⟨rfl, (0 + 1, 1, n + 1, va_up pt 0 0, va_up fw 0 1, va_up mo 0 4, nm, dg), by simp [md_begin, md_add, c_37, c_43, c_85, c_91, c_97, c_138, c_147], _, mdQ_open hQ hn (by omega) (fun j hj => by omega) rfl rfl rfl rfl rfl rfl rfl upd_s⟩⟩
          · skip
            refine lv_aload_n hx hb dM_begin_100 rfl (lv_at hl 0 rfl) ?_
            refine lv_iload_n hx hb dM_begin_101 rfl (lv_at hl 1 rfl) ?_
            refine lv_bipush (v := 95) hx hb dM_begin_102 (by decide) ?_
            refine lv_icmp_ne (tgt := 112) hx hb dM_begin_104 (by decide) (fun c_104 => ?_) (fun c_104 => ?_)
            · skip
              refine lv_bipush (v := 110) hx hb dM_begin_112 (by decide) ?_
              refine va_calli (M_run (As := [.int (110)]) (rest := []) (n := 1) hx hb hml K hM (c_newNode l D cl tys A ci tI tZ cI cZ o ad _ _ (110) n hQ.1.2.2 hn) kM_c_newNode kM_m90 kM_i_newNode kM_s_newNode rfl rfl ⟨rfl, by decide +kernel⟩ ⟨Nat.le_of_ble_eq_true rfl, Nat.le_of_ble_eq_true rfl⟩ rfl hl.1 rfl (lv_room (Nat.le_of_ble_eq_true rfl)) dM_begin_114 ⟨Nat.le_of_ble_eq_true rfl, Nat.le_of_ble_eq_true rfl⟩) hS (fun q _ h => h) (fun q h => h) (fun r u t H1 locs1 ht hvm hw hB hz hk hS => ?_)
              obtain ⟨hM, -⟩ := hB
              rw [ht] at hM
              obtain ⟨rfl, rfl⟩ := hw
              dsimp only at hM
              refine lv_istore_n (lv' := [(2, .int (nI n)), (0, .ref o), (1, .int k)]) hx hb dM_begin_117 rfl hl (by decide) rfl (fun ls hl => ?_)
              refine lv_aload_n hx hb dM_begin_118 rfl (lv_at hl 1 rfl) ?_
              refine M_geta hx hb K hM 10 kM_f28 dM_begin_119 (kk := ?_)
              refine lv_iload_n hx hb dM_begin_122 rfl (lv_at hl 0 rfl) ?_
              refine lv_iload_n hx hb dM_begin_123 rfl (lv_at hl 2 rfl) ?_
              refine lv_bipush (v := 97) hx hb dM_begin_124 (by decide) ?_
              refine lv_isub hx hb dM_begin_126 ?_
              refine M_astn hx hb K hM hS 10 (j := n) hn dM_begin_127 (kk := fun H locs hM hS => ?_)
              refine lv_aload_n hx hb dM_begin_128 rfl (lv_at hl 1 rfl) ?_
              refine lv_iload_n hx hb dM_begin_129 rfl (lv_at hl 0 rfl) ?_
              refine va_callv (M_run (As := [.int (nI n)]) (rest := []) (n := 1) hx hb hml K hM (c_attach0 l D cl tys A ci tI tZ cI cZ o ad _ _ (nI n) (hQ.1.1.trans nI_0)) kM_c_attach kM_m94 kM_i_attach kM_s_attach rfl rfl ⟨rfl, by decide +kernel⟩ ⟨Nat.le_of_ble_eq_true rfl, Nat.le_of_ble_eq_true rfl⟩ rfl hl.1 rfl (lv_room (Nat.le_of_ble_eq_true rfl)) dM_begin_130 ⟨Nat.le_of_ble_eq_true rfl, Nat.le_of_ble_eq_true rfl⟩) hS (fun q _ h => h) (fun q h => h) (fun u t H1 locs1 ht hvm hw hB hz hk hS => ?_)
              obtain ⟨hM, -⟩ := hB
              rw [ht] at hM
              obtain rfl := hw
              dsimp only at hM
              refine lv_iconst (v := 1) hx hb dM_begin_133 (by decide) ?_
              refine W.zret (v := (1)) hx hb hr rfl (M_endi hM hK hS ?_) hS.2.2 dM_begin_134
              exact ⟨⟨fun j h1 h2 h3 => by simp only [up_n h1, up_n h2, up_n h3], rfl⟩, Or.inr ⟨rfl, (0, 6, n + 1, pt, fw, mo, nm, dg), by simp [md_begin, md_add, c_37, c_43, c_85, c_91, c_97, c_104], op, mdQ_leaf0 hQ hn 6 dg rfl rfl rfl (Or.inl rfl)⟩⟩
            · skip
              refine lv_bipush (v := 95) hx hb dM_begin_107 (by decide) ?_
              refine lv_goto (tgt := 114) hx hb dM_begin_109 (by decide) ?_
              refine va_calli (M_run (As := [.int (95)]) (rest := []) (n := 1) hx hb hml K hM (c_newNode l D cl tys A ci tI tZ cI cZ o ad _ _ (95) n hQ.1.2.2 hn) kM_c_newNode kM_m90 kM_i_newNode kM_s_newNode rfl rfl ⟨rfl, by decide +kernel⟩ ⟨Nat.le_of_ble_eq_true rfl, Nat.le_of_ble_eq_true rfl⟩ rfl hl.1 rfl (lv_room (Nat.le_of_ble_eq_true rfl)) dM_begin_114 ⟨Nat.le_of_ble_eq_true rfl, Nat.le_of_ble_eq_true rfl⟩) hS (fun q _ h => h) (fun q h => h) (fun r u t H1 locs1 ht hvm hw hB hz hk hS => ?_)
              obtain ⟨hM, -⟩ := hB
              rw [ht] at hM
              obtain ⟨rfl, rfl⟩ := hw
              dsimp only at hM
              refine lv_istore_n (lv' := [(2, .int (nI n)), (0, .ref o), (1, .int k)]) hx hb dM_begin_117 rfl hl (by decide) rfl (fun ls hl => ?_)
              refine lv_aload_n hx hb dM_begin_118 rfl (lv_at hl 1 rfl) ?_
              refine M_geta hx hb K hM 10 kM_f28 dM_begin_119 (kk := ?_)
              refine lv_iload_n hx hb dM_begin_122 rfl (lv_at hl 0 rfl) ?_
              refine lv_iload_n hx hb dM_begin_123 rfl (lv_at hl 2 rfl) ?_
              refine lv_bipush (v := 97) hx hb dM_begin_124 (by decide) ?_
              refine lv_isub hx hb dM_begin_126 ?_
              refine M_astn hx hb K hM hS 10 (j := n) hn dM_begin_127 (kk := fun H locs hM hS => ?_)
              refine lv_aload_n hx hb dM_begin_128 rfl (lv_at hl 1 rfl) ?_
              refine lv_iload_n hx hb dM_begin_129 rfl (lv_at hl 0 rfl) ?_
              refine va_callv (M_run (As := [.int (nI n)]) (rest := []) (n := 1) hx hb hml K hM (c_attach0 l D cl tys A ci tI tZ cI cZ o ad _ _ (nI n) (hQ.1.1.trans nI_0)) kM_c_attach kM_m94 kM_i_attach kM_s_attach rfl rfl ⟨rfl, by decide +kernel⟩ ⟨Nat.le_of_ble_eq_true rfl, Nat.le_of_ble_eq_true rfl⟩ rfl hl.1 rfl (lv_room (Nat.le_of_ble_eq_true rfl)) dM_begin_130 ⟨Nat.le_of_ble_eq_true rfl, Nat.le_of_ble_eq_true rfl⟩) hS (fun q _ h => h) (fun q h => h) (fun u t H1 locs1 ht hvm hw hB hz hk hS => ?_)
              obtain ⟨hM, -⟩ := hB
              rw [ht] at hM
              obtain rfl := hw
              dsimp only at hM
              refine lv_iconst (v := 1) hx hb dM_begin_133 (by decide) ?_
              refine W.zret (v := (1)) hx hb hr rfl (M_endi hM hK hS ?_) hS.2.2 dM_begin_134
              exact ⟨⟨fun j h1 h2 h3 => by simp only [up_n h1, up_n h2, up_n h3], rfl⟩, Or.inr ⟨rfl, (0, 6, n + 1, pt, fw, mo, nm, dg), by simp [md_begin, md_add, c_37, c_43, c_85, c_91, c_97, c_104], op, mdQ_leaf0 hQ hn 6 dg rfl rfl rfl (Or.inl rfl)⟩⟩
    · skip
      refine lv_aload_n hx hb dM_begin_46 rfl (lv_at hl 0 rfl) ?_
      refine lv_bipush (v := 48) hx hb dM_begin_47 (by decide) ?_
      refine va_calli (M_run (As := [.int (48)]) (rest := []) (n := 1) hx hb hml K hM (c_newNode l D cl tys A ci tI tZ cI cZ o ad _ _ (48) n hQ.1.2.2 hn) kM_c_newNode kM_m90 kM_i_newNode kM_s_newNode rfl rfl ⟨rfl, by decide +kernel⟩ ⟨Nat.le_of_ble_eq_true rfl, Nat.le_of_ble_eq_true rfl⟩ rfl hl.1 rfl (lv_room (Nat.le_of_ble_eq_true rfl)) dM_begin_49 ⟨Nat.le_of_ble_eq_true rfl, Nat.le_of_ble_eq_true rfl⟩) hS (fun q _ h => h) (fun q h => h) (fun r u t H1 locs1 ht hvm hw hB hz hk hS => ?_)
      obtain ⟨hM, -⟩ := hB
      rw [ht] at hM
      obtain ⟨rfl, rfl⟩ := hw
      dsimp only at hM
      refine lv_istore_n (lv' := [(2, .int (nI n)), (0, .ref o), (1, .int k)]) hx hb dM_begin_52 rfl hl (by decide) rfl (fun ls hl => ?_)
      refine lv_aload_n hx hb dM_begin_53 rfl (lv_at hl 1 rfl) ?_
      refine M_geta hx hb K hM 10 kM_f28 dM_begin_54 (kk := ?_)
      refine lv_iload_n hx hb dM_begin_57 rfl (lv_at hl 0 rfl) ?_
      refine lv_iload_n hx hb dM_begin_58 rfl (lv_at hl 2 rfl) ?_
      refine lv_bipush (v := 48) hx hb dM_begin_59 (by decide) ?_
      refine lv_isub hx hb dM_begin_61 ?_
      refine M_astn hx hb K hM hS 10 (j := n) hn dM_begin_62 (kk := fun H locs hM hS => ?_)
      refine lv_aload_n hx hb dM_begin_63 rfl (lv_at hl 1 rfl) ?_
      refine M_geta hx hb K hM 11 kM_f31 dM_begin_64 (kk := ?_)
      refine lv_iload_n hx hb dM_begin_67 rfl (lv_at hl 0 rfl) ?_
      refine lv_iconst (v := 1) hx hb dM_begin_68 (by decide) ?_
      refine M_astn hx hb K hM hS 11 (j := n) hn dM_begin_69 (kk := fun H locs hM hS => ?_)
      refine lv_aload_n hx hb dM_begin_70 rfl (lv_at hl 1 rfl) ?_
      refine lv_iload_n hx hb dM_begin_71 rfl (lv_at hl 0 rfl) ?_
      refine va_callv (M_run (As := [.int (nI n)]) (rest := []) (n := 1) hx hb hml K hM (c_attach0 l D cl tys A ci tI tZ cI cZ o ad _ _ (nI n) (hQ.1.1.trans nI_0)) kM_c_attach kM_m94 kM_i_attach kM_s_attach rfl rfl ⟨rfl, by decide +kernel⟩ ⟨Nat.le_of_ble_eq_true rfl, Nat.le_of_ble_eq_true rfl⟩ rfl hl.1 rfl (lv_room (Nat.le_of_ble_eq_true rfl)) dM_begin_72 ⟨Nat.le_of_ble_eq_true rfl, Nat.le_of_ble_eq_true rfl⟩) hS (fun q _ h => h) (fun q h => h) (fun u t H1 locs1 ht hvm hw hB hz hk hS => ?_)
      obtain ⟨hM, -⟩ := hB
      rw [ht] at hM
      obtain rfl := hw
      dsimp only at hM
      refine lv_aload_n hx hb dM_begin_75 rfl (lv_at hl 1 rfl) ?_
      refine lv_iconst (v := 4) hx hb dM_begin_76 (by decide) ?_
      refine M_puti hx hb K hM hS 8 kM_f87 dM_begin_77 (kk := fun H locs hM hS => ?_)
      refine lv_iconst (v := 1) hx hb dM_begin_80 (by decide) ?_
      refine W.zret (v := (1)) hx hb hr rfl (M_endi hM hK hS ?_) hS.2.2 dM_begin_81
      exact ⟨⟨fun j h1 h2 h3 => by simp only [up_n h1, up_n h2, up_n h3], rfl⟩, Or.inr ⟨rfl, (0, 4, n + 1, pt, fw, mo, nm, 1), by simp [md_begin, md_add, c_37, c_43], op, mdQ_leaf0 hQ hn 4 1 rfl rfl rfl (Or.inr ⟨rfl, by decide, upd_s⟩)⟩⟩
set_option maxHeartbeats 4000000 in
set_option maxRecDepth 100000 in
theorem c_beginS (l : Launch) (D : va_G) (cl : List vw_C) (tys : List (ClassId × FieldType)) (A : Nat → Prop) (ci tI tZ : Nat) (cI cZ : ClassId) (o : Nat) (ad : Nat → Nat) (fi : Nat → Int32) (fa : Nat → Nat → Int32) (k : Int32) (op : Nat → Nat) (d md n : Nat) (pt fw mo : Nat → Nat) (nm : List Nat) (dg : Nat) (hQ : mdQ fi fa op (d + 1) md n pt fw mo nm dg) (hn : n < 120) :
    Met l yM_begin (.code yM_begin bM_begin 3 (some .boolean) :: lw_g) ({ frames := 1, cells := 0, slots := 0, locals := 22 }) (va_Pc [.ref o, .int k] (mdPre D cl tys A ci tI tZ cI cZ o ad fi fa)) (va_Qi (md_res (md_begin k (d + 1, md, n, pt, fw, mo, nm, dg)) fi fa) (mdB D cl tys A ci cI cZ o ad) A) 0 0 A := by
  refine Met.ofW (cc := bM_begin) (maxL := 3) (ret := (some .boolean)) (by decide) rfl ?_
  intro p e s m args below meth c s₁ B hml hv
  obtain ⟨rfl, hM, hK, hc, hI, hZ⟩ := hv
  have hx := B.exec
  have hb := B.bytes
  have hr := B.returns
  have hts := atoms_spec (ws := (.code yM_begin bM_begin 3 (some .boolean) :: lw_g)) B.pre
  have hown : s.vm.findClass RM = some m.cls := findClass_of_methodNamed B.named
  have K : mdC D cl tys ci tI tZ cI cZ s m _ := ⟨fun w h => hts w (List.mem_cons_of_mem _ h), hown, hK, hc, hI, hZ⟩
  have hlocks := B.notSynchronized
  have hS : va_S A s.heap s.heap [] := va_S.rf
  have hl := lv_entry ([.ref o, .int k]) (n := 3) (Nat.le_of_ble_eq_true rfl)
  rw [lg_entry_eq]
  generalize (lg_sl ([.ref o, .int k]) ++ List.replicate (3 - (lg_sl ([.ref o, .int k])).length) Slot.unset).toArray = ls at hl ⊢
  have hl : lv_has ls 3 [(0, .ref o), (1, .int k)] := hl
  have hd11 : d + 1 ≤ 12 := hQ.2.1.1
  have hod := (hQ.2.2.1 d (by omega)).1.2
  have hpm := (hQ.2.2.1 d (by omega)).2.2
  refine lv_aload_n hx hb dM_begin_0 rfl (lv_at hl 0 rfl) ?_
  refine M_getv hx hb K hM 7 (v := nI (d + 1)) hQ.1.1 kM_f84 dM_begin_1 (kk := ?_)
  refine lv_if_le (tgt := 34) hx hb dM_begin_4 (by decide) (fun c_4 => absurd c_4 (nI_nle (Nat.succ_pos d) (by omega))) (fun c_4 => ?_)
  refine lv_aload_n hx hb dM_begin_7 rfl (lv_at hl 0 rfl) ?_
  refine M_geta hx hb K hM 4 kM_f16 dM_begin_8 (kk := ?_)
  refine lv_aload_n hx hb dM_begin_11 rfl (lv_at hl 0 rfl) ?_
  refine M_getv hx hb K hM 7 (v := nI (d + 1)) hQ.1.1 kM_f84 dM_begin_12 (kk := ?_)
  refine lv_iconst (v := 1) hx hb dM_begin_15 (by decide) ?_
  refine lv_isub hx hb dM_begin_16 ?_
  refine lv_as (v := nI d) (nI_pred d) ?_
  refine M_aldn hx hb K hM 4 (j := d) (show d < 13 by omega) (v := nI (pt d)) (hQ.2.2.1 d (by omega)).2.1.1 dM_begin_17 (kk := ?_)
  refine lv_aload_n hx hb dM_begin_18 rfl (lv_at hl 0 rfl) ?_
  refine M_geta hx hb K hM 6 kM_f22 dM_begin_19 (kk := ?_)
  refine lv_aload_n hx hb dM_begin_22 rfl (lv_at hl 0 rfl) ?_
  refine M_getv hx hb K hM 7 (v := nI (d + 1)) hQ.1.1 kM_f84 dM_begin_23 (kk := ?_)
  refine lv_iconst (v := 1) hx hb dM_begin_26 (by decide) ?_
  refine lv_isub hx hb dM_begin_27 ?_
  refine lv_as (v := nI d) (nI_pred d) ?_
  refine M_aldn hx hb K hM 6 (j := d) (show d < 13 by omega) (v := nI (mo d)) (hQ.2.2.1 d (by omega)).2.1.2.2 dM_begin_28 (kk := ?_)
  refine lv_icmp_ne (tgt := 34) hx hb dM_begin_29 (by decide) (fun c_29 => ?_) (fun c_29 => ?_)
  · skip
    have hp : ¬ pt d = mo d := fun q => c_29 (by rw [q])
    have hp3 : pt d < mo d := by omega
    refine lv_iload_n hx hb dM_begin_34 rfl (lv_at hl 1 rfl) ?_
    refine lv_bipush (v := 48) hx hb dM_begin_35 (by decide) ?_
    refine lv_icmp_lt (tgt := 82) hx hb dM_begin_37 (by decide) (fun c_37 => ?_) (fun c_37 => ?_)
    · skip
      refine lv_iload_n hx hb dM_begin_82 rfl (lv_at hl 1 rfl) ?_
      refine lv_bipush (v := 97) hx hb dM_begin_83 (by decide) ?_
      refine lv_icmp_lt (tgt := 94) hx hb dM_begin_85 (by decide) (fun c_85 => ?_) (fun c_85 => ?_)
      · skip
        refine lv_iload_n hx hb dM_begin_94 rfl (lv_at hl 1 rfl) ?_
        refine lv_bipush (v := 95) hx hb dM_begin_95 (by decide) ?_
        refine lv_icmp_ne (tgt := 135) hx hb dM_begin_97 (by decide) (fun c_97 => ?_) (fun c_97 => ?_)
        · skip
          refine lv_iload_n hx hb dM_begin_135 rfl (lv_at hl 1 rfl) ?_
          refine lv_bipush (v := 40) hx hb dM_begin_136 (by decide) ?_
          refine lv_icmp_ne (tgt := 150) hx hb dM_begin_138 (by decide) (fun c_138 => ?_) (fun c_138 => ?_)
          · skip
            refine lv_iconst (v := 0) hx hb dM_begin_150 (by decide) ?_
            refine W.zret (v := (0)) hx hb hr rfl (M_endi hM hK hS ?_) hS.2.2 dM_begin_151
            exact md_no (by simp [md_begin, hp, c_37, c_85, c_97, c_138])
          · skip
            refine lv_aload_n hx hb dM_begin_141 rfl (lv_at hl 0 rfl) ?_
            refine M_getv hx hb K hM 7 (v := nI (d + 1)) hQ.1.1 kM_f84 dM_begin_142 (kk := ?_)
            refine lv_bipush (v := 12) hx hb dM_begin_145 (by decide) ?_
            refine lv_icmp_ne (tgt := 152) hx hb dM_begin_147 (by decide) (fun c_147 => ?_) (fun c_147 => ?_)
            · skip
              have hd12 : ¬ d + 1 = 12 := fun q => c_147 (by rw [q]; rfl)
              refine lv_aload_n hx hb dM_begin_152 rfl (lv_at hl 0 rfl) ?_
              refine M_geta hx hb K hM 3 kM_f13 dM_begin_153 (kk := ?_)
              refine lv_aload_n hx hb dM_begin_156 rfl (lv_at hl 0 rfl) ?_
              refine M_getv hx hb K hM 7 (v := nI (d + 1)) hQ.1.1 kM_f84 dM_begin_157 (kk := ?_)
              refine lv_aload_n hx hb dM_begin_160 rfl (lv_at hl 0 rfl) ?_
              refine lv_bipush (v := 40) hx hb dM_begin_161 (by decide) ?_
              refine va_calli (M_run (As := [.int (40)]) (rest := [.int (nI (d + 1)), .ref (ad 3)]) (n := 1) hx hb hml K hM (c_newNode l D cl tys A ci tI tZ cI cZ o ad _ _ (40) n hQ.1.2.2 hn) kM_c_newNode kM_m90 kM_i_newNode kM_s_newNode rfl rfl ⟨rfl, by decide +kernel⟩ ⟨Nat.le_of_ble_eq_true rfl, Nat.le_of_ble_eq_true rfl⟩ rfl hl.1 rfl (lv_room (Nat.le_of_ble_eq_true rfl)) dM_begin_163 ⟨Nat.le_of_ble_eq_true rfl, Nat.le_of_ble_eq_true rfl⟩) hS (fun q _ h => h) (fun q h => h) (fun r u t H1 locs1 ht hvm hw hB hz hk hS => ?_)
              obtain ⟨hM, -⟩ := hB
              rw [ht] at hM
              obtain ⟨rfl, rfl⟩ := hw
              dsimp only at hM
              refine M_astn hx hb K hM hS 3 (j := (d + 1)) (show (d + 1) < 13 by omega) dM_begin_166 (kk := fun H locs hM hS => ?_)
              refine lv_aload_n hx hb dM_begin_167 rfl (lv_at hl 0 rfl) ?_
              refine M_geta hx hb K hM 4 kM_f16 dM_begin_168 (kk := ?_)
              refine lv_aload_n hx hb dM_begin_171 rfl (lv_at hl 0 rfl) ?_
              refine M_getv hx hb K hM 7 (v := nI (d + 1)) hQ.1.1 kM_f84 dM_begin_172 (kk := ?_)
              refine lv_iconst (v := 0) hx hb dM_begin_175 (by decide) ?_
              refine M_astn hx hb K hM hS 4 (j := (d + 1)) (show (d + 1) < 13 by omega) dM_begin_176 (kk := fun H locs hM hS => ?_)
              refine lv_aload_n hx hb dM_begin_177 rfl (lv_at hl 0 rfl) ?_
              refine M_geta hx hb K hM 5 kM_f19 dM_begin_178 (kk := ?_)
              refine lv_aload_n hx hb dM_begin_181 rfl (lv_at hl 0 rfl) ?_
              refine M_getv hx hb K hM 7 (v := nI (d + 1)) hQ.1.1 kM_f84 dM_begin_182 (kk := ?_)
              refine lv_iconst (v := 1) hx hb dM_begin_185 (by decide) ?_
              refine M_astn hx hb K hM hS 5 (j := (d + 1)) (show (d + 1) < 13 by omega) dM_begin_186 (kk := fun H locs hM hS => ?_)
              refine lv_aload_n hx hb dM_begin_187 rfl (lv_at hl 0 rfl) ?_
              refine M_geta hx hb K hM 6 kM_f22 dM_begin_188 (kk := ?_)
              refine lv_aload_n hx hb dM_begin_191 rfl (lv_at hl 0 rfl) ?_
              refine M_getv hx hb K hM 7 (v := nI (d + 1)) hQ.1.1 kM_f84 dM_begin_192 (kk := ?_)
              refine lv_iconst (v := 4) hx hb dM_begin_195 (by decide) ?_
              refine M_astn hx hb K hM hS 6 (j := (d + 1)) (show (d + 1) < 13 by omega) dM_begin_196 (kk := fun H locs hM hS => ?_)
              refine lv_aload_n hx hb dM_begin_197 rfl (lv_at hl 0 rfl) ?_
              refine lv_dup hx hb dM_begin_198 rfl ?_
              refine M_getv hx hb K hM 7 (v := nI (d + 1)) hQ.1.1 kM_f84 dM_begin_199 (kk := ?_)
              refine lv_iconst (v := 1) hx hb dM_begin_202 (by decide) ?_
              refine lv_iadd hx hb dM_begin_203 ?_
              refine lv_as (v := nI ((d + 1) + 1)) (nI_1 _) ?_
              refine M_puti hx hb K hM hS 7 kM_f84 dM_begin_204 (kk := fun H locs hM hS => ?_)
              refine lv_aload_n hx hb dM_begin_207 rfl (lv_at hl 0 rfl) ?_
              refine lv_iconst (v := 1) hx hb dM_begin_208 (by decide) ?_
              refine M_puti hx hb K hM hS 8 kM_f87 dM_begin_209 (kk := fun H locs hM hS => ?_)
              refine lv_iconst (v := 1) hx hb dM_begin_212 (by decide) ?_
              refine W.zret (v := (1)) hx hb hr rfl (M_endi hM hK hS ?_) hS.2.2 dM_begin_213
              exact ⟨⟨fun j h1 h2 h3 => by simp only [up_n h1, up_n h2, up_n h3], rfl⟩, Or.inr ⟨rfl, (d + 1 + 1, 1, n + 1, va_up pt (d + 1) 0, va_up fw (d + 1) 1, va_up mo (d + 1) 4, nm, dg), by simp [md_begin, hp, hd12, c_37, c_85, c_97, c_138], _, mdQ_open hQ hn (by omega) (fun j hj => by rw [show j = d by omega]; exact hp3) rfl rfl rfl rfl rfl rfl rfl upd_s⟩⟩
            · skip
              refine lv_iconst (v := 0) hx hb dM_begin_150 (by decide) ?_
              refine W.zret (v := (0)) hx hb hr rfl (M_endi hM hK hS ?_) hS.2.2 dM_begin_151
              exact md_no (by have := (nI_eq (b := 12) (by omega) (by decide)).mp c_147; simp [md_begin, hp, this, c_37, c_85, c_97, c_138])
        · skip
          refine lv_aload_n hx hb dM_begin_100 rfl (lv_at hl 0 rfl) ?_
          refine lv_iload_n hx hb dM_begin_101 rfl (lv_at hl 1 rfl) ?_
          refine lv_bipush (v := 95) hx hb dM_begin_102 (by decide) ?_
          refine lv_icmp_ne (tgt := 112) hx hb dM_begin_104 (by decide) (fun c_104 => ?_) (fun c_104 => ?_)
          · skip
            refine lv_bipush (v := 110) hx hb dM_begin_112 (by decide) ?_
            refine va_calli (M_run (As := [.int (110)]) (rest := []) (n := 1) hx hb hml K hM (c_newNode l D cl tys A ci tI tZ cI cZ o ad _ _ (110) n hQ.1.2.2 hn) kM_c_newNode kM_m90 kM_i_newNode kM_s_newNode rfl rfl ⟨rfl, by decide +kernel⟩ ⟨Nat.le_of_ble_eq_true rfl, Nat.le_of_ble_eq_true rfl⟩ rfl hl.1 rfl (lv_room (Nat.le_of_ble_eq_true rfl)) dM_begin_114 ⟨Nat.le_of_ble_eq_true rfl, Nat.le_of_ble_eq_true rfl⟩) hS (fun q _ h => h) (fun q h => h) (fun r u t H1 locs1 ht hvm hw hB hz hk hS => ?_)
            obtain ⟨hM, -⟩ := hB
            rw [ht] at hM
            obtain ⟨rfl, rfl⟩ := hw
            dsimp only at hM
            refine lv_istore_n (lv' := [(2, .int (nI n)), (0, .ref o), (1, .int k)]) hx hb dM_begin_117 rfl hl (by decide) rfl (fun ls hl => ?_)
            refine lv_aload_n hx hb dM_begin_118 rfl (lv_at hl 1 rfl) ?_
            refine M_geta hx hb K hM 10 kM_f28 dM_begin_119 (kk := ?_)
            refine lv_iload_n hx hb dM_begin_122 rfl (lv_at hl 0 rfl) ?_
            refine lv_iload_n hx hb dM_begin_123 rfl (lv_at hl 2 rfl) ?_
            refine lv_bipush (v := 97) hx hb dM_begin_124 (by decide) ?_
            refine lv_isub hx hb dM_begin_126 ?_
            refine M_astn hx hb K hM hS 10 (j := n) hn dM_begin_127 (kk := fun H locs hM hS => ?_)
            refine lv_aload_n hx hb dM_begin_128 rfl (lv_at hl 1 rfl) ?_
            refine lv_iload_n hx hb dM_begin_129 rfl (lv_at hl 0 rfl) ?_
            refine va_callv (M_run (As := [.int (nI n)]) (rest := []) (n := 1) hx hb hml K hM (c_attachS l D cl tys A ci tI tZ cI cZ o ad _ _ (nI n) d (op d) (pt d) hQ.1.1 (by omega) (hQ.2.2.1 d (by omega)).1.1 (by omega) (hQ.2.2.1 d (by omega)).2.1.1 (by omega)) kM_c_attach kM_m94 kM_i_attach kM_s_attach rfl rfl ⟨rfl, by decide +kernel⟩ ⟨Nat.le_of_ble_eq_true rfl, Nat.le_of_ble_eq_true rfl⟩ rfl hl.1 rfl (lv_room (Nat.le_of_ble_eq_true rfl)) dM_begin_130 ⟨Nat.le_of_ble_eq_true rfl, Nat.le_of_ble_eq_true rfl⟩) hS (fun q _ h => h) (fun q h => h) (fun u t H1 locs1 ht hvm hw hB hz hk hS => ?_)
            obtain ⟨hM, -⟩ := hB
            rw [ht] at hM
            obtain ⟨g, rfl⟩ := hw
            dsimp only at hM
            refine lv_iconst (v := 1) hx hb dM_begin_133 (by decide) ?_
            refine W.zret (v := (1)) hx hb hr rfl (M_endi hM hK hS ?_) hS.2.2 dM_begin_134
            exact ⟨⟨fun j h1 h2 h3 => by simp only [up_n h1, up_n h2, up_n h3], rfl⟩, Or.inr ⟨rfl, (d + 1, 0, n + 1, va_up pt d (pt d + 1), fw, mo, nm, dg), by simp [md_begin, md_add, hp, c_37, c_85, c_97, c_104], op, mdQ_leafS hQ hn hp3 0 dg rfl rfl rfl rfl rfl rfl rfl (Or.inl rfl)⟩⟩
          · skip
            refine lv_bipush (v := 95) hx hb dM_begin_107 (by decide) ?_
            refine lv_goto (tgt := 114) hx hb dM_begin_109 (by decide) ?_
            refine va_calli (M_run (As := [.int (95)]) (rest := []) (n := 1) hx hb hml K hM (c_newNode l D cl tys A ci tI tZ cI cZ o ad _ _ (95) n hQ.1.2.2 hn) kM_c_newNode kM_m90 kM_i_newNode kM_s_newNode rfl rfl ⟨rfl, by decide +kernel⟩ ⟨Nat.le_of_ble_eq_true rfl, Nat.le_of_ble_eq_true rfl⟩ rfl hl.1 rfl (lv_room (Nat.le_of_ble_eq_true rfl)) dM_begin_114 ⟨Nat.le_of_ble_eq_true rfl, Nat.le_of_ble_eq_true rfl⟩) hS (fun q _ h => h) (fun q h => h) (fun r u t H1 locs1 ht hvm hw hB hz hk hS => ?_)
            obtain ⟨hM, -⟩ := hB
            rw [ht] at hM
            obtain ⟨rfl, rfl⟩ := hw
            dsimp only at hM
            refine lv_istore_n (lv' := [(2, .int (nI n)), (0, .ref o), (1, .int k)]) hx hb dM_begin_117 rfl hl (by decide) rfl (fun ls hl => ?_)
            refine lv_aload_n hx hb dM_begin_118 rfl (lv_at hl 1 rfl) ?_
            refine M_geta hx hb K hM 10 kM_f28 dM_begin_119 (kk := ?_)
            refine lv_iload_n hx hb dM_begin_122 rfl (lv_at hl 0 rfl) ?_
            refine lv_iload_n hx hb dM_begin_123 rfl (lv_at hl 2 rfl) ?_
            refine lv_bipush (v := 97) hx hb dM_begin_124 (by decide) ?_
            refine lv_isub hx hb dM_begin_126 ?_
            refine M_astn hx hb K hM hS 10 (j := n) hn dM_begin_127 (kk := fun H locs hM hS => ?_)
            refine lv_aload_n hx hb dM_begin_128 rfl (lv_at hl 1 rfl) ?_
            refine lv_iload_n hx hb dM_begin_129 rfl (lv_at hl 0 rfl) ?_
            refine va_callv (M_run (As := [.int (nI n)]) (rest := []) (n := 1) hx hb hml K hM (c_attachS l D cl tys A ci tI tZ cI cZ o ad _ _ (nI n) d (op d) (pt d) hQ.1.1 (by omega) (hQ.2.2.1 d (by omega)).1.1 (by omega) (hQ.2.2.1 d (by omega)).2.1.1 (by omega)) kM_c_attach kM_m94 kM_i_attach kM_s_attach rfl rfl ⟨rfl, by decide +kernel⟩ ⟨Nat.le_of_ble_eq_true rfl, Nat.le_of_ble_eq_true rfl⟩ rfl hl.1 rfl (lv_room (Nat.le_of_ble_eq_true rfl)) dM_begin_130 ⟨Nat.le_of_ble_eq_true rfl, Nat.le_of_ble_eq_true rfl⟩) hS (fun q _ h => h) (fun q h => h) (fun u t H1 locs1 ht hvm hw hB hz hk hS => ?_)
            obtain ⟨hM, -⟩ := hB
            rw [ht] at hM
            obtain ⟨g, rfl⟩ := hw
            dsimp only at hM
            refine lv_iconst (v := 1) hx hb dM_begin_133 (by decide) ?_
            refine W.zret (v := (1)) hx hb hr rfl (M_endi hM hK hS ?_) hS.2.2 dM_begin_134
            exact ⟨⟨fun j h1 h2 h3 => by simp only [up_n h1, up_n h2, up_n h3], rfl⟩, Or.inr ⟨rfl, (d + 1, 0, n + 1, va_up pt d (pt d + 1), fw, mo, nm, dg), by simp [md_begin, md_add, hp, c_37, c_85, c_97, c_104], op, mdQ_leafS hQ hn hp3 0 dg rfl rfl rfl rfl rfl rfl rfl (Or.inl rfl)⟩⟩
      · skip
        refine lv_iload_n hx hb dM_begin_88 rfl (lv_at hl 1 rfl) ?_
        refine lv_bipush (v := 122) hx hb dM_begin_89 (by decide) ?_
        refine lv_icmp_le (tgt := 100) hx hb dM_begin_91 (by decide) (fun c_91 => ?_) (fun c_91 => ?_)
        · skip
          refine lv_aload_n hx hb dM_begin_100 rfl (lv_at hl 0 rfl) ?_
          refine lv_iload_n hx hb dM_begin_101 rfl (lv_at hl 1 rfl) ?_
          refine lv_bipush (v := 95) hx hb dM_begin_102 (by decide) ?_
          refine lv_icmp_ne (tgt := 112) hx hb dM_begin_104 (by decide) (fun c_104 => ?_) (fun c_104 => ?_)
          · skip
            refine lv_bipush (v := 110) hx hb dM_begin_112 (by decide) ?_
            refine va_calli (M_run (As := [.int (110)]) (rest := []) (n := 1) hx hb hml K hM (c_newNode l D cl tys A ci tI tZ cI cZ o ad _ _ (110) n hQ.1.2.2 hn) kM_c_newNode kM_m90 kM_i_newNode kM_s_newNode rfl rfl ⟨rfl, by decide +kernel⟩ ⟨Nat.le_of_ble_eq_true rfl, Nat.le_of_ble_eq_true rfl⟩ rfl hl.1 rfl (lv_room (Nat.le_of_ble_eq_true rfl)) dM_begin_114 ⟨Nat.le_of_ble_eq_true rfl, Nat.le_of_ble_eq_true rfl⟩) hS (fun q _ h => h) (fun q h => h) (fun r u t H1 locs1 ht hvm hw hB hz hk hS => ?_)
            obtain ⟨hM, -⟩ := hB
            rw [ht] at hM
            obtain ⟨rfl, rfl⟩ := hw
            dsimp only at hM
            refine lv_istore_n (lv' := [(2, .int (nI n)), (0, .ref o), (1, .int k)]) hx hb dM_begin_117 rfl hl (by decide) rfl (fun ls hl => ?_)
            refine lv_aload_n hx hb dM_begin_118 rfl (lv_at hl 1 rfl) ?_
            refine M_geta hx hb K hM 10 kM_f28 dM_begin_119 (kk := ?_)
            refine lv_iload_n hx hb dM_begin_122 rfl (lv_at hl 0 rfl) ?_
            refine lv_iload_n hx hb dM_begin_123 rfl (lv_at hl 2 rfl) ?_
            refine lv_bipush (v := 97) hx hb dM_begin_124 (by decide) ?_
            refine lv_isub hx hb dM_begin_126 ?_
            refine M_astn hx hb K hM hS 10 (j := n) hn dM_begin_127 (kk := fun H locs hM hS => ?_)
            refine lv_aload_n hx hb dM_begin_128 rfl (lv_at hl 1 rfl) ?_
            refine lv_iload_n hx hb dM_begin_129 rfl (lv_at hl 0 rfl) ?_
            refine va_callv (M_run (As := [.int (nI n)]) (rest := []) (n := 1) hx hb hml K hM (c_attachS l D cl tys A ci tI tZ cI cZ o ad _ _ (nI n) d (op d) (pt d) hQ.1.1 (by omega) (hQ.2.2.1 d (by omega)).1.1 (by omega) (hQ.2.2.1 d (by omega)).2.1.1 (by omega)) kM_c_attach kM_m94 kM_i_attach kM_s_attach rfl rfl ⟨rfl, by decide +kernel⟩ ⟨Nat.le_of_ble_eq_true rfl, Nat.le_of_ble_eq_true rfl⟩ rfl hl.1 rfl (lv_room (Nat.le_of_ble_eq_true rfl)) dM_begin_130 ⟨Nat.le_of_ble_eq_true rfl, Nat.le_of_ble_eq_true rfl⟩) hS (fun q _ h => h) (fun q h => h) (fun u t H1 locs1 ht hvm hw hB hz hk hS => ?_)
            obtain ⟨hM, -⟩ := hB
            rw [ht] at hM
            obtain ⟨g, rfl⟩ := hw
            dsimp only at hM
            refine lv_iconst (v := 1) hx hb dM_begin_133 (by decide) ?_
            refine W.zret (v := (1)) hx hb hr rfl (M_endi hM hK hS ?_) hS.2.2 dM_begin_134
            exact ⟨⟨fun j h1 h2 h3 => by simp only [up_n h1, up_n h2, up_n h3], rfl⟩, Or.inr ⟨rfl, (d + 1, 0, n + 1, va_up pt d (pt d + 1), fw, mo, nm, dg), by simp [md_begin, md_add, hp, c_37, c_85, c_91, c_104], op, mdQ_leafS hQ hn hp3 0 dg rfl rfl rfl rfl rfl rfl rfl (Or.inl rfl)⟩⟩
          · skip
            refine lv_bipush (v := 95) hx hb dM_begin_107 (by decide) ?_
            refine lv_goto (tgt := 114) hx hb dM_begin_109 (by decide) ?_
            refine va_calli (M_run (As := [.int (95)]) (rest := []) (n := 1) hx hb hml K hM (c_newNode l D cl tys A ci tI tZ cI cZ o ad _ _ (95) n hQ.1.2.2 hn) kM_c_newNode kM_m90 kM_i_newNode kM_s_newNode rfl rfl ⟨rfl, by decide +kernel⟩ ⟨Nat.le_of_ble_eq_true rfl, Nat.le_of_ble_eq_true rfl⟩ rfl hl.1 rfl (lv_room (Nat.le_of_ble_eq_true rfl)) dM_begin_114 ⟨Nat.le_of_ble_eq_true rfl, Nat.le_of_ble_eq_true rfl⟩) hS (fun q _ h => h) (fun q h => h) (fun r u t H1 locs1 ht hvm hw hB hz hk hS => ?_)
            obtain ⟨hM, -⟩ := hB
            rw [ht] at hM
            obtain ⟨rfl, rfl⟩ := hw
            dsimp only at hM
            refine lv_istore_n (lv' := [(2, .int (nI n)), (0, .ref o), (1, .int k)]) hx hb dM_begin_117 rfl hl (by decide) rfl (fun ls hl => ?_)
            refine lv_aload_n hx hb dM_begin_118 rfl (lv_at hl 1 rfl) ?_
            refine M_geta hx hb K hM 10 kM_f28 dM_begin_119 (kk := ?_)
            refine lv_iload_n hx hb dM_begin_122 rfl (lv_at hl 0 rfl) ?_
            refine lv_iload_n hx hb dM_begin_123 rfl (lv_at hl 2 rfl) ?_
            refine lv_bipush (v := 97) hx hb dM_begin_124 (by decide) ?_
            refine lv_isub hx hb dM_begin_126 ?_
            refine M_astn hx hb K hM hS 10 (j := n) hn dM_begin_127 (kk := fun H locs hM hS => ?_)
            refine lv_aload_n hx hb dM_begin_128 rfl (lv_at hl 1 rfl) ?_
            refine lv_iload_n hx hb dM_begin_129 rfl (lv_at hl 0 rfl) ?_
            refine va_callv (M_run (As := [.int (nI n)]) (rest := []) (n := 1) hx hb hml K hM (c_attachS l D cl tys A ci tI tZ cI cZ o ad _ _ (nI n) d (op d) (pt d) hQ.1.1 (by omega) (hQ.2.2.1 d (by omega)).1.1 (by omega) (hQ.2.2.1 d (by omega)).2.1.1 (by omega)) kM_c_attach kM_m94 kM_i_attach kM_s_attach rfl rfl ⟨rfl, by decide +kernel⟩ ⟨Nat.le_of_ble_eq_true rfl, Nat.le_of_ble_eq_true rfl⟩ rfl hl.1 rfl (lv_room (Nat.le_of_ble_eq_true rfl)) dM_begin_130 ⟨Nat.le_of_ble_eq_true rfl, Nat.le_of_ble_eq_true rfl⟩) hS (fun q _ h => h) (fun q h => h) (fun u t H1 locs1 ht hvm hw hB hz hk hS => ?_)
            obtain ⟨hM, -⟩ := hB
            rw [ht] at hM
            obtain ⟨g, rfl⟩ := hw
            dsimp only at hM
            refine lv_iconst (v := 1) hx hb dM_begin_133 (by decide) ?_
            refine W.zret (v := (1)) hx hb hr rfl (M_endi hM hK hS ?_) hS.2.2 dM_begin_134
            exact ⟨⟨fun j h1 h2 h3 => by simp only [up_n h1, up_n h2, up_n h3], rfl⟩, Or.inr ⟨rfl, (d + 1, 0, n + 1, va_up pt d (pt d + 1), fw, mo, nm, dg), by simp [md_begin, md_add, hp, c_37, c_85, c_91, c_104], op, mdQ_leafS hQ hn hp3 0 dg rfl rfl rfl rfl rfl rfl rfl (Or.inl rfl)⟩⟩
        · skip
          refine lv_iload_n hx hb dM_begin_94 rfl (lv_at hl 1 rfl) ?_
          refine lv_bipush (v := 95) hx hb dM_begin_95 (by decide) ?_
          refine lv_icmp_ne (tgt := 135) hx hb dM_begin_97 (by decide) (fun c_97 => ?_) (fun c_97 => ?_)
          · skip
            refine lv_iload_n hx hb dM_begin_135 rfl (lv_at hl 1 rfl) ?_
            refine lv_bipush (v := 40) hx hb dM_begin_136 (by decide) ?_
            refine lv_icmp_ne (tgt := 150) hx hb dM_begin_138 (by decide) (fun c_138 => ?_) (fun c_138 => ?_)
            · skip
              refine lv_iconst (v := 0) hx hb dM_begin_150 (by decide) ?_
              refine W.zret (v := (0)) hx hb hr rfl (M_endi hM hK hS ?_) hS.2.2 dM_begin_151
              exact md_no (by simp [md_begin, hp, c_37, c_85, c_91, c_97, c_138])
            · skip
              refine lv_aload_n hx hb dM_begin_141 rfl (lv_at hl 0 rfl) ?_
              refine M_getv hx hb K hM 7 (v := nI (d + 1)) hQ.1.1 kM_f84 dM_begin_142 (kk := ?_)
              refine lv_bipush (v := 12) hx hb dM_begin_145 (by decide) ?_
              refine lv_icmp_ne (tgt := 152) hx hb dM_begin_147 (by decide) (fun c_147 => ?_) (fun c_147 => ?_)
              · skip
                have hd12 : ¬ d + 1 = 12 := fun q => c_147 (by rw [q]; rfl)
                refine lv_aload_n hx hb dM_begin_152 rfl (lv_at hl 0 rfl) ?_
                refine M_geta hx hb K hM 3 kM_f13 dM_begin_153 (kk := ?_)
                refine lv_aload_n hx hb dM_begin_156 rfl (lv_at hl 0 rfl) ?_
                refine M_getv hx hb K hM 7 (v := nI (d + 1)) hQ.1.1 kM_f84 dM_begin_157 (kk := ?_)
                refine lv_aload_n hx hb dM_begin_160 rfl (lv_at hl 0 rfl) ?_
                refine lv_bipush (v := 40) hx hb dM_begin_161 (by decide) ?_
                refine va_calli (M_run (As := [.int (40)]) (rest := [.int (nI (d + 1)), .ref (ad 3)]) (n := 1) hx hb hml K hM (c_newNode l D cl tys A ci tI tZ cI cZ o ad _ _ (40) n hQ.1.2.2 hn) kM_c_newNode kM_m90 kM_i_newNode kM_s_newNode rfl rfl ⟨rfl, by decide +kernel⟩ ⟨Nat.le_of_ble_eq_true rfl, Nat.le_of_ble_eq_true rfl⟩ rfl hl.1 rfl (lv_room (Nat.le_of_ble_eq_true rfl)) dM_begin_163 ⟨Nat.le_of_ble_eq_true rfl, Nat.le_of_ble_eq_true rfl⟩) hS (fun q _ h => h) (fun q h => h) (fun r u t H1 locs1 ht hvm hw hB hz hk hS => ?_)
                obtain ⟨hM, -⟩ := hB
                rw [ht] at hM
                obtain ⟨rfl, rfl⟩ := hw
                dsimp only at hM
                refine M_astn hx hb K hM hS 3 (j := (d + 1)) (show (d + 1) < 13 by omega) dM_begin_166 (kk := fun H locs hM hS => ?_)
                refine lv_aload_n hx hb dM_begin_167 rfl (lv_at hl 0 rfl) ?_
                refine M_geta hx hb K hM 4 kM_f16 dM_begin_168 (kk := ?_)
                refine lv_aload_n hx hb dM_begin_171 rfl (lv_at hl 0 rfl) ?_
                refine M_getv hx hb K hM 7 (v := nI (d + 1)) hQ.1.1 kM_f84 dM_begin_172 (kk := ?_)
                refine lv_iconst (v := 0) hx hb dM_begin_175 (by decide) ?_
                refine M_astn hx hb K hM hS 4 (j := (d + 1)) (show (d + 1) < 13 by omega) dM_begin_176 (kk := fun H locs hM hS => ?_)
                refine lv_aload_n hx hb dM_begin_177 rfl (lv_at hl 0 rfl) ?_
                refine M_geta hx hb K hM 5 kM_f19 dM_begin_178 (kk := ?_)
                refine lv_aload_n hx hb dM_begin_181 rfl (lv_at hl 0 rfl) ?_
                refine M_getv hx hb K hM 7 (v := nI (d + 1)) hQ.1.1 kM_f84 dM_begin_182 (kk := ?_)
                refine lv_iconst (v := 1) hx hb dM_begin_185 (by decide) ?_
                refine M_astn hx hb K hM hS 5 (j := (d + 1)) (show (d + 1) < 13 by omega) dM_begin_186 (kk := fun H locs hM hS => ?_)
                refine lv_aload_n hx hb dM_begin_187 rfl (lv_at hl 0 rfl) ?_
                refine M_geta hx hb K hM 6 kM_f22 dM_begin_188 (kk := ?_)
                refine lv_aload_n hx hb dM_begin_191 rfl (lv_at hl 0 rfl) ?_
                refine M_getv hx hb K hM 7 (v := nI (d + 1)) hQ.1.1 kM_f84 dM_begin_192 (kk := ?_)
                refine lv_iconst (v := 4) hx hb dM_begin_195 (by decide) ?_
                refine M_astn hx hb K hM hS 6 (j := (d + 1)) (show (d + 1) < 13 by omega) dM_begin_196 (kk := fun H locs hM hS => ?_)
                refine lv_aload_n hx hb dM_begin_197 rfl (lv_at hl 0 rfl) ?_
                refine lv_dup hx hb dM_begin_198 rfl ?_
                refine M_getv hx hb K hM 7 (v := nI (d + 1)) hQ.1.1 kM_f84 dM_begin_199 (kk := ?_)
                refine lv_iconst (v := 1) hx hb dM_begin_202 (by decide) ?_
                refine lv_iadd hx hb dM_begin_203 ?_
                refine lv_as (v := nI ((d + 1) + 1)) (nI_1 _) ?_
                refine M_puti hx hb K hM hS 7 kM_f84 dM_begin_204 (kk := fun H locs hM hS => ?_)
                refine lv_aload_n hx hb dM_begin_207 rfl (lv_at hl 0 rfl) ?_
                refine lv_iconst (v := 1) hx hb dM_begin_208 (by decide) ?_
                refine M_puti hx hb K hM hS 8 kM_f87 dM_begin_209 (kk := fun H locs hM hS => ?_)
                refine lv_iconst (v := 1) hx hb dM_begin_212 (by decide) ?_
                refine W.zret (v := (1)) hx hb hr rfl (M_endi hM hK hS ?_) hS.2.2 dM_begin_213
                exact ⟨⟨fun j h1 h2 h3 => by simp only [up_n h1, up_n h2, up_n h3], rfl⟩, Or.inr ⟨rfl, (d + 1 + 1, 1, n + 1, va_up pt (d + 1) 0, va_up fw (d + 1) 1, va_up mo (d + 1) 4, nm, dg), by simp [md_begin, hp, hd12, c_37, c_85, c_91, c_97, c_138], _, mdQ_open hQ hn (by omega) (fun j hj => by rw [show j = d by omega]; exact hp3) rfl rfl rfl rfl rfl rfl rfl upd_s⟩⟩
              · skip
                refine lv_iconst (v := 0) hx hb dM_begin_150 (by decide) ?_
                refine W.zret (v := (0)) hx hb hr rfl (M_endi hM hK hS ?_) hS.2.2 dM_begin_151
                exact md_no (by have := (nI_eq (b := 12) (by omega) (by decide)).mp c_147; simp [md_begin, hp, this, c_37, c_85, c_91, c_97, c_138])
          · skip
            refine lv_aload_n hx hb dM_begin_100 rfl (lv_at hl 0 rfl) ?_
            refine lv_iload_n hx hb dM_begin_101 rfl (lv_at hl 1 rfl) ?_
            refine lv_bipush (v := 95) hx hb dM_begin_102 (by decide) ?_
            refine lv_icmp_ne (tgt := 112) hx hb dM_begin_104 (by decide) (fun c_104 => ?_) (fun c_104 => ?_)
            · skip
              refine lv_bipush (v := 110) hx hb dM_begin_112 (by decide) ?_
              refine va_calli (M_run (As := [.int (110)]) (rest := []) (n := 1) hx hb hml K hM (c_newNode l D cl tys A ci tI tZ cI cZ o ad _ _ (110) n hQ.1.2.2 hn) kM_c_newNode kM_m90 kM_i_newNode kM_s_newNode rfl rfl ⟨rfl, by decide +kernel⟩ ⟨Nat.le_of_ble_eq_true rfl, Nat.le_of_ble_eq_true rfl⟩ rfl hl.1 rfl (lv_room (Nat.le_of_ble_eq_true rfl)) dM_begin_114 ⟨Nat.le_of_ble_eq_true rfl, Nat.le_of_ble_eq_true rfl⟩) hS (fun q _ h => h) (fun q h => h) (fun r u t H1 locs1 ht hvm hw hB hz hk hS => ?_)
              obtain ⟨hM, -⟩ := hB
              rw [ht] at hM
              obtain ⟨rfl, rfl⟩ := hw
              dsimp only at hM
              refine lv_istore_n (lv' := [(2, .int (nI n)), (0, .ref o), (1, .int k)]) hx hb dM_begin_117 rfl hl (by decide) rfl (fun ls hl => ?_)
              refine lv_aload_n hx hb dM_begin_118 rfl (lv_at hl 1 rfl) ?_
              refine M_geta hx hb K hM 10 kM_f28 dM_begin_119 (kk := ?_)
              refine lv_iload_n hx hb dM_begin_122 rfl (lv_at hl 0 rfl) ?_
              refine lv_iload_n hx hb dM_begin_123 rfl (lv_at hl 2 rfl) ?_
              refine lv_bipush (v := 97) hx hb dM_begin_124 (by decide) ?_
              refine lv_isub hx hb dM_begin_126 ?_
              refine M_astn hx hb K hM hS 10 (j := n) hn dM_begin_127 (kk := fun H locs hM hS => ?_)
              refine lv_aload_n hx hb dM_begin_128 rfl (lv_at hl 1 rfl) ?_
              refine lv_iload_n hx hb dM_begin_129 rfl (lv_at hl 0 rfl) ?_
              refine va_callv (M_run (As := [.int (nI n)]) (rest := []) (n := 1) hx hb hml K hM (c_attachS l D cl tys A ci tI tZ cI cZ o ad _ _ (nI n) d (op d) (pt d) hQ.1.1 (by omega) (hQ.2.2.1 d (by omega)).1.1 (by omega) (hQ.2.2.1 d (by omega)).2.1.1 (by omega)) kM_c_attach kM_m94 kM_i_attach kM_s_attach rfl rfl ⟨rfl, by decide +kernel⟩ ⟨Nat.le_of_ble_eq_true rfl, Nat.le_of_ble_eq_true rfl⟩ rfl hl.1 rfl (lv_room (Nat.le_of_ble_eq_true rfl)) dM_begin_130 ⟨Nat.le_of_ble_eq_true rfl, Nat.le_of_ble_eq_true rfl⟩) hS (fun q _ h => h) (fun q h => h) (fun u t H1 locs1 ht hvm hw hB hz hk hS => ?_)
              obtain ⟨hM, -⟩ := hB
              rw [ht] at hM
              obtain ⟨g, rfl⟩ := hw
              dsimp only at hM
              refine lv_iconst (v := 1) hx hb dM_begin_133 (by decide) ?_
              refine W.zret (v := (1)) hx hb hr rfl (M_endi hM hK hS ?_) hS.2.2 dM_begin_134
              exact ⟨⟨fun j h1 h2 h3 => by simp only [up_n h1, up_n h2, up_n h3], rfl⟩, Or.inr ⟨rfl, (d + 1, 0, n + 1, va_up pt d (pt d + 1), fw, mo, nm, dg), by simp [md_begin, md_add, hp, c_37, c_85, c_91, c_97, c_104], op, mdQ_leafS hQ hn hp3 0 dg rfl rfl rfl rfl rfl rfl rfl (Or.inl rfl)⟩⟩
            · skip
              refine lv_bipush (v := 95) hx hb dM_begin_107 (by decide) ?_
              refine lv_goto (tgt := 114) hx hb dM_begin_109 (by decide) ?_
              refine va_calli (M_run (As := [.int (95)]) (rest := []) (n := 1) hx hb hml K hM (c_newNode l D cl tys A ci tI tZ cI cZ o ad _ _ (95) n hQ.1.2.2 hn) kM_c_newNode kM_m90 kM_i_newNode kM_s_newNode rfl rfl ⟨rfl, by decide +kernel⟩ ⟨Nat.le_of_ble_eq_true rfl, Nat.le_of_ble_eq_true rfl⟩ rfl hl.1 rfl (lv_room (Nat.le_of_ble_eq_true rfl)) dM_begin_114 ⟨Nat.le_of_ble_eq_true rfl, Nat.le_of_ble_eq_true rfl⟩) hS (fun q _ h => h) (fun q h => h) (fun r u t H1 locs1 ht hvm hw hB hz hk hS => ?_)
              obtain ⟨hM, -⟩ := hB
              rw [ht] at hM
              obtain ⟨rfl, rfl⟩ := hw
              dsimp only at hM
              refine lv_istore_n (lv' := [(2, .int (nI n)), (0, .ref o), (1, .int k)]) hx hb dM_begin_117 rfl hl (by decide) rfl (fun ls hl => ?_)
              refine lv_aload_n hx hb dM_begin_118 rfl (lv_at hl 1 rfl) ?_
              refine M_geta hx hb K hM 10 kM_f28 dM_begin_119 (kk := ?_)
              refine lv_iload_n hx hb dM_begin_122 rfl (lv_at hl 0 rfl) ?_
              refine lv_iload_n hx hb dM_begin_123 rfl (lv_at hl 2 rfl) ?_
              refine lv_bipush (v := 97) hx hb dM_begin_124 (by decide) ?_
              refine lv_isub hx hb dM_begin_126 ?_
              refine M_astn hx hb K hM hS 10 (j := n) hn dM_begin_127 (kk := fun H locs hM hS => ?_)
              refine lv_aload_n hx hb dM_begin_128 rfl (lv_at hl 1 rfl) ?_
              refine lv_iload_n hx hb dM_begin_129 rfl (lv_at hl 0 rfl) ?_
              refine va_callv (M_run (As := [.int (nI n)]) (rest := []) (n := 1) hx hb hml K hM (c_attachS l D cl tys A ci tI tZ cI cZ o ad _ _ (nI n) d (op d) (pt d) hQ.1.1 (by omega) (hQ.2.2.1 d (by omega)).1.1 (by omega) (hQ.2.2.1 d (by omega)).2.1.1 (by omega)) kM_c_attach kM_m94 kM_i_attach kM_s_attach rfl rfl ⟨rfl, by decide +kernel⟩ ⟨Nat.le_of_ble_eq_true rfl, Nat.le_of_ble_eq_true rfl⟩ rfl hl.1 rfl (lv_room (Nat.le_of_ble_eq_true rfl)) dM_begin_130 ⟨Nat.le_of_ble_eq_true rfl, Nat.le_of_ble_eq_true rfl⟩) hS (fun q _ h => h) (fun q h => h) (fun u t H1 locs1 ht hvm hw hB hz hk hS => ?_)
              obtain ⟨hM, -⟩ := hB
              rw [ht] at hM
              obtain ⟨g, rfl⟩ := hw
              dsimp only at hM
              refine lv_iconst (v := 1) hx hb dM_begin_133 (by decide) ?_
              refine W.zret (v := (1)) hx hb hr rfl (M_endi hM hK hS ?_) hS.2.2 dM_begin_134
              exact ⟨⟨fun j h1 h2 h3 => by simp only [up_n h1, up_n h2, up_n h3], rfl⟩, Or.inr ⟨rfl, (d + 1, 0, n + 1, va_up pt d (pt d + 1), fw, mo, nm, dg), by simp [md_begin, md_add, hp, c_37, c_85, c_91, c_97, c_104], op, mdQ_leafS hQ hn hp3 0 dg rfl rfl rfl rfl rfl rfl rfl (Or.inl rfl)⟩⟩
    · skip
      refine lv_iload_n hx hb dM_begin_40 rfl (lv_at hl 1 rfl) ?_
      refine lv_bipush (v := 57) hx hb dM_begin_41 (by decide) ?_
      refine lv_icmp_gt (tgt := 82) hx hb dM_begin_43 (by decide) (fun c_43 => ?_) (fun c_43 => ?_)
      · skip
        refine lv_iload_n hx hb dM_begin_82 rfl (lv_at hl 1 rfl) ?_
        refine lv_bipush (v := 97) hx hb dM_begin_83 (by decide) ?_
        refine lv_icmp_lt (tgt := 94) hx hb dM_begin_85 (by decide) (fun c_85 => ?_) (fun c_85 => ?_)
        · skip
          refine lv_iload_n hx hb dM_begin_94 rfl (lv_at hl 1 rfl) ?_
          refine lv_bipush (v := 95) hx hb dM_begin_95 (by decide) ?_
          refine lv_icmp_ne (tgt := 135) hx hb dM_begin_97 (by decide) (fun c_97 => ?_) (fun c_97 => ?_)
          · skip
            refine lv_iload_n hx hb dM_begin_135 rfl (lv_at hl 1 rfl) ?_
            refine lv_bipush (v := 40) hx hb dM_begin_136 (by decide) ?_
            refine lv_icmp_ne (tgt := 150) hx hb dM_begin_138 (by decide) (fun c_138 => ?_) (fun c_138 => ?_)
            · skip
              refine lv_iconst (v := 0) hx hb dM_begin_150 (by decide) ?_
              refine W.zret (v := (0)) hx hb hr rfl (M_endi hM hK hS ?_) hS.2.2 dM_begin_151
              exact md_no (by simp [md_begin, hp, c_37, c_43, c_85, c_97, c_138])
            · skip
              refine lv_aload_n hx hb dM_begin_141 rfl (lv_at hl 0 rfl) ?_
              refine M_getv hx hb K hM 7 (v := nI (d + 1)) hQ.1.1 kM_f84 dM_begin_142 (kk := ?_)
              refine lv_bipush (v := 12) hx hb dM_begin_145 (by decide) ?_
              refine lv_icmp_ne (tgt := 152) hx hb dM_begin_147 (by decide) (fun c_147 => ?_) (fun c_147 => ?_)
              · skip
                have hd12 : ¬ d + 1 = 12 := fun q => c_147 (by rw [q]; rfl)
                refine lv_aload_n hx hb dM_begin_152 rfl (lv_at hl 0 rfl) ?_
                refine M_geta hx hb K hM 3 kM_f13 dM_begin_153 (kk := ?_)
                refine lv_aload_n hx hb dM_begin_156 rfl (lv_at hl 0 rfl) ?_
                refine M_getv hx hb K hM 7 (v := nI (d + 1)) hQ.1.1 kM_f84 dM_begin_157 (kk := ?_)
                refine lv_aload_n hx hb dM_begin_160 rfl (lv_at hl 0 rfl) ?_
                refine lv_bipush (v := 40) hx hb dM_begin_161 (by decide) ?_
                refine va_calli (M_run (As := [.int (40)]) (rest := [.int (nI (d + 1)), .ref (ad 3)]) (n := 1) hx hb hml K hM (c_newNode l D cl tys A ci tI tZ cI cZ o ad _ _ (40) n hQ.1.2.2 hn) kM_c_newNode kM_m90 kM_i_newNode kM_s_newNode rfl rfl ⟨rfl, by decide +kernel⟩ ⟨Nat.le_of_ble_eq_true rfl, Nat.le_of_ble_eq_true rfl⟩ rfl hl.1 rfl (lv_room (Nat.le_of_ble_eq_true rfl)) dM_begin_163 ⟨Nat.le_of_ble_eq_true rfl, Nat.le_of_ble_eq_true rfl⟩) hS (fun q _ h => h) (fun q h => h) (fun r u t H1 locs1 ht hvm hw hB hz hk hS => ?_)
                obtain ⟨hM, -⟩ := hB
                rw [ht] at hM
                obtain ⟨rfl, rfl⟩ := hw
                dsimp only at hM
                refine M_astn hx hb K hM hS 3 (j := (d + 1)) (show (d + 1) < 13 by omega) dM_begin_166 (kk := fun H locs hM hS => ?_)
                refine lv_aload_n hx hb dM_begin_167 rfl (lv_at hl 0 rfl) ?_
                refine M_geta hx hb K hM 4 kM_f16 dM_begin_168 (kk := ?_)
                refine lv_aload_n hx hb dM_begin_171 rfl (lv_at hl 0 rfl) ?_
                refine M_getv hx hb K hM 7 (v := nI (d + 1)) hQ.1.1 kM_f84 dM_begin_172 (kk := ?_)
                refine lv_iconst (v := 0) hx hb dM_begin_175 (by decide) ?_
                refine M_astn hx hb K hM hS 4 (j := (d + 1)) (show (d + 1) < 13 by omega) dM_begin_176 (kk := fun H locs hM hS => ?_)
                refine lv_aload_n hx hb dM_begin_177 rfl (lv_at hl 0 rfl) ?_
                refine M_geta hx hb K hM 5 kM_f19 dM_begin_178 (kk := ?_)
                refine lv_aload_n hx hb dM_begin_181 rfl (lv_at hl 0 rfl) ?_
                refine M_getv hx hb K hM 7 (v := nI (d + 1)) hQ.1.1 kM_f84 dM_begin_182 (kk := ?_)
                refine lv_iconst (v := 1) hx hb dM_begin_185 (by decide) ?_
                refine M_astn hx hb K hM hS 5 (j := (d + 1)) (show (d + 1) < 13 by omega) dM_begin_186 (kk := fun H locs hM hS => ?_)
                refine lv_aload_n hx hb dM_begin_187 rfl (lv_at hl 0 rfl) ?_
                refine M_geta hx hb K hM 6 kM_f22 dM_begin_188 (kk := ?_)
                refine lv_aload_n hx hb dM_begin_191 rfl (lv_at hl 0 rfl) ?_
                refine M_getv hx hb K hM 7 (v := nI (d + 1)) hQ.1.1 kM_f84 dM_begin_192 (kk := ?_)
                refine lv_iconst (v := 4) hx hb dM_begin_195 (by decide) ?_
                refine M_astn hx hb K hM hS 6 (j := (d + 1)) (show (d + 1) < 13 by omega) dM_begin_196 (kk := fun H locs hM hS => ?_)
                refine lv_aload_n hx hb dM_begin_197 rfl (lv_at hl 0 rfl) ?_
                refine lv_dup hx hb dM_begin_198 rfl ?_
                refine M_getv hx hb K hM 7 (v := nI (d + 1)) hQ.1.1 kM_f84 dM_begin_199 (kk := ?_)
                refine lv_iconst (v := 1) hx hb dM_begin_202 (by decide) ?_
                refine lv_iadd hx hb dM_begin_203 ?_
                refine lv_as (v := nI ((d + 1) + 1)) (nI_1 _) ?_
                refine M_puti hx hb K hM hS 7 kM_f84 dM_begin_204 (kk := fun H locs hM hS => ?_)
                refine lv_aload_n hx hb dM_begin_207 rfl (lv_at hl 0 rfl) ?_
                refine lv_iconst (v := 1) hx hb dM_begin_208 (by decide) ?_
                refine M_puti hx hb K hM hS 8 kM_f87 dM_begin_209 (kk := fun H locs hM hS => ?_)
                refine lv_iconst (v := 1) hx hb dM_begin_212 (by decide) ?_
                refine W.zret (v := (1)) hx hb hr rfl (M_endi hM hK hS ?_) hS.2.2 dM_begin_213
                exact ⟨⟨fun j h1 h2 h3 => by simp only [up_n h1, up_n h2, up_n h3], rfl⟩, Or.inr ⟨rfl, (d + 1 + 1, 1, n + 1, va_up pt (d + 1) 0, va_up fw (d + 1) 1, va_up mo (d + 1) 4, nm, dg), by simp [md_begin, hp, hd12, c_37, c_43, c_85, c_97, c_138], _, mdQ_open hQ hn (by omega) (fun j hj => by rw [show j = d by omega]; exact hp3) rfl rfl rfl rfl rfl rfl rfl upd_s⟩⟩
              · skip
                refine lv_iconst (v := 0) hx hb dM_begin_150 (by decide) ?_
                refine W.zret (v := (0)) hx hb hr rfl (M_endi hM hK hS ?_) hS.2.2 dM_begin_151
                exact md_no (by have := (nI_eq (b := 12) (by omega) (by decide)).mp c_147; simp [md_begin, hp, this, c_37, c_43, c_85, c_97, c_138])
          · skip
            refine lv_aload_n hx hb dM_begin_100 rfl (lv_at hl 0 rfl) ?_
            refine lv_iload_n hx hb dM_begin_101 rfl (lv_at hl 1 rfl) ?_
            refine lv_bipush (v := 95) hx hb dM_begin_102 (by decide) ?_
            refine lv_icmp_ne (tgt := 112) hx hb dM_begin_104 (by decide) (fun c_104 => ?_) (fun c_104 => ?_)
            · skip
              refine lv_bipush (v := 110) hx hb dM_begin_112 (by decide) ?_
              refine va_calli (M_run (As := [.int (110)]) (rest := []) (n := 1) hx hb hml K hM (c_newNode l D cl tys A ci tI tZ cI cZ o ad _ _ (110) n hQ.1.2.2 hn) kM_c_newNode kM_m90 kM_i_newNode kM_s_newNode rfl rfl ⟨rfl, by decide +kernel⟩ ⟨Nat.le_of_ble_eq_true rfl, Nat.le_of_ble_eq_true rfl⟩ rfl hl.1 rfl (lv_room (Nat.le_of_ble_eq_true rfl)) dM_begin_114 ⟨Nat.le_of_ble_eq_true rfl, Nat.le_of_ble_eq_true rfl⟩) hS (fun q _ h => h) (fun q h => h) (fun r u t H1 locs1 ht hvm hw hB hz hk hS => ?_)
              obtain ⟨hM, -⟩ := hB
              rw [ht] at hM
              obtain ⟨rfl, rfl⟩ := hw
              dsimp only at hM
              refine lv_istore_n (lv' := [(2, .int (nI n)), (0, .ref o), (1, .int k)]) hx hb dM_begin_117 rfl hl (by decide) rfl (fun ls hl => ?_)
              refine lv_aload_n hx hb dM_begin_118 rfl (lv_at hl 1 rfl) ?_
              refine M_geta hx hb K hM 10 kM_f28 dM_begin_119 (kk := ?_)
              refine lv_iload_n hx hb dM_begin_122 rfl (lv_at hl 0 rfl) ?_
              refine lv_iload_n hx hb dM_begin_123 rfl (lv_at hl 2 rfl) ?_
              refine lv_bipush (v := 97) hx hb dM_begin_124 (by decide) ?_
              refine lv_isub hx hb dM_begin_126 ?_
              refine M_astn hx hb K hM hS 10 (j := n) hn dM_begin_127 (kk := fun H locs hM hS => ?_)
              refine lv_aload_n hx hb dM_begin_128 rfl (lv_at hl 1 rfl) ?_
              refine lv_iload_n hx hb dM_begin_129 rfl (lv_at hl 0 rfl) ?_
              refine va_callv (M_run (As := [.int (nI n)]) (rest := []) (n := 1) hx hb hml K hM (c_attachS l D cl tys A ci tI tZ cI cZ o ad _ _ (nI n) d (op d) (pt d) hQ.1.1 (by omega) (hQ.2.2.1 d (by omega)).1.1 (by omega) (hQ.2.2.1 d (by omega)).2.1.1 (by omega)) kM_c_attach kM_m94 kM_i_attach kM_s_attach rfl rfl ⟨rfl, by decide +kernel⟩ ⟨Nat.le_of_ble_eq_true rfl, Nat.le_of_ble_eq_true rfl⟩ rfl hl.1 rfl (lv_room (Nat.le_of_ble_eq_true rfl)) dM_begin_130 ⟨Nat.le_of_ble_eq_true rfl, Nat.le_of_ble_eq_true rfl⟩) hS (fun q _ h => h) (fun q h => h) (fun u t H1 locs1 ht hvm hw hB hz hk hS => ?_)
              obtain ⟨hM, -⟩ := hB
              rw [ht] at hM
              obtain ⟨g, rfl⟩ := hw
              dsimp only at hM
              refine lv_iconst (v := 1) hx hb dM_begin_133 (by decide) ?_
              refine W.zret (v := (1)) hx hb hr rfl (M_endi hM hK hS ?_) hS.2.2 dM_begin_134
              exact ⟨⟨fun j h1 h2 h3 => by simp only [up_n h1, up_n h2, up_n h3], rfl⟩, Or.inr ⟨rfl, (d + 1, 0, n + 1, va_up pt d (pt d + 1), fw, mo, nm, dg), by simp [md_begin, md_add, hp, c_37, c_43, c_85, c_97, c_104], op, mdQ_leafS hQ hn hp3 0 dg rfl rfl rfl rfl rfl rfl rfl (Or.inl rfl)⟩⟩
            · skip
              refine lv_bipush (v := 95) hx hb dM_begin_107 (by decide) ?_
              refine lv_goto (tgt := 114) hx hb dM_begin_109 (by decide) ?_
              refine va_calli (M_run (As := [.int (95)]) (rest := []) (n := 1) hx hb hml K hM (c_newNode l D cl tys A ci tI tZ cI cZ o ad _ _ (95) n hQ.1.2.2 hn) kM_c_newNode kM_m90 kM_i_newNode kM_s_newNode rfl rfl ⟨rfl, by decide +kernel⟩ ⟨Nat.le_of_ble_eq_true rfl, Nat.le_of_ble_eq_true rfl⟩ rfl hl.1 rfl (lv_room (Nat.le_of_ble_eq_true rfl)) dM_begin_114 ⟨Nat.le_of_ble_eq_true rfl, Nat.le_of_ble_eq_true rfl⟩) hS (fun q _ h => h) (fun q h => h) (fun r u t H1 locs1 ht hvm hw hB hz hk hS => ?_)
              obtain ⟨hM, -⟩ := hB
              rw [ht] at hM
              obtain ⟨rfl, rfl⟩ := hw
              dsimp only at hM
              refine lv_istore_n (lv' := [(2, .int (nI n)), (0, .ref o), (1, .int k)]) hx hb dM_begin_117 rfl hl (by decide) rfl (fun ls hl => ?_)
              refine lv_aload_n hx hb dM_begin_118 rfl (lv_at hl 1 rfl) ?_
              refine M_geta hx hb K hM 10 kM_f28 dM_begin_119 (kk := ?_)
              refine lv_iload_n hx hb dM_begin_122 rfl (lv_at hl 0 rfl) ?_
              refine lv_iload_n hx hb dM_begin_123 rfl (lv_at hl 2 rfl) ?_
              refine lv_bipush (v := 97) hx hb dM_begin_124 (by decide) ?_
              refine lv_isub hx hb dM_begin_126 ?_
              refine M_astn hx hb K hM hS 10 (j := n) hn dM_begin_127 (kk := fun H locs hM hS => ?_)
              refine lv_aload_n hx hb dM_begin_128 rfl (lv_at hl 1 rfl) ?_
              refine lv_iload_n hx hb dM_begin_129 rfl (lv_at hl 0 rfl) ?_
              refine va_callv (M_run (As := [.int (nI n)]) (rest := []) (n := 1) hx hb hml K hM (c_attachS l D cl tys A ci tI tZ cI cZ o ad _ _ (nI n) d (op d) (pt d) hQ.1.1 (by omega) (hQ.2.2.1 d (by omega)).1.1 (by omega) (hQ.2.2.1 d (by omega)).2.1.1 (by omega)) kM_c_attach kM_m94 kM_i_attach kM_s_attach rfl rfl ⟨rfl, by decide +kernel⟩ ⟨Nat.le_of_ble_eq_true rfl, Nat.le_of_ble_eq_true rfl⟩ rfl hl.1 rfl (lv_room (Nat.le_of_ble_eq_true rfl)) dM_begin_130 ⟨Nat.le_of_ble_eq_true rfl, Nat.le_of_ble_eq_true rfl⟩) hS (fun q _ h => h) (fun q h => h) (fun u t H1 locs1 ht hvm hw hB hz hk hS => ?_)
              obtain ⟨hM, -⟩ := hB
              rw [ht] at hM
              obtain ⟨g, rfl⟩ := hw
              dsimp only at hM
              refine lv_iconst (v := 1) hx hb dM_begin_133 (by decide) ?_
              refine W.zret (v := (1)) hx hb hr rfl (M_endi hM hK hS ?_) hS.2.2 dM_begin_134
              exact ⟨⟨fun j h1 h2 h3 => by simp only [up_n h1, up_n h2, up_n h3], rfl⟩, Or.inr ⟨rfl, (d + 1, 0, n + 1, va_up pt d (pt d + 1), fw, mo, nm, dg), by simp [md_begin, md_add, hp, c_37, c_43, c_85, c_97, c_104], op, mdQ_leafS hQ hn hp3 0 dg rfl rfl rfl rfl rfl rfl rfl (Or.inl rfl)⟩⟩
        · skip
          refine lv_iload_n hx hb dM_begin_88 rfl (lv_at hl 1 rfl) ?_
          refine lv_bipush (v := 122) hx hb dM_begin_89 (by decide) ?_
          refine lv_icmp_le (tgt := 100) hx hb dM_begin_91 (by decide) (fun c_91 => ?_) (fun c_91 => ?_)
          · skip
            refine lv_aload_n hx hb dM_begin_100 rfl (lv_at hl 0 rfl) ?_
            refine lv_iload_n hx hb dM_begin_101 rfl (lv_at hl 1 rfl) ?_
            refine lv_bipush (v := 95) hx hb dM_begin_102 (by decide) ?_
            refine lv_icmp_ne (tgt := 112) hx hb dM_begin_104 (by decide) (fun c_104 => ?_) (fun c_104 => ?_)
            · skip
              refine lv_bipush (v := 110) hx hb dM_begin_112 (by decide) ?_
              refine va_calli (M_run (As := [.int (110)]) (rest := []) (n := 1) hx hb hml K hM (c_newNode l D cl tys A ci tI tZ cI cZ o ad _ _ (110) n hQ.1.2.2 hn) kM_c_newNode kM_m90 kM_i_newNode kM_s_newNode rfl rfl ⟨rfl, by decide +kernel⟩ ⟨Nat.le_of_ble_eq_true rfl, Nat.le_of_ble_eq_true rfl⟩ rfl hl.1 rfl (lv_room (Nat.le_of_ble_eq_true rfl)) dM_begin_114 ⟨Nat.le_of_ble_eq_true rfl, Nat.le_of_ble_eq_true rfl⟩) hS (fun q _ h => h) (fun q h => h) (fun r u t H1 locs1 ht hvm hw hB hz hk hS => ?_)
              obtain ⟨hM, -⟩ := hB
              rw [ht] at hM
              obtain ⟨rfl, rfl⟩ := hw
              dsimp only at hM
              refine lv_istore_n (lv' := [(2, .int (nI n)), (0, .ref o), (1, .int k)]) hx hb dM_begin_117 rfl hl (by decide) rfl (fun ls hl => ?_)
              refine lv_aload_n hx hb dM_begin_118 rfl (lv_at hl 1 rfl) ?_
              refine M_geta hx hb K hM 10 kM_f28 dM_begin_119 (kk := ?_)
              refine lv_iload_n hx hb dM_begin_122 rfl (lv_at hl 0 rfl) ?_
              refine lv_iload_n hx hb dM_begin_123 rfl (lv_at hl 2 rfl) ?_
              refine lv_bipush (v := 97) hx hb dM_begin_124 (by decide) ?_
              refine lv_isub hx hb dM_begin_126 ?_
              refine M_astn hx hb K hM hS 10 (j := n) hn dM_begin_127 (kk := fun H locs hM hS => ?_)
              refine lv_aload_n hx hb dM_begin_128 rfl (lv_at hl 1 rfl) ?_
              refine lv_iload_n hx hb dM_begin_129 rfl (lv_at hl 0 rfl) ?_
              refine va_callv (M_run (As := [.int (nI n)]) (rest := []) (n := 1) hx hb hml K hM (c_attachS l D cl tys A ci tI tZ cI cZ o ad _ _ (nI n) d (op d) (pt d) hQ.1.1 (by omega) (hQ.2.2.1 d (by omega)).1.1 (by omega) (hQ.2.2.1 d (by omega)).2.1.1 (by omega)) kM_c_attach kM_m94 kM_i_attach kM_s_attach rfl rfl ⟨rfl, by decide +kernel⟩ ⟨Nat.le_of_ble_eq_true rfl, Nat.le_of_ble_eq_true rfl⟩ rfl hl.1 rfl (lv_room (Nat.le_of_ble_eq_true rfl)) dM_begin_130 ⟨Nat.le_of_ble_eq_true rfl, Nat.le_of_ble_eq_true rfl⟩) hS (fun q _ h => h) (fun q h => h) (fun u t H1 locs1 ht hvm hw hB hz hk hS => ?_)
              obtain ⟨hM, -⟩ := hB
              rw [ht] at hM
              obtain ⟨g, rfl⟩ := hw
              dsimp only at hM
              refine lv_iconst (v := 1) hx hb dM_begin_133 (by decide) ?_
              refine W.zret (v := (1)) hx hb hr rfl (M_endi hM hK hS ?_) hS.2.2 dM_begin_134
              exact ⟨⟨fun j h1 h2 h3 => by simp only [up_n h1, up_n h2, up_n h3], rfl⟩, Or.inr ⟨rfl, (d + 1, 0, n + 1, va_up pt d (pt d + 1), fw, mo, nm, dg), by simp [md_begin, md_add, hp, c_37, c_43, c_85, c_91, c_104], op, mdQ_leafS hQ hn hp3 0 dg rfl rfl rfl rfl rfl rfl rfl (Or.inl rfl)⟩⟩
            · skip
              refine lv_bipush (v := 95) hx hb dM_begin_107 (by decide) ?_
              refine lv_goto (tgt := 114) hx hb dM_begin_109 (by decide) ?_
              refine va_calli (M_run (As := [.int (95)]) (rest := []) (n := 1) hx hb hml K hM (c_newNode l D cl tys A ci tI tZ cI cZ o ad _ _ (95) n hQ.1.2.2 hn) kM_c_newNode kM_m90 kM_i_newNode kM_s_newNode rfl rfl ⟨rfl, by decide +kernel⟩ ⟨Nat.le_of_ble_eq_true rfl, Nat.le_of_ble_eq_true rfl⟩ rfl hl.1 rfl (lv_room (Nat.le_of_ble_eq_true rfl)) dM_begin_114 ⟨Nat.le_of_ble_eq_true rfl, Nat.le_of_ble_eq_true rfl⟩) hS (fun q _ h => h) (fun q h => h) (fun r u t H1 locs1 ht hvm hw hB hz hk hS => ?_)
              obtain ⟨hM, -⟩ := hB
              rw [ht] at hM
              obtain ⟨rfl, rfl⟩ := hw
              dsimp only at hM
              refine lv_istore_n (lv' := [(2, .int (nI n)), (0, .ref o), (1, .int k)]) hx hb dM_begin_117 rfl hl (by decide) rfl (fun ls hl => ?_)
              refine lv_aload_n hx hb dM_begin_118 rfl (lv_at hl 1 rfl) ?_
              refine M_geta hx hb K hM 10 kM_f28 dM_begin_119 (kk := ?_)
              refine lv_iload_n hx hb dM_begin_122 rfl (lv_at hl 0 rfl) ?_
              refine lv_iload_n hx hb dM_begin_123 rfl (lv_at hl 2 rfl) ?_
              refine lv_bipush (v := 97) hx hb dM_begin_124 (by decide) ?_
              refine lv_isub hx hb dM_begin_126 ?_
              refine M_astn hx hb K hM hS 10 (j := n) hn dM_begin_127 (kk := fun H locs hM hS => ?_)
              refine lv_aload_n hx hb dM_begin_128 rfl (lv_at hl 1 rfl) ?_
              refine lv_iload_n hx hb dM_begin_129 rfl (lv_at hl 0 rfl) ?_
              refine va_callv (M_run (As := [.int (nI n)]) (rest := []) (n := 1) hx hb hml K hM (c_attachS l D cl tys A ci tI tZ cI cZ o ad _ _ (nI n) d (op d) (pt d) hQ.1.1 (by omega) (hQ.2.2.1 d (by omega)).1.1 (by omega) (hQ.2.2.1 d (by omega)).2.1.1 (by omega)) kM_c_attach kM_m94 kM_i_attach kM_s_attach rfl rfl ⟨rfl, by decide +kernel⟩ ⟨Nat.le_of_ble_eq_true rfl, Nat.le_of_ble_eq_true rfl⟩ rfl hl.1 rfl (lv_room (Nat.le_of_ble_eq_true rfl)) dM_begin_130 ⟨Nat.le_of_ble_eq_true rfl, Nat.le_of_ble_eq_true rfl⟩) hS (fun q _ h => h) (fun q h => h) (fun u t H1 locs1 ht hvm hw hB hz hk hS => ?_)
              obtain ⟨hM, -⟩ := hB
              rw [ht] at hM
              obtain ⟨g, rfl⟩ := hw
              dsimp only at hM
              refine lv_iconst (v := 1) hx hb dM_begin_133 (by decide) ?_
              refine W.zret (v := (1)) hx hb hr rfl (M_endi hM hK hS ?_) hS.2.2 dM_begin_134
              exact ⟨⟨fun j h1 h2 h3 => by simp only [up_n h1, up_n h2, up_n h3], rfl⟩, Or.inr ⟨rfl, (d + 1, 0, n + 1, va_up pt d (pt d + 1), fw, mo, nm, dg), by simp [md_begin, md_add, hp, c_37, c_43, c_85, c_91, c_104], op, mdQ_leafS hQ hn hp3 0 dg rfl rfl rfl rfl rfl rfl rfl (Or.inl rfl)⟩⟩
          · skip
            refine lv_iload_n hx hb dM_begin_94 rfl (lv_at hl 1 rfl) ?_
            refine lv_bipush (v := 95) hx hb dM_begin_95 (by decide) ?_
            refine lv_icmp_ne (tgt := 135) hx hb dM_begin_97 (by decide) (fun c_97 => ?_) (fun c_97 => ?_)
            · skip
              refine lv_iload_n hx hb dM_begin_135 rfl (lv_at hl 1 rfl) ?_
              refine lv_bipush (v := 40) hx hb dM_begin_136 (by decide) ?_
              refine lv_icmp_ne (tgt := 150) hx hb dM_begin_138 (by decide) (fun c_138 => ?_) (fun c_138 => ?_)
              · skip
                refine lv_iconst (v := 0) hx hb dM_begin_150 (by decide) ?_
                refine W.zret (v := (0)) hx hb hr rfl (M_endi hM hK hS ?_) hS.2.2 dM_begin_151
                exact md_no (by simp [md_begin, hp, c_37, c_43, c_85, c_91, c_97, c_138])
              · skip
                refine lv_aload_n hx hb dM_begin_141 rfl (lv_at hl 0 rfl) ?_
                refine M_getv hx hb K hM 7 (v := nI (d + 1)) hQ.1.1 kM_f84 dM_begin_142 (kk := ?_)
                refine lv_bipush (v := 12) hx hb dM_begin_145 (by decide) ?_
                refine lv_icmp_ne (tgt := 152) hx hb dM_begin_147 (by decide) (fun c_147 => ?_) (fun c_147 => ?_)
                · skip
                  have hd12 : ¬ d + 1 = 12 := fun q => c_147 (by rw [q]; rfl)
                  refine lv_aload_n hx hb dM_begin_152 rfl (lv_at hl 0 rfl) ?_
                  refine M_geta hx hb K hM 3 kM_f13 dM_begin_153 (kk := ?_)
                  refine lv_aload_n hx hb dM_begin_156 rfl (lv_at hl 0 rfl) ?_
                  refine M_getv hx hb K hM 7 (v := nI (d + 1)) hQ.1.1 kM_f84 dM_begin_157 (kk := ?_)
                  refine lv_aload_n hx hb dM_begin_160 rfl (lv_at hl 0 rfl) ?_
                  refine lv_bipush (v := 40) hx hb dM_begin_161 (by decide) ?_
                  refine va_calli (M_run (As := [.int (40)]) (rest := [.int (nI (d + 1)), .ref (ad 3)]) (n := 1) hx hb hml K hM (c_newNode l D cl tys A ci tI tZ cI cZ o ad _ _ (40) n hQ.1.2.2 hn) kM_c_newNode kM_m90 kM_i_newNode kM_s_newNode rfl rfl ⟨rfl, by decide +kernel⟩ ⟨Nat.le_of_ble_eq_true rfl, Nat.le_of_ble_eq_true rfl⟩ rfl hl.1 rfl (lv_room (Nat.le_of_ble_eq_true rfl)) dM_begin_163 ⟨Nat.le_of_ble_eq_true rfl, Nat.le_of_ble_eq_true rfl⟩) hS (fun q _ h => h) (fun q h => h) (fun r u t H1 locs1 ht hvm hw hB hz hk hS => ?_)
                  obtain ⟨hM, -⟩ := hB
                  rw [ht] at hM
                  obtain ⟨rfl, rfl⟩ := hw
                  dsimp only at hM
                  refine M_astn hx hb K hM hS 3 (j := (d + 1)) (show (d + 1) < 13 by omega) dM_begin_166 (kk := fun H locs hM hS => ?_)
                  refine lv_aload_n hx hb dM_begin_167 rfl (lv_at hl 0 rfl) ?_
                  refine M_geta hx hb K hM 4 kM_f16 dM_begin_168 (kk := ?_)
                  refine lv_aload_n hx hb dM_begin_171 rfl (lv_at hl 0 rfl) ?_
                  refine M_getv hx hb K hM 7 (v := nI (d + 1)) hQ.1.1 kM_f84 dM_begin_172 (kk := ?_)
                  refine lv_iconst (v := 0) hx hb dM_begin_175 (by decide) ?_
                  refine M_astn hx hb K hM hS 4 (j := (d + 1)) (show (d + 1) < 13 by omega) dM_begin_176 (kk := fun H locs hM hS => ?_)
                  refine lv_aload_n hx hb dM_begin_177 rfl (lv_at hl 0 rfl) ?_
                  refine M_geta hx hb K hM 5 kM_f19 dM_begin_178 (kk := ?_)
                  refine lv_aload_n hx hb dM_begin_181 rfl (lv_at hl 0 rfl) ?_
                  refine M_getv hx hb K hM 7 (v := nI (d + 1)) hQ.1.1 kM_f84 dM_begin_182 (kk := ?_)
                  refine lv_iconst (v := 1) hx hb dM_begin_185 (by decide) ?_
                  refine M_astn hx hb K hM hS 5 (j := (d + 1)) (show (d + 1) < 13 by omega) dM_begin_186 (kk := fun H locs hM hS => ?_)
                  refine lv_aload_n hx hb dM_begin_187 rfl (lv_at hl 0 rfl) ?_
                  refine M_geta hx hb K hM 6 kM_f22 dM_begin_188 (kk := ?_)
                  refine lv_aload_n hx hb dM_begin_191 rfl (lv_at hl 0 rfl) ?_
                  refine M_getv hx hb K hM 7 (v := nI (d + 1)) hQ.1.1 kM_f84 dM_begin_192 (kk := ?_)
                  refine lv_iconst (v := 4) hx hb dM_begin_195 (by decide) ?_
                  refine M_astn hx hb K hM hS 6 (j := (d + 1)) (show (d + 1) < 13 by omega) dM_begin_196 (kk := fun H locs hM hS => ?_)
                  refine lv_aload_n hx hb dM_begin_197 rfl (lv_at hl 0 rfl) ?_
                  refine lv_dup hx hb dM_begin_198 rfl ?_
                  refine M_getv hx hb K hM 7 (v := nI (d + 1)) hQ.1.1 kM_f84 dM_begin_199 (kk := ?_)
                  refine lv_iconst (v := 1) hx hb dM_begin_202 (by decide) ?_
                  refine lv_iadd hx hb dM_begin_203 ?_
                  refine lv_as (v := nI ((d + 1) + 1)) (nI_1 _) ?_
                  refine M_puti hx hb K hM hS 7 kM_f84 dM_begin_204 (kk := fun H locs hM hS => ?_)
                  refine lv_aload_n hx hb dM_begin_207 rfl (lv_at hl 0 rfl) ?_
                  refine lv_iconst (v := 1) hx hb dM_begin_208 (by decide) ?_
                  refine M_puti hx hb K hM hS 8 kM_f87 dM_begin_209 (kk := fun H locs hM hS => ?_)
                  refine lv_iconst (v := 1) hx hb dM_begin_212 (by decide) ?_
                  refine W.zret (v := (1)) hx hb hr rfl (M_endi hM hK hS ?_) hS.2.2 dM_begin_213
                  exact ⟨⟨fun j h1 h2 h3 => by simp only [up_n h1, up_n h2, up_n h3], rfl⟩, Or.inr ⟨rfl, (d + 1 + 1, 1, n + 1, va_up pt (d + 1) 0, va_up fw (d + 1) 1, va_up mo (d + 1) 4, nm, dg), by simp [md_begin, hp, hd12, c_37, c_43, c_85, c_91, c_97, c_138], _, mdQ_open hQ hn (by omega) (fun j hj => by rw [show j = d by omega]; exact hp3) rfl rfl rfl rfl rfl rfl rfl upd_s⟩⟩
                · skip
                  refine lv_iconst (v := 0) hx hb dM_begin_150 (by decide) ?_
                  refine W.zret (v := (0)) hx hb hr rfl (M_endi hM hK hS ?_) hS.2.2 dM_begin_151
                  exact md_no (by have := (nI_eq (b := 12) (by omega) (by decide)).mp c_147; simp [md_begin, hp, this, c_37, c_43, c_85, c_91, c_97, c_138])
            · skip
              refine lv_aload_n hx hb dM_begin_100 rfl (lv_at hl 0 rfl) ?_
              refine lv_iload_n hx hb dM_begin_101 rfl (lv_at hl 1 rfl) ?_
              refine lv_bipush (v := 95) hx hb dM_begin_102 (by decide) ?_
              refine lv_icmp_ne (tgt := 112) hx hb dM_begin_104 (by decide) (fun c_104 => ?_) (fun c_104 => ?_)
              · skip
                refine lv_bipush (v := 110) hx hb dM_begin_112 (by decide) ?_
                refine va_calli (M_run (As := [.int (110)]) (rest := []) (n := 1) hx hb hml K hM (c_newNode l D cl tys A ci tI tZ cI cZ o ad _ _ (110) n hQ.1.2.2 hn) kM_c_newNode kM_m90 kM_i_newNode kM_s_newNode rfl rfl ⟨rfl, by decide +kernel⟩ ⟨Nat.le_of_ble_eq_true rfl, Nat.le_of_ble_eq_true rfl⟩ rfl hl.1 rfl (lv_room (Nat.le_of_ble_eq_true rfl)) dM_begin_114 ⟨Nat.le_of_ble_eq_true rfl, Nat.le_of_ble_eq_true rfl⟩) hS (fun q _ h => h) (fun q h => h) (fun r u t H1 locs1 ht hvm hw hB hz hk hS => ?_)
                obtain ⟨hM, -⟩ := hB
                rw [ht] at hM
                obtain ⟨rfl, rfl⟩ := hw
                dsimp only at hM
                refine lv_istore_n (lv' := [(2, .int (nI n)), (0, .ref o), (1, .int k)]) hx hb dM_begin_117 rfl hl (by decide) rfl (fun ls hl => ?_)
                refine lv_aload_n hx hb dM_begin_118 rfl (lv_at hl 1 rfl) ?_
                refine M_geta hx hb K hM 10 kM_f28 dM_begin_119 (kk := ?_)
                refine lv_iload_n hx hb dM_begin_122 rfl (lv_at hl 0 rfl) ?_
                refine lv_iload_n hx hb dM_begin_123 rfl (lv_at hl 2 rfl) ?_
                refine lv_bipush (v := 97) hx hb dM_begin_124 (by decide) ?_
                refine lv_isub hx hb dM_begin_126 ?_
                refine M_astn hx hb K hM hS 10 (j := n) hn dM_begin_127 (kk := fun H locs hM hS => ?_)
                refine lv_aload_n hx hb dM_begin_128 rfl (lv_at hl 1 rfl) ?_
                refine lv_iload_n hx hb dM_begin_129 rfl (lv_at hl 0 rfl) ?_
                refine va_callv (M_run (As := [.int (nI n)]) (rest := []) (n := 1) hx hb hml K hM (c_attachS l D cl tys A ci tI tZ cI cZ o ad _ _ (nI n) d (op d) (pt d) hQ.1.1 (by omega) (hQ.2.2.1 d (by omega)).1.1 (by omega) (hQ.2.2.1 d (by omega)).2.1.1 (by omega)) kM_c_attach kM_m94 kM_i_attach kM_s_attach rfl rfl ⟨rfl, by decide +kernel⟩ ⟨Nat.le_of_ble_eq_true rfl, Nat.le_of_ble_eq_true rfl⟩ rfl hl.1 rfl (lv_room (Nat.le_of_ble_eq_true rfl)) dM_begin_130 ⟨Nat.le_of_ble_eq_true rfl, Nat.le_of_ble_eq_true rfl⟩) hS (fun q _ h => h) (fun q h => h) (fun u t H1 locs1 ht hvm hw hB hz hk hS => ?_)
                obtain ⟨hM, -⟩ := hB
                rw [ht] at hM
                obtain ⟨g, rfl⟩ := hw
                dsimp only at hM
                refine lv_iconst (v := 1) hx hb dM_begin_133 (by decide) ?_
                refine W.zret (v := (1)) hx hb hr rfl (M_endi hM hK hS ?_) hS.2.2 dM_begin_134
                exact ⟨⟨fun j h1 h2 h3 => by simp only [up_n h1, up_n h2, up_n h3], rfl⟩, Or.inr ⟨rfl, (d + 1, 0, n + 1, va_up pt d (pt d + 1), fw, mo, nm, dg), by simp [md_begin, md_add, hp, c_37, c_43, c_85, c_91, c_97, c_104], op, mdQ_leafS hQ hn hp3 0 dg rfl rfl rfl rfl rfl rfl rfl (Or.inl rfl)⟩⟩
              · skip
                refine lv_bipush (v := 95) hx hb dM_begin_107 (by decide) ?_
                refine lv_goto (tgt := 114) hx hb dM_begin_109 (by decide) ?_
                refine va_calli (M_run (As := [.int (95)]) (rest := []) (n := 1) hx hb hml K hM (c_newNode l D cl tys A ci tI tZ cI cZ o ad _ _ (95) n hQ.1.2.2 hn) kM_c_newNode kM_m90 kM_i_newNode kM_s_newNode rfl rfl ⟨rfl, by decide +kernel⟩ ⟨Nat.le_of_ble_eq_true rfl, Nat.le_of_ble_eq_true rfl⟩ rfl hl.1 rfl (lv_room (Nat.le_of_ble_eq_true rfl)) dM_begin_114 ⟨Nat.le_of_ble_eq_true rfl, Nat.le_of_ble_eq_true rfl⟩) hS (fun q _ h => h) (fun q h => h) (fun r u t H1 locs1 ht hvm hw hB hz hk hS => ?_)
                obtain ⟨hM, -⟩ := hB
                rw [ht] at hM
                obtain ⟨rfl, rfl⟩ := hw
                dsimp only at hM
                refine lv_istore_n (lv' := [(2, .int (nI n)), (0, .ref o), (1, .int k)]) hx hb dM_begin_117 rfl hl (by decide) rfl (fun ls hl => ?_)
                refine lv_aload_n hx hb dM_begin_118 rfl (lv_at hl 1 rfl) ?_
                refine M_geta hx hb K hM 10 kM_f28 dM_begin_119 (kk := ?_)
                refine lv_iload_n hx hb dM_begin_122 rfl (lv_at hl 0 rfl) ?_
                refine lv_iload_n hx hb dM_begin_123 rfl (lv_at hl 2 rfl) ?_
                refine lv_bipush (v := 97) hx hb dM_begin_124 (by decide) ?_
                refine lv_isub hx hb dM_begin_126 ?_
                refine M_astn hx hb K hM hS 10 (j := n) hn dM_begin_127 (kk := fun H locs hM hS => ?_)
                refine lv_aload_n hx hb dM_begin_128 rfl (lv_at hl 1 rfl) ?_
                refine lv_iload_n hx hb dM_begin_129 rfl (lv_at hl 0 rfl) ?_
                refine va_callv (M_run (As := [.int (nI n)]) (rest := []) (n := 1) hx hb hml K hM (c_attachS l D cl tys A ci tI tZ cI cZ o ad _ _ (nI n) d (op d) (pt d) hQ.1.1 (by omega) (hQ.2.2.1 d (by omega)).1.1 (by omega) (hQ.2.2.1 d (by omega)).2.1.1 (by omega)) kM_c_attach kM_m94 kM_i_attach kM_s_attach rfl rfl ⟨rfl, by decide +kernel⟩ ⟨Nat.le_of_ble_eq_true rfl, Nat.le_of_ble_eq_true rfl⟩ rfl hl.1 rfl (lv_room (Nat.le_of_ble_eq_true rfl)) dM_begin_130 ⟨Nat.le_of_ble_eq_true rfl, Nat.le_of_ble_eq_true rfl⟩) hS (fun q _ h => h) (fun q h => h) (fun u t H1 locs1 ht hvm hw hB hz hk hS => ?_)
                obtain ⟨hM, -⟩ := hB
                rw [ht] at hM
                obtain ⟨g, rfl⟩ := hw
                dsimp only at hM
                refine lv_iconst (v := 1) hx hb dM_begin_133 (by decide) ?_
                refine W.zret (v := (1)) hx hb hr rfl (M_endi hM hK hS ?_) hS.2.2 dM_begin_134
                exact ⟨⟨fun j h1 h2 h3 => by simp only [up_n h1, up_n h2, up_n h3], rfl⟩, Or.inr ⟨rfl, (d + 1, 0, n + 1, va_up pt d (pt d + 1), fw, mo, nm, dg), by simp [md_begin, md_add, hp, c_37, c_43, c_85, c_91, c_97, c_104], op, mdQ_leafS hQ hn hp3 0 dg rfl rfl rfl rfl rfl rfl rfl (Or.inl rfl)⟩⟩
      · skip
        refine lv_aload_n hx hb dM_begin_46 rfl (lv_at hl 0 rfl) ?_
        refine lv_bipush (v := 48) hx hb dM_begin_47 (by decide) ?_
        refine va_calli (M_run (As := [.int (48)]) (rest := []) (n := 1) hx hb hml K hM (c_newNode l D cl tys A ci tI tZ cI cZ o ad _ _ (48) n hQ.1.2.2 hn) kM_c_newNode kM_m90 kM_i_newNode kM_s_newNode rfl rfl ⟨rfl, by decide +kernel⟩ ⟨Nat.le_of_ble_eq_true rfl, Nat.le_of_ble_eq_true rfl⟩ rfl hl.1 rfl (lv_room (Nat.le_of_ble_eq_true rfl)) dM_begin_49 ⟨Nat.le_of_ble_eq_true rfl, Nat.le_of_ble_eq_true rfl⟩) hS (fun q _ h => h) (fun q h => h) (fun r u t H1 locs1 ht hvm hw hB hz hk hS => ?_)
        obtain ⟨hM, -⟩ := hB
        rw [ht] at hM
        obtain ⟨rfl, rfl⟩ := hw
        dsimp only at hM
        refine lv_istore_n (lv' := [(2, .int (nI n)), (0, .ref o), (1, .int k)]) hx hb dM_begin_52 rfl hl (by decide) rfl (fun ls hl => ?_)
        refine lv_aload_n hx hb dM_begin_53 rfl (lv_at hl 1 rfl) ?_
        refine M_geta hx hb K hM 10 kM_f28 dM_begin_54 (kk := ?_)
        refine lv_iload_n hx hb dM_begin_57 rfl (lv_at hl 0 rfl) ?_
        refine lv_iload_n hx hb dM_begin_58 rfl (lv_at hl 2 rfl) ?_
        refine lv_bipush (v := 48) hx hb dM_begin_59 (by decide) ?_
        refine lv_isub hx hb dM_begin_61 ?_
        refine M_astn hx hb K hM hS 10 (j := n) hn dM_begin_62 (kk := fun H locs hM hS => ?_)
        refine lv_aload_n hx hb dM_begin_63 rfl (lv_at hl 1 rfl) ?_
        refine M_geta hx hb K hM 11 kM_f31 dM_begin_64 (kk := ?_)
        refine lv_iload_n hx hb dM_begin_67 rfl (lv_at hl 0 rfl) ?_
        refine lv_iconst (v := 1) hx hb dM_begin_68 (by decide) ?_
        refine M_astn hx hb K hM hS 11 (j := n) hn dM_begin_69 (kk := fun H locs hM hS => ?_)
        refine lv_aload_n hx hb dM_begin_70 rfl (lv_at hl 1 rfl) ?_
        refine lv_iload_n hx hb dM_begin_71 rfl (lv_at hl 0 rfl) ?_
        refine va_callv (M_run (As := [.int (nI n)]) (rest := []) (n := 1) hx hb hml K hM (c_attachS l D cl tys A ci tI tZ cI cZ o ad _ _ (nI n) d (op d) (pt d) hQ.1.1 (by omega) (hQ.2.2.1 d (by omega)).1.1 (by omega) (hQ.2.2.1 d (by omega)).2.1.1 (by omega)) kM_c_attach kM_m94 kM_i_attach kM_s_attach rfl rfl ⟨rfl, by decide +kernel⟩ ⟨Nat.le_of_ble_eq_true rfl, Nat.le_of_ble_eq_true rfl⟩ rfl hl.1 rfl (lv_room (Nat.le_of_ble_eq_true rfl)) dM_begin_72 ⟨Nat.le_of_ble_eq_true rfl, Nat.le_of_ble_eq_true rfl⟩) hS (fun q _ h => h) (fun q h => h) (fun u t H1 locs1 ht hvm hw hB hz hk hS => ?_)
        obtain ⟨hM, -⟩ := hB
        rw [ht] at hM
        obtain ⟨g, rfl⟩ := hw
        dsimp only at hM
        refine lv_aload_n hx hb dM_begin_75 rfl (lv_at hl 1 rfl) ?_
        refine lv_iconst (v := 4) hx hb dM_begin_76 (by decide) ?_
        refine M_puti hx hb K hM hS 8 kM_f87 dM_begin_77 (kk := fun H locs hM hS => ?_)
        refine lv_iconst (v := 1) hx hb dM_begin_80 (by decide) ?_
        refine W.zret (v := (1)) hx hb hr rfl (M_endi hM hK hS ?_) hS.2.2 dM_begin_81
        exact ⟨⟨fun j h1 h2 h3 => by simp only [up_n h1, up_n h2, up_n h3], rfl⟩, Or.inr ⟨rfl, (d + 1, 4, n + 1, va_up pt d (pt d + 1), fw, mo, nm, 1), by simp [md_begin, md_add, hp, c_37, c_43], op, mdQ_leafS hQ hn hp3 4 1 rfl rfl rfl rfl rfl rfl rfl (Or.inr ⟨rfl, by decide, upd_s⟩)⟩⟩
  · skip
    refine lv_iconst (v := 0) hx hb dM_begin_32 (by decide) ?_
    refine W.zret (v := (0)) hx hb hr rfl (M_endi hM hK hS ?_) hS.2.2 dM_begin_33
    exact md_no (by simp [md_begin, (nI_eq (by omega) (by omega)).mp c_29])
