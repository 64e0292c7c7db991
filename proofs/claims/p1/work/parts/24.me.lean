set_option maxHeartbeats 4000000 in
set_option maxRecDepth 100000 in
theorem k_Machine_init_new (l : Launch) (a0 : Array Value) (s0 : State) (G : G0 l a0 s0) (D : va_G) (T : Nat → ClassId) (A : Nat → Prop) (hA0 : ∀ q, A q → s0.heap.size ≤ q) (h0 : Nat → Option va_E) (q : Nat) (hq : h0 q = some (.inr (4, [.null, .null, .null, .null, .null, .null, .null, .int 0, .int 0, .int 0, .int 0, .int 0, .int 0, .null, .null, .null]))) : Met l y_Machine_init (.code y_Machine_init b_Machine_init 3 none :: lw_g) ({ frames := 4, cells := 484, slots := 2148, locals := 120 }) (va_Pc [.ref q] (wd s0 D T A h0)) (va_Qv (fun h => kp h0 q h ∧ ∃ (mf : List Value) (gl : Nat) (lf : Nat → Option Nat), h q = some (.inr (4, mf)) ∧ (mf[0]? = some (.ref gl) ∧ mf[7]? = some (.int 0) ∧ mf[8]? = some (.int 0) ∧ mf[9]? = some (.int 0) ∧ mf[10]? = some (.int 0) ∧ mf[11]? = some (.int 0)) ∧ h gl = some (.inl (T 6, 26, vQ lf)) ∧ ∀ i, i < 26 → ∃ b x y1 y2, lf i = some b ∧ h b = some (.inr (5, [.ref x, y1, y2])) ∧ h x = some (.inr (6, pl0))) (fun h t => gw D classes A h t.heap) A) 484 2148 A := by
  refine Met.ofW (cc := b_Machine_init) (maxL := 3) (ret := none) (by decide) rfl ?_
  intro p e s m args below meth c s₁ B9 hml hv
  obtain ⟨rfl, hxB, hA, hg, hK⟩ := hv
  have hx := B9.exec
  have hb := B9.bytes
  have hr := B9.returns
  have hts := atoms_spec (ws := (.code y_Machine_init b_Machine_init 3 none :: lw_g)) B9.pre
  have hgt : ∀ w ∈ lw_g, w.before _ s = true := fun w h => hts w (List.mem_cons_of_mem _ h)
  have hown : s.vm.findClass R_Machine = some m.cls := findClass_of_methodNamed B9.named
  have hin : meth.name = "<init>" := (name_of_methodNamed B9.named B9.method).1
  have hS : va_S A s.heap s.heap [] := va_S.rf
  have hl := lv_entry ([.ref q]) (n := 3) (Nat.le_of_ble_eq_true rfl)
  rw [lg_entry_eq]
  generalize (lg_sl ([.ref q]) ++ List.replicate (3 - (lg_sl ([.ref q])).length) Slot.unset).toArray = ls at hl ⊢
  have hl : lv_has ls 3 [(0, .ref q)] := hl
  have hk : kp h0 q h0 := kp.rf h0 q
  refine lv_aload_n hx hb d_Machine_init_0 rfl (lv_at hl 0 rfl) ?_
  refine W.objInit hx hb hown (hgt _ k_Machine_m3) (hgt _ kO_i) (hgt _ kO_c) rfl (by rw [hml]; exact hl.1) rfl d_Machine_init_1 (Nat.le_of_ble_eq_true rfl) (Nat.le_of_ble_eq_true rfl) ?_
  refine W.eq (g2 := F0 m 4 ls []) rfl ?_
  refine lv_aload_n hx hb d_Machine_init_4 rfl (lv_at hl 0 rfl) ?_
  refine lv_bipush (v := 26) hx hb d_Machine_init_5 (by decide) ?_
  refine g_newq hx hb hown (hgt _ k_Machine_c9) (G.ao hxB k_ao_Binding) hK hg hS hA 26 (by decide) (by decide) 6 rfl (Nat.le_of_ble_eq_true rfl) (Nat.le_of_ble_eq_true rfl) d_Machine_init_7 (fun gl H hn_gl hg hS => ?_)
  refine g_putF hx hb hgt in_Machine ty_Machine ty_Machine_ok nm_Machine hown hK hg hS (g_upn _ hn_gl hq) rfl 0 (by decide) (hgt _ k_Machine_f11) (fun _ h9 => h9) rfl hin rfl (ty := .array (.object "ContinuationCore$Binding")) (by decide +kernel) rfl rfl (by show 0 < 16; decide) d_Machine_init_10 (fun H locs hg hS => ?_)
  have z_gl : h0 gl = none := kp.fresh hk hq hn_gl
  have q_gl : gl ≠ q := fun w => by rw [w, hq] at hn_gl; cases hn_gl
  obtain ⟨w1, hg, kA1, hq1, f_gl⟩ : ∃ w1, gw D classes A w1 H ∧ kp h0 q w1 ∧ w1 q = some (.inr (4, [.ref gl, .null, .null, .null, .null, .null, .null, .int 0, .int 0, .int 0, .int 0, .int 0, .int 0, .null, .null, .null])) ∧ w1 gl = some (.inl (T 6, 26, vQ (fun _ => none))) := ⟨_, hg, (kp.new (kp.rf _ _) hn_gl _).self _, va_up_self _ _ _, by rw [va_up_ne _ _ q_gl, va_up_self]⟩
  replace hk : kp h0 q w1 := hk.tr kA1
  refine lv_aload_n hx hb d_Machine_init_13 rfl (lv_at hl 0 rfl) ?_
  refine g_new hx hb hgt in_SB ty_SB ty_SB_ok hown (hgt _ k_Machine_c17) (hgt _ k_SB_inst) (hgt _ k_SB_ini) hK hg hS hA (ci := 8) rfl (fs := [.null, .int 0, .int 0, .int 0]) (by decide +kernel) (Nat.le_of_ble_eq_true rfl) (Nat.le_of_ble_eq_true rfl) d_Machine_init_14 (fun sb H hn_sb hg hS => ?_)
  refine lv_dup hx hb d_Machine_init_17 rfl ?_
  refine va_callv (I_run (As := []) (rest := [.ref sb, .ref q]) (n := 0) hx hb hml hgt hown hxB hA0 hA hK hg hS (k_SB_init_new l a0 s0 G D T A hA0 _ sb (va_up_self _ _ _)) kc_SB_init k_Machine_m19s ki_SB_init rfl k_SB_ini rfl rfl (by decide +kernel) ⟨Nat.le_of_ble_eq_true rfl, Nat.le_of_ble_eq_true rfl⟩ rfl hl.1 rfl (lv_room (Nat.le_of_ble_eq_true rfl)) d_Machine_init_18 ⟨Nat.le_of_ble_eq_true rfl, Nat.le_of_ble_eq_true rfl⟩) hS (fun q _ h => h) (fun q h => h) (fun h2 t H1 locs1 ht hvm hw hB hz hk9 hS => ?_)
  replace hg : gw D classes A h2 H1 := by rw [← ht]; exact hB
  obtain ⟨hk5, fs5, e5⟩ := hw
  have kq : h2 q = some (.inr (4, [.ref gl, .null, .null, .null, .null, .null, .null, .int 0, .int 0, .int 0, .int 0, .int 0, .int 0, .null, .null, .null])) := hk5 q _ (g_upn _ hn_sb hq1) (fun w => by rw [← w, hq1] at hn_sb; cases hn_sb)
  refine g_putF hx hb hgt in_Machine ty_Machine ty_Machine_ok nm_Machine hown hK hg hS kq rfl 1 (by decide) (hgt _ k_Machine_f20) (fun _ h9 => h9) rfl hin rfl (ty := .object "java/lang/StringBuilder") (by decide +kernel) rfl rfl (by show 1 < 16; decide) d_Machine_init_21 (fun H locs hg hS => ?_)
  obtain ⟨w2, hg, kA2, hq2⟩ : ∃ w2, gw D classes A w2 H ∧ kp w1 q w2 ∧ w2 q = some (.inr (4, [.ref gl, .ref sb, .null, .null, .null, .null, .null, .int 0, .int 0, .int 0, .int 0, .int 0, .int 0, .null, .null, .null])) := ⟨_, hg, (((kp.rf _ _).new hn_sb _).call hk5 hn_sb).self _, va_up_self _ _ _⟩
  replace f_gl : w2 gl = some (.inl (T 6, 26, vQ (fun _ => none))) := kA2 _ _ f_gl (g_ne f_gl hq1 (by simp))
  replace hk : kp h0 q w2 := hk.tr kA2
  refine lv_aload_n hx hb d_Machine_init_24 rfl (lv_at hl 0 rfl) ?_
  refine lv_bipush (v := 120) hx hb d_Machine_init_25 (by decide) ?_
  refine g_newq hx hb hown (hgt _ k_Machine_c9) (G.ao hxB k_ao_Binding) hK hg hS hA 120 (by decide) (by decide) 6 rfl (Nat.le_of_ble_eq_true rfl) (Nat.le_of_ble_eq_true rfl) d_Machine_init_27 (fun br H hn_br hg hS => ?_)
  refine g_putF hx hb hgt in_Machine ty_Machine ty_Machine_ok nm_Machine hown hK hg hS (g_upn _ hn_br hq2) rfl 2 (by decide) (hgt _ k_Machine_f24) (fun _ h9 => h9) rfl hin rfl (ty := .array (.object "ContinuationCore$Binding")) (by decide +kernel) rfl rfl (by show 2 < 16; decide) d_Machine_init_30 (fun H locs hg hS => ?_)
  have z_br : h0 br = none := kp.fresh hk hq2 hn_br
  have q_br : br ≠ q := fun w => by rw [w, hq2] at hn_br; cases hn_br
  obtain ⟨w3, hg, kA3, hq3, f_br⟩ : ∃ w3, gw D classes A w3 H ∧ kp w2 q w3 ∧ w3 q = some (.inr (4, [.ref gl, .ref sb, .ref br, .null, .null, .null, .null, .int 0, .int 0, .int 0, .int 0, .int 0, .int 0, .null, .null, .null])) ∧ w3 br = some (.inl (T 6, 120, vQ (fun _ => none))) := ⟨_, hg, (kp.new (kp.rf _ _) hn_br _).self _, va_up_self _ _ _, by rw [va_up_ne _ _ q_br, va_up_self]⟩
  replace f_gl : w3 gl = some (.inl (T 6, 26, vQ (fun _ => none))) := kA3 _ _ f_gl (g_ne f_gl hq2 (by simp))
  replace hk : kp h0 q w3 := hk.tr kA3
  refine lv_aload_n hx hb d_Machine_init_33 rfl (lv_at hl 0 rfl) ?_
  refine lv_bipush (v := 60) hx hb d_Machine_init_34 (by decide) ?_
  refine g_newq hx hb hown (hgt _ k_Machine_c27) (G.ao hxB k_ao_Pair) hK hg hS hA 60 (by decide) (by decide) 8 rfl (Nat.le_of_ble_eq_true rfl) (Nat.le_of_ble_eq_true rfl) d_Machine_init_36 (fun pr H hn_pr hg hS => ?_)
  refine g_putF hx hb hgt in_Machine ty_Machine ty_Machine_ok nm_Machine hown hK hg hS (g_upn _ hn_pr hq3) rfl 3 (by decide) (hgt _ k_Machine_f29) (fun _ h9 => h9) rfl hin rfl (ty := .array (.object "ContinuationCore$Pair")) (by decide +kernel) rfl rfl (by show 3 < 16; decide) d_Machine_init_39 (fun H locs hg hS => ?_)
  have z_pr : h0 pr = none := kp.fresh hk hq3 hn_pr
  have q_pr : pr ≠ q := fun w => by rw [w, hq3] at hn_pr; cases hn_pr
  obtain ⟨w4, hg, kA4, hq4, f_pr⟩ : ∃ w4, gw D classes A w4 H ∧ kp w3 q w4 ∧ w4 q = some (.inr (4, [.ref gl, .ref sb, .ref br, .ref pr, .null, .null, .null, .int 0, .int 0, .int 0, .int 0, .int 0, .int 0, .null, .null, .null])) ∧ w4 pr = some (.inl (T 8, 60, vQ (fun _ => none))) := ⟨_, hg, (kp.new (kp.rf _ _) hn_pr _).self _, va_up_self _ _ _, by rw [va_up_ne _ _ q_pr, va_up_self]⟩
  replace f_gl : w4 gl = some (.inl (T 6, 26, vQ (fun _ => none))) := kA4 _ _ f_gl (g_ne f_gl hq3 (by simp))
  replace f_br : w4 br = some (.inl (T 6, 120, vQ (fun _ => none))) := kA4 _ _ f_br (g_ne f_br hq3 (by simp))
  replace hk : kp h0 q w4 := hk.tr kA4
  refine lv_aload_n hx hb d_Machine_init_42 rfl (lv_at hl 0 rfl) ?_
  refine g_new hx hb hgt in_Place ty_Place ty_Place_ok hown (hgt _ k_Machine_c33) (hgt _ k_Place_inst) (hgt _ k_Place_ini) hK hg hS hA (ci := 6) rfl (fs := [.int 0, .int 0, .null, .null, .null]) (by decide +kernel) (Nat.le_of_ble_eq_true rfl) (Nat.le_of_ble_eq_true rfl) d_Machine_init_43 (fun p1 H hn_p1 hg hS => ?_)
  refine lv_dup hx hb d_Machine_init_46 rfl ?_
  refine va_callv (IN_run (As := []) (rest := [.ref p1, .ref q]) (n := 0) hx hb hml hgt hown G hxB hA0 hA hK hg hS (k_Place_init_new l a0 s0 G D T A hA0 _ p1 (va_up_self _ _ _)) kc_Place_init k_Machine_mn35 ki_Place_init rfl k_Place_ini rfl rfl (by decide +kernel) ⟨Nat.le_of_ble_eq_true rfl, Nat.le_of_ble_eq_true rfl⟩ rfl hl.1 rfl (lv_room (Nat.le_of_ble_eq_true rfl)) d_Machine_init_47 ⟨Nat.le_of_ble_eq_true rfl, Nat.le_of_ble_eq_true rfl⟩) hS (fun q _ h => h) (fun q h => h) (fun h2 t H1 locs1 ht hvm hw hB hz hk9 hS => ?_)
  replace hg : gw D classes A h2 H1 := by rw [← ht]; exact hB
  obtain rfl := hw
  rw [bx_uu] at hg
  refine g_putF hx hb hgt in_Machine ty_Machine ty_Machine_ok nm_Machine hown hK hg hS (g_upn _ hn_p1 hq4) rfl 4 (by decide) (hgt _ k_Machine_f36) (fun _ h9 => h9) rfl hin rfl (ty := .object "ContinuationCore$Place") (by decide +kernel) rfl rfl (by show 4 < 16; decide) d_Machine_init_50 (fun H locs hg hS => ?_)
  obtain ⟨w5, hg, kA5, hq5⟩ : ∃ w5, gw D classes A w5 H ∧ kp w4 q w5 ∧ w5 q = some (.inr (4, [.ref gl, .ref sb, .ref br, .ref pr, .ref p1, .null, .null, .int 0, .int 0, .int 0, .int 0, .int 0, .int 0, .null, .null, .null])) := ⟨_, hg, (kp.new (kp.rf _ _) hn_p1 _).self _, va_up_self _ _ _⟩
  replace f_gl : w5 gl = some (.inl (T 6, 26, vQ (fun _ => none))) := kA5 _ _ f_gl (g_ne f_gl hq4 (by simp))
  replace f_br : w5 br = some (.inl (T 6, 120, vQ (fun _ => none))) := kA5 _ _ f_br (g_ne f_br hq4 (by simp))
  replace f_pr : w5 pr = some (.inl (T 8, 60, vQ (fun _ => none))) := kA5 _ _ f_pr (g_ne f_pr hq4 (by simp))
  replace hk : kp h0 q w5 := hk.tr kA5
  refine lv_aload_n hx hb d_Machine_init_53 rfl (lv_at hl 0 rfl) ?_
  refine g_new hx hb hgt in_Place ty_Place ty_Place_ok hown (hgt _ k_Machine_c33) (hgt _ k_Place_inst) (hgt _ k_Place_ini) hK hg hS hA (ci := 6) rfl (fs := [.int 0, .int 0, .null, .null, .null]) (by decide +kernel) (Nat.le_of_ble_eq_true rfl) (Nat.le_of_ble_eq_true rfl) d_Machine_init_54 (fun p2 H hn_p2 hg hS => ?_)
  refine lv_dup hx hb d_Machine_init_57 rfl ?_
  refine va_callv (IN_run (As := []) (rest := [.ref p2, .ref q]) (n := 0) hx hb hml hgt hown G hxB hA0 hA hK hg hS (k_Place_init_new l a0 s0 G D T A hA0 _ p2 (va_up_self _ _ _)) kc_Place_init k_Machine_mn35 ki_Place_init rfl k_Place_ini rfl rfl (by decide +kernel) ⟨Nat.le_of_ble_eq_true rfl, Nat.le_of_ble_eq_true rfl⟩ rfl hl.1 rfl (lv_room (Nat.le_of_ble_eq_true rfl)) d_Machine_init_58 ⟨Nat.le_of_ble_eq_true rfl, Nat.le_of_ble_eq_true rfl⟩) hS (fun q _ h => h) (fun q h => h) (fun h2 t H1 locs1 ht hvm hw hB hz hk9 hS => ?_)
  replace hg : gw D classes A h2 H1 := by rw [← ht]; exact hB
  obtain rfl := hw
  rw [bx_uu] at hg
  refine g_putF hx hb hgt in_Machine ty_Machine ty_Machine_ok nm_Machine hown hK hg hS (g_upn _ hn_p2 hq5) rfl 5 (by decide) (hgt _ k_Machine_f40) (fun _ h9 => h9) rfl hin rfl (ty := .object "ContinuationCore$Place") (by decide +kernel) rfl rfl (by show 5 < 16; decide) d_Machine_init_61 (fun H locs hg hS => ?_)
  obtain ⟨w6, hg, kA6, hq6⟩ : ∃ w6, gw D classes A w6 H ∧ kp w5 q w6 ∧ w6 q = some (.inr (4, [.ref gl, .ref sb, .ref br, .ref pr, .ref p1, .ref p2, .null, .int 0, .int 0, .int 0, .int 0, .int 0, .int 0, .null, .null, .null])) := ⟨_, hg, (kp.new (kp.rf _ _) hn_p2 _).self _, va_up_self _ _ _⟩
  replace f_gl : w6 gl = some (.inl (T 6, 26, vQ (fun _ => none))) := kA6 _ _ f_gl (g_ne f_gl hq5 (by simp))
  replace f_br : w6 br = some (.inl (T 6, 120, vQ (fun _ => none))) := kA6 _ _ f_br (g_ne f_br hq5 (by simp))
  replace f_pr : w6 pr = some (.inl (T 8, 60, vQ (fun _ => none))) := kA6 _ _ f_pr (g_ne f_pr hq5 (by simp))
  replace hk : kp h0 q w6 := hk.tr kA6
  refine lv_aload_n hx hb d_Machine_init_64 rfl (lv_at hl 0 rfl) ?_
  refine lv_iconst (v := 4) hx hb d_Machine_init_65 (by decide) ?_
  refine g_newq hx hb hown (hgt _ k_Machine_c33) (G.ao hxB k_ao_Place) hK hg hS hA 4 (by decide) (by decide) 7 rfl (Nat.le_of_ble_eq_true rfl) (Nat.le_of_ble_eq_true rfl) d_Machine_init_66 (fun vr H hn_vr hg hS => ?_)
  refine g_putF hx hb hgt in_Machine ty_Machine ty_Machine_ok nm_Machine hown hK hg hS (g_upn _ hn_vr hq6) rfl 6 (by decide) (hgt _ k_Machine_f45) (fun _ h9 => h9) rfl hin rfl (ty := .array (.object "ContinuationCore$Place")) (by decide +kernel) rfl rfl (by show 6 < 16; decide) d_Machine_init_69 (fun H locs hg hS => ?_)
  have z_vr : h0 vr = none := kp.fresh hk hq6 hn_vr
  have q_vr : vr ≠ q := fun w => by rw [w, hq6] at hn_vr; cases hn_vr
  obtain ⟨w7, hg, kA7, hq7, f_vr⟩ : ∃ w7, gw D classes A w7 H ∧ kp w6 q w7 ∧ w7 q = some (.inr (4, [.ref gl, .ref sb, .ref br, .ref pr, .ref p1, .ref p2, .ref vr, .int 0, .int 0, .int 0, .int 0, .int 0, .int 0, .null, .null, .null])) ∧ w7 vr = some (.inl (T 7, 4, vQ (fun _ => none))) := ⟨_, hg, (kp.new (kp.rf _ _) hn_vr _).self _, va_up_self _ _ _, by rw [va_up_ne _ _ q_vr, va_up_self]⟩
  replace f_gl : w7 gl = some (.inl (T 6, 26, vQ (fun _ => none))) := kA7 _ _ f_gl (g_ne f_gl hq6 (by simp))
  replace f_br : w7 br = some (.inl (T 6, 120, vQ (fun _ => none))) := kA7 _ _ f_br (g_ne f_br hq6 (by simp))
  replace f_pr : w7 pr = some (.inl (T 8, 60, vQ (fun _ => none))) := kA7 _ _ f_pr (g_ne f_pr hq6 (by simp))
  replace hk : kp h0 q w7 := hk.tr kA7
  refine lv_null hx hb d_Machine_init_72 ?_
  refine lv_astore_nN (lv' := [(1, .null), (0, .ref q)]) hx hb d_Machine_init_73 rfl hl (by decide) rfl (fun ls hl => ?_)
  refine lv_iconst (v := 0) hx hb d_Machine_init_74 (by decide) ?_
  refine lv_as (v := nI 0) rfl ?_
  refine lv_istore_n (lv' := [(2, .int (nI 0)), (1, .null), (0, .ref q)]) hx hb d_Machine_init_75 rfl hl (by decide) rfl (fun ls hl => ?_)
  have lp1 : (∀ (h : Nat → Option va_E) (f : Nat → Option Nat) (H : Heap) (locs : List Loc) (ls : Array Slot), gw D classes A h H → kp w7 gl h → h gl = some (.inl (T 6, 26, vQ f)) → (∀ j, j < 26 → ∃ b x y1 y2, f j = some b ∧ h b = some (.inr (5, [.ref x, y1, y2])) ∧ h x = some (.inr (6, pl0))) → va_S A s.heap H locs → lv_has ls 3 [(2, .int (nI 26)), (0, .ref q)] → W p l e (headSpec (.code y_Machine_init b_Machine_init 3 none :: lw_g) ({ frames := 4, cells := 484, slots := 2148, locals := 120 })).room s m #[Value.ref q] below meth c H locs (8 + 2 * 26) (240 + 8 * 26) (MQ below (va_Qv (fun h => kp h0 q h ∧ ∃ (mf : List Value) (gl : Nat) (lf : Nat → Option Nat), h q = some (.inr (4, mf)) ∧ (mf[0]? = some (.ref gl) ∧ mf[7]? = some (.int 0) ∧ mf[8]? = some (.int 0) ∧ mf[9]? = some (.int 0) ∧ mf[10]? = some (.int 0) ∧ mf[11]? = some (.int 0)) ∧ h gl = some (.inl (T 6, 26, vQ lf)) ∧ ∀ i, i < 26 → ∃ b x y1 y2, lf i = some b ∧ h b = some (.inr (5, [.ref x, y1, y2])) ∧ h x = some (.inr (6, pl0))) (fun h t => gw D classes A h t.heap) A) #[Value.ref q] s 484 2148 A) (F0 m 119 ls [])) → ∀ (z i : Nat) (bv : Option Nat) (h : Nat → Option va_E) (f : Nat → Option Nat) (H : Heap) (locs : List Loc) (ls : Array Slot), i + z = 26 → gw D classes A h H → kp w7 gl h → h gl = some (.inl (T 6, 26, vQ f)) → (∀ j, j < i → ∃ b x y1 y2, f j = some b ∧ h b = some (.inr (5, [.ref x, y1, y2])) ∧ h x = some (.inr (6, pl0))) → va_S A s.heap H locs → lv_has ls 3 [(2, .int (nI i)), (0, .ref q), (1, va_rf bv)] → W p l e (headSpec (.code y_Machine_init b_Machine_init 3 none :: lw_g) ({ frames := 4, cells := 484, slots := 2148, locals := 120 })).room s m #[Value.ref q] below meth c H locs (8 + 2 * i) (240 + 8 * i) (MQ below (va_Qv (fun h => kp h0 q h ∧ ∃ (mf : List Value) (gl : Nat) (lf : Nat → Option Nat), h q = some (.inr (4, mf)) ∧ (mf[0]? = some (.ref gl) ∧ mf[7]? = some (.int 0) ∧ mf[8]? = some (.int 0) ∧ mf[9]? = some (.int 0) ∧ mf[10]? = some (.int 0) ∧ mf[11]? = some (.int 0)) ∧ h gl = some (.inl (T 6, 26, vQ lf)) ∧ ∀ i, i < 26 → ∃ b x y1 y2, lf i = some b ∧ h b = some (.inr (5, [.ref x, y1, y2])) ∧ h x = some (.inr (6, pl0))) (fun h t => gw D classes A h t.heap) A) #[Value.ref q] s 484 2148 A) (F0 m 76 ls []) := by
    intro kk z
    induction z with
    | zero =>
      intro i bv h f H locs ls hi hg hkp har hpr hS hl
      obtain rfl : i = 26 := by omega
      refine lv_iload_n hx hb d_Machine_init_76 rfl (lv_at hl 0 rfl) ?_
      refine lv_bipush (v := 26) hx hb d_Machine_init_77 (by decide) ?_
      exact lv_icmp_ge (tgt := 119) hx hb d_Machine_init_79 (by decide) (fun _ => kk h f H locs ls hg hkp har hpr hS (lv_sub hl [0, 1] rfl)) (fun c_9 => absurd (by decide) c_9)
    | succ z ih =>
      intro i bv h f H locs ls hi hg hkp har hpr hS hl
      have hiN : i < 26 := by omega
      have hqh := hkp q _ hq7 (g_ne hq7 f_gl (by simp))
      cases bv with
      | none =>
        have hl : lv_has ls 3 [(2, .int (nI i)), (0, .ref q), (1, .null)] := hl
        refine lv_iload_n hx hb d_Machine_init_76 rfl (lv_at hl 0 rfl) ?_
        refine lv_bipush (v := 26) hx hb d_Machine_init_77 (by decide) ?_
        refine lv_icmp_ge (tgt := 119) hx hb d_Machine_init_79 (by decide) (fun c_9 => absurd c_9 (nI_ge (a := i) (b := 26) hiN (by decide))) (fun c_9 => ?_)
        refine lv_aload_n hx hb d_Machine_init_82 rfl (lv_at hl 1 rfl) ?_
        refine g_get hx hb hgt in_Machine hown hK hg hqh rfl 0 (by decide) (hgt _ k_Machine_f11) (fun _ h9 => h9) (v := .ref gl) rfl d_Machine_init_83 ?_
        refine lv_iload_n hx hb d_Machine_init_86 rfl (lv_at hl 0 rfl) ?_
        refine g_new hx hb hgt in_Binding ty_Binding ty_Binding_ok hown (hgt _ k_Machine_c9) (hgt _ k_Binding_inst) (hgt _ k_Binding_ini) hK hg hS hA (ci := 5) rfl (fs := [.null, .int 0, .null]) (by decide +kernel) (by show 8 + 2 * i + 1 ≤ 484; omega) (by show 240 + 8 * i + 3 ≤ 2148; omega) d_Machine_init_87 (fun x H hn_x hg hS => ?_)
        refine lv_dup hx hb d_Machine_init_90 rfl ?_
        refine va_callv (IN_run (As := []) (rest := [.ref x, .int (nI i), .ref gl]) (n := 0) hx hb hml hgt hown G hxB hA0 hA hK hg hS (k_Binding_init_new l a0 s0 G D T A hA0 _ x (va_up_self _ _ _)) kc_Binding_init k_Machine_mn49 ki_Binding_init rfl k_Binding_ini rfl rfl (by decide +kernel) ⟨Nat.le_of_ble_eq_true rfl, Nat.le_of_ble_eq_true rfl⟩ rfl hl.1 rfl (lv_room (Nat.le_of_ble_eq_true rfl)) d_Machine_init_91 ⟨by show 8 + 2 * i + 1 + 1 ≤ 484; omega, by show 240 + 8 * i + 3 + 5 ≤ 2148; omega⟩) hS (fun q _ h => h) (fun q h => h) (fun h5 t H1 locs1 ht hvm hw hB hz hk9 hS => ?_)
        replace hg : gw D classes A h5 H1 := by rw [← ht]; exact hB
        obtain ⟨hk5, x6, hn6, e5, e6⟩ := hw
        have hxe : x ≠ gl := fun w => by rw [w, har] at hn_x; cases hn_x
        have har5 : h5 gl = some (.inl (T 6, 26, vQ f)) := hk5 _ _ (g_upn _ hn_x har) hxe.symm
        refine g_astq hx hb hK hg hS 6 5 (r := (R_Binding, T_Binding, 3)) har5 rfl e5 rfl (vp_in_nI hiN (by decide)) d_Machine_init_94 (fun H locs hg hS => ?_)
        rw [nI_clamp (by omega)] at hg
        obtain ⟨h6, hg, hk6, har6, e5, e6⟩ : ∃ h6, gw D classes A h6 H ∧ (∀ (a : Nat) (cl : va_E), h a = some cl → a ≠ gl → h6 a = some cl) ∧ h6 gl = some (.inl (T 6, 26, vQ (va_up f i (some x)))) ∧ h6 x = some (.inr (5, [.ref x6, .int 0, .null])) ∧ h6 x6 = some (.inr (6, pl0)) := ⟨_, hg, fun a cl ha hne => by rw [va_up_ne _ _ hne]; exact hk5 a cl (g_upn _ hn_x ha) (fun w => by rw [w, hn_x] at ha; cases ha), va_up_self _ _ _, g_up _ har5 e5 (by simp), g_up _ har5 e6 (by simp)⟩
        have hq6 := hk6 q _ hqh (g_ne hqh har (by simp))
        refine lv_aload_n hx hb d_Machine_init_95 rfl (lv_at hl 1 rfl) ?_
        refine g_get hx hb hgt in_Machine hown hK hg hq6 rfl 0 (by decide) (hgt _ k_Machine_f11) (fun _ h9 => h9) (v := .ref gl) rfl d_Machine_init_96 ?_
        refine lv_iload_n hx hb d_Machine_init_99 rfl (lv_at hl 0 rfl) ?_
        refine g_aldq hx hb hK hg 6 (C := R_Binding) har6 rfl (vp_in_nI hiN (by decide)) d_Machine_init_100 ?_
        rw [nI_clamp (by omega), va_up_self]
        show W p l e _ s m _ below meth c _ _ _ _ _ (F0 m 101 ls [.ref x])
        refine lv_iload_n hx hb d_Machine_init_101 rfl (lv_at hl 0 rfl) ?_
        refine lv_aload_nN hx hb d_Machine_init_102 rfl (lv_at hl 2 rfl) ?_
        refine va_callv (va_runV (Ts := .code y_Binding_become b_Binding_become 3 none :: lw_g) (own := R_Machine) (C := R_Binding) (nL := 3) (bytes := b_Binding_become) (maxL := 3) (ret := none) (n := 2) (As := [.int (nI i), .null]) (rest := []) ⟨hx, hb, hml, hown, lw_with hgt kc_Binding_become⟩ (k_Binding_become_n_new l a0 s0 G D T A hA0 _ x (nI i) x6 _ _ e5) ⟨callB_of 2 (Ts := .code y_Binding_become b_Binding_become 3 none :: lw_g) (lw_with hgt kc_Binding_become) (lw_goodIn _ kc_Binding_become) rfl rfl rfl (hgt _ k_Binding_ini) (hgt _ k_Machine_m50) (by decide +kernel) ⟨Nat.le_of_ble_eq_true rfl, Nat.le_of_ble_eq_true rfl⟩, hgt _ ki_Binding_become, hgt _ ke_Binding_become⟩ ⟨wd.blind, va_recv hK (hg.one e5) (q0 := 0) (q := (R_Binding, T_Binding, 3)) rfl rfl, fun U hU hW9 => ⟨rfl, xB.later hxB hA0 (by rw [hU]; exact hS) hW9, fun x9 hx9 => hA x9 (Nat.le_trans hS.1 (by rw [hU] at hx9; exact hx9)), by rw [hU]; exact hg, va_K.moved hW9.alike hK⟩⟩ rfl rfl hl.1 rfl (lv_room (Nat.le_of_ble_eq_true rfl)) d_Machine_init_103 ⟨by show 8 + 2 * i + 1 + 1 + 0 ≤ 484; omega, by show 240 + 8 * i + 3 + 5 + 0 ≤ 2148; omega⟩) hS (fun q _ h => h) (fun q h => h) (fun h7 t H1 locs1 ht hvm hw hB hz hk9 hS => ?_)
        replace hg : gw D classes A h7 H1 := by rw [← ht]; exact hB
        obtain ⟨hk7, har7, e7, e8⟩ : (∀ (a : Nat) (cl : va_E), h a = some cl → a ≠ gl → h7 a = some cl) ∧ h7 gl = some (.inl (T 6, 26, vQ (va_up f i (some x)))) ∧ h7 x = some (.inr (5, [.ref x6, .int (nI i), .null])) ∧ h7 x6 = some (.inr (6, pl0)) := by
          rw [hw]
          exact ⟨fun a cl ha hne => by rw [va_up_ne _ _ (fun w => by rw [w, hn_x] at ha; cases ha)]; exact hk6 a cl ha hne, g_up _ e5 har6 (by simp), va_up_self _ _ _, g_up _ e5 e6 (by simp)⟩
        have hq7 := hk7 q _ hqh (g_ne hqh har (by simp))
        refine lv_aload_n hx hb d_Machine_init_106 rfl (lv_at hl 1 rfl) ?_
        refine g_get hx hb hgt in_Machine hown hK hg hq7 rfl 0 (by decide) (hgt _ k_Machine_f11) (fun _ h9 => h9) (v := .ref gl) rfl d_Machine_init_107 ?_
        refine lv_iload_n hx hb d_Machine_init_110 rfl (lv_at hl 0 rfl) ?_
        refine g_aldq hx hb hK hg 6 (C := R_Binding) har7 rfl (vp_in_nI hiN (by decide)) d_Machine_init_111 ?_
        rw [nI_clamp (by omega), va_up_self]
        show W p l e _ s m _ below meth c _ _ _ _ _ (F0 m 112 ls [.ref x])
        refine lv_astore_n (lv' := [(1, .ref x), (2, .int (nI i)), (0, .ref q)]) hx hb d_Machine_init_112 rfl hl (by decide) rfl (fun ls hl => ?_)
        refine lv_iinc (v := nI (i + 1)) (lv' := [(2, .int (nI (i + 1))), (1, .ref x), (0, .ref q)]) hx hb d_Machine_init_113 hl (k := 1) rfl (nI_1 i) (by decide) rfl (fun ls hl => ?_)
        refine lv_goto (tgt := 76) hx hb d_Machine_init_116 (by decide) ?_
        refine W.cs (cells' := 8 + 2 * (i + 1)) (slots' := 240 + 8 * (i + 1)) (by omega) (by omega) ?_
        refine ih (i + 1) (some x) h7 _ H1 locs1 ls (by omega) hg (fun a e9 h1 h2 => hk7 a e9 (hkp a e9 h1 h2) h2) har7 (fun j hj => ?_) hS (lv_sub hl [0, 2, 1] rfl)
        by_cases e9 : j = i
        · rw [e9, va_up_self]; exact ⟨x, x6, _, _, rfl, e7, e8⟩
        · rw [va_up_ne _ _ e9]
          obtain ⟨b9, x9, y8, y9, b1, b2, b3⟩ := hpr j (by omega)
          exact ⟨b9, x9, y8, y9, b1, hk7 _ _ b2 (g_ne b2 har (by simp)), hk7 _ _ b3 (g_ne b3 har (by simp))⟩
      | some bq =>
        have hl : lv_has ls 3 [(2, .int (nI i)), (0, .ref q), (1, .ref bq)] := hl
        refine lv_iload_n hx hb d_Machine_init_76 rfl (lv_at hl 0 rfl) ?_
        refine lv_bipush (v := 26) hx hb d_Machine_init_77 (by decide) ?_
        refine lv_icmp_ge (tgt := 119) hx hb d_Machine_init_79 (by decide) (fun c_9 => absurd c_9 (nI_ge (a := i) (b := 26) hiN (by decide))) (fun c_9 => ?_)
        refine lv_aload_n hx hb d_Machine_init_82 rfl (lv_at hl 1 rfl) ?_
        refine g_get hx hb hgt in_Machine hown hK hg hqh rfl 0 (by decide) (hgt _ k_Machine_f11) (fun _ h9 => h9) (v := .ref gl) rfl d_Machine_init_83 ?_
        refine lv_iload_n hx hb d_Machine_init_86 rfl (lv_at hl 0 rfl) ?_
        refine g_new hx hb hgt in_Binding ty_Binding ty_Binding_ok hown (hgt _ k_Machine_c9) (hgt _ k_Binding_inst) (hgt _ k_Binding_ini) hK hg hS hA (ci := 5) rfl (fs := [.null, .int 0, .null]) (by decide +kernel) (by show 8 + 2 * i + 1 ≤ 484; omega) (by show 240 + 8 * i + 3 ≤ 2148; omega) d_Machine_init_87 (fun x H hn_x hg hS => ?_)
        refine lv_dup hx hb d_Machine_init_90 rfl ?_
        refine va_callv (IN_run (As := []) (rest := [.ref x, .int (nI i), .ref gl]) (n := 0) hx hb hml hgt hown G hxB hA0 hA hK hg hS (k_Binding_init_new l a0 s0 G D T A hA0 _ x (va_up_self _ _ _)) kc_Binding_init k_Machine_mn49 ki_Binding_init rfl k_Binding_ini rfl rfl (by decide +kernel) ⟨Nat.le_of_ble_eq_true rfl, Nat.le_of_ble_eq_true rfl⟩ rfl hl.1 rfl (lv_room (Nat.le_of_ble_eq_true rfl)) d_Machine_init_91 ⟨by show 8 + 2 * i + 1 + 1 ≤ 484; omega, by show 240 + 8 * i + 3 + 5 ≤ 2148; omega⟩) hS (fun q _ h => h) (fun q h => h) (fun h5 t H1 locs1 ht hvm hw hB hz hk9 hS => ?_)
        replace hg : gw D classes A h5 H1 := by rw [← ht]; exact hB
        obtain ⟨hk5, x6, hn6, e5, e6⟩ := hw
        have hxe : x ≠ gl := fun w => by rw [w, har] at hn_x; cases hn_x
        have har5 : h5 gl = some (.inl (T 6, 26, vQ f)) := hk5 _ _ (g_upn _ hn_x har) hxe.symm
        refine g_astq hx hb hK hg hS 6 5 (r := (R_Binding, T_Binding, 3)) har5 rfl e5 rfl (vp_in_nI hiN (by decide)) d_Machine_init_94 (fun H locs hg hS => ?_)
        rw [nI_clamp (by omega)] at hg
        obtain ⟨h6, hg, hk6, har6, e5, e6⟩ : ∃ h6, gw D classes A h6 H ∧ (∀ (a : Nat) (cl : va_E), h a = some cl → a ≠ gl → h6 a = some cl) ∧ h6 gl = some (.inl (T 6, 26, vQ (va_up f i (some x)))) ∧ h6 x = some (.inr (5, [.ref x6, .int 0, .null])) ∧ h6 x6 = some (.inr (6, pl0)) := ⟨_, hg, fun a cl ha hne => by rw [va_up_ne _ _ hne]; exact hk5 a cl (g_upn _ hn_x ha) (fun w => by rw [w, hn_x] at ha; cases ha), va_up_self _ _ _, g_up _ har5 e5 (by simp), g_up _ har5 e6 (by simp)⟩
        have hq6 := hk6 q _ hqh (g_ne hqh har (by simp))
        refine lv_aload_n hx hb d_Machine_init_95 rfl (lv_at hl 1 rfl) ?_
        refine g_get hx hb hgt in_Machine hown hK hg hq6 rfl 0 (by decide) (hgt _ k_Machine_f11) (fun _ h9 => h9) (v := .ref gl) rfl d_Machine_init_96 ?_
        refine lv_iload_n hx hb d_Machine_init_99 rfl (lv_at hl 0 rfl) ?_
        refine g_aldq hx hb hK hg 6 (C := R_Binding) har6 rfl (vp_in_nI hiN (by decide)) d_Machine_init_100 ?_
        rw [nI_clamp (by omega), va_up_self]
        show W p l e _ s m _ below meth c _ _ _ _ _ (F0 m 101 ls [.ref x])
        refine lv_iload_n hx hb d_Machine_init_101 rfl (lv_at hl 0 rfl) ?_
        refine lv_aload_n hx hb d_Machine_init_102 rfl (lv_at hl 2 rfl) ?_
        refine va_callv (va_runV (Ts := .code y_Binding_become b_Binding_become 3 none :: lw_g) (own := R_Machine) (C := R_Binding) (nL := 3) (bytes := b_Binding_become) (maxL := 3) (ret := none) (n := 2) (As := [.int (nI i), .ref bq]) (rest := []) ⟨hx, hb, hml, hown, lw_with hgt kc_Binding_become⟩ (k_Binding_become_s_new l a0 s0 G D T A hA0 _ x (nI i) bq x6 _ _ e5) ⟨callB_of 2 (Ts := .code y_Binding_become b_Binding_become 3 none :: lw_g) (lw_with hgt kc_Binding_become) (lw_goodIn _ kc_Binding_become) rfl rfl rfl (hgt _ k_Binding_ini) (hgt _ k_Machine_m50) (by decide +kernel) ⟨Nat.le_of_ble_eq_true rfl, Nat.le_of_ble_eq_true rfl⟩, hgt _ ki_Binding_become, hgt _ ke_Binding_become⟩ ⟨wd.blind, va_recv hK (hg.one e5) (q0 := 0) (q := (R_Binding, T_Binding, 3)) rfl rfl, fun U hU hW9 => ⟨rfl, xB.later hxB hA0 (by rw [hU]; exact hS) hW9, fun x9 hx9 => hA x9 (Nat.le_trans hS.1 (by rw [hU] at hx9; exact hx9)), by rw [hU]; exact hg, va_K.moved hW9.alike hK⟩⟩ rfl rfl hl.1 rfl (lv_room (Nat.le_of_ble_eq_true rfl)) d_Machine_init_103 ⟨by show 8 + 2 * i + 1 + 1 + 0 ≤ 484; omega, by show 240 + 8 * i + 3 + 5 + 0 ≤ 2148; omega⟩) hS (fun q _ h => h) (fun q h => h) (fun h7 t H1 locs1 ht hvm hw hB hz hk9 hS => ?_)
        replace hg : gw D classes A h7 H1 := by rw [← ht]; exact hB
        obtain ⟨hk7, har7, e7, e8⟩ : (∀ (a : Nat) (cl : va_E), h a = some cl → a ≠ gl → h7 a = some cl) ∧ h7 gl = some (.inl (T 6, 26, vQ (va_up f i (some x)))) ∧ h7 x = some (.inr (5, [.ref x6, .int (nI i), .ref bq])) ∧ h7 x6 = some (.inr (6, pl0)) := by
          rw [hw]
          exact ⟨fun a cl ha hne => by rw [va_up_ne _ _ (fun w => by rw [w, hn_x] at ha; cases ha)]; exact hk6 a cl ha hne, g_up _ e5 har6 (by simp), va_up_self _ _ _, g_up _ e5 e6 (by simp)⟩
        have hq7 := hk7 q _ hqh (g_ne hqh har (by simp))
        refine lv_aload_n hx hb d_Machine_init_106 rfl (lv_at hl 1 rfl) ?_
        refine g_get hx hb hgt in_Machine hown hK hg hq7 rfl 0 (by decide) (hgt _ k_Machine_f11) (fun _ h9 => h9) (v := .ref gl) rfl d_Machine_init_107 ?_
        refine lv_iload_n hx hb d_Machine_init_110 rfl (lv_at hl 0 rfl) ?_
        refine g_aldq hx hb hK hg 6 (C := R_Binding) har7 rfl (vp_in_nI hiN (by decide)) d_Machine_init_111 ?_
        rw [nI_clamp (by omega), va_up_self]
        show W p l e _ s m _ below meth c _ _ _ _ _ (F0 m 112 ls [.ref x])
        refine lv_astore_n (lv' := [(1, .ref x), (2, .int (nI i)), (0, .ref q)]) hx hb d_Machine_init_112 rfl hl (by decide) rfl (fun ls hl => ?_)
        refine lv_iinc (v := nI (i + 1)) (lv' := [(2, .int (nI (i + 1))), (1, .ref x), (0, .ref q)]) hx hb d_Machine_init_113 hl (k := 1) rfl (nI_1 i) (by decide) rfl (fun ls hl => ?_)
        refine lv_goto (tgt := 76) hx hb d_Machine_init_116 (by decide) ?_
        refine W.cs (cells' := 8 + 2 * (i + 1)) (slots' := 240 + 8 * (i + 1)) (by omega) (by omega) ?_
        refine ih (i + 1) (some x) h7 _ H1 locs1 ls (by omega) hg (fun a e9 h1 h2 => hk7 a e9 (hkp a e9 h1 h2) h2) har7 (fun j hj => ?_) hS (lv_sub hl [0, 2, 1] rfl)
        by_cases e9 : j = i
        · rw [e9, va_up_self]; exact ⟨x, x6, _, _, rfl, e7, e8⟩
        · rw [va_up_ne _ _ e9]
          obtain ⟨b9, x9, y8, y9, b1, b2, b3⟩ := hpr j (by omega)
          exact ⟨b9, x9, y8, y9, b1, hk7 _ _ b2 (g_ne b2 har (by simp)), hk7 _ _ b3 (g_ne b3 har (by simp))⟩
  refine W.cs (cells' := 8 + 2 * 0) (slots' := 240 + 8 * 0) rfl rfl ?_
  refine lp1 ?_ 26 0 none w7 _ _ _ ls (by omega) hg (kp.rf _ _) f_gl (fun j hj => absurd hj (Nat.not_lt_zero j)) hS (lv_sub hl [0, 2, 1] rfl)
  clear hg hS hl ls lp1
  intro g1 lf H locs ls hg kB hgl1 hlf hS hl
  have hkk : kp h0 q g1 := fun a e9 h1 h2 => kB a e9 (hk a e9 h1 h2) (fun w => by rw [w, z_gl] at h1; cases h1)
  replace f_br : g1 br = some (.inl (T 6, 120, vQ (fun _ => none))) := kB _ _ f_br (g_ne f_br f_gl (by simp))
  replace f_pr : g1 pr = some (.inl (T 8, 60, vQ (fun _ => none))) := kB _ _ f_pr (g_ne f_pr f_gl (by simp))
  replace f_vr : g1 vr = some (.inl (T 7, 4, vQ (fun _ => none))) := kB _ _ f_vr (g_ne f_vr f_gl (by simp))
  have hq_g1 := kB q _ hq7 (g_ne hq7 f_gl (by simp))
  refine lv_iconst (v := 0) hx hb d_Machine_init_119 (by decide) ?_
  refine lv_as (v := nI 0) rfl ?_
  refine lv_istore_n (lv' := [(2, .int (nI 0)), (0, .ref q)]) hx hb d_Machine_init_120 rfl hl (by decide) rfl (fun ls hl => ?_)
  have lp2 : (∀ (h : Nat → Option va_E) (f : Nat → Option Nat) (H : Heap) (locs : List Loc) (ls : Array Slot), gw D classes A h H → kp g1 br h → h br = some (.inl (T 6, 120, vQ f)) → va_S A s.heap H locs → lv_has ls 3 [(2, .int (nI 120)), (0, .ref q)] → W p l e (headSpec (.code y_Machine_init b_Machine_init 3 none :: lw_g) ({ frames := 4, cells := 484, slots := 2148, locals := 120 })).room s m #[Value.ref q] below meth c H locs (60 + 2 * 120) (448 + 8 * 120) (MQ below (va_Qv (fun h => kp h0 q h ∧ ∃ (mf : List Value) (gl : Nat) (lf : Nat → Option Nat), h q = some (.inr (4, mf)) ∧ (mf[0]? = some (.ref gl) ∧ mf[7]? = some (.int 0) ∧ mf[8]? = some (.int 0) ∧ mf[9]? = some (.int 0) ∧ mf[10]? = some (.int 0) ∧ mf[11]? = some (.int 0)) ∧ h gl = some (.inl (T 6, 26, vQ lf)) ∧ ∀ i, i < 26 → ∃ b x y1 y2, lf i = some b ∧ h b = some (.inr (5, [.ref x, y1, y2])) ∧ h x = some (.inr (6, pl0))) (fun h t => gw D classes A h t.heap) A) #[Value.ref q] s 484 2148 A) (F0 m 146 ls [])) → ∀ (z i : Nat) (h : Nat → Option va_E) (f : Nat → Option Nat) (H : Heap) (locs : List Loc) (ls : Array Slot), i + z = 120 → gw D classes A h H → kp g1 br h → h br = some (.inl (T 6, 120, vQ f)) → va_S A s.heap H locs → lv_has ls 3 [(2, .int (nI i)), (0, .ref q)] → W p l e (headSpec (.code y_Machine_init b_Machine_init 3 none :: lw_g) ({ frames := 4, cells := 484, slots := 2148, locals := 120 })).room s m #[Value.ref q] below meth c H locs (60 + 2 * i) (448 + 8 * i) (MQ below (va_Qv (fun h => kp h0 q h ∧ ∃ (mf : List Value) (gl : Nat) (lf : Nat → Option Nat), h q = some (.inr (4, mf)) ∧ (mf[0]? = some (.ref gl) ∧ mf[7]? = some (.int 0) ∧ mf[8]? = some (.int 0) ∧ mf[9]? = some (.int 0) ∧ mf[10]? = some (.int 0) ∧ mf[11]? = some (.int 0)) ∧ h gl = some (.inl (T 6, 26, vQ lf)) ∧ ∀ i, i < 26 → ∃ b x y1 y2, lf i = some b ∧ h b = some (.inr (5, [.ref x, y1, y2])) ∧ h x = some (.inr (6, pl0))) (fun h t => gw D classes A h t.heap) A) #[Value.ref q] s 484 2148 A) (F0 m 121 ls []) := by
    intro kk z
    induction z with
    | zero =>
      intro i h f H locs ls hi hg hkp har hS hl
      obtain rfl : i = 120 := by omega
      refine lv_iload_n hx hb d_Machine_init_121 rfl (lv_at hl 0 rfl) ?_
      refine lv_bipush (v := 120) hx hb d_Machine_init_122 (by decide) ?_
      exact lv_icmp_ge (tgt := 146) hx hb d_Machine_init_124 (by decide) (fun _ => kk h f H locs ls hg hkp har hS hl) (fun c_9 => absurd (by decide) c_9)
    | succ z ih =>
      intro i h f H locs ls hi hg hkp har hS hl
      have hiN : i < 120 := by omega
      refine lv_iload_n hx hb d_Machine_init_121 rfl (lv_at hl 0 rfl) ?_
      refine lv_bipush (v := 120) hx hb d_Machine_init_122 (by decide) ?_
      refine lv_icmp_ge (tgt := 146) hx hb d_Machine_init_124 (by decide) (fun c_9 => absurd c_9 (nI_ge (a := i) (b := 120) hiN (by decide))) (fun c_9 => ?_)
      refine lv_aload_n hx hb d_Machine_init_127 rfl (lv_at hl 1 rfl) ?_
      have hqh := hkp q _ hq_g1 (g_ne hq_g1 f_br (by simp))
      refine g_get hx hb hgt in_Machine hown hK hg hqh rfl 2 (by decide) (hgt _ k_Machine_f24) (fun _ h9 => h9) (v := .ref br) rfl d_Machine_init_128 ?_
      refine lv_iload_n hx hb d_Machine_init_131 rfl (lv_at hl 0 rfl) ?_
      refine g_new hx hb hgt in_Binding ty_Binding ty_Binding_ok hown (hgt _ k_Machine_c9) (hgt _ k_Binding_inst) (hgt _ k_Binding_ini) hK hg hS hA (ci := 5) rfl (fs := [.null, .int 0, .null]) (by decide +kernel) (by show 60 + 2 * i + 1 ≤ 484; omega) (by show 448 + 8 * i + 3 ≤ 2148; omega) d_Machine_init_132 (fun x H hn_x hg hS => ?_)
      refine lv_dup hx hb d_Machine_init_135 rfl ?_
      refine va_callv (IN_run (As := []) (rest := [.ref x, .int (nI i), .ref br]) (n := 0) hx hb hml hgt hown G hxB hA0 hA hK hg hS (k_Binding_init_new l a0 s0 G D T A hA0 _ x (va_up_self _ _ _)) kc_Binding_init k_Machine_mn49 ki_Binding_init rfl k_Binding_ini rfl rfl (by decide +kernel) ⟨Nat.le_of_ble_eq_true rfl, Nat.le_of_ble_eq_true rfl⟩ rfl hl.1 rfl (lv_room (Nat.le_of_ble_eq_true rfl)) d_Machine_init_136 ⟨by show 60 + 2 * i + 1 + 1 ≤ 484; omega, by show 448 + 8 * i + 3 + 5 ≤ 2148; omega⟩) hS (fun q _ h => h) (fun q h => h) (fun h5 t H1 locs1 ht hvm hw hB hz hk9 hS => ?_)
      replace hg : gw D classes A h5 H1 := by rw [← ht]; exact hB
      obtain ⟨hk5, x6, hn6, e5, e6⟩ := hw
      have hxe : x ≠ br := fun w => by rw [w, har] at hn_x; cases hn_x
      have har5 : h5 br = some (.inl (T 6, 120, vQ f)) := hk5 _ _ (g_upn _ hn_x har) hxe.symm
      refine g_astq hx hb hK hg hS 6 5 (r := (R_Binding, T_Binding, 3)) har5 rfl e5 rfl (vp_in_nI hiN (by decide)) d_Machine_init_139 (fun H locs hg hS => ?_)
      rw [nI_clamp (by omega)] at hg
      have tr : ∀ (a : Nat) (cl : va_E), h a = some cl → a ≠ br → va_up h5 br (some (.inl (T 6, 120, vQ (va_up f i (some x))))) a = some cl := fun a cl ha hne => by
        rw [va_up_ne _ _ hne]
        exact hk5 a cl (g_upn _ hn_x ha) (fun w => by rw [w, hn_x] at ha; cases ha)
      refine lv_iinc (v := nI (i + 1)) (lv' := [(2, .int (nI (i + 1))), (0, .ref q)]) hx hb d_Machine_init_140 hl (k := 0) rfl (nI_1 i) (by decide) rfl (fun ls hl => ?_)
      refine lv_goto (tgt := 121) hx hb d_Machine_init_143 (by decide) ?_
      refine W.cs (cells' := 60 + 2 * (i + 1)) (slots' := 448 + 8 * (i + 1)) (by omega) (by omega) ?_
      exact ih (i + 1) _ _ H locs ls (by omega) hg (fun a e9 h1 h2 => tr a e9 (hkp a e9 h1 h2) h2) (va_up_self _ _ _) hS hl
  refine W.cs (cells' := 60 + 2 * 0) (slots' := 448 + 8 * 0) rfl rfl ?_
  refine lp2 ?_ 120 0 g1 _ _ _ ls (by omega) hg (kp.rf _ _) f_br hS hl
  clear hg hS hl ls lp2
  intro g2 f2 H locs ls hg kB _ hS hl
  have hkk : kp h0 q g2 := fun a e9 h1 h2 => kB a e9 (hkk a e9 h1 h2) (fun w => by rw [w, z_br] at h1; cases h1)
  have hgl1 : g2 gl = some (.inl (T 6, 26, vQ lf)) := kB _ _ hgl1 (g_ne hgl1 f_br (by simp))
  have hlf : ∀ i, i < 26 → ∃ b x y1 y2, lf i = some b ∧ g2 b = some (.inr (5, [.ref x, y1, y2])) ∧ g2 x = some (.inr (6, pl0)) := fun i hi => by
    obtain ⟨b9, x9, y8, y9, b1, b2, b3⟩ := hlf i hi
    exact ⟨b9, x9, y8, y9, b1, kB _ _ b2 (g_ne b2 f_br (by simp)), kB _ _ b3 (g_ne b3 f_br (by simp))⟩
  replace f_pr : g2 pr = some (.inl (T 8, 60, vQ (fun _ => none))) := kB _ _ f_pr (g_ne f_pr f_br (by simp))
  replace f_vr : g2 vr = some (.inl (T 7, 4, vQ (fun _ => none))) := kB _ _ f_vr (g_ne f_vr f_br (by simp))
  have hq_g2 := kB q _ hq_g1 (g_ne hq_g1 f_br (by simp))
  refine lv_iconst (v := 0) hx hb d_Machine_init_146 (by decide) ?_
  refine lv_as (v := nI 0) rfl ?_
  refine lv_istore_n (lv' := [(2, .int (nI 0)), (0, .ref q)]) hx hb d_Machine_init_147 rfl hl (by decide) rfl (fun ls hl => ?_)
  have lp3 : (∀ (h : Nat → Option va_E) (f : Nat → Option Nat) (H : Heap) (locs : List Loc) (ls : Array Slot), gw D classes A h H → kp g2 pr h → h pr = some (.inl (T 8, 60, vQ f)) → va_S A s.heap H locs → lv_has ls 3 [(2, .int (nI 60)), (0, .ref q)] → W p l e (headSpec (.code y_Machine_init b_Machine_init 3 none :: lw_g) ({ frames := 4, cells := 484, slots := 2148, locals := 120 })).room s m #[Value.ref q] below meth c H locs (300 + 3 * 60) (1408 + 12 * 60) (MQ below (va_Qv (fun h => kp h0 q h ∧ ∃ (mf : List Value) (gl : Nat) (lf : Nat → Option Nat), h q = some (.inr (4, mf)) ∧ (mf[0]? = some (.ref gl) ∧ mf[7]? = some (.int 0) ∧ mf[8]? = some (.int 0) ∧ mf[9]? = some (.int 0) ∧ mf[10]? = some (.int 0) ∧ mf[11]? = some (.int 0)) ∧ h gl = some (.inl (T 6, 26, vQ lf)) ∧ ∀ i, i < 26 → ∃ b x y1 y2, lf i = some b ∧ h b = some (.inr (5, [.ref x, y1, y2])) ∧ h x = some (.inr (6, pl0))) (fun h t => gw D classes A h t.heap) A) #[Value.ref q] s 484 2148 A) (F0 m 173 ls [])) → ∀ (z i : Nat) (h : Nat → Option va_E) (f : Nat → Option Nat) (H : Heap) (locs : List Loc) (ls : Array Slot), i + z = 60 → gw D classes A h H → kp g2 pr h → h pr = some (.inl (T 8, 60, vQ f)) → va_S A s.heap H locs → lv_has ls 3 [(2, .int (nI i)), (0, .ref q)] → W p l e (headSpec (.code y_Machine_init b_Machine_init 3 none :: lw_g) ({ frames := 4, cells := 484, slots := 2148, locals := 120 })).room s m #[Value.ref q] below meth c H locs (300 + 3 * i) (1408 + 12 * i) (MQ below (va_Qv (fun h => kp h0 q h ∧ ∃ (mf : List Value) (gl : Nat) (lf : Nat → Option Nat), h q = some (.inr (4, mf)) ∧ (mf[0]? = some (.ref gl) ∧ mf[7]? = some (.int 0) ∧ mf[8]? = some (.int 0) ∧ mf[9]? = some (.int 0) ∧ mf[10]? = some (.int 0) ∧ mf[11]? = some (.int 0)) ∧ h gl = some (.inl (T 6, 26, vQ lf)) ∧ ∀ i, i < 26 → ∃ b x y1 y2, lf i = some b ∧ h b = some (.inr (5, [.ref x, y1, y2])) ∧ h x = some (.inr (6, pl0))) (fun h t => gw D classes A h t.heap) A) #[Value.ref q] s 484 2148 A) (F0 m 148 ls []) := by
    intro kk z
    induction z with
    | zero =>
      intro i h f H locs ls hi hg hkp har hS hl
      obtain rfl : i = 60 := by omega
      refine lv_iload_n hx hb d_Machine_init_148 rfl (lv_at hl 0 rfl) ?_
      refine lv_bipush (v := 60) hx hb d_Machine_init_149 (by decide) ?_
      exact lv_icmp_ge (tgt := 173) hx hb d_Machine_init_151 (by decide) (fun _ => kk h f H locs ls hg hkp har hS hl) (fun c_9 => absurd (by decide) c_9)
    | succ z ih =>
      intro i h f H locs ls hi hg hkp har hS hl
      have hiN : i < 60 := by omega
      refine lv_iload_n hx hb d_Machine_init_148 rfl (lv_at hl 0 rfl) ?_
      refine lv_bipush (v := 60) hx hb d_Machine_init_149 (by decide) ?_
      refine lv_icmp_ge (tgt := 173) hx hb d_Machine_init_151 (by decide) (fun c_9 => absurd c_9 (nI_ge (a := i) (b := 60) hiN (by decide))) (fun c_9 => ?_)
      refine lv_aload_n hx hb d_Machine_init_154 rfl (lv_at hl 1 rfl) ?_
      have hqh := hkp q _ hq_g2 (g_ne hq_g2 f_pr (by simp))
      refine g_get hx hb hgt in_Machine hown hK hg hqh rfl 3 (by decide) (hgt _ k_Machine_f29) (fun _ h9 => h9) (v := .ref pr) rfl d_Machine_init_155 ?_
      refine lv_iload_n hx hb d_Machine_init_158 rfl (lv_at hl 0 rfl) ?_
      refine g_new hx hb hgt in_Pair ty_Pair ty_Pair_ok hown (hgt _ k_Machine_c27) (hgt _ k_Pair_inst) (hgt _ k_Pair_ini) hK hg hS hA (ci := 7) rfl (fs := [.null, .null]) (by decide +kernel) (by show 300 + 3 * i + 1 ≤ 484; omega) (by show 1408 + 12 * i + 2 ≤ 2148; omega) d_Machine_init_159 (fun x H hn_x hg hS => ?_)
      refine lv_dup hx hb d_Machine_init_162 rfl ?_
      refine va_callv (IN_run (As := []) (rest := [.ref x, .int (nI i), .ref pr]) (n := 0) hx hb hml hgt hown G hxB hA0 hA hK hg hS (k_Pair_init_new l a0 s0 G D T A hA0 _ x (va_up_self _ _ _)) kc_Pair_init k_Machine_mn54 ki_Pair_init rfl k_Pair_ini rfl rfl (by decide +kernel) ⟨Nat.le_of_ble_eq_true rfl, Nat.le_of_ble_eq_true rfl⟩ rfl hl.1 rfl (lv_room (Nat.le_of_ble_eq_true rfl)) d_Machine_init_163 ⟨by show 300 + 3 * i + 1 + 2 ≤ 484; omega, by show 1408 + 12 * i + 2 + 10 ≤ 2148; omega⟩) hS (fun q _ h => h) (fun q h => h) (fun h5 t H1 locs1 ht hvm hw hB hz hk9 hS => ?_)
      replace hg : gw D classes A h5 H1 := by rw [← ht]; exact hB
      obtain ⟨hk5, fs5, e5⟩ := hw
      have hxe : x ≠ pr := fun w => by rw [w, har] at hn_x; cases hn_x
      have har5 : h5 pr = some (.inl (T 8, 60, vQ f)) := hk5 _ _ (g_upn _ hn_x har) hxe.symm
      refine g_astq hx hb hK hg hS 8 7 (r := (R_Pair, T_Pair, 2)) har5 rfl e5 rfl (vp_in_nI hiN (by decide)) d_Machine_init_166 (fun H locs hg hS => ?_)
      rw [nI_clamp (by omega)] at hg
      have tr : ∀ (a : Nat) (cl : va_E), h a = some cl → a ≠ pr → va_up h5 pr (some (.inl (T 8, 60, vQ (va_up f i (some x))))) a = some cl := fun a cl ha hne => by
        rw [va_up_ne _ _ hne]
        exact hk5 a cl (g_upn _ hn_x ha) (fun w => by rw [w, hn_x] at ha; cases ha)
      refine lv_iinc (v := nI (i + 1)) (lv' := [(2, .int (nI (i + 1))), (0, .ref q)]) hx hb d_Machine_init_167 hl (k := 0) rfl (nI_1 i) (by decide) rfl (fun ls hl => ?_)
      refine lv_goto (tgt := 148) hx hb d_Machine_init_170 (by decide) ?_
      refine W.cs (cells' := 300 + 3 * (i + 1)) (slots' := 1408 + 12 * (i + 1)) (by omega) (by omega) ?_
      exact ih (i + 1) _ _ H locs ls (by omega) hg (fun a e9 h1 h2 => tr a e9 (hkp a e9 h1 h2) h2) (va_up_self _ _ _) hS hl
  refine W.cs (cells' := 300 + 3 * 0) (slots' := 1408 + 12 * 0) rfl rfl ?_
  refine lp3 ?_ 60 0 g2 _ _ _ ls (by omega) hg (kp.rf _ _) f_pr hS hl
  clear hg hS hl ls lp3
  intro g3 f3 H locs ls hg kB _ hS hl
  have hkk : kp h0 q g3 := fun a e9 h1 h2 => kB a e9 (hkk a e9 h1 h2) (fun w => by rw [w, z_pr] at h1; cases h1)
  have hgl1 : g3 gl = some (.inl (T 6, 26, vQ lf)) := kB _ _ hgl1 (g_ne hgl1 f_pr (by simp))
  have hlf : ∀ i, i < 26 → ∃ b x y1 y2, lf i = some b ∧ g3 b = some (.inr (5, [.ref x, y1, y2])) ∧ g3 x = some (.inr (6, pl0)) := fun i hi => by
    obtain ⟨b9, x9, y8, y9, b1, b2, b3⟩ := hlf i hi
    exact ⟨b9, x9, y8, y9, b1, kB _ _ b2 (g_ne b2 f_pr (by simp)), kB _ _ b3 (g_ne b3 f_pr (by simp))⟩
  replace f_vr : g3 vr = some (.inl (T 7, 4, vQ (fun _ => none))) := kB _ _ f_vr (g_ne f_vr f_pr (by simp))
  have hq_g3 := kB q _ hq_g2 (g_ne hq_g2 f_pr (by simp))
  refine lv_iconst (v := 0) hx hb d_Machine_init_173 (by decide) ?_
  refine lv_as (v := nI 0) rfl ?_
  refine lv_istore_n (lv' := [(2, .int (nI 0)), (0, .ref q)]) hx hb d_Machine_init_174 rfl hl (by decide) rfl (fun ls hl => ?_)
  have lp4 : (∀ (h : Nat → Option va_E) (f : Nat → Option Nat) (H : Heap) (locs : List Loc) (ls : Array Slot), gw D classes A h H → kp g3 vr h → h vr = some (.inl (T 7, 4, vQ f)) → va_S A s.heap H locs → lv_has ls 3 [(2, .int (nI 4)), (0, .ref q)] → W p l e (headSpec (.code y_Machine_init b_Machine_init 3 none :: lw_g) ({ frames := 4, cells := 484, slots := 2148, locals := 120 })).room s m #[Value.ref q] below meth c H locs (480 + 1 * 4) (2128 + 5 * 4) (MQ below (va_Qv (fun h => kp h0 q h ∧ ∃ (mf : List Value) (gl : Nat) (lf : Nat → Option Nat), h q = some (.inr (4, mf)) ∧ (mf[0]? = some (.ref gl) ∧ mf[7]? = some (.int 0) ∧ mf[8]? = some (.int 0) ∧ mf[9]? = some (.int 0) ∧ mf[10]? = some (.int 0) ∧ mf[11]? = some (.int 0)) ∧ h gl = some (.inl (T 6, 26, vQ lf)) ∧ ∀ i, i < 26 → ∃ b x y1 y2, lf i = some b ∧ h b = some (.inr (5, [.ref x, y1, y2])) ∧ h x = some (.inr (6, pl0))) (fun h t => gw D classes A h t.heap) A) #[Value.ref q] s 484 2148 A) (F0 m 199 ls [])) → ∀ (z i : Nat) (h : Nat → Option va_E) (f : Nat → Option Nat) (H : Heap) (locs : List Loc) (ls : Array Slot), i + z = 4 → gw D classes A h H → kp g3 vr h → h vr = some (.inl (T 7, 4, vQ f)) → va_S A s.heap H locs → lv_has ls 3 [(2, .int (nI i)), (0, .ref q)] → W p l e (headSpec (.code y_Machine_init b_Machine_init 3 none :: lw_g) ({ frames := 4, cells := 484, slots := 2148, locals := 120 })).room s m #[Value.ref q] below meth c H locs (480 + 1 * i) (2128 + 5 * i) (MQ below (va_Qv (fun h => kp h0 q h ∧ ∃ (mf : List Value) (gl : Nat) (lf : Nat → Option Nat), h q = some (.inr (4, mf)) ∧ (mf[0]? = some (.ref gl) ∧ mf[7]? = some (.int 0) ∧ mf[8]? = some (.int 0) ∧ mf[9]? = some (.int 0) ∧ mf[10]? = some (.int 0) ∧ mf[11]? = some (.int 0)) ∧ h gl = some (.inl (T 6, 26, vQ lf)) ∧ ∀ i, i < 26 → ∃ b x y1 y2, lf i = some b ∧ h b = some (.inr (5, [.ref x, y1, y2])) ∧ h x = some (.inr (6, pl0))) (fun h t => gw D classes A h t.heap) A) #[Value.ref q] s 484 2148 A) (F0 m 175 ls []) := by
    intro kk z
    induction z with
    | zero =>
      intro i h f H locs ls hi hg hkp har hS hl
      obtain rfl : i = 4 := by omega
      refine lv_iload_n hx hb d_Machine_init_175 rfl (lv_at hl 0 rfl) ?_
      refine lv_iconst (v := 4) hx hb d_Machine_init_176 (by decide) ?_
      exact lv_icmp_ge (tgt := 199) hx hb d_Machine_init_177 (by decide) (fun _ => kk h f H locs ls hg hkp har hS hl) (fun c_9 => absurd (by decide) c_9)
    | succ z ih =>
      intro i h f H locs ls hi hg hkp har hS hl
      have hiN : i < 4 := by omega
      refine lv_iload_n hx hb d_Machine_init_175 rfl (lv_at hl 0 rfl) ?_
      refine lv_iconst (v := 4) hx hb d_Machine_init_176 (by decide) ?_
      refine lv_icmp_ge (tgt := 199) hx hb d_Machine_init_177 (by decide) (fun c_9 => absurd c_9 (nI_ge (a := i) (b := 4) hiN (by decide))) (fun c_9 => ?_)
      refine lv_aload_n hx hb d_Machine_init_180 rfl (lv_at hl 1 rfl) ?_
      have hqh := hkp q _ hq_g3 (g_ne hq_g3 f_vr (by simp))
      refine g_get hx hb hgt in_Machine hown hK hg hqh rfl 6 (by decide) (hgt _ k_Machine_f45) (fun _ h9 => h9) (v := .ref vr) rfl d_Machine_init_181 ?_
      refine lv_iload_n hx hb d_Machine_init_184 rfl (lv_at hl 0 rfl) ?_
      refine g_new hx hb hgt in_Place ty_Place ty_Place_ok hown (hgt _ k_Machine_c33) (hgt _ k_Place_inst) (hgt _ k_Place_ini) hK hg hS hA (ci := 6) rfl (fs := [.int 0, .int 0, .null, .null, .null]) (by decide +kernel) (by show 480 + 1 * i + 1 ≤ 484; omega) (by show 2128 + 5 * i + 5 ≤ 2148; omega) d_Machine_init_185 (fun x H hn_x hg hS => ?_)
      refine lv_dup hx hb d_Machine_init_188 rfl ?_
      refine va_callv (IN_run (As := []) (rest := [.ref x, .int (nI i), .ref vr]) (n := 0) hx hb hml hgt hown G hxB hA0 hA hK hg hS (k_Place_init_new l a0 s0 G D T A hA0 _ x (va_up_self _ _ _)) kc_Place_init k_Machine_mn35 ki_Place_init rfl k_Place_ini rfl rfl (by decide +kernel) ⟨Nat.le_of_ble_eq_true rfl, Nat.le_of_ble_eq_true rfl⟩ rfl hl.1 rfl (lv_room (Nat.le_of_ble_eq_true rfl)) d_Machine_init_189 ⟨by show 480 + 1 * i + 1 + 0 ≤ 484; omega, by show 2128 + 5 * i + 5 + 0 ≤ 2148; omega⟩) hS (fun q _ h => h) (fun q h => h) (fun h5 t H1 locs1 ht hvm hw hB hz hk9 hS => ?_)
      replace hg : gw D classes A h5 H1 := by rw [← ht]; exact hB
      have hk5 : kp (va_up h x (some (.inr (6, [.int 0, .int 0, .null, .null, .null])))) x h5 := by rw [hw]; exact (kp.rf _ _).self _
      have e5 : h5 x = some (.inr (6, pl0)) := by rw [hw]; exact va_up_self _ _ _
      have hxe : x ≠ vr := fun w => by rw [w, har] at hn_x; cases hn_x
      have har5 : h5 vr = some (.inl (T 7, 4, vQ f)) := hk5 _ _ (g_upn _ hn_x har) hxe.symm
      refine g_astq hx hb hK hg hS 7 6 (r := (R_Place, T_Place, 5)) har5 rfl e5 rfl (vp_in_nI hiN (by decide)) d_Machine_init_192 (fun H locs hg hS => ?_)
      rw [nI_clamp (by omega)] at hg
      have tr : ∀ (a : Nat) (cl : va_E), h a = some cl → a ≠ vr → va_up h5 vr (some (.inl (T 7, 4, vQ (va_up f i (some x))))) a = some cl := fun a cl ha hne => by
        rw [va_up_ne _ _ hne]
        exact hk5 a cl (g_upn _ hn_x ha) (fun w => by rw [w, hn_x] at ha; cases ha)
      refine lv_iinc (v := nI (i + 1)) (lv' := [(2, .int (nI (i + 1))), (0, .ref q)]) hx hb d_Machine_init_193 hl (k := 0) rfl (nI_1 i) (by decide) rfl (fun ls hl => ?_)
      refine lv_goto (tgt := 175) hx hb d_Machine_init_196 (by decide) ?_
      refine W.cs (cells' := 480 + 1 * (i + 1)) (slots' := 2128 + 5 * (i + 1)) (by omega) (by omega) ?_
      exact ih (i + 1) _ _ H locs ls (by omega) hg (fun a e9 h1 h2 => tr a e9 (hkp a e9 h1 h2) h2) (va_up_self _ _ _) hS hl
  refine W.cs (cells' := 480 + 1 * 0) (slots' := 2128 + 5 * 0) rfl rfl ?_
  refine lp4 ?_ 4 0 g3 _ _ _ ls (by omega) hg (kp.rf _ _) f_vr hS hl
  clear hg hS hl ls lp4
  intro g4 f4 H locs ls hg kB _ hS hl
  have hkk : kp h0 q g4 := fun a e9 h1 h2 => kB a e9 (hkk a e9 h1 h2) (fun w => by rw [w, z_vr] at h1; cases h1)
  have hgl1 : g4 gl = some (.inl (T 6, 26, vQ lf)) := kB _ _ hgl1 (g_ne hgl1 f_vr (by simp))
  have hlf : ∀ i, i < 26 → ∃ b x y1 y2, lf i = some b ∧ g4 b = some (.inr (5, [.ref x, y1, y2])) ∧ g4 x = some (.inr (6, pl0)) := fun i hi => by
    obtain ⟨b9, x9, y8, y9, b1, b2, b3⟩ := hlf i hi
    exact ⟨b9, x9, y8, y9, b1, kB _ _ b2 (g_ne b2 f_vr (by simp)), kB _ _ b3 (g_ne b3 f_vr (by simp))⟩
  have hq_g4 := kB q _ hq_g3 (g_ne hq_g3 f_vr (by simp))
  refine W.cs (cells' := 484) (slots' := 2148) rfl rfl ?_
  refine W.vret hx hb hr (v_end hg hS ?_) hS.2.2 d_Machine_init_199
  exact ⟨hkk, _, gl, lf, hq_g4, ⟨rfl, rfl, rfl, rfl, rfl, rfl⟩, hgl1, hlf⟩
