theorem RdW.trX {T : Nat → ClassId} {h h' : Nat → Option va_E} {ad : Nat → Nat → Nat} {rf : Nat → Int32} {xf nf : Nat → Nat → Int32} {fo : Nat → Option Nat} {b : Nat} {fs : List Value} (q : RdW T h ad rf xf nf fo) (hb : h b = some (.inr (1, fs))) (tr : kp h b h') : RdW T h' ad rf xf nf fo := by
  obtain ⟨q1, ⟨f, q2, q3⟩, q4, q5, q6⟩ := q
  refine ⟨tr _ _ q1 (g_ne q1 hb (by simp)), ⟨f, tr _ _ q2 (g_ne q2 hb (by simp)), q3⟩, tr _ _ q4 (g_ne q4 hb (by simp)), fun i hi => ?_, q6⟩
  obtain ⟨a1, a2, pf, a3⟩ := q5 i hi
  exact ⟨tr _ _ a1 (g_ne a1 hb (by simp)), tr _ _ a2 (g_ne a2 hb (by simp)), pf, tr _ _ a3 (g_ne a3 hb (by simp))⟩
theorem RdW.trG {T : Nat → ClassId} {h h' : Nat → Option va_E} {ad : Nat → Nat → Nat} {rf : Nat → Int32} {xf nf : Nat → Nat → Int32} {fo : Nat → Option Nat} {b : Nat} {f9 : Nat → Option Nat} (q : RdW T h ad rf xf nf fo) (hb : h b = some (.inl (T 7, 26, vQ f9))) (tr : kp h b h') : RdW T h' ad rf xf nf fo := by
  obtain ⟨q1, ⟨f, q2, q3⟩, q4, q5, q6⟩ := q
  refine ⟨tr _ _ q1 (g_ne q1 hb (by simp)), ⟨f, tr _ _ q2 (g_ne q2 hb (by simp)), q3⟩, tr _ _ q4 (g_ne q4 hb (by simp)), fun i hi => ?_, q6⟩
  obtain ⟨a1, a2, pf, a3⟩ := q5 i hi
  exact ⟨tr _ _ a1 (g_ne a1 hb (by simp)), tr _ _ a2 (g_ne a2 hb (by simp)), pf, tr _ _ a3 (g_ne a3 hb (by simp))⟩
abbrev glW (h : Nat → Option va_E) (lf : Nat → Option Nat) : Prop := ∀ i, i < 26 → ∃ b q x y, lf i = some b ∧ h b = some (.inr (5, [.ref q, x, y])) ∧ h q = some (.inr (6, pl0))
theorem glW.trX {h h' : Nat → Option va_E} {lf : Nat → Option Nat} {b : Nat} {fs : List Value} (q : glW h lf) (hb : h b = some (.inr (1, fs))) (tr : kp h b h') : glW h' lf := fun i hi => by
  obtain ⟨b9, x9, y8, y9, b1, b2, b3⟩ := q i hi
  exact ⟨b9, x9, y8, y9, b1, tr _ _ b2 (g_ne b2 hb (by simp)), tr _ _ b3 (g_ne b3 hb (by simp))⟩
theorem glW.trG {T : Nat → ClassId} {h h' : Nat → Option va_E} {lf : Nat → Option Nat} {b : Nat} {f9 : Nat → Option Nat} (q : glW h lf) (hb : h b = some (.inl (T 7, 26, vQ f9))) (tr : kp h b h') : glW h' lf := fun i hi => by
  obtain ⟨b9, x9, y8, y9, b1, b2, b3⟩ := q i hi
  exact ⟨b9, x9, y8, y9, b1, tr _ _ b2 (g_ne b2 hb (by simp)), tr _ _ b3 (g_ne b3 hb (by simp))⟩
set_option maxHeartbeats 4000000 in
set_option maxRecDepth 100000 in
theorem k_C_init_new (l : Launch) (a0 : Array Value) (s0 : State) (G : G0 l a0 s0) (D : va_G) (T : Nat → ClassId) (A : Nat → Prop) (hA0 : ∀ q, A q → s0.heap.size ≤ q) (hA1 : ∀ q, s0.heap.size ≤ q → A q) (q : Nat) : Met l y_C_init (.code y_C_init b_C_init 2 none :: lw_g) ({ frames := 60, cells := 876, slots := 4146, locals := 3000 }) (va_Pc [.ref q] (fun U => xB s0 U ∧ va_P D classes [(q, .inr (1, [.null, .null, .null, .null, .int 0, .int 0]))] U.heap ∧ va_D A [(q, .inr (1, [.null, .null, .null, .null, .int 0, .int 0]))] ∧ va_K D classes (tyl T) U)) (va_Qv (fun _ : Unit => True) (fun _ t => CFrD s0 D T q A t) A) 876 4146 A := by
  refine Met.ofW (cc := b_C_init) (maxL := 2) (ret := none) (by decide) rfl ?_
  intro p e s m args below meth c s₁ B9 hml hv
  obtain ⟨rfl, hxB, hP9, hD9, hK⟩ := hv
  have hx := B9.exec
  have hb := B9.bytes
  have hr := B9.returns
  have hts := atoms_spec (ws := (.code y_C_init b_C_init 2 none :: lw_g)) B9.pre
  have hgt : ∀ w ∈ lw_g, w.before _ s = true := fun w h => hts w (List.mem_cons_of_mem _ h)
  have hown : s.vm.findClass R_C = some m.cls := findClass_of_methodNamed B9.named
  have hin : meth.name = "<init>" := (name_of_methodNamed B9.named B9.method).1
  have hS : va_S A s.heap s.heap [] := va_S.rf
  have hA : ∀ x, s.heap.size ≤ x → A x := fun x h => hA1 x (Nat.le_trans hxB.2.1 h)
  have hl := lv_entry ([.ref q]) (n := 2) (Nat.le_of_ble_eq_true rfl)
  rw [lg_entry_eq]
  generalize (lg_sl ([.ref q]) ++ List.replicate (2 - (lg_sl ([.ref q])).length) Slot.unset).toArray = ls at hl ⊢
  have hl : lv_has ls 2 [(0, .ref q)] := hl
  obtain ⟨h0, hq, hg⟩ : ∃ h0 : Nat → Option va_E, h0 q = some (.inr (1, [.null, .null, .null, .null, .int 0, .int 0])) ∧ gw D classes A h0 s.heap := by
    refine ⟨va_up (fun _ => none) q (some (.inr (1, [.null, .null, .null, .null, .int 0, .int 0]))), va_up_self _ _ _, fun a e he => ?_⟩
    by_cases z : a = q
    · subst z
      rw [va_up_self] at he
      cases he
      exact ⟨hD9.2 0 _ rfl, hP9 0 _ rfl⟩
    · rw [va_up_ne _ _ z] at he; cases he
  have hk : kp h0 q h0 := kp.rf h0 q
  refine lv_aload_n hx hb d_C_init_0 rfl (lv_at hl 0 rfl) ?_
  refine W.objInit hx hb hown (hgt _ k_C_m1) (hgt _ kO_i) (hgt _ kO_c) rfl (by rw [hml]; exact hl.1) rfl d_C_init_1 (Nat.le_of_ble_eq_true rfl) (Nat.le_of_ble_eq_true rfl) ?_
  refine W.eq (g2 := F0 m 4 ls []) rfl ?_
  refine lv_aload_n hx hb d_C_init_4 rfl (lv_at hl 0 rfl) ?_
  refine lv_sipush (v := 128) hx hb d_C_init_5 (by decide) ?_
  refine g_newp (atype := .char) (ty := .char) hx hb (hgt _ kA_char) rfl hK hg hS hA 128 (by decide) (by decide) 3 rfl (fun _ => rfl) (by decide) (Nat.le_of_ble_eq_true rfl) (Nat.le_of_ble_eq_true rfl) d_C_init_8 (fun sr H hn_sr hg hS => ?_)
  refine g_putF hx hb hgt in_C ty_C ty_C_ok nm_C hown hK hg hS (g_upn _ hn_sr hq) rfl 0 (by decide) (hgt _ k_C_f9) (fun _ h9 => h9) rfl hin rfl (ty := .array .char) (by decide +kernel) rfl rfl (by show 0 < 6; decide) d_C_init_10 (fun H locs hg hS => ?_)
  have q_sr : sr ≠ q := fun w => by rw [w, hq] at hn_sr; cases hn_sr
  obtain ⟨w1, hg, kA1, hq1, f_sr⟩ : ∃ w1, gw D classes A w1 H ∧ kp h0 q w1 ∧ w1 q = some (.inr (1, [.ref sr, .null, .null, .null, .int 0, .int 0])) ∧ w1 sr = some (.inl (T 3, 128, .inl (fun _ => 0))) := ⟨_, hg, (kp.new (kp.rf _ _) hn_sr _).self _, va_up_self _ _ _, by rw [va_up_ne _ _ q_sr, va_up_self]⟩
  replace hk : kp h0 q w1 := hk.tr kA1
  refine lv_aload_n hx hb d_C_init_13 rfl (lv_at hl 0 rfl) ?_
  refine g_new hx hb hgt in_Reader ty_Reader ty_Reader_ok hown (hgt _ k_C_c13) (hgt _ k_Reader_inst) (hgt _ k_Reader_ini) hK hg hS hA (ci := 2) rfl (fs := [.null, .null, .int 0, .int 0, .int 0, .int 0]) (by decide +kernel) (Nat.le_of_ble_eq_true rfl) (Nat.le_of_ble_eq_true rfl) d_C_init_14 (fun rd H hn_rd hg hS => ?_)
  refine lv_dup hx hb d_C_init_17 rfl ?_
  refine va_callv (I_run (As := []) (rest := [.ref rd, .ref q]) (n := 0) hx hb hml hgt hown hxB hA0 hA hK hg hS (k_Reader_init_new l a0 s0 G D T A hA0 _ rd (va_up_self _ _ _)) kc_Reader_init k_C_m15 ki_Reader_init rfl k_Reader_ini rfl rfl (by decide +kernel) ⟨Nat.le_of_ble_eq_true rfl, Nat.le_of_ble_eq_true rfl⟩ rfl hl.1 rfl (lv_room (Nat.le_of_ble_eq_true rfl)) d_C_init_18 ⟨Nat.le_of_ble_eq_true rfl, Nat.le_of_ble_eq_true rfl⟩) hS (fun q _ h => h) (fun q h => h) (fun h2 t H1 locs1 ht hvm hw hB hz hk9 hS => ?_)
  replace hg : gw D classes A h2 H1 := by rw [← ht]; exact hB
  obtain ⟨hk5, ad, xf, nf, fo, hRdq, hRd⟩ := hw
  have kq : h2 q = some (.inr (1, [.ref sr, .null, .null, .null, .int 0, .int 0])) := hk5 q _ (g_upn _ hn_rd hq1) (fun w => by rw [← w, hq1] at hn_rd; cases hn_rd)
  refine g_putF hx hb hgt in_C ty_C ty_C_ok nm_C hown hK hg hS kq rfl 1 (by decide) (hgt _ k_C_f16) (fun _ h9 => h9) rfl hin rfl (ty := .object "ContinuationCore$Reader") (by decide +kernel) rfl rfl (by show 1 < 6; decide) d_C_init_21 (fun H locs hg hS => ?_)
  have hRd9 := hRd.trX kq (kp.self (kp.rf h2 q) (some (.inr (1, [.ref sr, .ref rd, .null, .null, .int 0, .int 0]))))
  obtain ⟨w2, hg, kA2, hq2, hRd⟩ : ∃ w2, gw D classes A w2 H ∧ kp w1 q w2 ∧ w2 q = some (.inr (1, [.ref sr, .ref rd, .null, .null, .int 0, .int 0])) ∧ RdW T w2 ad (fun _ => 0) xf nf fo := ⟨_, hg, (((kp.rf _ _).new hn_rd _).call hk5 hn_rd).self _, va_up_self _ _ _, hRd9⟩
  replace f_sr : w2 sr = some (.inl (T 3, 128, .inl (fun _ => 0))) := kA2 _ _ f_sr (g_ne f_sr hq1 (by simp))
  refine lv_aload_n hx hb d_C_init_24 rfl (lv_at hl 0 rfl) ?_
  refine g_new hx hb hgt in_Machine ty_Machine ty_Machine_ok hown (hgt _ k_C_c20) (hgt _ k_Machine_inst) (hgt _ k_Machine_ini) hK hg hS hA (ci := 4) rfl (fs := [.null, .null, .null, .null, .null, .null, .null, .int 0, .int 0, .int 0, .int 0, .int 0, .int 0, .null, .null, .null]) (by decide +kernel) (Nat.le_of_ble_eq_true rfl) (Nat.le_of_ble_eq_true rfl) d_C_init_25 (fun mc H hn_mc hg hS => ?_)
  refine lv_dup hx hb d_C_init_28 rfl ?_
  refine va_callv (I_run (As := []) (rest := [.ref mc, .ref q]) (n := 0) hx hb hml hgt hown hxB hA0 hA hK hg hS (k_Machine_init_new l a0 s0 G D T A hA0 _ mc (va_up_self _ _ _)) kc_Machine_init k_C_m22 ki_Machine_init rfl k_Machine_ini rfl rfl (by decide +kernel) ⟨Nat.le_of_ble_eq_true rfl, Nat.le_of_ble_eq_true rfl⟩ rfl hl.1 rfl (lv_room (Nat.le_of_ble_eq_true rfl)) d_C_init_29 ⟨Nat.le_of_ble_eq_true rfl, Nat.le_of_ble_eq_true rfl⟩) hS (fun q _ h => h) (fun q h => h) (fun h2 t H1 locs1 ht hvm hw hB hz hk9 hS => ?_)
  replace hg : gw D classes A h2 H1 := by rw [← ht]; exact hB
  obtain ⟨hk5, mf, gl, lf, e5, hmf, e6, e7⟩ := hw
  have kq : h2 q = some (.inr (1, [.ref sr, .ref rd, .null, .null, .int 0, .int 0])) := hk5 q _ (g_upn _ hn_mc hq2) (fun w => by rw [← w, hq2] at hn_mc; cases hn_mc)
  refine g_putF hx hb hgt in_C ty_C ty_C_ok nm_C hown hK hg hS kq rfl 2 (by decide) (hgt _ k_C_f23) (fun _ h9 => h9) rfl hin rfl (ty := .object "ContinuationCore$Machine") (by decide +kernel) rfl rfl (by show 2 < 6; decide) d_C_init_32 (fun H locs hg hS => ?_)
  have kS : kp h2 q (va_up h2 q (some (.inr (1, [.ref sr, .ref rd, .ref mc, .null, .int 0, .int 0])))) := kp.self (kp.rf h2 q) _
  obtain ⟨w3, hg, kA3, hq3, f_mc, f_gl, hlf⟩ : ∃ w3, gw D classes A w3 H ∧ kp w2 q w3 ∧ w3 q = some (.inr (1, [.ref sr, .ref rd, .ref mc, .null, .int 0, .int 0])) ∧ w3 mc = some (.inr (4, mf)) ∧ w3 gl = some (.inl (T 6, 26, vQ lf)) ∧ glW w3 lf := ⟨_, hg, (((kp.rf _ _).new hn_mc _).call hk5 hn_mc).self _, va_up_self _ _ _, kS _ _ e5 (g_ne e5 kq (by simp)), kS _ _ e6 (g_ne e6 kq (by simp)), glW.trX (fun i hi => e7 i hi) kq kS⟩
  replace f_sr : w3 sr = some (.inl (T 3, 128, .inl (fun _ => 0))) := kA3 _ _ f_sr (g_ne f_sr hq2 (by simp))
  replace hRd := hRd.trX hq2 kA3
  refine lv_aload_n hx hb d_C_init_35 rfl (lv_at hl 0 rfl) ?_
  refine lv_bipush (v := 26) hx hb d_C_init_36 (by decide) ?_
  refine g_newq hx hb hown (hgt _ k_C_c27) (G.ao hxB k_ao_Place) hK hg hS hA 26 (by decide) (by decide) 7 rfl (Nat.le_of_ble_eq_true rfl) (Nat.le_of_ble_eq_true rfl) d_C_init_38 (fun gv H hn_gv hg hS => ?_)
  refine g_putF hx hb hgt in_C ty_C ty_C_ok nm_C hown hK hg hS (g_upn _ hn_gv hq3) rfl 3 (by decide) (hgt _ k_C_f29) (fun _ h9 => h9) rfl hin rfl (ty := .array (.object "ContinuationCore$Place")) (by decide +kernel) rfl rfl (by show 3 < 6; decide) d_C_init_41 (fun H locs hg hS => ?_)
  have q_gv : gv ≠ q := fun w => by rw [w, hq3] at hn_gv; cases hn_gv
  have g_gv : gl ≠ gv := fun w => by rw [← w, f_gl] at hn_gv; cases hn_gv
  obtain ⟨w4, hg, kA4, hq4, f_gv⟩ : ∃ w4, gw D classes A w4 H ∧ kp w3 q w4 ∧ w4 q = some (.inr (1, [.ref sr, .ref rd, .ref mc, .ref gv, .int 0, .int 0])) ∧ w4 gv = some (.inl (T 7, 26, vQ (fun _ => none))) := ⟨_, hg, (kp.new (kp.rf _ _) hn_gv _).self _, va_up_self _ _ _, by rw [va_up_ne _ _ q_gv, va_up_self]⟩
  replace f_sr := kA4 _ _ f_sr (g_ne f_sr hq3 (by simp))
  replace f_mc := kA4 _ _ f_mc (g_ne f_mc hq3 (by simp))
  replace f_gl := kA4 _ _ f_gl (g_ne f_gl hq3 (by simp))
  replace hlf := glW.trX hlf hq3 kA4
  replace hRd := hRd.trX hq3 kA4
  refine lv_iconst (v := 0) hx hb d_C_init_44 (by decide) ?_
  refine lv_as (v := nI 0) rfl ?_
  refine lv_istore_n (lv' := [(1, .int (nI 0)), (0, .ref q)]) hx hb d_C_init_45 rfl hl (by decide) rfl (fun ls hl => ?_)
  have lpg : (∀ (h : Nat → Option va_E) (f : Nat → Option Nat) (H : Heap) (locs : List Loc) (ls : Array Slot), gw D classes A h H → kp w4 gv h → h gv = some (.inl (T 7, 26, vQ f)) → (∀ j, j < 26 → ∃ x, f j = some x ∧ h x = some (.inr (6, pl0))) → va_S A s.heap H locs → lv_has ls 2 [(1, .int (nI 26)), (0, .ref q)] → W p l e (headSpec (.code y_C_init b_C_init 2 none :: lw_g) ({ frames := 60, cells := 876, slots := 4146, locals := 3000 })).room s m #[Value.ref q] below meth c H locs (850 + 1 * 26) (4016 + 5 * 26) (MQ below (va_Qv (fun _ : Unit => True) (fun _ t => CFrD s0 D T q A t) A) #[Value.ref q] s 876 4146 A) (F0 m 71 ls [])) → ∀ (z i : Nat) (h : Nat → Option va_E) (f : Nat → Option Nat) (H : Heap) (locs : List Loc) (ls : Array Slot), i + z = 26 → gw D classes A h H → kp w4 gv h → h gv = some (.inl (T 7, 26, vQ f)) → (∀ j, j < i → ∃ x, f j = some x ∧ h x = some (.inr (6, pl0))) → va_S A s.heap H locs → lv_has ls 2 [(1, .int (nI i)), (0, .ref q)] → W p l e (headSpec (.code y_C_init b_C_init 2 none :: lw_g) ({ frames := 60, cells := 876, slots := 4146, locals := 3000 })).room s m #[Value.ref q] below meth c H locs (850 + 1 * i) (4016 + 5 * i) (MQ below (va_Qv (fun _ : Unit => True) (fun _ t => CFrD s0 D T q A t) A) #[Value.ref q] s 876 4146 A) (F0 m 46 ls []) := by
    intro kk z
    induction z with
    | zero =>
      intro i h f H locs ls hi hg hkp har hpr hS hl
      obtain rfl : i = 26 := by omega
      refine lv_iload_n hx hb d_C_init_46 rfl (lv_at hl 0 rfl) ?_
      refine lv_bipush (v := 26) hx hb d_C_init_47 (by decide) ?_
      exact lv_icmp_ge (tgt := 71) hx hb d_C_init_49 (by decide) (fun _ => kk h f H locs ls hg hkp har hpr hS hl) (fun c_9 => absurd (by decide) c_9)
    | succ z ih =>
      intro i h f H locs ls hi hg hkp har hpr hS hl
      have hiN : i < 26 := by omega
      refine lv_iload_n hx hb d_C_init_46 rfl (lv_at hl 0 rfl) ?_
      refine lv_bipush (v := 26) hx hb d_C_init_47 (by decide) ?_
      refine lv_icmp_ge (tgt := 71) hx hb d_C_init_49 (by decide) (fun c_9 => absurd c_9 (nI_ge (a := i) (b := 26) hiN (by decide))) (fun c_9 => ?_)
      refine lv_aload_n hx hb d_C_init_52 rfl (lv_at hl 1 rfl) ?_
      have hqh := hkp q _ hq4 (g_ne hq4 f_gv (by simp))
      refine g_get hx hb hgt in_C hown hK hg hqh rfl 3 (by decide) (hgt _ k_C_f29) (fun _ h9 => h9) (v := .ref gv) rfl d_C_init_53 ?_
      refine lv_iload_n hx hb d_C_init_56 rfl (lv_at hl 0 rfl) ?_
      refine g_new hx hb hgt in_Place ty_Place ty_Place_ok hown (hgt _ k_C_c27) (hgt _ k_Place_inst) (hgt _ k_Place_ini) hK hg hS hA (ci := 6) rfl (fs := [.int 0, .int 0, .null, .null, .null]) (by decide +kernel) (by show 850 + 1 * i + 1 ≤ 876; omega) (by show 4016 + 5 * i + 5 ≤ 4146; omega) d_C_init_57 (fun x H hn_x hg hS => ?_)
      refine lv_dup hx hb d_C_init_60 rfl ?_
      refine va_callv (IN_run (As := []) (rest := [.ref x, .int (nI i), .ref gv]) (n := 0) hx hb hml hgt hown G hxB hA0 hA hK hg hS (k_Place_init_new l a0 s0 G D T A hA0 _ x (va_up_self _ _ _)) kc_Place_init k_C_mn33 ki_Place_init rfl k_Place_ini rfl rfl (by decide +kernel) ⟨Nat.le_of_ble_eq_true rfl, Nat.le_of_ble_eq_true rfl⟩ rfl hl.1 rfl (lv_room (Nat.le_of_ble_eq_true rfl)) d_C_init_61 ⟨by show 850 + 1 * i + 1 + 0 ≤ 876; omega, by show 4016 + 5 * i + 5 + 0 ≤ 4146; omega⟩) hS (fun q _ h => h) (fun q h => h) (fun h5 t H1 locs1 ht hvm hw hB hz hk9 hS => ?_)
      replace hg : gw D classes A h5 H1 := by rw [← ht]; exact hB
      have hk5 : kp (va_up h x (some (.inr (6, [.int 0, .int 0, .null, .null, .null])))) x h5 := by rw [hw]; exact (kp.rf _ _).self _
      have e5 : h5 x = some (.inr (6, pl0)) := by rw [hw]; exact va_up_self _ _ _
      have hxe : x ≠ gv := fun w => by rw [w, har] at hn_x; cases hn_x
      have har5 : h5 gv = some (.inl (T 7, 26, vQ f)) := hk5 _ _ (g_upn _ hn_x har) hxe.symm
      refine g_astq hx hb hK hg hS 7 6 (r := (R_Place, T_Place, 5)) har5 rfl e5 rfl (vp_in_nI hiN (by decide)) d_C_init_64 (fun H locs hg hS => ?_)
      rw [nI_clamp (by omega)] at hg
      have tr : ∀ (a : Nat) (cl : va_E), h a = some cl → a ≠ gv → va_up h5 gv (some (.inl (T 7, 26, vQ (va_up f i (some x))))) a = some cl := fun a cl ha hne => by
        rw [va_up_ne _ _ hne]
        exact hk5 a cl (g_upn _ hn_x ha) (fun w => by rw [w, hn_x] at ha; cases ha)
      refine lv_iinc (v := nI (i + 1)) (lv' := [(1, .int (nI (i + 1))), (0, .ref q)]) hx hb d_C_init_65 hl (k := 0) rfl (nI_1 i) (by decide) rfl (fun ls hl => ?_)
      refine lv_goto (tgt := 46) hx hb d_C_init_68 (by decide) ?_
      refine W.cs (cells' := 850 + 1 * (i + 1)) (slots' := 4016 + 5 * (i + 1)) (by omega) (by omega) ?_
      refine ih (i + 1) _ _ H locs ls (by omega) hg (fun a e9 h1 h2 => tr a e9 (hkp a e9 h1 h2) h2) (va_up_self _ _ _) (fun j hj => ?_) hS hl
      by_cases e9 : j = i
      · rw [e9, va_up_self]; exact ⟨x, rfl, by rw [va_up_ne _ _ hxe]; exact e5⟩
      · rw [va_up_ne _ _ e9]
        obtain ⟨x9, b1, b2⟩ := hpr j (by omega)
        exact ⟨x9, b1, tr _ _ b2 (g_ne b2 har (by simp))⟩
  refine W.cs (cells' := 850 + 1 * 0) (slots' := 4016 + 5 * 0) rfl rfl ?_
  refine lpg ?_ 26 0 w4 _ _ _ ls (by omega) hg (kp.rf _ _) f_gv (fun j hj => absurd hj (Nat.not_lt_zero j)) hS hl
  clear hg hS hl ls lpg
  intro g4 gf H locs ls hg kB hgv hpr hS hl
  refine W.cs (cells' := 876) (slots' := 4146) rfl rfl ?_
  have f_q := kB q _ hq4 (g_ne hq4 f_gv (by simp))
  replace f_sr := kB _ _ f_sr (g_ne f_sr f_gv (by simp))
  replace f_mc := kB _ _ f_mc (g_ne f_mc f_gv (by simp))
  replace f_gl := kB _ _ f_gl g_gv
  replace hlf := glW.trG hlf f_gv kB
  replace hRd := hRd.trG f_gv kB
  exact W.vret hx hb hr (fun t ht hW => ⟨⟨(), rfl, trivial, hA0, va_K.moved hW.alike hK, g4, by rw [ht]; exact hg, sr, mc, gv, gl, ad, xf, nf, fo, mf, gf, lf, ⟨by rw [hRdq]; exact f_q, f_sr, hRd⟩, ⟨f_mc, hmf⟩, ⟨f_gl, hlf⟩, ⟨hgv, hpr⟩⟩, hS.F ht⟩) hS.2.2 d_C_init_71
theorem cls_ok (l : Launch) (a0 : Array Value) (s : State) (G : G0 l a0 s) (D : va_G) (T : Nat → ClassId) : ClsOK l s D classes (tyl T) 1 (fun xo B U => CFrD s D T xo B U) 876 4146 :=
  ⟨fun xo B => cf1 s D T xo B, fun xo B U V h1 h2 h3 h4 => cf2 s D T xo B U V h1 h2 h3 h4, fun xo B B2 U h1 h2 h3 => cf3 s D T xo B B2 U h1 h2 h3, fun xo => k_C_init_new l a0 s G D T (fun q => s.heap.size ≤ q) (fun _ h => h) (fun _ h => h) xo,
   fun xo B v => ⟨fun nn h => f_C_text_R l a0 s G D T xo B v nn h, fun h => f_C_text_A l a0 s G D T xo B v h⟩, fun xo B => f_C_clear_R l a0 s G D T xo B, fun xo B => f_C_whole l a0 s G D T xo B,
   fun xo B k v => ⟨fun h => f_C_given_R l a0 s G D T xo B k v h, fun h => f_C_given_A l a0 s G D T xo B k v h⟩, fun xo B => f_C_start l a0 s G D T xo B, fun xo B k => ⟨fun h => f_C_run_S l a0 s G D T xo B k h, fun h => f_C_run_A l a0 s G D T xo B k h⟩, fun xo B => f_C_stop l a0 s G D T xo B,
   fun xo B k => ⟨fun h => f_C_state_R l a0 s G D T xo B k h, fun h => f_C_state_A l a0 s G D T xo B k h⟩, fun xo B k => ⟨fun h => f_C_sign_S l a0 s G D T xo B k h, fun h => f_C_sign_A l a0 s G D T xo B k h⟩, fun xo B k => ⟨fun h => f_C_global_N l a0 s G D T xo B k h, fun h => f_C_global_A l a0 s G D T xo B k h⟩⟩
