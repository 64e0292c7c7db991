def exOK (T : Nat → ClassId) (h : Nat → Option va_E) (f : Nat → Option Nat) (ea na pa : Nat → Nat) (i : Nat) : Prop := (∀ j, j < i → f j = some (ea j) ∧ h (ea j) = some (.inr (3, [.int 0, .int 0, .int 0, .int 0, .ref (na j), .ref (pa j)])) ∧ h (na j) = some (.inl (T 0, 3, .inl (fun _ => 0))) ∧ h (pa j) = some (.inl (T 5, 4, vQ (fun _ => none)))) ∧ ∀ j k, j < i → k < i → (ea j = ea k → j = k) ∧ (na j = na k → j = k) ∧ (pa j = pa k → j = k)
theorem up_inj {h : Nat → Option va_E} {ea : Nat → Nat} {i x j k : Nat} (hx : h x = none) (hs : ∀ j, j < i → ∃ c, h (ea j) = some c) (hi : ∀ j k, j < i → k < i → ea j = ea k → j = k) (hj : j < i + 1) (hk : k < i + 1) (e : va_up ea i x j = va_up ea i x k) : j = k := by
  have hne : ∀ j, j < i → x ≠ ea j := fun j hj z => by
    obtain ⟨c, hc⟩ := hs j hj
    rw [← z, hx] at hc; cases hc
  by_cases e1 : j = i
  · by_cases e2 : k = i
    · rw [e1, e2]
    · rw [e1, va_up_self, va_up_ne _ _ e2] at e
      exact absurd e (hne k (by omega))
  · by_cases e2 : k = i
    · rw [e2, va_up_self, va_up_ne _ _ e1] at e
      exact absurd e.symm (hne j (by omega))
    · rw [va_up_ne _ _ e1, va_up_ne _ _ e2] at e
      exact hi j k (by omega) (by omega) e
theorem exOK.step {T : Nat → ClassId} {h h3 : Nat → Option va_E} {f : Nat → Option Nat} {ea na pa : Nat → Nat} {i ex x n z : Nat} (q : exOK T h f ea na pa i) (hexf : h ex = some (.inl (T 5, 120, vQ f))) (tr : ∀ (a : Nat) (c : va_E), h a = some c → a ≠ ex → h3 a = some c) (hx : h x = none) (hn : h n = none) (hz : h z = none) (h3x : h3 x = some (.inr (3, [.int 0, .int 0, .int 0, .int 0, .ref n, .ref z]))) (h3n : h3 n = some (.inl (T 0, 3, .inl (fun _ => 0)))) (h3z : h3 z = some (.inl (T 5, 4, vQ (fun _ => none)))) : exOK T h3 (va_up f i (some x)) (va_up ea i x) (va_up na i n) (va_up pa i z) (i + 1) := by
  obtain ⟨q1, q2⟩ := q
  refine ⟨fun j hj => ?_, fun j k hj hk => ⟨up_inj hx (fun j hj => ⟨_, (q1 j hj).2.1⟩) (fun j k hj hk => (q2 j k hj hk).1) hj hk, up_inj hn (fun j hj => ⟨_, (q1 j hj).2.2.1⟩) (fun j k hj hk => (q2 j k hj hk).2.1) hj hk, up_inj hz (fun j hj => ⟨_, (q1 j hj).2.2.2⟩) (fun j k hj hk => (q2 j k hj hk).2.2) hj hk⟩⟩
  by_cases e : j = i
  · subst e
    rw [va_up_self, va_up_self, va_up_self, va_up_self]
    exact ⟨rfl, h3x, h3n, h3z⟩
  · rw [va_up_ne _ _ e, va_up_ne _ _ e, va_up_ne _ _ e, va_up_ne _ _ e]
    obtain ⟨a1, a2, a3, a4⟩ := q1 j (by omega)
    exact ⟨a1, tr _ _ a2 (g_ne a2 hexf (by simp)), tr _ _ a3 (g_ne a3 hexf (by simp)), tr _ _ a4 (g_ne a4 hexf (by simp))⟩
theorem kp.tr {h0 h h2 : Nat → Option va_E} {q : Nat} (k : kp h0 q h) (k2 : kp h q h2) : kp h0 q h2 := fun a e h1 hq => k2 a e (k a e h1 hq) hq
theorem exOK.rd {T : Nat → ClassId} {h : Nat → Option va_E} {f : Nat → Option Nat} {ea na pa : Nat → Nat} {q ex oa : Nat} (e : exOK T h f ea na pa 120) (hq : h q = some (.inr (2, [.ref ex, .ref oa, .int 0, .int 0, .int 0, .int 0]))) (hexf : h ex = some (.inl (T 5, 120, vQ f))) (hoa : h oa = some (.inl (T 5, 12, vQ (fun _ => none)))) : ∃ ad : Nat → Nat → Nat, ad 0 0 = q ∧ RdW T h ad (fun _ => 0) (fun _ _ => 0) (fun _ _ => 0) (fun _ => none) := by
  refine ⟨fun k j => if k = 0 then q else if k = 1 then ex else if k = 2 then oa else if k = 3 then ea j else if k = 4 then na j else pa j, rfl, hq, ⟨f, hexf, fun i hi => (e.1 i hi).1⟩, hoa, fun i hi => ?_, fun i j hi hj => e.2 i j hi hj⟩
  obtain ⟨a1, a2, a3, a4⟩ := e.1 i hi
  exact ⟨a2, a3, _, a4⟩
set_option maxHeartbeats 4000000 in
set_option maxRecDepth 100000 in
theorem k_Reader_init_new (l : Launch) (a0 : Array Value) (s0 : State) (G : G0 l a0 s0) (D : va_G) (T : Nat → ClassId) (A : Nat → Prop) (hA0 : ∀ q, A q → s0.heap.size ≤ q) (h0 : Nat → Option va_E) (q : Nat) (hq : h0 q = some (.inr (2, [.null, .null, .int 0, .int 0, .int 0, .int 0]))) : Met l y_Reader_init (.code y_Reader_init b_Reader_init 2 none :: lw_g) ({ frames := 3, cells := 362, slots := 1692, locals := 60 }) (va_Pc [.ref q] (wd s0 D T A h0)) (va_Qv (fun h => kp h0 q h ∧ ∃ (ad : Nat → Nat → Nat) (xf nf : Nat → Nat → Int32) (fo : Nat → Option Nat), ad 0 0 = q ∧ RdW T h ad (fun _ => 0) xf nf fo) (fun h t => gw D classes A h t.heap) A) 362 1692 A := by
  refine Met.ofW (cc := b_Reader_init) (maxL := 2) (ret := none) (by decide) rfl ?_
  intro p e s m args below meth c s₁ B9 hml hv
  obtain ⟨rfl, hxB, hA, hg, hK⟩ := hv
  have hx := B9.exec
  have hb := B9.bytes
  have hr := B9.returns
  have hts := atoms_spec (ws := (.code y_Reader_init b_Reader_init 2 none :: lw_g)) B9.pre
  have hgt : ∀ w ∈ lw_g, w.before _ s = true := fun w h => hts w (List.mem_cons_of_mem _ h)
  have hown : s.vm.findClass R_Reader = some m.cls := findClass_of_methodNamed B9.named
  have hin : meth.name = "<init>" := (name_of_methodNamed B9.named B9.method).1
  have hS : va_S A s.heap s.heap [] := va_S.rf
  have hl := lv_entry ([.ref q]) (n := 2) (Nat.le_of_ble_eq_true rfl)
  rw [lg_entry_eq]
  generalize (lg_sl ([.ref q]) ++ List.replicate (2 - (lg_sl ([.ref q])).length) Slot.unset).toArray = ls at hl ⊢
  have hl : lv_has ls 2 [(0, .ref q)] := hl
  refine lv_aload_n hx hb d_Reader_init_0 rfl (lv_at hl 0 rfl) ?_
  refine W.objInit hx hb hown (hgt _ k_Reader_m3) (hgt _ kO_i) (hgt _ kO_c) rfl (by rw [hml]; exact hl.1) rfl d_Reader_init_1 (Nat.le_of_ble_eq_true rfl) (Nat.le_of_ble_eq_true rfl) ?_
  refine W.eq (g2 := F0 m 4 ls []) rfl ?_
  refine lv_aload_n hx hb d_Reader_init_4 rfl (lv_at hl 0 rfl) ?_
  refine lv_bipush (v := 120) hx hb d_Reader_init_5 (by decide) ?_
  refine g_newq hx hb hown (hgt _ k_Reader_c9) (G.ao hxB k_ao_Expression) hK hg hS hA 120 (by decide) (by decide) 5 rfl (Nat.le_of_ble_eq_true rfl) (Nat.le_of_ble_eq_true rfl) d_Reader_init_7 (fun ex H hn_x hg hS => ?_)
  refine g_putF hx hb hgt in_Reader ty_Reader ty_Reader_ok nm_Reader hown hK hg hS (g_upn _ hn_x hq) rfl 0 (by decide) (hgt _ k_Reader_f11) (fun _ h9 => h9) rfl hin rfl (ty := .array (.object "ContinuationCore$Expression")) (by decide +kernel) rfl rfl (by show 0 < 6; decide) d_Reader_init_10 (fun H locs hg hS => ?_)
  have hex0 : h0 ex = none := hn_x
  have hxq : ex ≠ q := fun w => by rw [w, hq] at hn_x; cases hn_x
  obtain ⟨h1, hg, hk1, hq1, hex1⟩ : ∃ h1, gw D classes A h1 H ∧ kp h0 q h1 ∧ h1 q = some (.inr (2, [.ref ex, .null, .int 0, .int 0, .int 0, .int 0])) ∧ h1 ex = some (.inl (T 5, 120, vQ (fun _ => none))) := ⟨_, hg, (kp.new (kp.rf _ _) hn_x _).self _, va_up_self _ _ _, by rw [va_up_ne _ _ hxq, va_up_self]⟩
  refine lv_aload_n hx hb d_Reader_init_13 rfl (lv_at hl 0 rfl) ?_
  refine lv_bipush (v := 12) hx hb d_Reader_init_14 (by decide) ?_
  refine g_newq hx hb hown (hgt _ k_Reader_c9) (G.ao hxB k_ao_Expression) hK hg hS hA 12 (by decide) (by decide) 5 rfl (Nat.le_of_ble_eq_true rfl) (Nat.le_of_ble_eq_true rfl) d_Reader_init_16 (fun oa H hn_o hg hS => ?_)
  refine g_putF hx hb hgt in_Reader ty_Reader ty_Reader_ok nm_Reader hown hK hg hS (g_upn _ hn_o hq1) rfl 1 (by decide) (hgt _ k_Reader_f17) (fun _ h9 => h9) rfl hin rfl (ty := .array (.object "ContinuationCore$Expression")) (by decide +kernel) rfl rfl (by show 1 < 6; decide) d_Reader_init_19 (fun H locs hg hS => ?_)
  have hoq : oa ≠ q := fun w => by rw [w, hq1] at hn_o; cases hn_o
  obtain ⟨h2, hg, hk2, hq2, hex2, hoa2⟩ : ∃ h2, gw D classes A h2 H ∧ kp h0 q h2 ∧ h2 q = some (.inr (2, [.ref ex, .ref oa, .int 0, .int 0, .int 0, .int 0])) ∧ h2 ex = some (.inl (T 5, 120, vQ (fun _ => none))) ∧ h2 oa = some (.inl (T 5, 12, vQ (fun _ => none))) := ⟨_, hg, (kp.new hk1 hn_o _).self _, va_up_self _ _ _, by rw [va_up_ne _ _ hxq]; exact g_upn _ hn_o hex1, by rw [va_up_ne _ _ hoq, va_up_self]⟩
  have loop : ∀ (z i : Nat) (h : Nat → Option va_E) (f : Nat → Option Nat) (ea na pa : Nat → Nat) (H : Heap) (locs : List Loc) (ls : Array Slot), i + z = 120 → gw D classes A h H → kp h0 q h → h q = some (.inr (2, [.ref ex, .ref oa, .int 0, .int 0, .int 0, .int 0])) → h ex = some (.inl (T 5, 120, vQ f)) → h oa = some (.inl (T 5, 12, vQ (fun _ => none))) → exOK T h f ea na pa i → va_S A s.heap H locs → lv_has ls 2 [(1, .int (nI i)), (0, .ref q)] → W p l e (headSpec (.code y_Reader_init b_Reader_init 2 none :: lw_g) ({ frames := 3, cells := 362, slots := 1692, locals := 60 })).room s m #[Value.ref q] below meth c H locs (2 + 3 * i) (132 + 13 * i) (MQ below (va_Qv (fun h => kp h0 q h ∧ ∃ (ad : Nat → Nat → Nat) (xf nf : Nat → Nat → Int32) (fo : Nat → Option Nat), ad 0 0 = q ∧ RdW T h ad (fun _ => 0) xf nf fo) (fun h t => gw D classes A h t.heap) A) #[Value.ref q] s 362 1692 A) (F0 m 24 ls []) := by
    intro z
    induction z with
    | zero =>
      intro i h f ea na pa H locs ls hi hg hkp hqh hexf hoa hE hS hl
      obtain rfl : i = 120 := by omega
      refine lv_iload_n hx hb d_Reader_init_24 rfl (lv_at hl 0 rfl) ?_
      refine lv_bipush (v := 120) hx hb d_Reader_init_25 (by decide) ?_
      refine lv_icmp_ge (tgt := 49) hx hb d_Reader_init_27 (by decide) (fun c_27 => ?_) (fun c_27 => absurd (by decide) c_27)
      refine W.cs (cells' := 362) (slots' := 1692) rfl rfl ?_
      refine W.vret hx hb hr (v_end hg hS ?_) hS.2.2 d_Reader_init_49
      obtain ⟨ad, e1, e2⟩ := hE.rd hqh hexf hoa
      exact ⟨hkp, ad, _, _, _, e1, e2⟩
    | succ z ih =>
      intro i h f ea na pa H locs ls hi hg hkp hqh hexf hoa hE hS hl
      have hi120 : i < 120 := by omega
      refine lv_iload_n hx hb d_Reader_init_24 rfl (lv_at hl 0 rfl) ?_
      refine lv_bipush (v := 120) hx hb d_Reader_init_25 (by decide) ?_
      refine lv_icmp_ge (tgt := 49) hx hb d_Reader_init_27 (by decide) (fun c_27 => absurd c_27 (nI_ge (a := i) (b := 120) hi120 (by decide))) (fun c_27 => ?_)
      refine lv_aload_n hx hb d_Reader_init_30 rfl (lv_at hl 1 rfl) ?_
      refine g_get hx hb hgt in_Reader hown hK hg hqh rfl 0 (by decide) (hgt _ k_Reader_f11) (fun _ h9 => h9) (v := .ref ex) rfl d_Reader_init_31 ?_
      refine lv_iload_n hx hb d_Reader_init_34 rfl (lv_at hl 0 rfl) ?_
      refine g_new hx hb hgt in_Expression ty_Expression ty_Expression_ok hown (hgt _ k_Reader_c9) (hgt _ k_Expression_inst) (hgt _ k_Expression_ini) hK hg hS hA (ci := 3) rfl (fs := [.int 0, .int 0, .int 0, .int 0, .null, .null]) (by decide +kernel) (by show 2 + 3 * i + 1 ≤ 362; omega) (by show 132 + 13 * i + 6 ≤ 1692; omega) d_Reader_init_35 (fun x H hn_x hg hS => ?_)
      refine lv_dup hx hb d_Reader_init_38 rfl ?_
      refine va_callv (IN_run (As := []) (rest := [.ref x, .int (nI i), .ref ex]) (n := 0) hx hb hml hgt hown G hxB hA0 hA hK hg hS (k_Expression_init_new l a0 s0 G D T A hA0 _ x (va_up_self _ _ _)) kc_Expression_init k_Reader_mn20 ki_Expression_init rfl k_Expression_ini rfl rfl (by decide +kernel) ⟨Nat.le_of_ble_eq_true rfl, Nat.le_of_ble_eq_true rfl⟩ rfl hl.1 rfl (lv_room (Nat.le_of_ble_eq_true rfl)) d_Reader_init_39 ⟨by show 2 + 3 * i + 1 + 2 ≤ 362; omega, by show 132 + 13 * i + 6 + 7 ≤ 1692; omega⟩) hS (fun q _ h => h) (fun q h => h) (fun h5 t H1 locs1 ht hvm hw hB hz hk9 hS => ?_)
      replace hg : gw D classes A h5 H1 := by rw [← ht]; exact hB
      obtain ⟨hk5, n5, z5, hn5, hz5, e5, e6, e7⟩ := hw
      have hxe : x ≠ ex := fun w => by rw [w, hexf] at hn_x; cases hn_x
      have hex5 : h5 ex = some (.inl (T 5, 120, vQ f)) := hk5 ex _ (g_upn _ hn_x hexf) hxe.symm
      refine g_astq hx hb hK hg hS 5 3 (r := (R_Expression, T_Expression, 6)) hex5 rfl e5 rfl (vp_in_nI hi120 (by decide)) d_Reader_init_42 (fun H locs hg hS => ?_)
      rw [nI_clamp (by omega)] at hg
      have tr : ∀ (a : Nat) (cl : va_E), h a = some cl → a ≠ ex → va_up h5 ex (some (.inl (T 5, 120, vQ (va_up f i (some x))))) a = some cl := fun a cl ha hne => by
        rw [va_up_ne _ _ hne]
        exact hk5 a cl (g_upn _ hn_x ha) (fun w => by rw [w, hn_x] at ha; cases ha)
      have nn : ∀ a, va_up h x (some (.inr (3, [.int 0, .int 0, .int 0, .int 0, .null, .null]))) a = none → h a = none := fun a ha => by
        cases hh : h a with
        | none => rfl
        | some e9 => rw [g_upn _ hn_x hh] at ha; cases ha
      refine lv_iinc (v := nI (i + 1)) (lv' := [(1, .int (nI (i + 1))), (0, .ref q)]) hx hb d_Reader_init_43 hl (k := 0) rfl (nI_1 i) (by decide) rfl (fun ls hl => ?_)
      refine lv_goto (tgt := 24) hx hb d_Reader_init_46 (by decide) ?_
      refine W.cs (cells' := 2 + 3 * (i + 1)) (slots' := 132 + 13 * (i + 1)) (by omega) (by omega) ?_
      refine ih (i + 1) _ _ _ _ _ H locs ls (by omega) hg ?_ (tr q _ hqh (g_ne hqh hexf (by simp))) (va_up_self _ _ _) (tr oa _ hoa (g_ne hoa hexf (by simp))) (hE.step hexf tr hn_x (nn _ hn5) (nn _ hz5) ?_ ?_ ?_) hS hl
      · exact fun a e9 h1 h2 => tr a e9 (hkp a e9 h1 h2) (fun w => by rw [w] at h1; rw [hex0] at h1; cases h1)
      · rw [va_up_ne _ _ hxe]; exact e5
      · rw [va_up_ne _ _ (fun w => by have := nn _ hn5; rw [w, hexf] at this; cases this)]; exact e6
      · rw [va_up_ne _ _ (fun w => by have := nn _ hz5; rw [w, hexf] at this; cases this)]; exact e7
  refine lv_iconst (v := 0) hx hb d_Reader_init_22 (by decide) ?_
  refine lv_as (v := nI 0) rfl ?_
  refine lv_istore_n (lv' := [(1, .int (nI 0)), (0, .ref q)]) hx hb d_Reader_init_23 rfl hl (by decide) rfl (fun ls hl => ?_)
  refine W.cs (cells' := 2 + 3 * 0) (slots' := 132 + 13 * 0) rfl rfl ?_
  exact loop 120 0 h2 _ (fun _ => 0) (fun _ => 0) (fun _ => 0) _ _ ls (by omega) hg hk2 hq2 hex2 hoa2 ⟨fun j hj => absurd hj (Nat.not_lt_zero j), fun j k hj => absurd hj (Nat.not_lt_zero j)⟩ hS hl
