theorem fs_i2c : ∀ sg, sg < 128 → ((nI sg).toUInt32 % 65536).toInt32 = nI sg ∧ vp_nar .char (nI sg) = nI sg := by decide +kernel
theorem RdW.sr {T : Nat → ClassId} {h : Nat → Option va_E} {ad : Nat → Nat → Nat} {rf : Nat → Int32} {xf nf : Nat → Nat → Int32} {fo : Nat → Option Nat} {a : Nat} {tx : Nat → Int32} (q : RdW T h ad rf xf nf fo) (ha : h a = some (.inl (T 3, 128, .inl tx))) (v : Option va_E) : RdW T (va_up h a v) ad rf xf nf fo := by
  obtain ⟨q1, ⟨f, q2, q3⟩, q4, q5, q6⟩ := q
  refine ⟨g_up _ ha q1 (by simp), ⟨f, g_up _ ha q2 (by simp), q3⟩, g_up _ ha q4 (by simp), fun i hi => ?_, q6⟩
  obtain ⟨a1, a2, pf, a3⟩ := q5 i hi
  exact ⟨g_up _ ha a1 (by simp), g_up _ ha a2 (by simp), pf, g_up _ ha a3 (by simp)⟩
theorem RdW.xo {T : Nat → ClassId} {h : Nat → Option va_E} {ad : Nat → Nat → Nat} {rf : Nat → Int32} {xf nf : Nat → Nat → Int32} {fo : Nat → Option Nat} {a : Nat} {fs : List Value} (q : RdW T h ad rf xf nf fo) (ha : h a = some (.inr (1, fs))) (v : Option va_E) : RdW T (va_up h a v) ad rf xf nf fo := by
  obtain ⟨q1, ⟨f, q2, q3⟩, q4, q5, q6⟩ := q
  refine ⟨g_up _ ha q1 (by simp), ⟨f, g_up _ ha q2 (by simp), q3⟩, g_up _ ha q4 (by simp), fun i hi => ?_, q6⟩
  obtain ⟨a1, a2, pf, a3⟩ := q5 i hi
  exact ⟨g_up _ ha a1 (by simp), g_up _ ha a2 (by simp), pf, g_up _ ha a3 (by simp)⟩
set_option maxHeartbeats 4000000 in
set_option maxRecDepth 100000 in
theorem f_C_putBehind (l : Launch) (D : va_G) (T : Nat → ClassId) (B : Nat → Prop) (h : Nat → Option va_E) (xo sr : Nat) (r1 r2 r3 : Value) (v : Int64) (hxo : h xo = some (.inr (1, [.ref sr, r1, r2, r3, .int 0, .int 0]))) (hsr : h sr = some (.inl (T 3, 128, .inl (fun _ => 0)))) : Met l y_C_putBehind (.code y_C_putBehind b_C_putBehind 6 (some .int) :: lw_g) ({ frames := 0, cells := 0, slots := 0, locals := 0 }) (va_Pc [.ref xo, .long v] (fun U => gw D classes B h U.heap ∧ va_K D classes (tyl T) U)) (va_Qi (fun r tx => (r = -1 ∧ md_put v 8 0 (fun _ => 0) = none) ∨ (∃ n, r = nI n ∧ md_put v 8 0 (fun _ => 0) = some (n, tx) ∧ n ≤ 8 ∧ ∀ i, i < n → ∃ sg, sg < 128 ∧ tx i = nI sg)) (fun tx t => gw D classes B (va_up h sr (some (.inl (T 3, 128, .inl tx)))) t.heap) B) 0 0 B := by
  refine Met.ofW (cc := b_C_putBehind) (maxL := 6) (ret := (some .int)) (by decide) rfl ?_
  intro p e s m args below meth c s₁ B9 hml hv
  obtain ⟨rfl, hg, hK⟩ := hv
  have hx := B9.exec
  have hb := B9.bytes
  have hr := B9.returns
  have hts := atoms_spec (ws := (.code y_C_putBehind b_C_putBehind 6 (some .int) :: lw_g)) B9.pre
  have hgt : ∀ w ∈ lw_g, w.before _ s = true := fun w h => hts w (List.mem_cons_of_mem _ h)
  have hown : s.vm.findClass R_C = some m.cls := findClass_of_methodNamed B9.named
  have hS : va_S B s.heap s.heap [] := va_S.rf
  have hl := lv_entry ([.ref xo, .long v]) (n := 6) (Nat.le_of_ble_eq_true rfl)
  rw [lg_entry_eq]
  generalize (lg_sl ([.ref xo, .long v]) ++ List.replicate (6 - (lg_sl ([.ref xo, .long v])).length) Slot.unset).toArray = ls at hl ⊢
  have hl : lv_has ls 6 [(0, .ref xo), (1, .long v)] := hl
  have hxo1 : ∀ e, va_up h sr e xo = some (.inr (1, [.ref sr, r1, r2, r3, .int 0, .int 0])) := fun e => g_up _ hsr hxo (by simp)
  have loop : ∀ (z n : Nat) (tx : Nat → Int32) (H : Heap) (locs : List Loc) (ls : Array Slot), n + z ≤ 8 → md_put v 8 0 (fun _ => 0) = md_put v z n tx → (∀ i, i < n → ∃ sg, sg < 128 ∧ tx i = nI sg) → gw D classes B (va_up h sr (some (.inl (T 3, 128, .inl tx)))) H → va_S B s.heap H locs → lv_has ls 6 [(4, .int (md_dn z)), (3, .int (nI n)), (0, .ref xo), (1, .long v)] → W p l e (headSpec (.code y_C_putBehind b_C_putBehind 6 (some .int) :: lw_g) ({ frames := 0, cells := 0, slots := 0, locals := 0 })).room s m #[Value.ref xo, Value.long v] below meth c H locs 0 0 (MQ below (va_Qi (fun r tx => (r = -1 ∧ md_put v 8 0 (fun _ => 0) = none) ∨ (∃ n, r = nI n ∧ md_put v 8 0 (fun _ => 0) = some (n, tx) ∧ n ≤ 8 ∧ ∀ i, i < n → ∃ sg, sg < 128 ∧ tx i = nI sg)) (fun tx t => gw D classes B (va_up h sr (some (.inl (T 3, 128, .inl tx)))) t.heap) B) #[Value.ref xo, Value.long v] s 0 0 B) (F0 m 9 ls []) := by
    intro z
    induction z with
    | zero =>
      intro n tx H locs ls hz hp hsg hg hS hl
      refine lv_iload hx hb d_C_putBehind_9 (lv_at hl 0 rfl) ?_
      refine lv_if_lt (tgt := 67) hx hb d_C_putBehind_11 (by decide) (fun c_11 => ?_) (fun c_11 => absurd (by decide) c_11)
      refine lv_iload_n hx hb d_C_putBehind_67 rfl (lv_at hl 1 rfl) ?_
      exact W.iret (v := nI n) hx hb hr (fun t ht _ => ⟨⟨_, tx, rfl, Or.inr ⟨n, rfl, hp, by omega, hsg⟩, by show gw D classes B _ t.heap; rw [ht]; exact hg⟩, hS.F ht⟩) hS.2.2 d_C_putBehind_68
    | succ z ih =>
      intro n tx H locs ls hz hp hsg hg hS hl
      refine lv_iload hx hb d_C_putBehind_9 (lv_at hl 0 rfl) ?_
      refine lv_if_lt (tgt := 67) hx hb d_C_putBehind_11 (by decide) (fun c_11 => absurd c_11 (by rw [show md_dn (z + 1) = nI z from nI_pred z]; exact nI_pos (by omega))) (fun c_11 => ?_)
      refine lv_lload_n hx hb d_C_putBehind_14 rfl (lv_at hl 3 rfl) ?_
      refine lv_bipush (v := 8) hx hb d_C_putBehind_15 (by decide) ?_
      refine lv_iload hx hb d_C_putBehind_17 (lv_at hl 0 rfl) ?_
      refine lv_as (v := nI z) (nI_pred z) ?_
      refine lv_imul hx hb d_C_putBehind_19 ?_
      refine lv_as (v := nI (8 * z)) (pk_mul 8 z) ?_
      refine lv_lushr (v := (v.toUInt64 >>> ((nI (8 * z)).toInt64.toUInt64 &&& Int64.toUInt64 63)).toInt64) hx hb d_C_putBehind_20 rfl ?_
      refine lv_l2i (v := (v.toUInt64 >>> ((nI (8 * z)).toInt64.toUInt64 &&& Int64.toUInt64 63)).toInt64.toInt32) hx hb d_C_putBehind_21 rfl ?_
      refine lv_sipush (v := 255) hx hb d_C_putBehind_22 (by decide) ?_
      refine lv_iand hx hb d_C_putBehind_25 ?_
      refine lv_as (v := md_byte v z) (by_eq v (by omega)) ?_
      refine lv_istore (lv' := [(5, .int (md_byte v z)), (4, .int (md_dn (z + 1))), (3, .int (nI n)), (0, .ref xo), (1, .long v)]) hx hb d_C_putBehind_26 hl (by decide) rfl (fun ls hl => ?_)
      refine lv_iload hx hb d_C_putBehind_28 (lv_at hl 0 rfl) ?_
      refine lv_if_eq (tgt := 61) hx hb d_C_putBehind_30 (by decide) (fun c_30 => ?_) (fun c_30 => ?_)
      · skip
        refine lv_iinc (v := md_dn z) (lv' := [(4, .int (md_dn z)), (5, .int (md_byte v z)), (3, .int (nI n)), (0, .ref xo), (1, .long v)]) hx hb d_C_putBehind_61 hl (k := 1) rfl (md_dn_dec z) (by decide) rfl (fun ls hl => ?_)
        exact lv_goto (tgt := 9) hx hb d_C_putBehind_64 (by decide) (ih n tx _ _ ls (by omega) (by rw [hp]; show (if _ then _ else _) = _; rw [if_pos c_30]) hsg hg hS (lv_sub hl [0, 2, 3, 4] rfl))
      · skip
        refine lv_iload hx hb d_C_putBehind_33 (lv_at hl 0 rfl) ?_
        refine lv_bipush (v := 32) hx hb d_C_putBehind_35 (by decide) ?_
        have bad : ∀ (H : Heap) (locs : List Loc), (md_byte v z < 32 ∨ 126 < md_byte v z) → gw D classes B (va_up h sr (some (.inl (T 3, 128, .inl tx)))) H → va_S B s.heap H locs → W p l e (headSpec (.code y_C_putBehind b_C_putBehind 6 (some .int) :: lw_g) ({ frames := 0, cells := 0, slots := 0, locals := 0 })).room s m #[Value.ref xo, Value.long v] below meth c H locs 0 0 (MQ below (va_Qi (fun r tx => (r = -1 ∧ md_put v 8 0 (fun _ => 0) = none) ∨ (∃ n, r = nI n ∧ md_put v 8 0 (fun _ => 0) = some (n, tx) ∧ n ≤ 8 ∧ ∀ i, i < n → ∃ sg, sg < 128 ∧ tx i = nI sg)) (fun tx t => gw D classes B (va_up h sr (some (.inl (T 3, 128, .inl tx)))) t.heap) B) #[Value.ref xo, Value.long v] s 0 0 B) (F0 m 47 ls []) := fun H locs hbad hg hS => by
          refine lv_iconst (v := (-1)) hx hb d_C_putBehind_47 (by decide) ?_
          exact W.iret (v := (-1)) hx hb hr (fun t ht _ => ⟨⟨_, tx, rfl, Or.inl ⟨rfl, by rw [hp]; show (if _ then _ else if _ then _ else _) = _; rw [if_neg c_30, if_pos (hbad.elim Or.inl (fun w => Or.inr (Or.inl w)))]⟩, by show gw D classes B _ t.heap; rw [ht]; exact hg⟩, hS.F ht⟩) hS.2.2 d_C_putBehind_48
        refine lv_icmp_lt (tgt := 47) hx hb d_C_putBehind_37 (by decide) (fun c_37 => bad _ _ (Or.inl c_37) hg hS) (fun c_37 => ?_)
        refine lv_iload hx hb d_C_putBehind_40 (lv_at hl 0 rfl) ?_
        refine lv_bipush (v := 126) hx hb d_C_putBehind_42 (by decide) ?_
        refine lv_icmp_le (tgt := 49) hx hb d_C_putBehind_44 (by decide) (fun c_44 => ?_) (fun c_44 => bad _ _ (Or.inr (Int32.not_le.mp c_44)) hg hS)
        obtain ⟨sg, hsg1, hsg2⟩ := nI_of2 (x := md_byte v z) (M := 126) (n := 126) (by decide) (fun q => c_37 (Int32.lt_trans q (by decide))) c_44
        refine lv_aload_n hx hb d_C_putBehind_49 rfl (lv_at hl 3 rfl) ?_
        refine g_get hx hb hgt in_C hown hK hg (hxo1 _) rfl 0 (by decide) (hgt _ k_C_f9) (fun _ h9 => h9) (v := .ref sr) rfl d_C_putBehind_50 ?_
        refine lv_iload_n hx hb d_C_putBehind_53 rfl (lv_at hl 2 rfl) ?_
        refine lv_iload hx hb d_C_putBehind_54 (lv_at hl 0 rfl) ?_
        refine lv_i2c (v := nI sg) hx hb d_C_putBehind_56 (by rw [hsg2]; exact (fs_i2c sg (by omega)).1) ?_
        refine g_cast hx hb hK hg hS 3 (va_up_self _ _ _) rfl (vp_in_nI (n := n) (N := 128) (by omega) (by decide)) d_C_putBehind_57 (fun H locs hg hS => ?_)
        rw [bx_uu, nI_clamp (by omega), (fs_i2c sg (by omega)).2] at hg
        refine lv_iinc (v := nI (n + 1)) (lv' := [(3, .int (nI (n + 1))), (5, .int (md_byte v z)), (4, .int (md_dn (z + 1))), (0, .ref xo), (1, .long v)]) hx hb d_C_putBehind_58 hl (k := 2) rfl (nI_1 n) (by decide) rfl (fun ls hl => ?_)
        refine lv_iinc (v := md_dn z) (lv' := [(4, .int (md_dn z)), (3, .int (nI (n + 1))), (5, .int (md_byte v z)), (0, .ref xo), (1, .long v)]) hx hb d_C_putBehind_61 hl (k := 2) rfl (md_dn_dec z) (by decide) rfl (fun ls hl => ?_)
        refine lv_goto (tgt := 9) hx hb d_C_putBehind_64 (by decide) (ih (n + 1) (upd tx n (nI sg)) _ _ ls (by omega) ?_ ?_ hg hS (lv_sub hl [0, 1, 3, 4] rfl))
        · rw [hp]; show (if _ then _ else if _ then _ else _) = _
          rw [if_neg c_30, if_neg (fun q => q.elim c_37 (fun w => w.elim (fun u => absurd c_44 (Int32.not_le.mpr u)) (by omega))), hsg2]
        · intro i hi
          by_cases e9 : i = n
          · rw [e9, upd_s]; exact ⟨sg, by omega, rfl⟩
          · rw [upd_n e9]; exact hsg i (by omega)
  refine lv_aload_n hx hb d_C_putBehind_0 rfl (lv_at hl 0 rfl) ?_
  refine g_get hx hb hgt in_C hown hK hg hxo rfl 4 (by decide) (hgt _ k_C_f58) (fun _ h9 => h9) (v := .int (nI 0)) rfl d_C_putBehind_1 ?_
  refine lv_istore_n (lv' := [(3, .int (nI 0)), (0, .ref xo), (1, .long v)]) hx hb d_C_putBehind_4 rfl hl (by decide) rfl (fun ls hl => ?_)
  refine lv_bipush (v := 7) hx hb d_C_putBehind_5 (by decide) ?_
  refine lv_as (v := md_dn 8) (by decide) ?_
  refine lv_istore (lv' := [(4, .int (md_dn 8)), (3, .int (nI 0)), (0, .ref xo), (1, .long v)]) hx hb d_C_putBehind_7 hl (by decide) rfl (fun ls hl => ?_)
  have hid : va_up h sr (some (.inl (T 3, 128, .inl (fun _ => 0)))) = h := by rw [← hsr]; exact va_up_id h sr
  exact loop 8 0 (fun _ => 0) _ _ ls (by omega) rfl (fun i hi => absurd hi (Nat.not_lt_zero i)) (by rw [hid]; exact hg) hS hl
theorem nI_m1 {n : Nat} (h : n < 2 ^ 31) : ¬ nI n = -1 := fun z => absurd (show nI n < 0 by rw [z]; decide) (nI_pos h)
set_option maxHeartbeats 4000000 in
set_option maxRecDepth 100000 in
theorem f_C_text_R (l : Launch) (a0 : Array Value) (s0 : State) (G : G0 l a0 s0) (D : va_G) (T : Nat → ClassId) (xo : Nat) (B : Nat → Prop) (v : Int64) (nn : Nat) (hmt : md_text v 0 (fun _ => 0) = some nn) : Met l y_C_text (.code y_C_text b_C_text 4 (some .int) :: lw_g) ({ frames := 60, cells := 8, slots := 256, locals := 3000 }) (va_Pc (.ref xo :: [.long v]) (cPre s0 (fun U => CFrD s0 D T xo B U ∧ ∀ q, U.heap.size ≤ q → B q))) (va_Qi (fun r (_ : Unit) => r = nI nn) (fun _ _ => True) B) 8 256 B := by
  refine Met.ofW (cc := b_C_text) (maxL := 4) (ret := (some .int)) (by decide) rfl ?_
  intro p e s m args below meth c s₁ B9 hml hv
  obtain ⟨rfl, hxB, ⟨hBs, hK, h, hg, sr, mc, gv, gl, ad, xf, nf, fo, mf, gf, lf, ⟨hxo, hsr, hRd⟩, ⟨hmc, hm0, hm7, hm8, hm9, hm10, hm11⟩, ⟨hgl, hlf⟩, ⟨hgv, hgf⟩⟩, hge⟩ := hv
  have hx := B9.exec
  have hb := B9.bytes
  have hr := B9.returns
  have hlocks := B9.notSynchronized
  have hts := atoms_spec (ws := (.code y_C_text b_C_text 4 (some .int) :: lw_g)) B9.pre
  have hgt : ∀ w ∈ lw_g, w.before _ s = true := fun w h => hts w (List.mem_cons_of_mem _ h)
  have hown : s.vm.findClass R_C = some m.cls := findClass_of_methodNamed B9.named
  have K : cK D T R_C s m _ := ⟨hgt, hown, hK⟩
  have ht0 : c.exceptionTable.isEmpty = true := by
    obtain ⟨meth9, c9, hm, hc, -, -, -, -, ht, -⟩ := Cond.code_spec B9.named (hts _ List.mem_cons_self)
    cases B9.method.symm.trans hm
    cases (Stand.of_body B9).code.symm.trans hc
    exact ht
  have hS : va_S B s.heap s.heap [] := va_S.rf
  have hl := lv_entry ([.ref xo, .long v]) (n := 4) (Nat.le_of_ble_eq_true rfl)
  rw [lg_entry_eq]
  generalize (lg_sl ([.ref xo, .long v]) ++ List.replicate (4 - (lg_sl ([.ref xo, .long v])).length) Slot.unset).toArray = ls at hl ⊢
  have hl : lv_has ls 4 [(0, .ref xo), (1, .long v)] := hl
  obtain ⟨sq, sv, hstr⟩ := G.2.2.2.1
  refine lv_aload_n hx hb d_C_text_0 rfl (lv_at hl 0 rfl) ?_
  refine g_get hx hb hgt in_C hown hK hg hxo rfl 2 (by decide) (hgt _ k_C_f23) (fun _ h9 => h9) (v := .ref mc) rfl d_C_text_1 ?_
  refine g_get hx hb hgt in_Machine hown hK hg hmc rfl 7 (by decide) (hgt _ k_C_f34) (fun _ h9 => h9) (v := .int (0)) hm7 d_C_text_4 ?_
  refine lv_iconst (v := 1) hx hb d_C_text_7 (by decide) ?_
  refine lv_icmp_ne (tgt := 21) hx hb d_C_text_8 (by decide) (fun c_8 => ?_) (fun c_8 => absurd c_8 (by decide))
  refine lv_aload_n hx hb d_C_text_21 rfl (lv_at hl 0 rfl) ?_
  refine lv_lload_n hx hb d_C_text_22 rfl (lv_at hl 1 rfl) ?_
  refine va_calli (V_run (C := R_C) (As := [.long v]) (rest := []) (n := 1) hx hb hml hgt hown (Wd := fun U => gw D classes B h U.heap ∧ va_K D classes (tyl T) U) (fun U U2 h1 h2 h3 => ⟨by rw [h1]; exact h3.1, va_K.moved h2 h3.2⟩) (va_recv hK (hg.one hxo) (q0 := 0) (q := (R_C, T_C, 6)) rfl rfl) (fun U h1 h2 => ⟨by rw [h1]; exact hg, va_K.moved h2.alike hK⟩) (f_C_putBehind l D T B h xo sr _ _ _ v hxo hsr) kc_C_putBehind k_C_m45 ki_C_putBehind ke_C_putBehind k_C_ini rfl rfl (by decide +kernel) ⟨Nat.le_of_ble_eq_true rfl, Nat.le_of_ble_eq_true rfl⟩ rfl hl.1 rfl (lv_room (Nat.le_of_ble_eq_true rfl)) d_C_text_23 ⟨Nat.le_of_ble_eq_true rfl, Nat.le_of_ble_eq_true rfl⟩) hS (fun q _ h => h) (fun q h => h) (fun r tx t H1 locs1 ht hvm hw hB hz hk9 hS => ?_)
  replace hg : gw D classes B (va_up h sr (some (.inl (T 3, 128, .inl tx)))) H1 := by rw [← ht]; exact hB
  have hxo1 : va_up h sr (some (.inl (T 3, 128, .inl tx))) xo = some (.inr (1, [.ref sr, .ref (ad 0 0), .ref mc, .ref gv, .int 0, .int 0])) := g_up _ hsr hxo (by simp)
  have hsr1 : va_up h sr (some (.inl (T 3, 128, .inl tx))) sr = some (.inl (T 3, 128, .inl tx)) := va_up_self _ _ _
  have hRd1 : RdW T (va_up h sr (some (.inl (T 3, 128, .inl tx)))) ad (fun _ => 0) xf nf fo := hRd.sr hsr _
  clear hRd hxo hsr
  generalize va_up h sr (some (.inl (T 3, 128, .inl tx))) = h1 at hg hxo1 hsr1 hRd1
  obtain ⟨n, rfl, hpt, hn8, htx⟩ : ∃ n, r = nI n ∧ md_put v 8 0 (fun _ => 0) = some (n, tx) ∧ n ≤ 8 ∧ ∀ i, i < n → ∃ sg, sg < 128 ∧ tx i = nI sg := by
    rcases hw with ⟨-, z⟩ | z
    · unfold md_text at hmt; rw [z] at hmt; cases hmt
    · exact z
  have hsc : (md_scan tx n).map (fun _ => n) = some nn := by unfold md_text at hmt; rw [hpt] at hmt; exact hmt
  refine lv_istore_n (lv' := [(3, .int (nI n)), (0, .ref xo), (1, .long v)]) hx hb d_C_text_26 rfl hl (by decide) rfl (fun ls hl => ?_)
  refine lv_iload_n hx hb d_C_text_27 rfl (lv_at hl 0 rfl) ?_
  refine lv_iconst (v := (-1)) hx hb d_C_text_28 (by decide) ?_
  refine lv_icmp_ne (tgt := 42) hx hb d_C_text_29 (by decide) (fun c_29 => ?_) (fun c_29 => absurd c_29 (nI_m1 (by omega)))
  refine lv_aload_n hx hb d_C_text_42 rfl (lv_at hl 1 rfl) ?_
  refine g_get hx hb hgt in_C hown hK hg hxo1 rfl 1 (by decide) (hgt _ k_C_f16) (fun _ h9 => h9) (v := .ref (ad 0 0)) rfl d_C_text_43 ?_
  refine lv_aload_n hx hb d_C_text_46 rfl (lv_at hl 1 rfl) ?_
  refine g_get hx hb hgt in_C hown hK hg hxo1 rfl 0 (by decide) (hgt _ k_C_f9) (fun _ h9 => h9) (v := .ref sr) rfl d_C_text_47 ?_
  refine lv_iload_n hx hb d_C_text_50 rfl (lv_at hl 0 rfl) ?_
  have hM : RW D T B h1 ad (fun _ => 0) xf nf fo H1 := ⟨h1, hg, hRd1, keep.rf h1⟩
  refine va_calli (R_run (As := [.ref sr, .int (nI n)]) (rest := []) (n := 2) hx hb hml K hM hxB hBs hS (fun _ q => q.1) (C := R_Reader) (ci := 2) rfl (e_Reader_read l s0 D T B hBs _ ad (fun _ => 0) xf nf fo sq sv hstr sr tx hsr1 n hn8 htx) kc_Reader_read k_C_m54 ki_Reader_read ke_Reader_read k_Reader_ini rfl rfl (by decide +kernel) ⟨Nat.le_of_ble_eq_true rfl, Nat.le_of_ble_eq_true rfl⟩ rfl hl.1 rfl (lv_room (Nat.le_of_ble_eq_true rfl)) d_C_text_51 ⟨Nat.le_of_ble_eq_true rfl, Nat.le_of_ble_eq_true rfl⟩) hS (fun q _ h => h) (fun q h => h) (fun r S t H1 locs1 ht hvm hw hB hz hk9 hS => ?_)
  replace hM : RW D T B h1 ad S.1 S.2.1 S.2.2.1 S.2.2.2 H1 := by rw [← ht]; exact hB
  obtain rfl : r = 1 := by
    rcases hw with ⟨-, z⟩ | ⟨z, -⟩
    · rw [z] at hsc; cases hsc
    · exact z
  obtain rfl : nn = n := by
    obtain ⟨t9, ht9⟩ : ∃ t9, md_scan tx n = some t9 := by cases q9 : md_scan tx n with | none => rw [q9] at hsc; cases hsc | some z => exact ⟨z, rfl⟩
    rw [ht9] at hsc; exact (Option.some.inj hsc).symm
  refine lv_if_ne (tgt := 83) hx hb d_C_text_54 (by decide) (fun c_54 => ?_) (fun c_54 => absurd c_54 (by decide))
  refine lv_aload_n hx hb d_C_text_83 rfl (lv_at hl 1 rfl) ?_
  refine lv_iload_n hx hb d_C_text_84 rfl (lv_at hl 0 rfl) ?_
  obtain ⟨h2, hg2, hRd2, hkp⟩ := id hM
  refine g_put hx hb hgt in_C ty_C ty_C_ok nm_C hown hK hg2 hS (hkp xo _ hxo1 rfl) rfl 4 (by decide) (hgt _ k_C_f58) (fun _ h9 => h9) rfl (ty := .int) (by decide +kernel) rfl rfl (by show 4 < 6; decide) d_C_text_85 (fun H locs hg hS => ?_)
  refine lv_aload_n hx hb d_C_text_88 rfl (lv_at hl 1 rfl) ?_
  refine g_get hx hb hgt in_C hown hK hg (va_up_self _ _ _) rfl 4 (by decide) (hgt _ k_C_f58) (fun _ h9 => h9) (v := .int (nI nn)) rfl d_C_text_89 ?_
  refine W.widen (k := 8) (n := 256) (Nat.le_of_ble_eq_true rfl) (Nat.le_of_ble_eq_true rfl) ?_
  exact W.iret (v := (nI nn)) hx hb hr (fun t ht _ => ⟨⟨_, (), rfl, rfl, trivial⟩, hS.F ht⟩) hS.2.2 d_C_text_92
set_option maxHeartbeats 4000000 in
set_option maxRecDepth 100000 in
theorem f_C_text_A (l : Launch) (a0 : Array Value) (s0 : State) (G : G0 l a0 s0) (D : va_G) (T : Nat → ClassId) (xo : Nat) (B : Nat → Prop) (v : Int64) (hmt : md_text v 0 (fun _ => 0) = none) : Thr l y_C_text (.code y_C_text b_C_text 4 (some .int) :: lw_g) ({ frames := 60, cells := 8, slots := 256, locals := 3000 }) (va_Pc (.ref xo :: [.long v]) (cPre s0 (fun U => CFrD s0 D T xo B U ∧ ∀ q, U.heap.size ≤ q → B q))) "java/lang/IllegalArgumentException" (fun st t => va_F B st t) 8 256 B := by
  refine Thr.ofW (cc := b_C_text) (maxL := 4) (ret := (some .int)) (by decide) rfl ?_
  intro p e s m args below meth c s₁ B9 hml hv
  obtain ⟨rfl, hxB, ⟨hBs, hK, h, hg, sr, mc, gv, gl, ad, xf, nf, fo, mf, gf, lf, ⟨hxo, hsr, hRd⟩, ⟨hmc, hm0, hm7, hm8, hm9, hm10, hm11⟩, ⟨hgl, hlf⟩, ⟨hgv, hgf⟩⟩, hge⟩ := hv
  have hx := B9.exec
  have hb := B9.bytes
  have hr := B9.returns
  have hlocks := B9.notSynchronized
  have hts := atoms_spec (ws := (.code y_C_text b_C_text 4 (some .int) :: lw_g)) B9.pre
  have hgt : ∀ w ∈ lw_g, w.before _ s = true := fun w h => hts w (List.mem_cons_of_mem _ h)
  have hown : s.vm.findClass R_C = some m.cls := findClass_of_methodNamed B9.named
  have K : cK D T R_C s m _ := ⟨hgt, hown, hK⟩
  have ht0 : c.exceptionTable.isEmpty = true := by
    obtain ⟨meth9, c9, hm, hc, -, -, -, -, ht, -⟩ := Cond.code_spec B9.named (hts _ List.mem_cons_self)
    cases B9.method.symm.trans hm
    cases (Stand.of_body B9).code.symm.trans hc
    exact ht
  have hS : va_S B s.heap s.heap [] := va_S.rf
  have hl := lv_entry ([.ref xo, .long v]) (n := 4) (Nat.le_of_ble_eq_true rfl)
  rw [lg_entry_eq]
  generalize (lg_sl ([.ref xo, .long v]) ++ List.replicate (4 - (lg_sl ([.ref xo, .long v])).length) Slot.unset).toArray = ls at hl ⊢
  have hl : lv_has ls 4 [(0, .ref xo), (1, .long v)] := hl
  obtain ⟨sq, sv, hstr⟩ := G.2.2.2.1
  refine lv_aload_n hx hb d_C_text_0 rfl (lv_at hl 0 rfl) ?_
  refine g_get hx hb hgt in_C hown hK hg hxo rfl 2 (by decide) (hgt _ k_C_f23) (fun _ h9 => h9) (v := .ref mc) rfl d_C_text_1 ?_
  refine g_get hx hb hgt in_Machine hown hK hg hmc rfl 7 (by decide) (hgt _ k_C_f34) (fun _ h9 => h9) (v := .int (0)) hm7 d_C_text_4 ?_
  refine lv_iconst (v := 1) hx hb d_C_text_7 (by decide) ?_
  refine lv_icmp_ne (tgt := 21) hx hb d_C_text_8 (by decide) (fun c_8 => ?_) (fun c_8 => absurd c_8 (by decide))
  refine lv_aload_n hx hb d_C_text_21 rfl (lv_at hl 0 rfl) ?_
  refine lv_lload_n hx hb d_C_text_22 rfl (lv_at hl 1 rfl) ?_
  refine va_calli (V_run (C := R_C) (As := [.long v]) (rest := []) (n := 1) hx hb hml hgt hown (Wd := fun U => gw D classes B h U.heap ∧ va_K D classes (tyl T) U) (fun U U2 h1 h2 h3 => ⟨by rw [h1]; exact h3.1, va_K.moved h2 h3.2⟩) (va_recv hK (hg.one hxo) (q0 := 0) (q := (R_C, T_C, 6)) rfl rfl) (fun U h1 h2 => ⟨by rw [h1]; exact hg, va_K.moved h2.alike hK⟩) (f_C_putBehind l D T B h xo sr _ _ _ v hxo hsr) kc_C_putBehind k_C_m45 ki_C_putBehind ke_C_putBehind k_C_ini rfl rfl (by decide +kernel) ⟨Nat.le_of_ble_eq_true rfl, Nat.le_of_ble_eq_true rfl⟩ rfl hl.1 rfl (lv_room (Nat.le_of_ble_eq_true rfl)) d_C_text_23 ⟨Nat.le_of_ble_eq_true rfl, Nat.le_of_ble_eq_true rfl⟩) hS (fun q _ h => h) (fun q h => h) (fun r tx t H1 locs1 ht hvm hw hB hz hk9 hS => ?_)
  replace hg : gw D classes B (va_up h sr (some (.inl (T 3, 128, .inl tx)))) H1 := by rw [← ht]; exact hB
  have hxo1 : va_up h sr (some (.inl (T 3, 128, .inl tx))) xo = some (.inr (1, [.ref sr, .ref (ad 0 0), .ref mc, .ref gv, .int 0, .int 0])) := g_up _ hsr hxo (by simp)
  have hsr1 : va_up h sr (some (.inl (T 3, 128, .inl tx))) sr = some (.inl (T 3, 128, .inl tx)) := va_up_self _ _ _
  have hRd1 : RdW T (va_up h sr (some (.inl (T 3, 128, .inl tx)))) ad (fun _ => 0) xf nf fo := hRd.sr hsr _
  clear hRd hxo hsr
  generalize va_up h sr (some (.inl (T 3, 128, .inl tx))) = h1 at hg hxo1 hsr1 hRd1
  rcases hw with ⟨rfl, hpt⟩ | ⟨n, rfl, hpt, hn8, htx⟩
  · skip
    refine lv_istore_n (lv' := [(3, .int (-1)), (0, .ref xo), (1, .long v)]) hx hb d_C_text_26 rfl hl (by decide) rfl (fun ls hl => ?_)
    refine lv_iload_n hx hb d_C_text_27 rfl (lv_at hl 0 rfl) ?_
    refine lv_iconst (v := (-1)) hx hb d_C_text_28 (by decide) ?_
    refine lv_icmp_ne (tgt := 42) hx hb d_C_text_29 (by decide) (fun c_29 => absurd rfl c_29) (fun c_29 => ?_)
    exact C_IAE hx hb G hgt hown hxB hBs hS (is := 51) (text := "a byte is no sign") (by decide) (hl.1.trans hml.symm) ht0 d_C_text_32 d_C_text_35 d_C_text_36 d_C_text_38 d_C_text_41 hlocks ⟨Nat.le_of_ble_eq_true rfl, Nat.le_of_ble_eq_true rfl⟩ ⟨Nat.le_of_ble_eq_true rfl, Nat.le_of_ble_eq_true rfl⟩ ⟨Nat.le_of_ble_eq_true rfl, Nat.le_of_ble_eq_true rfl⟩
  · skip
    refine lv_istore_n (lv' := [(3, .int (nI n)), (0, .ref xo), (1, .long v)]) hx hb d_C_text_26 rfl hl (by decide) rfl (fun ls hl => ?_)
    refine lv_iload_n hx hb d_C_text_27 rfl (lv_at hl 0 rfl) ?_
    refine lv_iconst (v := (-1)) hx hb d_C_text_28 (by decide) ?_
    refine lv_icmp_ne (tgt := 42) hx hb d_C_text_29 (by decide) (fun c_29 => ?_) (fun c_29 => absurd c_29 (nI_m1 (by omega)))
    refine lv_aload_n hx hb d_C_text_42 rfl (lv_at hl 1 rfl) ?_
    refine g_get hx hb hgt in_C hown hK hg hxo1 rfl 1 (by decide) (hgt _ k_C_f16) (fun _ h9 => h9) (v := .ref (ad 0 0)) rfl d_C_text_43 ?_
    refine lv_aload_n hx hb d_C_text_46 rfl (lv_at hl 1 rfl) ?_
    refine g_get hx hb hgt in_C hown hK hg hxo1 rfl 0 (by decide) (hgt _ k_C_f9) (fun _ h9 => h9) (v := .ref sr) rfl d_C_text_47 ?_
    refine lv_iload_n hx hb d_C_text_50 rfl (lv_at hl 0 rfl) ?_
    have hM : RW D T B h1 ad (fun _ => 0) xf nf fo H1 := ⟨h1, hg, hRd1, keep.rf h1⟩
    refine va_calli (R_run (As := [.ref sr, .int (nI n)]) (rest := []) (n := 2) hx hb hml K hM hxB hBs hS (fun _ q => q.1) (C := R_Reader) (ci := 2) rfl (e_Reader_read l s0 D T B hBs _ ad (fun _ => 0) xf nf fo sq sv hstr sr tx hsr1 n hn8 htx) kc_Reader_read k_C_m54 ki_Reader_read ke_Reader_read k_Reader_ini rfl rfl (by decide +kernel) ⟨Nat.le_of_ble_eq_true rfl, Nat.le_of_ble_eq_true rfl⟩ rfl hl.1 rfl (lv_room (Nat.le_of_ble_eq_true rfl)) d_C_text_51 ⟨Nat.le_of_ble_eq_true rfl, Nat.le_of_ble_eq_true rfl⟩) hS (fun q _ h => h) (fun q h => h) (fun r S t H1 locs1 ht hvm hw hB hz hk9 hS => ?_)
    replace hM : RW D T B h1 ad S.1 S.2.1 S.2.2.1 S.2.2.2 H1 := by rw [← ht]; exact hB
    obtain rfl : r = 0 := by
      rcases hw with ⟨z, -⟩ | ⟨-, t9, z⟩
      · exact z
      · unfold md_text at hmt; rw [hpt] at hmt; have hmt : (md_scan tx n).map (fun _ => n) = none := hmt; rw [z] at hmt; cases hmt
    refine lv_if_ne (tgt := 83) hx hb d_C_text_54 (by decide) (fun c_54 => absurd rfl c_54) (fun c_54 => ?_)
    refine lv_aload_n hx hb d_C_text_57 rfl (lv_at hl 1 rfl) ?_
    obtain ⟨h2, hg2, hRd2, hkp⟩ := id hM
    refine g_get hx hb hgt in_C hown hK hg2 (hkp xo _ hxo1 rfl) rfl 1 (by decide) (hgt _ k_C_f16) (fun _ h9 => h9) (v := .ref (ad 0 0)) rfl d_C_text_58 ?_
    clear hg2 hRd2 hkp
    refine lv_aload_n hx hb d_C_text_61 rfl (lv_at hl 1 rfl) ?_
    obtain ⟨h2, hg2, hRd2, hkp⟩ := id hM
    refine g_get hx hb hgt in_C hown hK hg2 (hkp xo _ hxo1 rfl) rfl 0 (by decide) (hgt _ k_C_f9) (fun _ h9 => h9) (v := .ref sr) rfl d_C_text_62 ?_
    clear hg2 hRd2 hkp
    refine lv_aload_n hx hb d_C_text_65 rfl (lv_at hl 1 rfl) ?_
    obtain ⟨h2, hg2, hRd2, hkp⟩ := id hM
    refine g_get hx hb hgt in_C hown hK hg2 (hkp xo _ hxo1 rfl) rfl 4 (by decide) (hgt _ k_C_f58) (fun _ h9 => h9) (v := .int (nI 0)) rfl d_C_text_66 ?_
    clear hg2 hRd2 hkp
    obtain ⟨rf2, xf2, nf2, fo2⟩ := S
    dsimp only at hM
    refine va_calli (R_run (As := [.ref sr, .int (nI 0)]) (rest := []) (n := 2) hx hb hml K hM hxB hBs hS (fun _ q => q.1) (C := R_Reader) (ci := 2) rfl (e_Reader_read l s0 D T B hBs _ ad rf2 xf2 nf2 fo2 sq sv hstr sr tx hsr1 0 (by decide) (fun i hi => absurd hi (Nat.not_lt_zero i))) kc_Reader_read k_C_m54 ki_Reader_read ke_Reader_read k_Reader_ini rfl rfl (by decide +kernel) ⟨Nat.le_of_ble_eq_true rfl, Nat.le_of_ble_eq_true rfl⟩ rfl hl.1 rfl (lv_room (Nat.le_of_ble_eq_true rfl)) d_C_text_69 ⟨Nat.le_of_ble_eq_true rfl, Nat.le_of_ble_eq_true rfl⟩) hS (fun q _ h => h) (fun q h => h) (fun r S t H1 locs1 ht hvm hw hB hz hk9 hS => ?_)
    replace hM : RW D T B h1 ad S.1 S.2.1 S.2.2.1 S.2.2.2 H1 := by rw [← ht]; exact hB
    refine lv_pop hx hb d_C_text_72 rfl ?_
    exact C_IAE hx hb G hgt hown hxB hBs hS (is := 61) (text := "no expression begins so") (by decide) (hl.1.trans hml.symm) ht0 d_C_text_73 d_C_text_76 d_C_text_77 d_C_text_79 d_C_text_82 hlocks ⟨Nat.le_of_ble_eq_true rfl, Nat.le_of_ble_eq_true rfl⟩ ⟨Nat.le_of_ble_eq_true rfl, Nat.le_of_ble_eq_true rfl⟩ ⟨Nat.le_of_ble_eq_true rfl, Nat.le_of_ble_eq_true rfl⟩
set_option maxHeartbeats 4000000 in
set_option maxRecDepth 100000 in
theorem f_C_clear_R (l : Launch) (a0 : Array Value) (s0 : State) (G : G0 l a0 s0) (D : va_G) (T : Nat → ClassId) (xo : Nat) (B : Nat → Prop) : Met l y_C_clear (.code y_C_clear b_C_clear 2 (some .int) :: lw_g) ({ frames := 60, cells := 8, slots := 256, locals := 3000 }) (va_Pc (.ref xo :: []) (cPre s0 (fun U => CFrD s0 D T xo B U ∧ ∀ q, U.heap.size ≤ q → B q))) (va_Qi (fun r (_ : Unit) => r = 0) (fun _ _ => True) B) 8 256 B := by
  refine Met.ofW (cc := b_C_clear) (maxL := 2) (ret := (some .int)) (by decide) rfl ?_
  intro p e s m args below meth c s₁ B9 hml hv
  obtain ⟨rfl, hxB, ⟨hBs, hK, h, hg, sr, mc, gv, gl, ad, xf, nf, fo, mf, gf, lf, ⟨hxo, hsr, hRd⟩, ⟨hmc, hm0, hm7, hm8, hm9, hm10, hm11⟩, ⟨hgl, hlf⟩, ⟨hgv, hgf⟩⟩, hge⟩ := hv
  have hx := B9.exec
  have hb := B9.bytes
  have hr := B9.returns
  have hlocks := B9.notSynchronized
  have hts := atoms_spec (ws := (.code y_C_clear b_C_clear 2 (some .int) :: lw_g)) B9.pre
  have hgt : ∀ w ∈ lw_g, w.before _ s = true := fun w h => hts w (List.mem_cons_of_mem _ h)
  have hown : s.vm.findClass R_C = some m.cls := findClass_of_methodNamed B9.named
  have K : cK D T R_C s m _ := ⟨hgt, hown, hK⟩
  have ht0 : c.exceptionTable.isEmpty = true := by
    obtain ⟨meth9, c9, hm, hc, -, -, -, -, ht, -⟩ := Cond.code_spec B9.named (hts _ List.mem_cons_self)
    cases B9.method.symm.trans hm
    cases (Stand.of_body B9).code.symm.trans hc
    exact ht
  have hS : va_S B s.heap s.heap [] := va_S.rf
  have hl := lv_entry ([.ref xo]) (n := 2) (Nat.le_of_ble_eq_true rfl)
  rw [lg_entry_eq]
  generalize (lg_sl ([.ref xo]) ++ List.replicate (2 - (lg_sl ([.ref xo])).length) Slot.unset).toArray = ls at hl ⊢
  have hl : lv_has ls 2 [(0, .ref xo)] := hl
  obtain ⟨sq, sv, hstr⟩ := G.2.2.2.1
  refine lv_aload_n hx hb d_C_clear_0 rfl (lv_at hl 0 rfl) ?_
  refine g_get hx hb hgt in_C hown hK hg hxo rfl 2 (by decide) (hgt _ k_C_f23) (fun _ h9 => h9) (v := .ref mc) rfl d_C_clear_1 ?_
  refine g_get hx hb hgt in_Machine hown hK hg hmc rfl 7 (by decide) (hgt _ k_C_f34) (fun _ h9 => h9) (v := .int (0)) hm7 d_C_clear_4 ?_
  refine lv_iconst (v := 1) hx hb d_C_clear_7 (by decide) ?_
  refine lv_icmp_ne (tgt := 21) hx hb d_C_clear_8 (by decide) (fun c_8 => ?_) (fun c_8 => absurd c_8 (by decide))
  refine lv_aload_n hx hb d_C_clear_21 rfl (lv_at hl 0 rfl) ?_
  refine g_get hx hb hgt in_C hown hK hg hxo rfl 4 (by decide) (hgt _ k_C_f58) (fun _ h9 => h9) (v := .int (0)) rfl d_C_clear_22 ?_
  refine lv_istore_n (lv' := [(1, .int (0)), (0, .ref xo)]) hx hb d_C_clear_25 rfl hl (by decide) rfl (fun ls hl => ?_)
  refine lv_aload_n hx hb d_C_clear_26 rfl (lv_at hl 1 rfl) ?_
  refine lv_iconst (v := 0) hx hb d_C_clear_27 (by decide) ?_
  refine g_put hx hb hgt in_C ty_C ty_C_ok nm_C hown hK hg hS hxo rfl 4 (by decide) (hgt _ k_C_f58) (fun _ h9 => h9) rfl (ty := .int) (by decide +kernel) rfl rfl (by show 4 < 6; decide) d_C_clear_28 (fun H locs hg hS => ?_)
  have hxo1 : va_up h xo (some (.inr (1, [.ref sr, .ref (ad 0 0), .ref mc, .ref gv, .int 0, .int 0]))) xo = some (.inr (1, [.ref sr, .ref (ad 0 0), .ref mc, .ref gv, .int 0, .int 0])) := va_up_self _ _ _
  have hsr1 : va_up h xo (some (.inr (1, [.ref sr, .ref (ad 0 0), .ref mc, .ref gv, .int 0, .int 0]))) sr = some (.inl (T 3, 128, .inl (fun _ => 0))) := g_up _ hxo hsr (by simp)
  have hRd1 : RdW T (va_up h xo (some (.inr (1, [.ref sr, .ref (ad 0 0), .ref mc, .ref gv, .int 0, .int 0])))) ad (fun _ => 0) xf nf fo := hRd.xo hxo _
  replace hg : gw D classes B (va_up h xo (some (.inr (1, [.ref sr, .ref (ad 0 0), .ref mc, .ref gv, .int 0, .int 0])))) H := hg
  generalize va_up h xo (some (.inr (1, [.ref sr, .ref (ad 0 0), .ref mc, .ref gv, .int 0, .int 0]))) = h1 at hg hxo1 hsr1 hRd1
  refine lv_aload_n hx hb d_C_clear_31 rfl (lv_at hl 1 rfl) ?_
  refine g_get hx hb hgt in_C hown hK hg hxo1 rfl 1 (by decide) (hgt _ k_C_f16) (fun _ h9 => h9) (v := .ref (ad 0 0)) rfl d_C_clear_32 ?_
  refine lv_aload_n hx hb d_C_clear_35 rfl (lv_at hl 1 rfl) ?_
  refine g_get hx hb hgt in_C hown hK hg hxo1 rfl 0 (by decide) (hgt _ k_C_f9) (fun _ h9 => h9) (v := .ref sr) rfl d_C_clear_36 ?_
  refine lv_iconst (v := 0) hx hb d_C_clear_39 (by decide) ?_
  have hM : RW D T B h1 ad (fun _ => 0) xf nf fo H := ⟨h1, hg, hRd1, keep.rf h1⟩
  refine lv_as (v := nI 0) rfl ?_
  refine va_calli (R_run (As := [.ref sr, .int (nI 0)]) (rest := []) (n := 2) hx hb hml K hM hxB hBs hS (fun _ q => q.1) (C := R_Reader) (ci := 2) rfl (e_Reader_read l s0 D T B hBs _ ad (fun _ => 0) xf nf fo sq sv hstr sr (fun _ => 0) hsr1 0 (by decide) (fun i hi => absurd hi (Nat.not_lt_zero i))) kc_Reader_read k_C_m54 ki_Reader_read ke_Reader_read k_Reader_ini rfl rfl (by decide +kernel) ⟨Nat.le_of_ble_eq_true rfl, Nat.le_of_ble_eq_true rfl⟩ rfl hl.1 rfl (lv_room (Nat.le_of_ble_eq_true rfl)) d_C_clear_40 ⟨Nat.le_of_ble_eq_true rfl, Nat.le_of_ble_eq_true rfl⟩) hS (fun q _ h => h) (fun q h => h) (fun r S t H1 locs1 ht hvm hw hB hz hk9 hS => ?_)
  replace hM : RW D T B h1 ad S.1 S.2.1 S.2.2.1 S.2.2.2 H1 := by rw [← ht]; exact hB
  refine lv_pop hx hb d_C_clear_43 rfl ?_
  refine lv_iload_n hx hb d_C_clear_44 rfl (lv_at hl 0 rfl) ?_
  refine W.widen (k := 8) (n := 256) (Nat.le_of_ble_eq_true rfl) (Nat.le_of_ble_eq_true rfl) ?_
  exact W.iret (v := (0)) hx hb hr (fun t ht _ => ⟨⟨_, (), rfl, rfl, trivial⟩, hS.F ht⟩) hS.2.2 d_C_clear_45
set_option maxHeartbeats 4000000 in
set_option maxRecDepth 100000 in
theorem f_Place_hold (l : Launch) (D : va_G) (T : Nat → ClassId) (B : Nat → Prop) (h : Nat → Option va_E) (q : Nat) (v : Int32) (hq : h q = some (.inr (6, pl0))) : Met l y_Place_hold (.code y_Place_hold b_Place_hold 3 none :: lw_g) ({ frames := 0, cells := 0, slots := 0, locals := 0 }) (va_Pc [.ref q, .int 48, .int v] (fun U => gw D classes B h U.heap ∧ va_K D classes (tyl T) U)) (va_Qv (fun _ : Unit => True) (fun _ t => ∃ fs, gw D classes B (va_up h q (some (.inr (6, fs)))) t.heap) B) 0 0 B := by
  refine Met.ofW (cc := b_Place_hold) (maxL := 3) (ret := none) (by decide) rfl ?_
  intro p e s m args below meth c s₁ B9 hml hv
  obtain ⟨rfl, hg, hK⟩ := hv
  have hx := B9.exec
  have hb := B9.bytes
  have hr := B9.returns
  have hts := atoms_spec (ws := (.code y_Place_hold b_Place_hold 3 none :: lw_g)) B9.pre
  have hgt : ∀ w ∈ lw_g, w.before _ s = true := fun w h => hts w (List.mem_cons_of_mem _ h)
  have hown : s.vm.findClass R_Place = some m.cls := findClass_of_methodNamed B9.named
  have hS : va_S B s.heap s.heap [] := va_S.rf
  have hl := lv_entry ([.ref q, .int 48, .int v]) (n := 3) (Nat.le_of_ble_eq_true rfl)
  rw [lg_entry_eq]
  generalize (lg_sl ([.ref q, .int 48, .int v]) ++ List.replicate (3 - (lg_sl ([.ref q, .int 48, .int v])).length) Slot.unset).toArray = ls at hl ⊢
  have hl : lv_has ls 3 [(0, .ref q), (1, .int 48), (2, .int v)] := hl
  refine lv_aload_n hx hb d_Place_hold_0 rfl (lv_at hl 0 rfl) ?_
  refine lv_iload_n hx hb d_Place_hold_1 rfl (lv_at hl 1 rfl) ?_
  refine g_put hx hb hgt in_Place ty_Place ty_Place_ok nm_Place hown hK hg hS hq rfl 0 (by decide) (hgt _ k_Place_f11) (fun _ h9 => h9) rfl (ty := .char) (by decide +kernel) (by decide) (by decide) (by show 0 < 5; decide) d_Place_hold_2 (fun H locs hg hS => ?_)
  refine lv_aload_n hx hb d_Place_hold_5 rfl (lv_at hl 0 rfl) ?_
  refine lv_iload_n hx hb d_Place_hold_6 rfl (lv_at hl 2 rfl) ?_
  refine g_put hx hb hgt in_Place ty_Place ty_Place_ok nm_Place hown hK hg hS (va_up_self _ _ _) rfl 1 (by decide) (hgt _ k_Place_f15) (fun _ h9 => h9) rfl (ty := .int) (by decide +kernel) rfl rfl (by show 1 < 5; decide) d_Place_hold_7 (fun H locs hg hS => ?_)
  rw [bx_uu] at hg
  refine lv_aload_n hx hb d_Place_hold_10 rfl (lv_at hl 0 rfl) ?_
  refine lv_null hx hb d_Place_hold_11 ?_
  refine g_put hx hb hgt in_Place ty_Place ty_Place_ok nm_Place hown hK hg hS (va_up_self _ _ _) rfl 2 (by decide) (hgt _ k_Place_f19) (fun _ h9 => h9) rfl (ty := .object "ContinuationCore$Pair") (by decide +kernel) rfl rfl (by show 2 < 5; decide) d_Place_hold_12 (fun H locs hg hS => ?_)
  rw [bx_uu] at hg
  refine lv_aload_n hx hb d_Place_hold_15 rfl (lv_at hl 0 rfl) ?_
  refine lv_null hx hb d_Place_hold_16 ?_
  refine g_put hx hb hgt in_Place ty_Place ty_Place_ok nm_Place hown hK hg hS (va_up_self _ _ _) rfl 3 (by decide) (hgt _ k_Place_f23) (fun _ h9 => h9) rfl (ty := .object "ContinuationCore$Closure") (by decide +kernel) rfl rfl (by show 3 < 5; decide) d_Place_hold_17 (fun H locs hg hS => ?_)
  rw [bx_uu] at hg
  refine lv_aload_n hx hb d_Place_hold_20 rfl (lv_at hl 0 rfl) ?_
  refine lv_null hx hb d_Place_hold_21 ?_
  refine g_put hx hb hgt in_Place ty_Place ty_Place_ok nm_Place hown hK hg hS (va_up_self _ _ _) rfl 4 (by decide) (hgt _ k_Place_f27) (fun _ h9 => h9) rfl (ty := .object "ContinuationCore$Waiting") (by decide +kernel) rfl rfl (by show 4 < 5; decide) d_Place_hold_22 (fun H locs hg hS => ?_)
  rw [bx_uu] at hg
  exact W.vret hx hb hr (fun t ht _ => ⟨⟨(), rfl, trivial, _, by rw [ht]; exact hg⟩, hS.F ht⟩) hS.2.2 d_Place_hold_25
set_option maxHeartbeats 4000000 in
set_option maxRecDepth 100000 in
theorem f_C_given_R (l : Launch) (a0 : Array Value) (s0 : State) (G : G0 l a0 s0) (D : va_G) (T : Nat → ClassId) (xo : Nat) (B : Nat → Prop) (k v : Int32) (hk : ¬ (k < 0 ∨ ¬ k ≤ 25)) : Met l y_C_given (.code y_C_given b_C_given 3 (some .int) :: lw_g) ({ frames := 60, cells := 8, slots := 256, locals := 3000 }) (va_Pc (.ref xo :: [.int k, .int v]) (cPre s0 (fun U => CFrD s0 D T xo B U ∧ ∀ q, U.heap.size ≤ q → B q))) (va_Qi (fun r (_ : Unit) => r = 1) (fun _ _ => True) B) 8 256 B := by
  refine Met.ofW (cc := b_C_given) (maxL := 3) (ret := (some .int)) (by decide) rfl ?_
  intro p e s m args below meth c s₁ B9 hml hv
  obtain ⟨rfl, hxB, ⟨hBs, hK, h, hg, sr, mc, gv, gl, ad, xf, nf, fo, mf, gf, lf, ⟨hxo, hsr, hRd⟩, ⟨hmc, hm0, hm7, hm8, hm9, hm10, hm11⟩, ⟨hgl, hlf⟩, ⟨hgv, hgf⟩⟩, hge⟩ := hv
  have hx := B9.exec
  have hb := B9.bytes
  have hr := B9.returns
  have hlocks := B9.notSynchronized
  have hts := atoms_spec (ws := (.code y_C_given b_C_given 3 (some .int) :: lw_g)) B9.pre
  have hgt : ∀ w ∈ lw_g, w.before _ s = true := fun w h => hts w (List.mem_cons_of_mem _ h)
  have hown : s.vm.findClass R_C = some m.cls := findClass_of_methodNamed B9.named
  have K : cK D T R_C s m _ := ⟨hgt, hown, hK⟩
  have ht0 : c.exceptionTable.isEmpty = true := by
    obtain ⟨meth9, c9, hm, hc, -, -, -, -, ht, -⟩ := Cond.code_spec B9.named (hts _ List.mem_cons_self)
    cases B9.method.symm.trans hm
    cases (Stand.of_body B9).code.symm.trans hc
    exact ht
  have hS : va_S B s.heap s.heap [] := va_S.rf
  have hl := lv_entry ([.ref xo, .int k, .int v]) (n := 3) (Nat.le_of_ble_eq_true rfl)
  rw [lg_entry_eq]
  generalize (lg_sl ([.ref xo, .int k, .int v]) ++ List.replicate (3 - (lg_sl ([.ref xo, .int k, .int v])).length) Slot.unset).toArray = ls at hl ⊢
  have hl : lv_has ls 3 [(0, .ref xo), (1, .int k), (2, .int v)] := hl
  refine lv_iload_n hx hb d_C_given_0 rfl (lv_at hl 1 rfl) ?_
  refine va_calli (S_run (As := [.int k]) (rest := []) (n := 1) hx hb hml K (e_C_isLetter l k) kc_C_isLetter k_C_m67 ks_C_isLetter k_C_ini rfl rfl (by decide +kernel) ⟨Nat.le_of_ble_eq_true rfl, Nat.le_of_ble_eq_true rfl⟩ rfl hl.1 rfl (lv_room (Nat.le_of_ble_eq_true rfl)) d_C_given_1 ⟨Nat.le_of_ble_eq_true rfl, Nat.le_of_ble_eq_true rfl⟩) hS (fun q _ h => h.elim) (fun q h => h.elim) (fun r S t H1 locs1 ht hvm hw hB hz hk9 hS => ?_)
  replace hg := gw.kept hg (A2 := fun _ => False) hk9 (fun _ _ z => z)
  obtain rfl : r = 1 := hw.elim (fun z => z.1) (fun z => absurd (z.2.imp id (fun w => fun q => absurd w ((i_gel (a := 25) (b := 26) (by decide)).mpr q))) hk)
  refine lv_if_ne (tgt := 17) hx hb d_C_given_4 (by decide) (fun c_4 => ?_) (fun c_4 => absurd c_4 (by decide))
  refine lv_aload_n hx hb d_C_given_17 rfl (lv_at hl 0 rfl) ?_
  refine g_get hx hb hgt in_C hown hK hg hxo rfl 2 (by decide) (hgt _ k_C_f23) (fun _ h9 => h9) (v := .ref mc) rfl d_C_given_18 ?_
  refine g_get hx hb hgt in_Machine hown hK hg hmc rfl 7 (by decide) (hgt _ k_C_f34) (fun _ h9 => h9) (v := .int (0)) hm7 d_C_given_21 ?_
  refine lv_iconst (v := 1) hx hb d_C_given_24 (by decide) ?_
  refine lv_icmp_ne (tgt := 38) hx hb d_C_given_25 (by decide) (fun c_25 => ?_) (fun c_25 => absurd c_25 (by decide))
  refine lv_aload_n hx hb d_C_given_38 rfl (lv_at hl 0 rfl) ?_
  refine g_get hx hb hgt in_C hown hK hg hxo rfl 3 (by decide) (hgt _ k_C_f29) (fun _ h9 => h9) (v := .ref gv) rfl d_C_given_39 ?_
  refine lv_iload_n hx hb d_C_given_42 rfl (lv_at hl 1 rfl) ?_
  obtain ⟨j, hj, rfl⟩ := nI_of2 (x := k) (M := 25) (n := 25) (by decide) (fun z => hk (Or.inl z)) (Decidable.not_not.mp (fun z => hk (Or.inr z)))
  obtain ⟨pq, e1, hpq⟩ := hgf j (by omega)
  refine g_aldq hx hb hK hg 7 (C := R_Place) hgv rfl (vp_in_nI (by omega) (by decide)) d_C_given_43 ?_
  rw [nI_clamp (by omega), e1]
  show W p l e _ s m _ below meth c _ _ _ _ _ (F0 m 44 ls [.ref pq])
  refine g_get hx hb hgt in_Place hown hK hg hpq rfl 0 (by decide) (hgt _ k_C_f73) (fun _ h9 => h9) (v := .int 32) rfl d_C_given_44 ?_
  refine lv_bipush (v := 32) hx hb d_C_given_47 (by decide) ?_
  refine lv_icmp_ne (tgt := 62) hx hb d_C_given_49 (by decide) (fun c_49 => absurd rfl c_49) (fun c_49 => ?_)
  refine lv_aload_n hx hb d_C_given_52 rfl (lv_at hl 0 rfl) ?_
  refine lv_dup hx hb d_C_given_53 rfl ?_
  refine g_get hx hb hgt in_C hown hK hg hxo rfl 5 (by decide) (hgt _ k_C_f77) (fun _ h9 => h9) (v := .int (0)) rfl d_C_given_54 ?_
  refine lv_iconst (v := 1) hx hb d_C_given_57 (by decide) ?_
  refine lv_iadd hx hb d_C_given_58 ?_
  refine lv_as (v := 1) (by decide) ?_
  refine g_put hx hb hgt in_C ty_C ty_C_ok nm_C hown hK hg hS hxo rfl 5 (by decide) (hgt _ k_C_f77) (fun _ h9 => h9) rfl (ty := .int) (by decide +kernel) rfl rfl (by show 5 < 6; decide) d_C_given_59 (fun H locs hg hS => ?_)
  replace hg : gw D classes B (va_up h xo (some (.inr (1, [.ref sr, .ref (ad 0 0), .ref mc, .ref gv, .int 0, .int 1])))) H := hg
  have hxo1 : va_up h xo (some (.inr (1, [.ref sr, .ref (ad 0 0), .ref mc, .ref gv, .int 0, .int 1]))) xo = some (.inr (1, [.ref sr, .ref (ad 0 0), .ref mc, .ref gv, .int 0, .int 1])) := va_up_self _ _ _
  have hgv1 : va_up h xo (some (.inr (1, [.ref sr, .ref (ad 0 0), .ref mc, .ref gv, .int 0, .int 1]))) gv = some (.inl (T 7, 26, vQ gf)) := g_up _ hxo hgv (by simp)
  have hpq1 : va_up h xo (some (.inr (1, [.ref sr, .ref (ad 0 0), .ref mc, .ref gv, .int 0, .int 1]))) pq = some (.inr (6, pl0)) := g_up _ hxo hpq (by simp)
  generalize va_up h xo (some (.inr (1, [.ref sr, .ref (ad 0 0), .ref mc, .ref gv, .int 0, .int 1]))) = h1 at hg hxo1 hgv1 hpq1
  refine lv_aload_n hx hb d_C_given_62 rfl (lv_at hl 0 rfl) ?_
  refine g_get hx hb hgt in_C hown hK hg hxo1 rfl 3 (by decide) (hgt _ k_C_f29) (fun _ h9 => h9) (v := .ref gv) rfl d_C_given_63 ?_
  refine lv_iload_n hx hb d_C_given_66 rfl (lv_at hl 1 rfl) ?_
  refine g_aldq hx hb hK hg 7 (C := R_Place) hgv1 rfl (vp_in_nI (by omega) (by decide)) d_C_given_67 ?_
  rw [nI_clamp (by omega), e1]
  show W p l e _ s m _ below meth c _ _ _ _ _ (F0 m 68 ls [.ref pq])
  refine lv_bipush (v := 48) hx hb d_C_given_68 (by decide) ?_
  refine lv_iload_n hx hb d_C_given_70 rfl (lv_at hl 2 rfl) ?_
  refine va_callv (V_run (C := R_Place) (As := [.int 48, .int v]) (rest := []) (n := 2) hx hb hml hgt hown (Wd := fun U => gw D classes B h1 U.heap ∧ va_K D classes (tyl T) U) (fun U U2 h1 h2 h3 => ⟨by rw [h1]; exact h3.1, va_K.moved h2 h3.2⟩) (va_recv hK (hg.one hpq1) (q0 := 0) (q := (R_Place, T_Place, 5)) rfl rfl) (fun U h1 h2 => ⟨by rw [h1]; exact hg, va_K.moved h2.alike hK⟩) (f_Place_hold l D T B h1 pq v hpq1) kc_Place_hold k_C_m80 ki_Place_hold ke_Place_hold k_Place_ini rfl rfl (by decide +kernel) ⟨Nat.le_of_ble_eq_true rfl, Nat.le_of_ble_eq_true rfl⟩ rfl hl.1 rfl (lv_room (Nat.le_of_ble_eq_true rfl)) d_C_given_71 ⟨Nat.le_of_ble_eq_true rfl, Nat.le_of_ble_eq_true rfl⟩) hS (fun q _ h => h) (fun q h => h) (fun S t H1 locs1 ht hvm hw hB hz hk9 hS => ?_)
  obtain ⟨fs9, hg⟩ := hB
  rw [ht] at hg
  have hxo2 : va_up h1 pq (some (.inr (6, fs9))) xo = some (.inr (1, [.ref sr, .ref (ad 0 0), .ref mc, .ref gv, .int 0, .int 1])) := g_up _ hpq1 hxo1 (by simp)
  refine lv_aload_n hx hb d_C_given_74 rfl (lv_at hl 0 rfl) ?_
  refine g_get hx hb hgt in_C hown hK hg hxo2 rfl 5 (by decide) (hgt _ k_C_f77) (fun _ h9 => h9) (v := .int (1)) rfl d_C_given_75 ?_
  refine W.widen (k := 8) (n := 256) (Nat.le_of_ble_eq_true rfl) (Nat.le_of_ble_eq_true rfl) ?_
  exact W.iret (v := (1)) hx hb hr (fun t ht _ => ⟨⟨_, (), rfl, rfl, trivial⟩, hS.F ht⟩) hS.2.2 d_C_given_78
