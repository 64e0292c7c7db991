section SROWS
variable {p : Program} {l : Launch} {e : Env} {R : Room} {s : State} {m : MethodId} {args : Array Value} {below : List Frame} {meth : Method} {c : Code} {H : Heap} {locs : List Loc} {cells slots : Nat} {Q : State → Prop} {cc : ByteArray} {pc : Nat} {ls : Array Slot} {rest : List Value} {D : va_G} {T : Nat → ClassId} {A : Nat → Prop} {H0 : Heap} {h0 : Nat → Option va_E} {ad : Nat → Nat → Nat} {rf : Nat → Int32} {xf nf : Nat → Nat → Int32} {fo : Nat → Option Nat} {own : String} {sr : Nat} {tx : Nat → Int32}
theorem s_len (hx : p.tables.exec = Jvm.exec) (hb : c.code = cc) (K : cK D T own s m args) (hM : RW D T A h0 ad rf xf nf fo H) (hsr : h0 sr = some (.inl (T 3, 128, .inl tx))) (hdg : decode cc pc = .ok (.arraylength, 1))
    (kk : W p l e R s m args below meth c H locs cells slots Q (F0 m (pc + 1) ls (.int 128 :: rest))) : W p l e R s m args below meth c H locs cells slots Q (F0 m pc ls (.ref sr :: rest)) := by
  obtain ⟨h, q1, q2, q3⟩ := hM
  exact g_alen hx hb K.2.2 q1 3 (q3 sr _ hsr rfl) (ty := .char) rfl rfl hdg kk
theorem s_ald (hx : p.tables.exec = Jvm.exec) (hb : c.code = cc) (K : cK D T own s m args) (hM : RW D T A h0 ad rf xf nf fo H) (hsr : h0 sr = some (.inl (T 3, 128, .inl tx))) {i : Nat} (hi : i < 128) {v : Int32} (hv : tx i = v) (hdg : decode cc pc = .ok (.caload, 1))
    (kk : W p l e R s m args below meth c H locs cells slots Q (F0 m (pc + 1) ls (.int v :: rest))) : W p l e R s m args below meth c H locs cells slots Q (F0 m pc ls (.int (nI i) :: .ref sr :: rest)) := by
  obtain ⟨h, q1, q2, q3⟩ := hM
  refine g_cald hx hb K.2.2 q1 3 (q3 sr _ hsr rfl) rfl (vp_in_nI hi (by decide)) hdg ?_
  rw [nI_clamp (by omega), hv]; exact kk
end SROWS
set_option maxHeartbeats 4000000 in
set_option maxRecDepth 100000 in
theorem e_Reader_isWhole (l : Launch) (s0 : State) (D : va_G) (T : Nat → ClassId) (A : Nat → Prop) (hA : ∀ q, A q → s0.heap.size ≤ q) (h0 : Nat → Option va_E) (ad : Nat → Nat → Nat) (rf : Nat → Int32) (xf nf : Nat → Nat → Int32) (fo : Nat → Option Nat) (hu : rf 5 = 0) :
    Met l y_Reader_isWhole (.code y_Reader_isWhole b_Reader_isWhole 1 (some .boolean) :: lw_g) ({ frames := 0, cells := 0, slots := 0, locals := 0 }) (va_Pc [.ref (ad 0 0)] (rP s0 D T A h0 ad rf xf nf fo)) (va_Qi (fun r S => r = 0 ∧ S = (rf, xf, nf, fo)) (rB D T A h0 ad) A) 0 0 A := by
  refine Met.ofW (cc := b_Reader_isWhole) (maxL := 1) (ret := (some .boolean)) (by decide) rfl ?_
  intro p e s m args below meth c s₁ B hml hv
  obtain ⟨rfl, hxB, hM, hK⟩ := hv
  have hx := B.exec
  have hb := B.bytes
  have hr := B.returns
  have hlocks := B.notSynchronized
  have hts := atoms_spec (ws := (.code y_Reader_isWhole b_Reader_isWhole 1 (some .boolean) :: lw_g)) B.pre
  have hown : s.vm.findClass R_Reader = some m.cls := findClass_of_methodNamed B.named
  have K : cK D T R_Reader s m _ := ⟨fun w h => hts w (List.mem_cons_of_mem _ h), hown, hK⟩
  have hS : va_S A s.heap s.heap [] := va_S.rf
  have hl := lv_entry ([.ref (ad 0 0)]) (n := 1) (Nat.le_of_ble_eq_true rfl)
  rw [lg_entry_eq]
  generalize (lg_sl ([.ref (ad 0 0)]) ++ List.replicate (1 - (lg_sl ([.ref (ad 0 0)])).length) Slot.unset).toArray = ls at hl ⊢
  have hl : lv_has ls 1 [(0, .ref (ad 0 0))] := hl
  refine lv_aload_n hx hb d_Reader_isWhole_0 rfl (lv_at hl 0 rfl) ?_
  refine R_get hx hb K hM 5 (v := .int (0)) (rd5 hu) k_Reader_f21 d_Reader_isWhole_1 (kk := ?_)
  refine lv_if_le (tgt := 18) hx hb d_Reader_isWhole_4 (by decide) (fun c_4 => ?_) (fun c_4 => absurd (by decide) c_4)
  refine lv_iconst (v := 0) hx hb d_Reader_isWhole_18 (by decide) ?_
  refine W.zret (v := (0)) hx hb hr rfl (r_endi hM hS ?_) hS.2.2 d_Reader_isWhole_19
  exact ⟨rfl, rfl⟩
set_option maxHeartbeats 4000000 in
set_option maxRecDepth 100000 in
theorem e_Reader_read (l : Launch) (s0 : State) (D : va_G) (T : Nat → ClassId) (A : Nat → Prop) (hA : ∀ q, A q → s0.heap.size ≤ q) (h0 : Nat → Option va_E) (ad : Nat → Nat → Nat) (rf : Nat → Int32) (xf nf : Nat → Nat → Int32) (fo : Nat → Option Nat) (sq sv : Nat) (hstr : strW sq sv s0 ∧ vk_R R_Reader 63 fsT sq s0) (sr : Nat) (tx : Nat → Int32) (hsr : h0 sr = some (.inl (T 3, 128, .inl tx))) (L : Nat) (hL : L ≤ 8) (htx : ∀ i, i < L → ∃ sg, sg < 128 ∧ tx i = nI sg) :
    Met l y_Reader_read (.code y_Reader_read b_Reader_read 4 (some .boolean) :: lw_g) ({ frames := 6, cells := 0, slots := 0, locals := 146 }) (va_Pc [.ref (ad 0 0), .ref sr, .int (nI L)] (rP s0 D T A h0 ad rf xf nf fo)) (va_Qi (fun r (_ : SS) => (r = 0 ∧ md_scan tx L = none) ∨ (r = 1 ∧ ∃ t, md_scan tx L = some t)) (rB D T A h0 ad) A) 0 0 A := by
  refine Met.ofW (cc := b_Reader_read) (maxL := 4) (ret := (some .boolean)) (by decide) rfl ?_
  intro p e s m args below meth c s₁ B hml hv
  obtain ⟨rfl, hxB, hM, hK⟩ := hv
  have hx := B.exec
  have hb := B.bytes
  have hr := B.returns
  have hlocks := B.notSynchronized
  have hts := atoms_spec (ws := (.code y_Reader_read b_Reader_read 4 (some .boolean) :: lw_g)) B.pre
  have hown : s.vm.findClass R_Reader = some m.cls := findClass_of_methodNamed B.named
  have K : cK D T R_Reader s m _ := ⟨fun w h => hts w (List.mem_cons_of_mem _ h), hown, hK⟩
  have hS : va_S A s.heap s.heap [] := va_S.rf
  have hl := lv_entry ([.ref (ad 0 0), .ref sr, .int (nI L)]) (n := 4) (Nat.le_of_ble_eq_true rfl)
  rw [lg_entry_eq]
  generalize (lg_sl ([.ref (ad 0 0), .ref sr, .int (nI L)]) ++ List.replicate (4 - (lg_sl ([.ref (ad 0 0), .ref sr, .int (nI L)])).length) Slot.unset).toArray = ls at hl ⊢
  have hl : lv_has ls 4 [(0, .ref (ad 0 0)), (1, .ref sr), (2, .int (nI L))] := hl
  refine lv_aload_n hx hb d_Reader_read_0 rfl (lv_at hl 0 rfl) ?_
  refine lv_iconst (v := 0) hx hb d_Reader_read_1 (by decide) ?_
  refine R_put hx hb K hM hS 5 k_Reader_f21 d_Reader_read_2 (kk := fun H locs hM hS => ?_)
  refine lv_aload_n hx hb d_Reader_read_5 rfl (lv_at hl 0 rfl) ?_
  refine lv_iconst (v := 0) hx hb d_Reader_read_6 (by decide) ?_
  refine R_put hx hb K hM hS 2 k_Reader_f25 d_Reader_read_7 (kk := fun H locs hM hS => ?_)
  refine lv_aload_n hx hb d_Reader_read_10 rfl (lv_at hl 0 rfl) ?_
  refine lv_iconst (v := 3) hx hb d_Reader_read_11 (by decide) ?_
  refine R_put hx hb K hM hS 3 k_Reader_f28 d_Reader_read_12 (kk := fun H locs hM hS => ?_)
  refine lv_aload_n hx hb d_Reader_read_15 rfl (lv_at hl 0 rfl) ?_
  refine lv_iconst (v := 0) hx hb d_Reader_read_16 (by decide) ?_
  refine R_put hx hb K hM hS 4 k_Reader_f31 d_Reader_read_17 (kk := fun H locs hM hS => ?_)
  refine lv_iload_n hx hb d_Reader_read_20 rfl (lv_at hl 2 rfl) ?_
  refine lv_bipush (v := 120) hx hb d_Reader_read_21 (by decide) ?_
  refine lv_icmp_gt (tgt := 32) hx hb d_Reader_read_23 (by decide) (fun c_23 => absurd c_23 (nI_nlt (a := 120) (b := L) (by omega) (by decide))) (fun c_23 => ?_)
  refine lv_iload_n hx hb d_Reader_read_26 rfl (lv_at hl 2 rfl) ?_
  refine lv_aload_n hx hb d_Reader_read_27 rfl (lv_at hl 1 rfl) ?_
  refine s_len hx hb K hM hsr d_Reader_read_28 ?_
  refine lv_icmp_le (tgt := 34) hx hb d_Reader_read_29 (by decide) (fun c_29 => ?_) (fun c_29 => absurd (nI_le (a := L) (b := 128) (by omega) (by decide)) c_29)
  refine lv_iconst (v := 0) hx hb d_Reader_read_34 (by decide) ?_
  refine lv_as (v := nI 0) rfl ?_
  refine lv_istore_n (lv' := [(3, .int (nI 0)), (0, .ref (ad 0 0)), (1, .ref sr), (2, .int (nI L))]) hx hb d_Reader_read_35 rfl hl (by decide) rfl (fun ls hl => ?_)
  have loop : ∀ (z i : Nat) (S : SS) (t : MT) (H : Heap) (locs : List Loc) (ls : Array Slot), i + z = L → md_scan tx i = some t → t.2.2.1 ≤ i → cQt ad S t → RW D T A h0 ad S.1 S.2.1 S.2.2.1 S.2.2.2 H → va_S A s.heap H locs → lv_has ls 4 [(3, .int (nI i)), (0, .ref (ad 0 0)), (1, .ref sr), (2, .int (nI L))] → W p l e (headSpec (.code y_Reader_read b_Reader_read 4 (some .boolean) :: lw_g) ({ frames := 6, cells := 0, slots := 0, locals := 146 })).room s m #[Value.ref (ad 0 0), Value.ref sr, Value.int (nI L)] below meth c H locs 0 0 (MQ below (va_Qi (fun r (_ : SS) => (r = 0 ∧ md_scan tx L = none) ∨ (r = 1 ∧ ∃ t, md_scan tx L = some t)) (rB D T A h0 ad) A) #[Value.ref (ad 0 0), Value.ref sr, Value.int (nI L)] s 0 0 A) (F0 m 36 ls []) := by
    intro z
    induction z with
    | zero =>
      intro i S t H locs ls hi hsc hn hq hM hS hl
      obtain rfl : i = L := by omega
      refine lv_iload_n hx hb d_Reader_read_36 rfl (lv_at hl 0 rfl) ?_
      refine lv_iload_n hx hb d_Reader_read_37 rfl (lv_at hl 3 rfl) ?_
      refine lv_icmp_ge (tgt := 59) hx hb d_Reader_read_38 (by decide) (fun c_38 => ?_) (fun c_38 => absurd (nI_le (Nat.le_refl _) (by omega)) c_38)
      refine lv_iconst (v := 1) hx hb d_Reader_read_59 (by decide) ?_
      refine W.zret (v := (1)) hx hb hr rfl (r_endi hM hS ?_) hS.2.2 d_Reader_read_60
      exact Or.inr ⟨rfl, t, hsc⟩
    | succ z ih =>
      intro i S t H locs ls hi hsc hn hq hM hS hl
      have hiL : i < L := by omega
      obtain ⟨sg, hsg, hv⟩ := htx i hiL
      obtain ⟨d, md, n, pt, fw, mo, nm, dg⟩ := t
      obtain ⟨op, kd, hQ⟩ := hq
      obtain ⟨rf2, xf2, nf2, fo2⟩ := S
      dsimp only at hM hn
      refine lv_iload_n hx hb d_Reader_read_36 rfl (lv_at hl 0 rfl) ?_
      refine lv_iload_n hx hb d_Reader_read_37 rfl (lv_at hl 3 rfl) ?_
      refine lv_icmp_ge (tgt := 59) hx hb d_Reader_read_38 (by decide) (fun c_38 => absurd c_38 (nI_ge hiL (by omega))) (fun c_38 => ?_)
      refine lv_aload_n hx hb d_Reader_read_41 rfl (lv_at hl 1 rfl) ?_
      refine lv_aload_n hx hb d_Reader_read_42 rfl (lv_at hl 2 rfl) ?_
      refine lv_iload_n hx hb d_Reader_read_43 rfl (lv_at hl 0 rfl) ?_
      refine s_ald hx hb K hM hsr (i := i) (by omega) (v := nI sg) hv d_Reader_read_44 ?_
      refine va_calli (R_run (As := [.int (nI sg)]) (rest := []) (n := 1) hx hb hml K hM hxB hA hS (fun _ q => q.1) (C := R_Reader) (ci := 2) rfl (e_take l s0 D T A hA h0 ad rf2 xf2 nf2 fo2 sq sv hstr sg hsg op kd d md n pt fw mo nm dg hQ (by omega)) kc_Reader_take k_Reader_m34 ki_Reader_take ke_Reader_take k_Reader_ini rfl rfl (by decide +kernel) ⟨Nat.le_of_ble_eq_true rfl, Nat.le_of_ble_eq_true rfl⟩ rfl hl.1 rfl (lv_room (Nat.le_of_ble_eq_true rfl)) d_Reader_read_45 ⟨Nat.le_of_ble_eq_true rfl, Nat.le_of_ble_eq_true rfl⟩) hS (fun q _ h => h) (fun q h => h) (fun r S t H1 locs1 ht hvm hw hB hz hk hS => ?_)
      replace hM : RW D T A h0 ad S.1 S.2.1 S.2.2.1 S.2.2.2 H1 := by rw [← ht]; exact hB
      have hsc2 : md_scan tx (i + 1) = md_sign (nI sg) (d, md, n, pt, fw, mo, nm, dg) := by
        show (md_scan tx i).bind (md_sign (tx i)) = _
        rw [hsc, hv]; rfl
      rcases hw with ⟨rfl, hv2⟩ | ⟨rfl, t9, hv2, hq9⟩
      · skip
        rw [hv2] at hsc2
        refine lv_if_ne (tgt := 53) hx hb d_Reader_read_48 (by decide) (fun c_48 => absurd rfl c_48) (fun c_48 => ?_)
        refine lv_iconst (v := 0) hx hb d_Reader_read_51 (by decide) ?_
        refine W.zret (v := (0)) hx hb hr rfl (r_endi hM hS ?_) hS.2.2 d_Reader_read_52
        exact Or.inl ⟨rfl, by obtain ⟨z9, hz9⟩ : ∃ z9, L = i + 1 + z9 := ⟨z, by omega⟩; rw [hz9]; exact md_scan_none hsc2 z9⟩
      · skip
        rw [hv2] at hsc2
        refine lv_if_ne (tgt := 53) hx hb d_Reader_read_48 (by decide) (fun c_48 => ?_) (fun c_48 => absurd c_48 (by decide))
        refine lv_iinc (v := nI (i + 1)) (lv' := [(3, .int (nI (i + 1))), (0, .ref (ad 0 0)), (1, .ref sr), (2, .int (nI L))]) hx hb d_Reader_read_53 hl (k := 0) rfl (nI_1 i) (by decide) rfl (fun ls hl => ?_)
        refine lv_goto (tgt := 36) hx hb d_Reader_read_56 (by decide) ?_
        exact ih (i + 1) S t9 H1 locs1 ls (by omega) hsc2 (by have := md_sign_n hv2; dsimp only at this; omega) hq9 hM hS hl
  exact loop L 0 (va_up (va_up (va_up (va_up rf 5 0) 2 0) 3 3) 4 0, xf, nf, fo) md_t0 H locs ls (by omega) rfl (Nat.le_refl 0) ⟨fun _ => 0, fun _ => 0, ⟨rfl, rfl, rfl, rfl⟩, ⟨by decide, by decide, by decide⟩, ⟨fun j hj => absurd hj (Nat.not_lt_zero j), fun j k _ hk => absurd hk (Nat.not_lt_zero k)⟩, fun _ => Or.inl ⟨rfl, rfl⟩, fun e => by omega, fun e => by omega, fun e => by omega, fun e => by omega, fun e => by omega⟩ hM hS hl
