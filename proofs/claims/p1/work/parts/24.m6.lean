abbrev fsT : String := "+-*/<=:ADP^?&!@%\\"
theorem ms_oper {c : Int32} {d n : Nat} {pt fw mo : Nat → Nat} {nm : List Nat} {dg : Nat} (h : md_arN c ≠ 0) : md_sign c (d + 1, 1, n, pt, fw, mo, nm, dg) = some (d + 1, (if c = 92 then 3 else if c = 33 ∨ c = 64 ∨ c = 37 then 2 else 0), n, pt, va_up fw d (md_arN c), va_up mo d (md_arN c), [], dg) := by
  have c32 : ¬ c = 32 := fun z => h (by rw [z]; decide)
  simp [md_sign, md_oper, h, c32]
theorem ms_part1 {c : Int32} {d n : Nat} {pt fw mo : Nat → Nat} {nm : List Nat} {dg : Nat} (h : md_arN c = 0) (hp : pt d < fw d) : md_sign c (d + 1, 1, n, pt, fw, mo, nm, dg) = md_part c (d + 1, 0, n, pt, fw, mo, nm, dg) := by
  by_cases h1 : c = 32
  · simp [md_sign, md_part, h1]
  · by_cases h2 : c = 41
    · rw [md_part_n h2 hp]
      subst h2
      simp [md_sign, h, md_begin]
    · simp [md_sign, md_part, h, h1, h2]
theorem ms_part0 {c : Int32} {d n md : Nat} {pt fw mo : Nat → Nat} {nm : List Nat} {dg : Nat} (hm : md = 0 ∨ (md = 4 ∧ (c < 48 ∨ 57 < c))) : md_sign c (d + 1, md, n, pt, fw, mo, nm, dg) = md_part c (d + 1, 0, n, pt, fw, mo, nm, dg) := by
  have key : ¬ (md = 4 ∧ ¬ c < 48 ∧ ¬ 57 < c) := fun z => by
    rcases hm with e | ⟨-, e⟩
    · omega
    · exact e.elim z.2.1 z.2.2
  have h6 : ¬ md = 6 := by omega
  have h2 : ¬ md = 2 := by omega
  have h3 : ¬ md = 3 := by omega
  have h1 : ¬ md = 1 := by omega
  show (if md = 6 then none else if md = 2 then _ else if md = 3 then _ else if md = 4 ∧ ¬ c < 48 ∧ ¬ 57 < c then _ else if d + 1 = 0 then _ else if md = 1 ∧ ¬ c = 32 ∧ ¬ md_arN c = 0 then _ else if ¬ md = 1 ∧ c = 41 then (if pt (d + 1 - 1) < fw (d + 1 - 1) then none else _) else if c = 32 then _ else _) = _
  rw [if_neg h6, if_neg h2, if_neg h3, if_neg key, if_neg (by omega), if_neg (fun z => h1 z.1)]
  by_cases e1 : c = 41
  · subst e1
    rw [if_pos ⟨h1, rfl⟩]
    by_cases hh : pt d < fw d
    · rw [md_part_n rfl hh]; exact if_pos hh
    · rw [md_part_c rfl hh]; exact if_neg hh
  · rw [if_neg (fun z => e1 z.2)]
    show _ = (if c = 32 then _ else if c = 41 then _ else _)
    rw [if_neg e1]
theorem cQ.d0 {ad : Nat → Nat → Nat} {rf : Nat → Int32} {S2 : (Nat → Nat → Int32) × (Nat → Nat → Int32) × (Nat → Option Nat)} {op kd : Nat → Nat} {n d md : Nat} {pt fw mo : Nat → Nat} {nm : List Nat} {dg : Nat} (hm : md ≠ 4) (h : cQ ad (rf, S2) op kd d md n pt fw mo nm dg) : cQ ad (va_up rf 4 0, S2) op kd d md n pt fw mo nm dg := by
  obtain ⟨⟨q1, q2, q3, q4⟩, h⟩ := h
  exact ⟨⟨q1, q2, by rw [if_neg hm]; rfl, q4⟩, h⟩
theorem cQ.d4 {ad : Nat → Nat → Nat} {rf : Nat → Int32} {S2 : (Nat → Nat → Int32) × (Nat → Nat → Int32) × (Nat → Option Nat)} {op kd : Nat → Nat} {n d : Nat} {pt fw mo : Nat → Nat} {nm : List Nat} {dg : Nat} (h : cQ ad (rf, S2) op kd (d + 1) 4 n pt fw mo nm dg) : cQ ad (va_up rf 4 0, S2) op kd (d + 1) 0 n pt fw mo nm dg := h.to0 rfl h.1.2.1 rfl rfl rfl (fun _ => rfl) (fun _ => rfl)
theorem xB.heap {s0 s : State} {A : Nat → Prop} {H : Heap} {locs : List Loc} (h : xB s0 s) (hA : ∀ q, A q → s0.heap.size ≤ q) (hS : va_S A s.heap H locs) : xB s0 ({ s with heap := H } : State) := xB.later (U := ({ s with heap := H } : State)) h hA hS (State.WarmedH.refl s)
theorem strW.xB {q v : Nat} {s0 U : State} (h : strW q v s0) (hx : xB s0 U) : strW q v U := h.at hx.1.alike hx.2.2
set_option maxHeartbeats 4000000 in
set_option maxRecDepth 100000 in
theorem e_Reader_takeHead (l : Launch) (s0 : State) (D : va_G) (T : Nat → ClassId) (A : Nat → Prop) (hA : ∀ q, A q → s0.heap.size ≤ q) (h0 : Nat → Option va_E) (ad : Nat → Nat → Nat) (rf : Nat → Int32) (xf nf : Nat → Nat → Int32) (fo : Nat → Option Nat) (sq sv : Nat) (hstr : strW sq sv s0 ∧ vk_R R_Reader 63 fsT sq s0) (sg : Nat) (hsg : sg < 128) (op kd : Nat → Nat) (d n : Nat) (pt fw mo : Nat → Nat) (nm : List Nat) (dg : Nat) (hQ : cQ ad (rf, xf, nf, fo) op kd (d + 1) 1 n pt fw mo nm dg) (hn : n < 12) :
    Met l y_Reader_takeHead (.code y_Reader_takeHead b_Reader_takeHead 3 (some .boolean) :: lw_g) ({ frames := 4, cells := 0, slots := 0, locals := 100 }) (va_Pc [.ref (ad 0 0), .ref (ad 3 (op d)), .int (nI sg)] (rP s0 D T A h0 ad rf xf nf fo)) (va_Qi (cRes ad (md_sign (nI sg) (d + 1, 1, n, pt, fw, mo, nm, dg))) (rB D T A h0 ad) A) 0 0 A := by
  refine Met.ofW (cc := b_Reader_takeHead) (maxL := 3) (ret := (some .boolean)) (by decide) rfl ?_
  intro p e s m args below meth c s₁ B hml hv
  obtain ⟨rfl, hxB, hM, hK⟩ := hv
  have hx := B.exec
  have hb := B.bytes
  have hr := B.returns
  have hlocks := B.notSynchronized
  have hts := atoms_spec (ws := (.code y_Reader_takeHead b_Reader_takeHead 3 (some .boolean) :: lw_g)) B.pre
  have hown : s.vm.findClass R_Reader = some m.cls := findClass_of_methodNamed B.named
  have K : cK D T R_Reader s m _ := ⟨fun w h => hts w (List.mem_cons_of_mem _ h), hown, hK⟩
  have hS : va_S A s.heap s.heap [] := va_S.rf
  have hl := lv_entry ([.ref (ad 0 0), .ref (ad 3 (op d)), .int (nI sg)]) (n := 3) (Nat.le_of_ble_eq_true rfl)
  rw [lg_entry_eq]
  generalize (lg_sl ([.ref (ad 0 0), .ref (ad 3 (op d)), .int (nI sg)]) ++ List.replicate (3 - (lg_sl ([.ref (ad 0 0), .ref (ad 3 (op d)), .int (nI sg)])).length) Slot.unset).toArray = ls at hl ⊢
  have hl : lv_has ls 3 [(0, .ref (ad 0 0)), (1, .ref (ad 3 (op d))), (2, .int (nI sg))] := hl
  obtain ⟨⟨hq2, hq3, hq4, hq5⟩, ⟨hb1, -, -⟩, ⟨hL1, hL2⟩, -⟩ := id hQ
  dsimp only at hq2 hq3 hq4 hq5 hL1
  have hod : op d < 120 := by have := (hL1 d (by omega)).1.2; omega
  obtain ⟨⟨a1, a2⟩, ⟨a3, a4⟩, ⟨a5, a6⟩, a7, a8⟩ := hL1 d (Nat.lt_succ_self d)
  have hkd := hQ.2.2.2.2.2.2.1 rfl
  rw [Nat.add_sub_cancel] at hkd
  refine lv_aload_n hx hb d_Reader_takeHead_0 rfl (lv_at hl 0 rfl) ?_
  refine lv_iconst (v := 3) hx hb d_Reader_takeHead_1 (by decide) ?_
  refine R_put hx hb K hM hS 3 k_Reader_f28 d_Reader_takeHead_2 (kk := fun H locs hM hS => ?_)
  refine va_ldcS hx hb hown (q := sq) (vk_R.warm hxB.1 hstr.2) d_Reader_takeHead_5 ?_
  refine lv_iload_n hx hb d_Reader_takeHead_7 rfl (lv_at hl 2 rfl) ?_
  refine va_calli (V_run (C := "java/lang/String") (As := [.int (nI sg)]) (rest := []) (n := 1) hx hb hml K.1 K.2.1 (strW.st _ _) ((hstr.1.xB (hxB.heap hA hS)).rec (fun _ _ => rfl)) (fun U h1 h2 => hstr.1.xB (xB.later hxB hA (by rw [h1]; exact hS) h2)) (e_St_ix1 l sq sv sg hsg) kc_St_ix1 k_Reader_m65s ki_St_ix1 ke_St_ix1 k_St_ini rfl rfl (by decide +kernel) ⟨Nat.le_of_ble_eq_true rfl, Nat.le_of_ble_eq_true rfl⟩ rfl hl.1 rfl (lv_room (Nat.le_of_ble_eq_true rfl)) d_Reader_takeHead_8 ⟨Nat.le_of_ble_eq_true rfl, Nat.le_of_ble_eq_true rfl⟩) hS (fun q _ h => h.elim) (fun q h => h.elim) (fun r S t H1 locs1 ht hvm hw hB hz hk hS => ?_)
  replace hM := hM.kept hk
  rcases hw with ⟨rfl, hno⟩ | ⟨hr0, hyes, hfk, h40⟩
  · skip
    refine lv_if_ge (tgt := 21) hx hb d_Reader_takeHead_11 (by decide) (fun c_11 => absurd c_11 (by decide)) (fun c_11 => ?_)
    refine lv_aload_n hx hb d_Reader_takeHead_14 rfl (lv_at hl 0 rfl) ?_
    refine lv_aload_n hx hb d_Reader_takeHead_15 rfl (lv_at hl 1 rfl) ?_
    refine lv_iload_n hx hb d_Reader_takeHead_16 rfl (lv_at hl 2 rfl) ?_
    refine va_calli (R_run (As := [.ref (ad 3 (op d)), .int (nI sg)]) (rest := []) (n := 2) hx hb hml K hM hxB hA hS (fun _ q => q.1) (C := R_Reader) (ci := 2) rfl (e_Reader_takePart l s0 D T A hA h0 ad _ _ _ _ sg (by omega) op kd d n pt fw mo nm dg (hQ.to0 (S' := (va_up rf 3 3, xf, nf, fo)) rfl rfl hq4 rfl rfl (fun _ => rfl) (fun _ => rfl)) hn) kc_Reader_takePart k_Reader_m57 ki_Reader_takePart ke_Reader_takePart k_Reader_ini rfl rfl (by decide +kernel) ⟨Nat.le_of_ble_eq_true rfl, Nat.le_of_ble_eq_true rfl⟩ rfl hl.1 rfl (lv_room (Nat.le_of_ble_eq_true rfl)) d_Reader_takeHead_17 ⟨Nat.le_of_ble_eq_true rfl, Nat.le_of_ble_eq_true rfl⟩) hS (fun q _ h => h) (fun q h => h) (fun r S t H1 locs1 ht hvm hw hB hz hk hS => ?_)
    replace hM : RW D T A h0 ad S.1 S.2.1 S.2.2.1 S.2.2.2 H1 := by rw [← ht]; exact hB
    rcases hw with ⟨rfl, hv⟩ | ⟨rfl, t9, hv, hq9⟩
    · skip
      refine W.zret (v := (0)) hx hb hr rfl (r_endi hM hS ?_) hS.2.2 d_Reader_takeHead_20
      exact Or.inl ⟨rfl, (ms_part1 hno (by rw [a6, hkd.1, show pt d = 0 from hkd.2]; decide)).trans hv⟩
    · skip
      refine W.zret (v := (1)) hx hb hr rfl (r_endi hM hS ?_) hS.2.2 d_Reader_takeHead_20
      exact Or.inr ⟨rfl, t9, (ms_part1 hno (by rw [a6, hkd.1, show pt d = 0 from hkd.2]; decide)).trans hv, hq9⟩
  · skip
    refine lv_if_ge (tgt := 21) hx hb d_Reader_takeHead_11 (by decide) (fun c_11 => ?_) (fun c_11 => absurd (Int32.not_lt.mp hr0) c_11)
    refine lv_aload_n hx hb d_Reader_takeHead_21 rfl (lv_at hl 1 rfl) ?_
    refine lv_iload_n hx hb d_Reader_takeHead_22 rfl (lv_at hl 2 rfl) ?_
    refine lv_iconst (v := 0) hx hb d_Reader_takeHead_23 (by decide) ?_
    refine va_callv (R_run (As := [.int (nI sg), .int (0)]) (rest := []) (n := 2) hx hb hml K hM hxB hA hS (fun _ q => (q.2.2.2.1 _ hod).1) (C := R_Expression) (ci := 3) rfl (e_Expression_become l s0 D T A hA h0 ad _ _ _ _ (op d) hod sg (by omega) 0) kc_Expression_become k_Reader_m71 ki_Expression_become ke_Expression_become k_Expression_ini rfl rfl (by decide +kernel) ⟨Nat.le_of_ble_eq_true rfl, Nat.le_of_ble_eq_true rfl⟩ rfl hl.1 rfl (lv_room (Nat.le_of_ble_eq_true rfl)) d_Reader_takeHead_24 ⟨Nat.le_of_ble_eq_true rfl, Nat.le_of_ble_eq_true rfl⟩) hS (fun q _ h => h) (fun q h => h) (fun S t H1 locs1 ht hvm hw hB hz hk hS => ?_)
    replace hM : RW D T A h0 ad S.1 S.2.1 S.2.2.1 S.2.2.2 H1 := by rw [← ht]; exact hB
    obtain ⟨hs1, hs2, ⟨hs3, hs4, hs5, hs6⟩, hs7⟩ := hw
    obtain ⟨rf2, xf2, nf2, fo2⟩ := S
    dsimp only at hM hs1 hs2 hs3 hs4 hs5 hs6 hs7
    obtain rfl := hs1
    obtain ⟨e1, e2⟩ := Prod.mk.inj hs2.symm
    obtain rfl := e1
    obtain rfl := e2
    refine lv_iload_n hx hb d_Reader_takeHead_27 rfl (lv_at hl 2 rfl) ?_
    refine lv_bipush (v := 33) hx hb d_Reader_takeHead_28 (by decide) ?_
    refine lv_icmp_eq (tgt := 45) hx hb d_Reader_takeHead_30 (by decide) (fun c_30 => ?_) (fun c_30 => ?_)
    · skip
      refine lv_aload_n hx hb d_Reader_takeHead_45 rfl (lv_at hl 0 rfl) ?_
      refine lv_iconst (v := 1) hx hb d_Reader_takeHead_46 (by decide) ?_
      refine R_put hx hb K hM hS 3 k_Reader_f28 d_Reader_takeHead_47 (kk := fun H locs hM hS => ?_)
      refine lv_goto (tgt := 64) hx hb d_Reader_takeHead_50 (by decide) ?_
      refine lv_iconst (v := 1) hx hb d_Reader_takeHead_64 (by decide) ?_
      refine W.zret (v := (1)) hx hb hr rfl (r_endi hM hS ?_) hS.2.2 d_Reader_takeHead_65
      exact Or.inr ⟨rfl, _, ms_oper hyes, op, va_up kd d sg, by rw [show (if nI sg = 92 then 3 else if nI sg = 33 ∨ nI sg = 64 ∨ nI sg = 37 then 2 else 0) = 2 from by rw [c_30]; decide]; exact hQ.oper hfk h40 (by omega) rfl rfl hq4 rfl rfl hs7 hs3 hs5 hs6⟩
    · skip
      refine lv_iload_n hx hb d_Reader_takeHead_33 rfl (lv_at hl 2 rfl) ?_
      refine lv_bipush (v := 64) hx hb d_Reader_takeHead_34 (by decide) ?_
      refine lv_icmp_eq (tgt := 45) hx hb d_Reader_takeHead_36 (by decide) (fun c_36 => ?_) (fun c_36 => ?_)
      · skip
        refine lv_aload_n hx hb d_Reader_takeHead_45 rfl (lv_at hl 0 rfl) ?_
        refine lv_iconst (v := 1) hx hb d_Reader_takeHead_46 (by decide) ?_
        refine R_put hx hb K hM hS 3 k_Reader_f28 d_Reader_takeHead_47 (kk := fun H locs hM hS => ?_)
        refine lv_goto (tgt := 64) hx hb d_Reader_takeHead_50 (by decide) ?_
        refine lv_iconst (v := 1) hx hb d_Reader_takeHead_64 (by decide) ?_
        refine W.zret (v := (1)) hx hb hr rfl (r_endi hM hS ?_) hS.2.2 d_Reader_takeHead_65
        exact Or.inr ⟨rfl, _, ms_oper hyes, op, va_up kd d sg, by rw [show (if nI sg = 92 then 3 else if nI sg = 33 ∨ nI sg = 64 ∨ nI sg = 37 then 2 else 0) = 2 from by rw [c_36]; decide]; exact hQ.oper hfk h40 (by omega) rfl rfl hq4 rfl rfl hs7 hs3 hs5 hs6⟩
      · skip
        refine lv_iload_n hx hb d_Reader_takeHead_39 rfl (lv_at hl 2 rfl) ?_
        refine lv_bipush (v := 37) hx hb d_Reader_takeHead_40 (by decide) ?_
        refine lv_icmp_ne (tgt := 53) hx hb d_Reader_takeHead_42 (by decide) (fun c_42 => ?_) (fun c_42 => ?_)
        · skip
          refine lv_iload_n hx hb d_Reader_takeHead_53 rfl (lv_at hl 2 rfl) ?_
          refine lv_bipush (v := 92) hx hb d_Reader_takeHead_54 (by decide) ?_
          refine lv_icmp_ne (tgt := 64) hx hb d_Reader_takeHead_56 (by decide) (fun c_56 => ?_) (fun c_56 => ?_)
          · skip
            refine lv_iconst (v := 1) hx hb d_Reader_takeHead_64 (by decide) ?_
            refine W.zret (v := (1)) hx hb hr rfl (r_endi hM hS ?_) hS.2.2 d_Reader_takeHead_65
            exact Or.inr ⟨rfl, _, ms_oper hyes, op, va_up kd d sg, by rw [show (if nI sg = 92 then 3 else if nI sg = 33 ∨ nI sg = 64 ∨ nI sg = 37 then 2 else 0) = 0 from by simp [c_30, c_36, c_42, c_56]]; exact hQ.oper hfk h40 (by omega) rfl rfl hq4 rfl rfl hs7 hs3 hs5 hs6⟩
          · skip
            refine lv_aload_n hx hb d_Reader_takeHead_59 rfl (lv_at hl 0 rfl) ?_
            refine lv_iconst (v := 2) hx hb d_Reader_takeHead_60 (by decide) ?_
            refine R_put hx hb K hM hS 3 k_Reader_f28 d_Reader_takeHead_61 (kk := fun H locs hM hS => ?_)
            refine lv_iconst (v := 1) hx hb d_Reader_takeHead_64 (by decide) ?_
            refine W.zret (v := (1)) hx hb hr rfl (r_endi hM hS ?_) hS.2.2 d_Reader_takeHead_65
            exact Or.inr ⟨rfl, _, ms_oper hyes, op, va_up kd d sg, by rw [show (if nI sg = 92 then 3 else if nI sg = 33 ∨ nI sg = 64 ∨ nI sg = 37 then 2 else 0) = 3 from by rw [c_56]; decide]; exact hQ.oper hfk h40 (by omega) rfl rfl hq4 rfl rfl hs7 hs3 hs5 hs6⟩
        · skip
          refine lv_aload_n hx hb d_Reader_takeHead_45 rfl (lv_at hl 0 rfl) ?_
          refine lv_iconst (v := 1) hx hb d_Reader_takeHead_46 (by decide) ?_
          refine R_put hx hb K hM hS 3 k_Reader_f28 d_Reader_takeHead_47 (kk := fun H locs hM hS => ?_)
          refine lv_goto (tgt := 64) hx hb d_Reader_takeHead_50 (by decide) ?_
          refine lv_iconst (v := 1) hx hb d_Reader_takeHead_64 (by decide) ?_
          refine W.zret (v := (1)) hx hb hr rfl (r_endi hM hS ?_) hS.2.2 d_Reader_takeHead_65
          exact Or.inr ⟨rfl, _, ms_oper hyes, op, va_up kd d sg, by rw [show (if nI sg = 92 then 3 else if nI sg = 33 ∨ nI sg = 64 ∨ nI sg = 37 then 2 else 0) = 2 from by rw [c_42]; decide]; exact hQ.oper hfk h40 (by omega) rfl rfl hq4 rfl rfl hs7 hs3 hs5 hs6⟩
theorem md4_no {c : Int32} (h : c < 48 ∨ 57 < c) : ¬ (¬ c < 48 ∧ ¬ 57 < c) := fun z => h.elim z.1 z.2
set_option maxHeartbeats 4000000 in
set_option maxRecDepth 100000 in
theorem e_take00 (l : Launch) (s0 : State) (D : va_G) (T : Nat → ClassId) (A : Nat → Prop) (hA : ∀ q, A q → s0.heap.size ≤ q) (h0 : Nat → Option va_E) (ad : Nat → Nat → Nat) (rf : Nat → Int32) (xf nf : Nat → Nat → Int32) (fo : Nat → Option Nat) (sq sv : Nat) (hstr : strW sq sv s0 ∧ vk_R R_Reader 63 fsT sq s0) (sg : Nat) (hsg : sg < 128) (op kd : Nat → Nat) (pt fw mo : Nat → Nat) (nm : List Nat) (dg : Nat) (hQ : cQ ad (rf, xf, nf, fo) op kd 0 0 0 pt fw mo nm dg) :
    Met l y_Reader_take (.code y_Reader_take b_Reader_take 3 (some .boolean) :: lw_g) ({ frames := 5, cells := 0, slots := 0, locals := 124 }) (va_Pc [.ref (ad 0 0), .int (nI sg)] (rP s0 D T A h0 ad rf xf nf fo)) (va_Qi (cRes ad (md_sign (nI sg) (0, 0, 0, pt, fw, mo, nm, dg))) (rB D T A h0 ad) A) 0 0 A := by
  refine Met.ofW (cc := b_Reader_take) (maxL := 3) (ret := (some .boolean)) (by decide) rfl ?_
  intro p e s m args below meth c s₁ B hml hv
  obtain ⟨rfl, hxB, hM, hK⟩ := hv
  have hx := B.exec
  have hb := B.bytes
  have hr := B.returns
  have hlocks := B.notSynchronized
  have hts := atoms_spec (ws := (.code y_Reader_take b_Reader_take 3 (some .boolean) :: lw_g)) B.pre
  have hown : s.vm.findClass R_Reader = some m.cls := findClass_of_methodNamed B.named
  have K : cK D T R_Reader s m _ := ⟨fun w h => hts w (List.mem_cons_of_mem _ h), hown, hK⟩
  have hS : va_S A s.heap s.heap [] := va_S.rf
  have hl := lv_entry ([.ref (ad 0 0), .int (nI sg)]) (n := 3) (Nat.le_of_ble_eq_true rfl)
  rw [lg_entry_eq]
  generalize (lg_sl ([.ref (ad 0 0), .int (nI sg)]) ++ List.replicate (3 - (lg_sl ([.ref (ad 0 0), .int (nI sg)])).length) Slot.unset).toArray = ls at hl ⊢
  have hl : lv_has ls 3 [(0, .ref (ad 0 0)), (1, .int (nI sg))] := hl
  obtain ⟨⟨hq2, hq3, hq4, hq5⟩, ⟨hb1, -, -⟩, ⟨hL1, hL2⟩, -⟩ := id hQ
  dsimp only at hq2 hq3 hq4 hq5 hL1
  have hq3 : rf 3 = 3 := hq3
  have hq4 : rf 4 = 0 := hq4
  refine lv_aload_n hx hb d_Reader_take_0 rfl (lv_at hl 0 rfl) ?_
  refine R_get hx hb K hM 4 (v := .int (0)) (rd4 hq4) k_Reader_f31 d_Reader_take_1 (kk := ?_)
  refine lv_if_le (tgt := 20) hx hb d_Reader_take_4 (by decide) (fun c_4 => ?_) (fun c_4 => absurd (by decide) c_4)
  refine lv_aload_n hx hb d_Reader_take_20 rfl (lv_at hl 0 rfl) ?_
  refine lv_iconst (v := 0) hx hb d_Reader_take_21 (by decide) ?_
  refine R_put hx hb K hM hS 4 k_Reader_f31 d_Reader_take_22 (kk := fun H locs hM hS => ?_)
  refine lv_aload_n hx hb d_Reader_take_25 rfl (lv_at hl 0 rfl) ?_
  refine R_get hx hb K hM 2 (v := .int (nI 0)) (rd2 hq2) k_Reader_f25 d_Reader_take_26 (kk := ?_)
  refine lv_if_ne (tgt := 53) hx hb d_Reader_take_29 (by decide) (fun c_29 => absurd rfl c_29) (fun c_29 => ?_)
  refine lv_aload_n hx hb d_Reader_take_32 rfl (lv_at hl 0 rfl) ?_
  refine R_get hx hb K hM 5 (v := .int (nI 0)) (rd5 hq5) k_Reader_f21 d_Reader_take_33 (kk := ?_)
  refine lv_if_ne (tgt := 51) hx hb d_Reader_take_36 (by decide) (fun c_36 => absurd rfl c_36) (fun c_36 => ?_)
  refine lv_aload_n hx hb d_Reader_take_39 rfl (lv_at hl 0 rfl) ?_
  refine lv_iload_n hx hb d_Reader_take_40 rfl (lv_at hl 1 rfl) ?_
  refine va_calli (R_run (As := [.int (nI sg)]) (rest := []) (n := 1) hx hb hml K hM hxB hA hS (fun _ q => q.1) (C := R_Reader) (ci := 2) rfl (e_Reader_takeExpression l s0 D T A hA h0 ad (va_up rf 4 0) xf nf fo sg (by omega) 0 (by decide) hq5 0 hq2 (by decide)) kc_Reader_takeExpression k_Reader_m44 ki_Reader_takeExpression ke_Reader_takeExpression k_Reader_ini rfl rfl (by decide +kernel) ⟨Nat.le_of_ble_eq_true rfl, Nat.le_of_ble_eq_true rfl⟩ rfl hl.1 rfl (lv_room (Nat.le_of_ble_eq_true rfl)) d_Reader_take_41 ⟨Nat.le_of_ble_eq_true rfl, Nat.le_of_ble_eq_true rfl⟩) hS (fun q _ h => h) (fun q h => h) (fun r S t H1 locs1 ht hvm hw hB hz hk hS => ?_)
  replace hM : RW D T A h0 ad S.1 S.2.1 S.2.2.1 S.2.2.2 H1 := by rw [← ht]; exact hB
  have hres := tE_cQ (hQ.d0 (by decide)) (fun h => absurd h (Nat.lt_irrefl 0)) (by decide) hw (fun j hj => absurd hj (Nat.not_lt_zero j)) (fun j hj => absurd hj (Nat.not_lt_zero j))
  rcases hres with ⟨rfl, hv⟩ | ⟨rfl, t9, hv, hq9⟩
  · skip
    refine lv_if_eq (tgt := 51) hx hb d_Reader_take_44 (by decide) (fun c_44 => ?_) (fun c_44 => absurd rfl c_44)
    refine lv_iconst (v := 0) hx hb d_Reader_take_51 (by decide) ?_
    refine W.zret (v := (0)) hx hb hr rfl (r_endi hM hS ?_) hS.2.2 d_Reader_take_52
    exact Or.inl ⟨rfl, ((by simp [md_sign] : md_sign (nI sg) (0, 0, 0, pt, fw, mo, nm, dg) = md_begin (nI sg) (0, 0, 0, pt, fw, mo, nm, dg))).trans hv⟩
  · skip
    refine lv_if_eq (tgt := 51) hx hb d_Reader_take_44 (by decide) (fun c_44 => absurd c_44 (by decide)) (fun c_44 => ?_)
    refine lv_iconst (v := 1) hx hb d_Reader_take_47 (by decide) ?_
    refine lv_goto (tgt := 52) hx hb d_Reader_take_48 (by decide) ?_
    refine W.zret (v := (1)) hx hb hr rfl (r_endi hM hS ?_) hS.2.2 d_Reader_take_52
    exact Or.inr ⟨rfl, t9, ((by simp [md_sign] : md_sign (nI sg) (0, 0, 0, pt, fw, mo, nm, dg) = md_begin (nI sg) (0, 0, 0, pt, fw, mo, nm, dg))).trans hv, hq9⟩
set_option maxHeartbeats 4000000 in
set_option maxRecDepth 100000 in
theorem e_take04 (l : Launch) (s0 : State) (D : va_G) (T : Nat → ClassId) (A : Nat → Prop) (hA : ∀ q, A q → s0.heap.size ≤ q) (h0 : Nat → Option va_E) (ad : Nat → Nat → Nat) (rf : Nat → Int32) (xf nf : Nat → Nat → Int32) (fo : Nat → Option Nat) (sq sv : Nat) (hstr : strW sq sv s0 ∧ vk_R R_Reader 63 fsT sq s0) (sg : Nat) (hsg : sg < 128) (op kd : Nat → Nat) (n : Nat) (pt fw mo : Nat → Nat) (nm : List Nat) (dg : Nat) (hQ : cQ ad (rf, xf, nf, fo) op kd 0 4 n pt fw mo nm dg) (hn : n < 12) :
    Met l y_Reader_take (.code y_Reader_take b_Reader_take 3 (some .boolean) :: lw_g) ({ frames := 5, cells := 0, slots := 0, locals := 124 }) (va_Pc [.ref (ad 0 0), .int (nI sg)] (rP s0 D T A h0 ad rf xf nf fo)) (va_Qi (cRes ad (md_sign (nI sg) (0, 4, n, pt, fw, mo, nm, dg))) (rB D T A h0 ad) A) 0 0 A := by
  refine Met.ofW (cc := b_Reader_take) (maxL := 3) (ret := (some .boolean)) (by decide) rfl ?_
  intro p e s m args below meth c s₁ B hml hv
  obtain ⟨rfl, hxB, hM, hK⟩ := hv
  have hx := B.exec
  have hb := B.bytes
  have hr := B.returns
  have hlocks := B.notSynchronized
  have hts := atoms_spec (ws := (.code y_Reader_take b_Reader_take 3 (some .boolean) :: lw_g)) B.pre
  have hown : s.vm.findClass R_Reader = some m.cls := findClass_of_methodNamed B.named
  have K : cK D T R_Reader s m _ := ⟨fun w h => hts w (List.mem_cons_of_mem _ h), hown, hK⟩
  have hS : va_S A s.heap s.heap [] := va_S.rf
  have hl := lv_entry ([.ref (ad 0 0), .int (nI sg)]) (n := 3) (Nat.le_of_ble_eq_true rfl)
  rw [lg_entry_eq]
  generalize (lg_sl ([.ref (ad 0 0), .int (nI sg)]) ++ List.replicate (3 - (lg_sl ([.ref (ad 0 0), .int (nI sg)])).length) Slot.unset).toArray = ls at hl ⊢
  have hl : lv_has ls 3 [(0, .ref (ad 0 0)), (1, .int (nI sg))] := hl
  obtain ⟨⟨hq2, hq3, hq4, hq5⟩, ⟨hb1, -, -⟩, ⟨hL1, hL2⟩, -⟩ := id hQ
  dsimp only at hq2 hq3 hq4 hq5 hL1
  have hq3 : rf 3 = 3 := hq3
  have hq4 : rf 4 = nI dg := hq4
  obtain ⟨hn0, h1d, h4d⟩ := hQ.2.2.2.2.2.2.2.2 rfl
  refine lv_aload_n hx hb d_Reader_take_0 rfl (lv_at hl 0 rfl) ?_
  refine R_get hx hb K hM 4 (v := .int (nI dg)) (rd4 hq4) k_Reader_f31 d_Reader_take_1 (kk := ?_)
  refine lv_if_le (tgt := 20) hx hb d_Reader_take_4 (by decide) (fun c_4 => absurd c_4 (nI_nle h1d (by omega))) (fun c_4 => ?_)
  refine lv_iload_n hx hb d_Reader_take_7 rfl (lv_at hl 1 rfl) ?_
  refine va_calli (S_run (As := [.int (nI sg)]) (rest := []) (n := 1) hx hb hml K (e_Reader_isDigit l (nI sg)) kc_Reader_isDigit k_Reader_m38 ks_Reader_isDigit k_Reader_ini rfl rfl (by decide +kernel) ⟨Nat.le_of_ble_eq_true rfl, Nat.le_of_ble_eq_true rfl⟩ rfl hl.1 rfl (lv_room (Nat.le_of_ble_eq_true rfl)) d_Reader_take_8 ⟨Nat.le_of_ble_eq_true rfl, Nat.le_of_ble_eq_true rfl⟩) hS (fun q _ h => h.elim) (fun q h => h.elim) (fun r S t H1 locs1 ht hvm hw hB hz hk hS => ?_)
  replace hM := hM.kept hk
  rcases hw with ⟨rfl, g1, g2⟩ | ⟨rfl, g12⟩
  · skip
    refine lv_if_eq (tgt := 20) hx hb d_Reader_take_11 (by decide) (fun c_11 => absurd c_11 (by decide)) (fun c_11 => ?_)
    refine lv_aload_n hx hb d_Reader_take_14 rfl (lv_at hl 0 rfl) ?_
    refine lv_iload_n hx hb d_Reader_take_15 rfl (lv_at hl 1 rfl) ?_
    refine va_calli (R_run (As := [.int (nI sg)]) (rest := []) (n := 1) hx hb hml K hM hxB hA hS (fun _ q => q.1) (C := R_Reader) (ci := 2) rfl (e_Reader_takeDigit l s0 D T A hA h0 ad _ _ _ _ sg (by omega) op kd 0 n pt fw mo nm dg hQ hn) kc_Reader_takeDigit k_Reader_m41 ki_Reader_takeDigit ke_Reader_takeDigit k_Reader_ini rfl rfl (by decide +kernel) ⟨Nat.le_of_ble_eq_true rfl, Nat.le_of_ble_eq_true rfl⟩ rfl hl.1 rfl (lv_room (Nat.le_of_ble_eq_true rfl)) d_Reader_take_16 ⟨Nat.le_of_ble_eq_true rfl, Nat.le_of_ble_eq_true rfl⟩) hS (fun q _ h => h) (fun q h => h) (fun r S t H1 locs1 ht hvm hw hB hz hk hS => ?_)
    replace hM : RW D T A h0 ad S.1 S.2.1 S.2.2.1 S.2.2.2 H1 := by rw [← ht]; exact hB
    rcases hw with ⟨rfl, hv⟩ | ⟨rfl, t9, hv, hq9⟩
    · skip
      refine W.zret (v := (0)) hx hb hr rfl (r_endi hM hS ?_) hS.2.2 d_Reader_take_19
      exact Or.inl ⟨rfl, ((by simp [md_sign, g1, g2] : md_sign (nI sg) (0, 4, n, pt, fw, mo, nm, dg) = if dg + 1 ≤ 4 then some (0, 4, n, pt, fw, mo, nm, dg + 1) else none)).trans hv⟩
    · skip
      refine W.zret (v := (1)) hx hb hr rfl (r_endi hM hS ?_) hS.2.2 d_Reader_take_19
      exact Or.inr ⟨rfl, t9, ((by simp [md_sign, g1, g2] : md_sign (nI sg) (0, 4, n, pt, fw, mo, nm, dg) = if dg + 1 ≤ 4 then some (0, 4, n, pt, fw, mo, nm, dg + 1) else none)).trans hv, hq9⟩
  · skip
    refine lv_if_eq (tgt := 20) hx hb d_Reader_take_11 (by decide) (fun c_11 => ?_) (fun c_11 => absurd rfl c_11)
    refine lv_aload_n hx hb d_Reader_take_20 rfl (lv_at hl 0 rfl) ?_
    refine lv_iconst (v := 0) hx hb d_Reader_take_21 (by decide) ?_
    refine R_put hx hb K hM hS 4 k_Reader_f31 d_Reader_take_22 (kk := fun H locs hM hS => ?_)
    refine lv_aload_n hx hb d_Reader_take_25 rfl (lv_at hl 0 rfl) ?_
    refine R_get hx hb K hM 2 (v := .int (nI 0)) (rd2 hq2) k_Reader_f25 d_Reader_take_26 (kk := ?_)
    refine lv_if_ne (tgt := 53) hx hb d_Reader_take_29 (by decide) (fun c_29 => absurd rfl c_29) (fun c_29 => ?_)
    refine lv_aload_n hx hb d_Reader_take_32 rfl (lv_at hl 0 rfl) ?_
    refine R_get hx hb K hM 5 (v := .int (nI n)) (rd5 hq5) k_Reader_f21 d_Reader_take_33 (kk := ?_)
    refine lv_if_ne (tgt := 51) hx hb d_Reader_take_36 (by decide) (fun c_36 => ?_) (fun c_36 => absurd c_36 (nI_ne0 hn0 (by omega)))
    refine lv_iconst (v := 0) hx hb d_Reader_take_51 (by decide) ?_
    refine W.zret (v := (0)) hx hb hr rfl (r_endi hM hS ?_) hS.2.2 d_Reader_take_52
    exact Or.inl ⟨rfl, by simp [md_sign]; intro z1 z2; exact absurd ⟨Int32.not_lt.mpr z1, Int32.not_lt.mpr z2⟩ (md4_no g12)⟩
set_option maxHeartbeats 4000000 in
set_option maxRecDepth 100000 in
theorem e_take06 (l : Launch) (s0 : State) (D : va_G) (T : Nat → ClassId) (A : Nat → Prop) (hA : ∀ q, A q → s0.heap.size ≤ q) (h0 : Nat → Option va_E) (ad : Nat → Nat → Nat) (rf : Nat → Int32) (xf nf : Nat → Nat → Int32) (fo : Nat → Option Nat) (sq sv : Nat) (hstr : strW sq sv s0 ∧ vk_R R_Reader 63 fsT sq s0) (sg : Nat) (hsg : sg < 128) (op kd : Nat → Nat) (n : Nat) (pt fw mo : Nat → Nat) (nm : List Nat) (dg : Nat) (hQ : cQ ad (rf, xf, nf, fo) op kd 0 6 n pt fw mo nm dg) (hn : n < 12) :
    Met l y_Reader_take (.code y_Reader_take b_Reader_take 3 (some .boolean) :: lw_g) ({ frames := 5, cells := 0, slots := 0, locals := 124 }) (va_Pc [.ref (ad 0 0), .int (nI sg)] (rP s0 D T A h0 ad rf xf nf fo)) (va_Qi (cRes ad (md_sign (nI sg) (0, 6, n, pt, fw, mo, nm, dg))) (rB D T A h0 ad) A) 0 0 A := by
  refine Met.ofW (cc := b_Reader_take) (maxL := 3) (ret := (some .boolean)) (by decide) rfl ?_
  intro p e s m args below meth c s₁ B hml hv
  obtain ⟨rfl, hxB, hM, hK⟩ := hv
  have hx := B.exec
  have hb := B.bytes
  have hr := B.returns
  have hlocks := B.notSynchronized
  have hts := atoms_spec (ws := (.code y_Reader_take b_Reader_take 3 (some .boolean) :: lw_g)) B.pre
  have hown : s.vm.findClass R_Reader = some m.cls := findClass_of_methodNamed B.named
  have K : cK D T R_Reader s m _ := ⟨fun w h => hts w (List.mem_cons_of_mem _ h), hown, hK⟩
  have hS : va_S A s.heap s.heap [] := va_S.rf
  have hl := lv_entry ([.ref (ad 0 0), .int (nI sg)]) (n := 3) (Nat.le_of_ble_eq_true rfl)
  rw [lg_entry_eq]
  generalize (lg_sl ([.ref (ad 0 0), .int (nI sg)]) ++ List.replicate (3 - (lg_sl ([.ref (ad 0 0), .int (nI sg)])).length) Slot.unset).toArray = ls at hl ⊢
  have hl : lv_has ls 3 [(0, .ref (ad 0 0)), (1, .int (nI sg))] := hl
  obtain ⟨⟨hq2, hq3, hq4, hq5⟩, ⟨hb1, -, -⟩, ⟨hL1, hL2⟩, -⟩ := id hQ
  dsimp only at hq2 hq3 hq4 hq5 hL1
  have hq3 : rf 3 = 3 := hq3
  have hq4 : rf 4 = 0 := hq4
  have hn0 : 0 < n := (hQ.2.2.2.1 rfl).elim (fun z => absurd z.1 (by decide)) (fun z => z.2)
  refine lv_aload_n hx hb d_Reader_take_0 rfl (lv_at hl 0 rfl) ?_
  refine R_get hx hb K hM 4 (v := .int (0)) (rd4 hq4) k_Reader_f31 d_Reader_take_1 (kk := ?_)
  refine lv_if_le (tgt := 20) hx hb d_Reader_take_4 (by decide) (fun c_4 => ?_) (fun c_4 => absurd (by decide) c_4)
  refine lv_aload_n hx hb d_Reader_take_20 rfl (lv_at hl 0 rfl) ?_
  refine lv_iconst (v := 0) hx hb d_Reader_take_21 (by decide) ?_
  refine R_put hx hb K hM hS 4 k_Reader_f31 d_Reader_take_22 (kk := fun H locs hM hS => ?_)
  refine lv_aload_n hx hb d_Reader_take_25 rfl (lv_at hl 0 rfl) ?_
  refine R_get hx hb K hM 2 (v := .int (nI 0)) (rd2 hq2) k_Reader_f25 d_Reader_take_26 (kk := ?_)
  refine lv_if_ne (tgt := 53) hx hb d_Reader_take_29 (by decide) (fun c_29 => absurd rfl c_29) (fun c_29 => ?_)
  refine lv_aload_n hx hb d_Reader_take_32 rfl (lv_at hl 0 rfl) ?_
  refine R_get hx hb K hM 5 (v := .int (nI n)) (rd5 hq5) k_Reader_f21 d_Reader_take_33 (kk := ?_)
  refine lv_if_ne (tgt := 51) hx hb d_Reader_take_36 (by decide) (fun c_36 => ?_) (fun c_36 => absurd c_36 (nI_ne0 hn0 (by omega)))
  refine lv_iconst (v := 0) hx hb d_Reader_take_51 (by decide) ?_
  refine W.zret (v := (0)) hx hb hr rfl (r_endi hM hS ?_) hS.2.2 d_Reader_take_52
  exact Or.inl ⟨rfl, by simp [md_sign]⟩
set_option maxHeartbeats 4000000 in
set_option maxRecDepth 100000 in
theorem e_takeS0 (l : Launch) (s0 : State) (D : va_G) (T : Nat → ClassId) (A : Nat → Prop) (hA : ∀ q, A q → s0.heap.size ≤ q) (h0 : Nat → Option va_E) (ad : Nat → Nat → Nat) (rf : Nat → Int32) (xf nf : Nat → Nat → Int32) (fo : Nat → Option Nat) (sq sv : Nat) (hstr : strW sq sv s0 ∧ vk_R R_Reader 63 fsT sq s0) (sg : Nat) (hsg : sg < 128) (op kd : Nat → Nat) (d : Nat) (n : Nat) (pt fw mo : Nat → Nat) (nm : List Nat) (dg : Nat) (hQ : cQ ad (rf, xf, nf, fo) op kd (d + 1) 0 n pt fw mo nm dg) (hn : n < 12) :
    Met l y_Reader_take (.code y_Reader_take b_Reader_take 3 (some .boolean) :: lw_g) ({ frames := 5, cells := 0, slots := 0, locals := 124 }) (va_Pc [.ref (ad 0 0), .int (nI sg)] (rP s0 D T A h0 ad rf xf nf fo)) (va_Qi (cRes ad (md_sign (nI sg) ((d + 1), 0, n, pt, fw, mo, nm, dg))) (rB D T A h0 ad) A) 0 0 A := by
  refine Met.ofW (cc := b_Reader_take) (maxL := 3) (ret := (some .boolean)) (by decide) rfl ?_
  intro p e s m args below meth c s₁ B hml hv
  obtain ⟨rfl, hxB, hM, hK⟩ := hv
  have hx := B.exec
  have hb := B.bytes
  have hr := B.returns
  have hlocks := B.notSynchronized
  have hts := atoms_spec (ws := (.code y_Reader_take b_Reader_take 3 (some .boolean) :: lw_g)) B.pre
  have hown : s.vm.findClass R_Reader = some m.cls := findClass_of_methodNamed B.named
  have K : cK D T R_Reader s m _ := ⟨fun w h => hts w (List.mem_cons_of_mem _ h), hown, hK⟩
  have hS : va_S A s.heap s.heap [] := va_S.rf
  have hl := lv_entry ([.ref (ad 0 0), .int (nI sg)]) (n := 3) (Nat.le_of_ble_eq_true rfl)
  rw [lg_entry_eq]
  generalize (lg_sl ([.ref (ad 0 0), .int (nI sg)]) ++ List.replicate (3 - (lg_sl ([.ref (ad 0 0), .int (nI sg)])).length) Slot.unset).toArray = ls at hl ⊢
  have hl : lv_has ls 3 [(0, .ref (ad 0 0)), (1, .int (nI sg))] := hl
  obtain ⟨⟨hq2, hq3, hq4, hq5⟩, ⟨hb1, -, -⟩, ⟨hL1, hL2⟩, -⟩ := id hQ
  dsimp only at hq2 hq3 hq4 hq5 hL1
  have hod : op d < 120 := by have := (hL1 d (by omega)).1.2; omega
  have a1 := (hL1 d (Nat.lt_succ_self d)).1.1
  have hq3 : rf 3 = 3 := hq3
  have hq4 : rf 4 = 0 := hq4
  refine lv_aload_n hx hb d_Reader_take_0 rfl (lv_at hl 0 rfl) ?_
  refine R_get hx hb K hM 4 (v := .int (0)) (rd4 hq4) k_Reader_f31 d_Reader_take_1 (kk := ?_)
  refine lv_if_le (tgt := 20) hx hb d_Reader_take_4 (by decide) (fun c_4 => ?_) (fun c_4 => absurd (by decide) c_4)
  refine lv_aload_n hx hb d_Reader_take_20 rfl (lv_at hl 0 rfl) ?_
  refine lv_iconst (v := 0) hx hb d_Reader_take_21 (by decide) ?_
  refine R_put hx hb K hM hS 4 k_Reader_f31 d_Reader_take_22 (kk := fun H locs hM hS => ?_)
  refine lv_aload_n hx hb d_Reader_take_25 rfl (lv_at hl 0 rfl) ?_
  refine R_get hx hb K hM 2 (v := .int (nI (d + 1))) (rd2 hq2) k_Reader_f25 d_Reader_take_26 (kk := ?_)
  refine lv_if_ne (tgt := 53) hx hb d_Reader_take_29 (by decide) (fun c_29 => ?_) (fun c_29 => absurd c_29 (nI_ne0 (n := d + 1) (by omega) (by omega)))
  refine lv_aload_n hx hb d_Reader_take_53 rfl (lv_at hl 0 rfl) ?_
  refine R_get hx hb K hM 1 (v := .ref (ad 2 0)) rfl k_Reader_f17 d_Reader_take_54 (kk := ?_)
  refine lv_aload_n hx hb d_Reader_take_57 rfl (lv_at hl 0 rfl) ?_
  refine R_get hx hb K hM 2 (v := .int (nI (d + 1))) (rd2 hq2) k_Reader_f25 d_Reader_take_58 (kk := ?_)
  refine lv_iconst (v := 1) hx hb d_Reader_take_61 (by decide) ?_
  refine lv_isub hx hb d_Reader_take_62 ?_
  refine lv_as (v := nI d) (nI_pred d) ?_
  refine R_op hx hb K hM (j := d) (by omega) (q := ad 3 (op d)) a1 d_Reader_take_63 ?_
  refine lv_astore_n (lv' := [(2, .ref (ad 3 (op d))), (0, .ref (ad 0 0)), (1, .int (nI sg))]) hx hb d_Reader_take_64 rfl hl (by decide) rfl (fun ls hl => ?_)
  refine lv_aload_n hx hb d_Reader_take_65 rfl (lv_at hl 1 rfl) ?_
  refine R_get hx hb K hM 3 (v := .int (3)) (rd3 hq3) k_Reader_f28 d_Reader_take_66 (kk := ?_)
  refine lv_tableOut (tgt := 117) hx hb d_Reader_take_69 (by decide) (by decide) ?_
  refine lv_aload_n hx hb d_Reader_take_117 rfl (lv_at hl 1 rfl) ?_
  refine lv_aload_n hx hb d_Reader_take_118 rfl (lv_at hl 0 rfl) ?_
  refine lv_iload_n hx hb d_Reader_take_119 rfl (lv_at hl 2 rfl) ?_
  refine va_calli (R_run (As := [.ref (ad 3 (op d)), .int (nI sg)]) (rest := []) (n := 2) hx hb hml K hM hxB hA hS (fun _ q => q.1) (C := R_Reader) (ci := 2) rfl (e_Reader_takePart l s0 D T A hA h0 ad _ _ _ _ sg (by omega) op kd d n pt fw mo nm dg (hQ.d0 (by decide)) hn) kc_Reader_takePart k_Reader_m57 ki_Reader_takePart ke_Reader_takePart k_Reader_ini rfl rfl (by decide +kernel) ⟨Nat.le_of_ble_eq_true rfl, Nat.le_of_ble_eq_true rfl⟩ rfl hl.1 rfl (lv_room (Nat.le_of_ble_eq_true rfl)) d_Reader_take_120 ⟨Nat.le_of_ble_eq_true rfl, Nat.le_of_ble_eq_true rfl⟩) hS (fun q _ h => h) (fun q h => h) (fun r S t H1 locs1 ht hvm hw hB hz hk hS => ?_)
  replace hM : RW D T A h0 ad S.1 S.2.1 S.2.2.1 S.2.2.2 H1 := by rw [← ht]; exact hB
  rcases hw with ⟨rfl, hv⟩ | ⟨rfl, t9, hv, hq9⟩
  · skip
    refine W.zret (v := (0)) hx hb hr rfl (r_endi hM hS ?_) hS.2.2 d_Reader_take_123
    exact Or.inl ⟨rfl, (ms_part0 (Or.inl rfl)).trans hv⟩
  · skip
    refine W.zret (v := (1)) hx hb hr rfl (r_endi hM hS ?_) hS.2.2 d_Reader_take_123
    exact Or.inr ⟨rfl, t9, (ms_part0 (Or.inl rfl)).trans hv, hq9⟩
set_option maxHeartbeats 4000000 in
set_option maxRecDepth 100000 in
theorem e_takeS1 (l : Launch) (s0 : State) (D : va_G) (T : Nat → ClassId) (A : Nat → Prop) (hA : ∀ q, A q → s0.heap.size ≤ q) (h0 : Nat → Option va_E) (ad : Nat → Nat → Nat) (rf : Nat → Int32) (xf nf : Nat → Nat → Int32) (fo : Nat → Option Nat) (sq sv : Nat) (hstr : strW sq sv s0 ∧ vk_R R_Reader 63 fsT sq s0) (sg : Nat) (hsg : sg < 128) (op kd : Nat → Nat) (d : Nat) (n : Nat) (pt fw mo : Nat → Nat) (nm : List Nat) (dg : Nat) (hQ : cQ ad (rf, xf, nf, fo) op kd (d + 1) 1 n pt fw mo nm dg) (hn : n < 12) :
    Met l y_Reader_take (.code y_Reader_take b_Reader_take 3 (some .boolean) :: lw_g) ({ frames := 5, cells := 0, slots := 0, locals := 124 }) (va_Pc [.ref (ad 0 0), .int (nI sg)] (rP s0 D T A h0 ad rf xf nf fo)) (va_Qi (cRes ad (md_sign (nI sg) ((d + 1), 1, n, pt, fw, mo, nm, dg))) (rB D T A h0 ad) A) 0 0 A := by
  refine Met.ofW (cc := b_Reader_take) (maxL := 3) (ret := (some .boolean)) (by decide) rfl ?_
  intro p e s m args below meth c s₁ B hml hv
  obtain ⟨rfl, hxB, hM, hK⟩ := hv
  have hx := B.exec
  have hb := B.bytes
  have hr := B.returns
  have hlocks := B.notSynchronized
  have hts := atoms_spec (ws := (.code y_Reader_take b_Reader_take 3 (some .boolean) :: lw_g)) B.pre
  have hown : s.vm.findClass R_Reader = some m.cls := findClass_of_methodNamed B.named
  have K : cK D T R_Reader s m _ := ⟨fun w h => hts w (List.mem_cons_of_mem _ h), hown, hK⟩
  have hS : va_S A s.heap s.heap [] := va_S.rf
  have hl := lv_entry ([.ref (ad 0 0), .int (nI sg)]) (n := 3) (Nat.le_of_ble_eq_true rfl)
  rw [lg_entry_eq]
  generalize (lg_sl ([.ref (ad 0 0), .int (nI sg)]) ++ List.replicate (3 - (lg_sl ([.ref (ad 0 0), .int (nI sg)])).length) Slot.unset).toArray = ls at hl ⊢
  have hl : lv_has ls 3 [(0, .ref (ad 0 0)), (1, .int (nI sg))] := hl
  obtain ⟨⟨hq2, hq3, hq4, hq5⟩, ⟨hb1, -, -⟩, ⟨hL1, hL2⟩, -⟩ := id hQ
  dsimp only at hq2 hq3 hq4 hq5 hL1
  have hod : op d < 120 := by have := (hL1 d (by omega)).1.2; omega
  have a1 := (hL1 d (Nat.lt_succ_self d)).1.1
  have hq3 : rf 3 = 0 := hq3
  have hq4 : rf 4 = 0 := hq4
  refine lv_aload_n hx hb d_Reader_take_0 rfl (lv_at hl 0 rfl) ?_
  refine R_get hx hb K hM 4 (v := .int (0)) (rd4 hq4) k_Reader_f31 d_Reader_take_1 (kk := ?_)
  refine lv_if_le (tgt := 20) hx hb d_Reader_take_4 (by decide) (fun c_4 => ?_) (fun c_4 => absurd (by decide) c_4)
  refine lv_aload_n hx hb d_Reader_take_20 rfl (lv_at hl 0 rfl) ?_
  refine lv_iconst (v := 0) hx hb d_Reader_take_21 (by decide) ?_
  refine R_put hx hb K hM hS 4 k_Reader_f31 d_Reader_take_22 (kk := fun H locs hM hS => ?_)
  refine lv_aload_n hx hb d_Reader_take_25 rfl (lv_at hl 0 rfl) ?_
  refine R_get hx hb K hM 2 (v := .int (nI (d + 1))) (rd2 hq2) k_Reader_f25 d_Reader_take_26 (kk := ?_)
  refine lv_if_ne (tgt := 53) hx hb d_Reader_take_29 (by decide) (fun c_29 => ?_) (fun c_29 => absurd c_29 (nI_ne0 (n := d + 1) (by omega) (by omega)))
  refine lv_aload_n hx hb d_Reader_take_53 rfl (lv_at hl 0 rfl) ?_
  refine R_get hx hb K hM 1 (v := .ref (ad 2 0)) rfl k_Reader_f17 d_Reader_take_54 (kk := ?_)
  refine lv_aload_n hx hb d_Reader_take_57 rfl (lv_at hl 0 rfl) ?_
  refine R_get hx hb K hM 2 (v := .int (nI (d + 1))) (rd2 hq2) k_Reader_f25 d_Reader_take_58 (kk := ?_)
  refine lv_iconst (v := 1) hx hb d_Reader_take_61 (by decide) ?_
  refine lv_isub hx hb d_Reader_take_62 ?_
  refine lv_as (v := nI d) (nI_pred d) ?_
  refine R_op hx hb K hM (j := d) (by omega) (q := ad 3 (op d)) a1 d_Reader_take_63 ?_
  refine lv_astore_n (lv' := [(2, .ref (ad 3 (op d))), (0, .ref (ad 0 0)), (1, .int (nI sg))]) hx hb d_Reader_take_64 rfl hl (by decide) rfl (fun ls hl => ?_)
  refine lv_aload_n hx hb d_Reader_take_65 rfl (lv_at hl 1 rfl) ?_
  refine R_get hx hb K hM 3 (v := .int (0)) (rd3 hq3) k_Reader_f28 d_Reader_take_66 (kk := ?_)
  refine lv_tableIn (tgt := 96) (off := 27) hx hb d_Reader_take_69 (by decide) (by decide) (by decide) (by decide) ?_
  refine lv_aload_n hx hb d_Reader_take_96 rfl (lv_at hl 1 rfl) ?_
  refine lv_aload_n hx hb d_Reader_take_97 rfl (lv_at hl 0 rfl) ?_
  refine lv_iload_n hx hb d_Reader_take_98 rfl (lv_at hl 2 rfl) ?_
  refine va_calli (R_run (As := [.ref (ad 3 (op d)), .int (nI sg)]) (rest := []) (n := 2) hx hb hml K hM hxB hA hS (fun _ q => q.1) (C := R_Reader) (ci := 2) rfl (e_Reader_takeHead l s0 D T A hA h0 ad _ _ _ _ sq sv hstr sg hsg op kd d n pt fw mo nm dg (hQ.d0 (by decide)) hn) kc_Reader_takeHead k_Reader_m47 ki_Reader_takeHead ke_Reader_takeHead k_Reader_ini rfl rfl (by decide +kernel) ⟨Nat.le_of_ble_eq_true rfl, Nat.le_of_ble_eq_true rfl⟩ rfl hl.1 rfl (lv_room (Nat.le_of_ble_eq_true rfl)) d_Reader_take_99 ⟨Nat.le_of_ble_eq_true rfl, Nat.le_of_ble_eq_true rfl⟩) hS (fun q _ h => h) (fun q h => h) (fun r S t H1 locs1 ht hvm hw hB hz hk hS => ?_)
  replace hM : RW D T A h0 ad S.1 S.2.1 S.2.2.1 S.2.2.2 H1 := by rw [← ht]; exact hB
  rcases hw with ⟨rfl, hv⟩ | ⟨rfl, t9, hv, hq9⟩
  · skip
    refine W.zret (v := (0)) hx hb hr rfl (r_endi hM hS ?_) hS.2.2 d_Reader_take_102
    exact Or.inl ⟨rfl, ((rfl : md_sign (nI sg) ((d + 1), 1, n, pt, fw, mo, nm, dg) = _)).trans hv⟩
  · skip
    refine W.zret (v := (1)) hx hb hr rfl (r_endi hM hS ?_) hS.2.2 d_Reader_take_102
    exact Or.inr ⟨rfl, t9, ((rfl : md_sign (nI sg) ((d + 1), 1, n, pt, fw, mo, nm, dg) = _)).trans hv, hq9⟩
set_option maxHeartbeats 4000000 in
set_option maxRecDepth 100000 in
theorem e_takeS2 (l : Launch) (s0 : State) (D : va_G) (T : Nat → ClassId) (A : Nat → Prop) (hA : ∀ q, A q → s0.heap.size ≤ q) (h0 : Nat → Option va_E) (ad : Nat → Nat → Nat) (rf : Nat → Int32) (xf nf : Nat → Nat → Int32) (fo : Nat → Option Nat) (sq sv : Nat) (hstr : strW sq sv s0 ∧ vk_R R_Reader 63 fsT sq s0) (sg : Nat) (hsg : sg < 128) (op kd : Nat → Nat) (d : Nat) (n : Nat) (pt fw mo : Nat → Nat) (nm : List Nat) (dg : Nat) (hQ : cQ ad (rf, xf, nf, fo) op kd (d + 1) 2 n pt fw mo nm dg) (hn : n < 12) :
    Met l y_Reader_take (.code y_Reader_take b_Reader_take 3 (some .boolean) :: lw_g) ({ frames := 5, cells := 0, slots := 0, locals := 124 }) (va_Pc [.ref (ad 0 0), .int (nI sg)] (rP s0 D T A h0 ad rf xf nf fo)) (va_Qi (cRes ad (md_sign (nI sg) ((d + 1), 2, n, pt, fw, mo, nm, dg))) (rB D T A h0 ad) A) 0 0 A := by
  refine Met.ofW (cc := b_Reader_take) (maxL := 3) (ret := (some .boolean)) (by decide) rfl ?_
  intro p e s m args below meth c s₁ B hml hv
  obtain ⟨rfl, hxB, hM, hK⟩ := hv
  have hx := B.exec
  have hb := B.bytes
  have hr := B.returns
  have hlocks := B.notSynchronized
  have hts := atoms_spec (ws := (.code y_Reader_take b_Reader_take 3 (some .boolean) :: lw_g)) B.pre
  have hown : s.vm.findClass R_Reader = some m.cls := findClass_of_methodNamed B.named
  have K : cK D T R_Reader s m _ := ⟨fun w h => hts w (List.mem_cons_of_mem _ h), hown, hK⟩
  have hS : va_S A s.heap s.heap [] := va_S.rf
  have hl := lv_entry ([.ref (ad 0 0), .int (nI sg)]) (n := 3) (Nat.le_of_ble_eq_true rfl)
  rw [lg_entry_eq]
  generalize (lg_sl ([.ref (ad 0 0), .int (nI sg)]) ++ List.replicate (3 - (lg_sl ([.ref (ad 0 0), .int (nI sg)])).length) Slot.unset).toArray = ls at hl ⊢
  have hl : lv_has ls 3 [(0, .ref (ad 0 0)), (1, .int (nI sg))] := hl
  obtain ⟨⟨hq2, hq3, hq4, hq5⟩, ⟨hb1, -, -⟩, ⟨hL1, hL2⟩, -⟩ := id hQ
  dsimp only at hq2 hq3 hq4 hq5 hL1
  have hod : op d < 120 := by have := (hL1 d (by omega)).1.2; omega
  have a1 := (hL1 d (Nat.lt_succ_self d)).1.1
  have hq3 : rf 3 = 1 := hq3
  have hq4 : rf 4 = 0 := hq4
  refine lv_aload_n hx hb d_Reader_take_0 rfl (lv_at hl 0 rfl) ?_
  refine R_get hx hb K hM 4 (v := .int (0)) (rd4 hq4) k_Reader_f31 d_Reader_take_1 (kk := ?_)
  refine lv_if_le (tgt := 20) hx hb d_Reader_take_4 (by decide) (fun c_4 => ?_) (fun c_4 => absurd (by decide) c_4)
  refine lv_aload_n hx hb d_Reader_take_20 rfl (lv_at hl 0 rfl) ?_
  refine lv_iconst (v := 0) hx hb d_Reader_take_21 (by decide) ?_
  refine R_put hx hb K hM hS 4 k_Reader_f31 d_Reader_take_22 (kk := fun H locs hM hS => ?_)
  refine lv_aload_n hx hb d_Reader_take_25 rfl (lv_at hl 0 rfl) ?_
  refine R_get hx hb K hM 2 (v := .int (nI (d + 1))) (rd2 hq2) k_Reader_f25 d_Reader_take_26 (kk := ?_)
  refine lv_if_ne (tgt := 53) hx hb d_Reader_take_29 (by decide) (fun c_29 => ?_) (fun c_29 => absurd c_29 (nI_ne0 (n := d + 1) (by omega) (by omega)))
  refine lv_aload_n hx hb d_Reader_take_53 rfl (lv_at hl 0 rfl) ?_
  refine R_get hx hb K hM 1 (v := .ref (ad 2 0)) rfl k_Reader_f17 d_Reader_take_54 (kk := ?_)
  refine lv_aload_n hx hb d_Reader_take_57 rfl (lv_at hl 0 rfl) ?_
  refine R_get hx hb K hM 2 (v := .int (nI (d + 1))) (rd2 hq2) k_Reader_f25 d_Reader_take_58 (kk := ?_)
  refine lv_iconst (v := 1) hx hb d_Reader_take_61 (by decide) ?_
  refine lv_isub hx hb d_Reader_take_62 ?_
  refine lv_as (v := nI d) (nI_pred d) ?_
  refine R_op hx hb K hM (j := d) (by omega) (q := ad 3 (op d)) a1 d_Reader_take_63 ?_
  refine lv_astore_n (lv' := [(2, .ref (ad 3 (op d))), (0, .ref (ad 0 0)), (1, .int (nI sg))]) hx hb d_Reader_take_64 rfl hl (by decide) rfl (fun ls hl => ?_)
  refine lv_aload_n hx hb d_Reader_take_65 rfl (lv_at hl 1 rfl) ?_
  refine R_get hx hb K hM 3 (v := .int (1)) (rd3 hq3) k_Reader_f28 d_Reader_take_66 (kk := ?_)
  refine lv_tableIn (tgt := 103) (off := 34) hx hb d_Reader_take_69 (by decide) (by decide) (by decide) (by decide) ?_
  refine lv_aload_n hx hb d_Reader_take_103 rfl (lv_at hl 1 rfl) ?_
  refine lv_aload_n hx hb d_Reader_take_104 rfl (lv_at hl 0 rfl) ?_
  refine lv_iload_n hx hb d_Reader_take_105 rfl (lv_at hl 2 rfl) ?_
  refine va_calli (R_run (As := [.ref (ad 3 (op d)), .int (nI sg)]) (rest := []) (n := 2) hx hb hml K hM hxB hA hS (fun _ q => q.1) (C := R_Reader) (ci := 2) rfl (e_Reader_takeOneName l s0 D T A hA h0 ad _ _ _ _ sg (by omega) op kd d n pt fw mo nm dg (hQ.d0 (by decide)) hn) kc_Reader_takeOneName k_Reader_m51 ki_Reader_takeOneName ke_Reader_takeOneName k_Reader_ini rfl rfl (by decide +kernel) ⟨Nat.le_of_ble_eq_true rfl, Nat.le_of_ble_eq_true rfl⟩ rfl hl.1 rfl (lv_room (Nat.le_of_ble_eq_true rfl)) d_Reader_take_106 ⟨Nat.le_of_ble_eq_true rfl, Nat.le_of_ble_eq_true rfl⟩) hS (fun q _ h => h) (fun q h => h) (fun r S t H1 locs1 ht hvm hw hB hz hk hS => ?_)
  replace hM : RW D T A h0 ad S.1 S.2.1 S.2.2.1 S.2.2.2 H1 := by rw [← ht]; exact hB
  rcases hw with ⟨rfl, hv⟩ | ⟨rfl, t9, hv, hq9⟩
  · skip
    refine W.zret (v := (0)) hx hb hr rfl (r_endi hM hS ?_) hS.2.2 d_Reader_take_109
    exact Or.inl ⟨rfl, ((by simp [md_sign] : md_sign (nI sg) ((d + 1), 2, n, pt, fw, mo, nm, dg) = if ¬ nI sg < 97 ∧ ¬ 122 < nI sg then some (d + 1, 0, n, pt, fw, mo, nm, dg) else none)).trans hv⟩
  · skip
    refine W.zret (v := (1)) hx hb hr rfl (r_endi hM hS ?_) hS.2.2 d_Reader_take_109
    exact Or.inr ⟨rfl, t9, ((by simp [md_sign] : md_sign (nI sg) ((d + 1), 2, n, pt, fw, mo, nm, dg) = if ¬ nI sg < 97 ∧ ¬ 122 < nI sg then some (d + 1, 0, n, pt, fw, mo, nm, dg) else none)).trans hv, hq9⟩
set_option maxHeartbeats 4000000 in
set_option maxRecDepth 100000 in
theorem e_takeS3 (l : Launch) (s0 : State) (D : va_G) (T : Nat → ClassId) (A : Nat → Prop) (hA : ∀ q, A q → s0.heap.size ≤ q) (h0 : Nat → Option va_E) (ad : Nat → Nat → Nat) (rf : Nat → Int32) (xf nf : Nat → Nat → Int32) (fo : Nat → Option Nat) (sq sv : Nat) (hstr : strW sq sv s0 ∧ vk_R R_Reader 63 fsT sq s0) (sg : Nat) (hsg : sg < 128) (op kd : Nat → Nat) (d : Nat) (n : Nat) (pt fw mo : Nat → Nat) (nm : List Nat) (dg : Nat) (hQ : cQ ad (rf, xf, nf, fo) op kd (d + 1) 3 n pt fw mo nm dg) (hn : n < 12) :
    Met l y_Reader_take (.code y_Reader_take b_Reader_take 3 (some .boolean) :: lw_g) ({ frames := 5, cells := 0, slots := 0, locals := 124 }) (va_Pc [.ref (ad 0 0), .int (nI sg)] (rP s0 D T A h0 ad rf xf nf fo)) (va_Qi (cRes ad (md_sign (nI sg) ((d + 1), 3, n, pt, fw, mo, nm, dg))) (rB D T A h0 ad) A) 0 0 A := by
  refine Met.ofW (cc := b_Reader_take) (maxL := 3) (ret := (some .boolean)) (by decide) rfl ?_
  intro p e s m args below meth c s₁ B hml hv
  obtain ⟨rfl, hxB, hM, hK⟩ := hv
  have hx := B.exec
  have hb := B.bytes
  have hr := B.returns
  have hlocks := B.notSynchronized
  have hts := atoms_spec (ws := (.code y_Reader_take b_Reader_take 3 (some .boolean) :: lw_g)) B.pre
  have hown : s.vm.findClass R_Reader = some m.cls := findClass_of_methodNamed B.named
  have K : cK D T R_Reader s m _ := ⟨fun w h => hts w (List.mem_cons_of_mem _ h), hown, hK⟩
  have hS : va_S A s.heap s.heap [] := va_S.rf
  have hl := lv_entry ([.ref (ad 0 0), .int (nI sg)]) (n := 3) (Nat.le_of_ble_eq_true rfl)
  rw [lg_entry_eq]
  generalize (lg_sl ([.ref (ad 0 0), .int (nI sg)]) ++ List.replicate (3 - (lg_sl ([.ref (ad 0 0), .int (nI sg)])).length) Slot.unset).toArray = ls at hl ⊢
  have hl : lv_has ls 3 [(0, .ref (ad 0 0)), (1, .int (nI sg))] := hl
  obtain ⟨⟨hq2, hq3, hq4, hq5⟩, ⟨hb1, -, -⟩, ⟨hL1, hL2⟩, -⟩ := id hQ
  dsimp only at hq2 hq3 hq4 hq5 hL1
  have hod : op d < 120 := by have := (hL1 d (by omega)).1.2; omega
  have a1 := (hL1 d (Nat.lt_succ_self d)).1.1
  have hq3 : rf 3 = 2 := hq3
  have hq4 : rf 4 = 0 := hq4
  refine lv_aload_n hx hb d_Reader_take_0 rfl (lv_at hl 0 rfl) ?_
  refine R_get hx hb K hM 4 (v := .int (0)) (rd4 hq4) k_Reader_f31 d_Reader_take_1 (kk := ?_)
  refine lv_if_le (tgt := 20) hx hb d_Reader_take_4 (by decide) (fun c_4 => ?_) (fun c_4 => absurd (by decide) c_4)
  refine lv_aload_n hx hb d_Reader_take_20 rfl (lv_at hl 0 rfl) ?_
  refine lv_iconst (v := 0) hx hb d_Reader_take_21 (by decide) ?_
  refine R_put hx hb K hM hS 4 k_Reader_f31 d_Reader_take_22 (kk := fun H locs hM hS => ?_)
  refine lv_aload_n hx hb d_Reader_take_25 rfl (lv_at hl 0 rfl) ?_
  refine R_get hx hb K hM 2 (v := .int (nI (d + 1))) (rd2 hq2) k_Reader_f25 d_Reader_take_26 (kk := ?_)
  refine lv_if_ne (tgt := 53) hx hb d_Reader_take_29 (by decide) (fun c_29 => ?_) (fun c_29 => absurd c_29 (nI_ne0 (n := d + 1) (by omega) (by omega)))
  refine lv_aload_n hx hb d_Reader_take_53 rfl (lv_at hl 0 rfl) ?_
  refine R_get hx hb K hM 1 (v := .ref (ad 2 0)) rfl k_Reader_f17 d_Reader_take_54 (kk := ?_)
  refine lv_aload_n hx hb d_Reader_take_57 rfl (lv_at hl 0 rfl) ?_
  refine R_get hx hb K hM 2 (v := .int (nI (d + 1))) (rd2 hq2) k_Reader_f25 d_Reader_take_58 (kk := ?_)
  refine lv_iconst (v := 1) hx hb d_Reader_take_61 (by decide) ?_
  refine lv_isub hx hb d_Reader_take_62 ?_
  refine lv_as (v := nI d) (nI_pred d) ?_
  refine R_op hx hb K hM (j := d) (by omega) (q := ad 3 (op d)) a1 d_Reader_take_63 ?_
  refine lv_astore_n (lv' := [(2, .ref (ad 3 (op d))), (0, .ref (ad 0 0)), (1, .int (nI sg))]) hx hb d_Reader_take_64 rfl hl (by decide) rfl (fun ls hl => ?_)
  refine lv_aload_n hx hb d_Reader_take_65 rfl (lv_at hl 1 rfl) ?_
  refine R_get hx hb K hM 3 (v := .int (2)) (rd3 hq3) k_Reader_f28 d_Reader_take_66 (kk := ?_)
  refine lv_tableIn (tgt := 110) (off := 41) hx hb d_Reader_take_69 (by decide) (by decide) (by decide) (by decide) ?_
  refine lv_aload_n hx hb d_Reader_take_110 rfl (lv_at hl 1 rfl) ?_
  refine lv_aload_n hx hb d_Reader_take_111 rfl (lv_at hl 0 rfl) ?_
  refine lv_iload_n hx hb d_Reader_take_112 rfl (lv_at hl 2 rfl) ?_
  refine va_calli (R_run (As := [.ref (ad 3 (op d)), .int (nI sg)]) (rest := []) (n := 2) hx hb hml K hM hxB hA hS (fun _ q => q.1) (C := R_Reader) (ci := 2) rfl (e_Reader_takeNameOrDot l s0 D T A hA h0 ad _ _ _ _ sg (by omega) op kd d n pt fw mo nm dg (hQ.d0 (by decide)) hn) kc_Reader_takeNameOrDot k_Reader_m54 ki_Reader_takeNameOrDot ke_Reader_takeNameOrDot k_Reader_ini rfl rfl (by decide +kernel) ⟨Nat.le_of_ble_eq_true rfl, Nat.le_of_ble_eq_true rfl⟩ rfl hl.1 rfl (lv_room (Nat.le_of_ble_eq_true rfl)) d_Reader_take_113 ⟨Nat.le_of_ble_eq_true rfl, Nat.le_of_ble_eq_true rfl⟩) hS (fun q _ h => h) (fun q h => h) (fun r S t H1 locs1 ht hvm hw hB hz hk hS => ?_)
  replace hM : RW D T A h0 ad S.1 S.2.1 S.2.2.1 S.2.2.2 H1 := by rw [← ht]; exact hB
  rcases hw with ⟨rfl, hv⟩ | ⟨rfl, t9, hv, hq9⟩
  · skip
    refine W.zret (v := (0)) hx hb hr rfl (r_endi hM hS ?_) hS.2.2 d_Reader_take_116
    exact Or.inl ⟨rfl, ((by simp [md_sign] : md_sign (nI sg) ((d + 1), 3, n, pt, fw, mo, nm, dg) = md_clos (nI sg) ((d + 1), 3, n, pt, fw, mo, nm, dg))).trans hv⟩
  · skip
    refine W.zret (v := (1)) hx hb hr rfl (r_endi hM hS ?_) hS.2.2 d_Reader_take_116
    exact Or.inr ⟨rfl, t9, ((by simp [md_sign] : md_sign (nI sg) ((d + 1), 3, n, pt, fw, mo, nm, dg) = md_clos (nI sg) ((d + 1), 3, n, pt, fw, mo, nm, dg))).trans hv, hq9⟩
set_option maxHeartbeats 4000000 in
set_option maxRecDepth 100000 in
theorem e_takeS4 (l : Launch) (s0 : State) (D : va_G) (T : Nat → ClassId) (A : Nat → Prop) (hA : ∀ q, A q → s0.heap.size ≤ q) (h0 : Nat → Option va_E) (ad : Nat → Nat → Nat) (rf : Nat → Int32) (xf nf : Nat → Nat → Int32) (fo : Nat → Option Nat) (sq sv : Nat) (hstr : strW sq sv s0 ∧ vk_R R_Reader 63 fsT sq s0) (sg : Nat) (hsg : sg < 128) (op kd : Nat → Nat) (d : Nat) (n : Nat) (pt fw mo : Nat → Nat) (nm : List Nat) (dg : Nat) (hQ : cQ ad (rf, xf, nf, fo) op kd (d + 1) 4 n pt fw mo nm dg) (hn : n < 12) :
    Met l y_Reader_take (.code y_Reader_take b_Reader_take 3 (some .boolean) :: lw_g) ({ frames := 5, cells := 0, slots := 0, locals := 124 }) (va_Pc [.ref (ad 0 0), .int (nI sg)] (rP s0 D T A h0 ad rf xf nf fo)) (va_Qi (cRes ad (md_sign (nI sg) ((d + 1), 4, n, pt, fw, mo, nm, dg))) (rB D T A h0 ad) A) 0 0 A := by
  refine Met.ofW (cc := b_Reader_take) (maxL := 3) (ret := (some .boolean)) (by decide) rfl ?_
  intro p e s m args below meth c s₁ B hml hv
  obtain ⟨rfl, hxB, hM, hK⟩ := hv
  have hx := B.exec
  have hb := B.bytes
  have hr := B.returns
  have hlocks := B.notSynchronized
  have hts := atoms_spec (ws := (.code y_Reader_take b_Reader_take 3 (some .boolean) :: lw_g)) B.pre
  have hown : s.vm.findClass R_Reader = some m.cls := findClass_of_methodNamed B.named
  have K : cK D T R_Reader s m _ := ⟨fun w h => hts w (List.mem_cons_of_mem _ h), hown, hK⟩
  have hS : va_S A s.heap s.heap [] := va_S.rf
  have hl := lv_entry ([.ref (ad 0 0), .int (nI sg)]) (n := 3) (Nat.le_of_ble_eq_true rfl)
  rw [lg_entry_eq]
  generalize (lg_sl ([.ref (ad 0 0), .int (nI sg)]) ++ List.replicate (3 - (lg_sl ([.ref (ad 0 0), .int (nI sg)])).length) Slot.unset).toArray = ls at hl ⊢
  have hl : lv_has ls 3 [(0, .ref (ad 0 0)), (1, .int (nI sg))] := hl
  obtain ⟨⟨hq2, hq3, hq4, hq5⟩, ⟨hb1, -, -⟩, ⟨hL1, hL2⟩, -⟩ := id hQ
  dsimp only at hq2 hq3 hq4 hq5 hL1
  have hod : op d < 120 := by have := (hL1 d (by omega)).1.2; omega
  have a1 := (hL1 d (Nat.lt_succ_self d)).1.1
  have hq3 : rf 3 = 3 := hq3
  have hq4 : rf 4 = nI dg := hq4
  obtain ⟨hn0, h1d, h4d⟩ := hQ.2.2.2.2.2.2.2.2 rfl
  refine lv_aload_n hx hb d_Reader_take_0 rfl (lv_at hl 0 rfl) ?_
  refine R_get hx hb K hM 4 (v := .int (nI dg)) (rd4 hq4) k_Reader_f31 d_Reader_take_1 (kk := ?_)
  refine lv_if_le (tgt := 20) hx hb d_Reader_take_4 (by decide) (fun c_4 => absurd c_4 (nI_nle h1d (by omega))) (fun c_4 => ?_)
  refine lv_iload_n hx hb d_Reader_take_7 rfl (lv_at hl 1 rfl) ?_
  refine va_calli (S_run (As := [.int (nI sg)]) (rest := []) (n := 1) hx hb hml K (e_Reader_isDigit l (nI sg)) kc_Reader_isDigit k_Reader_m38 ks_Reader_isDigit k_Reader_ini rfl rfl (by decide +kernel) ⟨Nat.le_of_ble_eq_true rfl, Nat.le_of_ble_eq_true rfl⟩ rfl hl.1 rfl (lv_room (Nat.le_of_ble_eq_true rfl)) d_Reader_take_8 ⟨Nat.le_of_ble_eq_true rfl, Nat.le_of_ble_eq_true rfl⟩) hS (fun q _ h => h.elim) (fun q h => h.elim) (fun r S t H1 locs1 ht hvm hw hB hz hk hS => ?_)
  replace hM := hM.kept hk
  rcases hw with ⟨rfl, g1, g2⟩ | ⟨rfl, g12⟩
  · skip
    refine lv_if_eq (tgt := 20) hx hb d_Reader_take_11 (by decide) (fun c_11 => absurd c_11 (by decide)) (fun c_11 => ?_)
    refine lv_aload_n hx hb d_Reader_take_14 rfl (lv_at hl 0 rfl) ?_
    refine lv_iload_n hx hb d_Reader_take_15 rfl (lv_at hl 1 rfl) ?_
    refine va_calli (R_run (As := [.int (nI sg)]) (rest := []) (n := 1) hx hb hml K hM hxB hA hS (fun _ q => q.1) (C := R_Reader) (ci := 2) rfl (e_Reader_takeDigit l s0 D T A hA h0 ad _ _ _ _ sg (by omega) op kd (d + 1) n pt fw mo nm dg hQ hn) kc_Reader_takeDigit k_Reader_m41 ki_Reader_takeDigit ke_Reader_takeDigit k_Reader_ini rfl rfl (by decide +kernel) ⟨Nat.le_of_ble_eq_true rfl, Nat.le_of_ble_eq_true rfl⟩ rfl hl.1 rfl (lv_room (Nat.le_of_ble_eq_true rfl)) d_Reader_take_16 ⟨Nat.le_of_ble_eq_true rfl, Nat.le_of_ble_eq_true rfl⟩) hS (fun q _ h => h) (fun q h => h) (fun r S t H1 locs1 ht hvm hw hB hz hk hS => ?_)
    replace hM : RW D T A h0 ad S.1 S.2.1 S.2.2.1 S.2.2.2 H1 := by rw [← ht]; exact hB
    rcases hw with ⟨rfl, hv⟩ | ⟨rfl, t9, hv, hq9⟩
    · skip
      refine W.zret (v := (0)) hx hb hr rfl (r_endi hM hS ?_) hS.2.2 d_Reader_take_19
      exact Or.inl ⟨rfl, ((by simp [md_sign, g1, g2] : md_sign (nI sg) ((d + 1), 4, n, pt, fw, mo, nm, dg) = if dg + 1 ≤ 4 then some ((d + 1), 4, n, pt, fw, mo, nm, dg + 1) else none)).trans hv⟩
    · skip
      refine W.zret (v := (1)) hx hb hr rfl (r_endi hM hS ?_) hS.2.2 d_Reader_take_19
      exact Or.inr ⟨rfl, t9, ((by simp [md_sign, g1, g2] : md_sign (nI sg) ((d + 1), 4, n, pt, fw, mo, nm, dg) = if dg + 1 ≤ 4 then some ((d + 1), 4, n, pt, fw, mo, nm, dg + 1) else none)).trans hv, hq9⟩
  · skip
    refine lv_if_eq (tgt := 20) hx hb d_Reader_take_11 (by decide) (fun c_11 => ?_) (fun c_11 => absurd rfl c_11)
    refine lv_aload_n hx hb d_Reader_take_20 rfl (lv_at hl 0 rfl) ?_
    refine lv_iconst (v := 0) hx hb d_Reader_take_21 (by decide) ?_
    refine R_put hx hb K hM hS 4 k_Reader_f31 d_Reader_take_22 (kk := fun H locs hM hS => ?_)
    refine lv_aload_n hx hb d_Reader_take_25 rfl (lv_at hl 0 rfl) ?_
    refine R_get hx hb K hM 2 (v := .int (nI (d + 1))) (rd2 hq2) k_Reader_f25 d_Reader_take_26 (kk := ?_)
    refine lv_if_ne (tgt := 53) hx hb d_Reader_take_29 (by decide) (fun c_29 => ?_) (fun c_29 => absurd c_29 (nI_ne0 (n := d + 1) (by omega) (by omega)))
    refine lv_aload_n hx hb d_Reader_take_53 rfl (lv_at hl 0 rfl) ?_
    refine R_get hx hb K hM 1 (v := .ref (ad 2 0)) rfl k_Reader_f17 d_Reader_take_54 (kk := ?_)
    refine lv_aload_n hx hb d_Reader_take_57 rfl (lv_at hl 0 rfl) ?_
    refine R_get hx hb K hM 2 (v := .int (nI (d + 1))) (rd2 hq2) k_Reader_f25 d_Reader_take_58 (kk := ?_)
    refine lv_iconst (v := 1) hx hb d_Reader_take_61 (by decide) ?_
    refine lv_isub hx hb d_Reader_take_62 ?_
    refine lv_as (v := nI d) (nI_pred d) ?_
    refine R_op hx hb K hM (j := d) (by omega) (q := ad 3 (op d)) a1 d_Reader_take_63 ?_
    refine lv_astore_n (lv' := [(2, .ref (ad 3 (op d))), (0, .ref (ad 0 0)), (1, .int (nI sg))]) hx hb d_Reader_take_64 rfl hl (by decide) rfl (fun ls hl => ?_)
    refine lv_aload_n hx hb d_Reader_take_65 rfl (lv_at hl 1 rfl) ?_
    refine R_get hx hb K hM 3 (v := .int (3)) (rd3 hq3) k_Reader_f28 d_Reader_take_66 (kk := ?_)
    refine lv_tableOut (tgt := 117) hx hb d_Reader_take_69 (by decide) (by decide) ?_
    refine lv_aload_n hx hb d_Reader_take_117 rfl (lv_at hl 1 rfl) ?_
    refine lv_aload_n hx hb d_Reader_take_118 rfl (lv_at hl 0 rfl) ?_
    refine lv_iload_n hx hb d_Reader_take_119 rfl (lv_at hl 2 rfl) ?_
    refine va_calli (R_run (As := [.ref (ad 3 (op d)), .int (nI sg)]) (rest := []) (n := 2) hx hb hml K hM hxB hA hS (fun _ q => q.1) (C := R_Reader) (ci := 2) rfl (e_Reader_takePart l s0 D T A hA h0 ad _ _ _ _ sg (by omega) op kd d n pt fw mo nm dg (hQ.d4) hn) kc_Reader_takePart k_Reader_m57 ki_Reader_takePart ke_Reader_takePart k_Reader_ini rfl rfl (by decide +kernel) ⟨Nat.le_of_ble_eq_true rfl, Nat.le_of_ble_eq_true rfl⟩ rfl hl.1 rfl (lv_room (Nat.le_of_ble_eq_true rfl)) d_Reader_take_120 ⟨Nat.le_of_ble_eq_true rfl, Nat.le_of_ble_eq_true rfl⟩) hS (fun q _ h => h) (fun q h => h) (fun r S t H1 locs1 ht hvm hw hB hz hk hS => ?_)
    replace hM : RW D T A h0 ad S.1 S.2.1 S.2.2.1 S.2.2.2 H1 := by rw [← ht]; exact hB
    rcases hw with ⟨rfl, hv⟩ | ⟨rfl, t9, hv, hq9⟩
    · skip
      refine W.zret (v := (0)) hx hb hr rfl (r_endi hM hS ?_) hS.2.2 d_Reader_take_123
      exact Or.inl ⟨rfl, (ms_part0 (Or.inr ⟨rfl, g12⟩)).trans hv⟩
    · skip
      refine W.zret (v := (1)) hx hb hr rfl (r_endi hM hS ?_) hS.2.2 d_Reader_take_123
      exact Or.inr ⟨rfl, t9, (ms_part0 (Or.inr ⟨rfl, g12⟩)).trans hv, hq9⟩
theorem e_take (l : Launch) (s0 : State) (D : va_G) (T : Nat → ClassId) (A : Nat → Prop) (hA : ∀ q, A q → s0.heap.size ≤ q) (h0 : Nat → Option va_E) (ad : Nat → Nat → Nat) (rf : Nat → Int32) (xf nf : Nat → Nat → Int32) (fo : Nat → Option Nat) (sq sv : Nat) (hstr : strW sq sv s0 ∧ vk_R R_Reader 63 fsT sq s0) (sg : Nat) (hsg : sg < 128) (op kd : Nat → Nat) (d md n : Nat) (pt fw mo : Nat → Nat) (nm : List Nat) (dg : Nat) (hQ : cQ ad (rf, xf, nf, fo) op kd d md n pt fw mo nm dg) (hn : n < 12) : Met l y_Reader_take (.code y_Reader_take b_Reader_take 3 (some .boolean) :: lw_g) ({ frames := 5, cells := 0, slots := 0, locals := 124 }) (va_Pc [.ref (ad 0 0), .int (nI sg)] (rP s0 D T A h0 ad rf xf nf fo)) (va_Qi (cRes ad (md_sign (nI sg) (d, md, n, pt, fw, mo, nm, dg))) (rB D T A h0 ad) A) 0 0 A := by
  have hb := hQ.2.1
  have hz := hQ.2.2.2.1
  have h6 := hQ.2.2.2.2.1
  have h1 := hQ.2.2.2.2.2.1
  cases d with
  | zero =>
    rcases hz rfl with ⟨rfl, rfl⟩ | ⟨rfl | rfl, -⟩
    · exact e_take00 l s0 D T A hA h0 ad rf xf nf fo sq sv hstr sg hsg op kd pt fw mo nm dg hQ
    · exact e_take04 l s0 D T A hA h0 ad rf xf nf fo sq sv hstr sg hsg op kd n pt fw mo nm dg hQ hn
    · exact e_take06 l s0 D T A hA h0 ad rf xf nf fo sq sv hstr sg hsg op kd n pt fw mo nm dg hQ hn
  | succ d =>
    rcases (show md = 0 ∨ md = 1 ∨ md = 2 ∨ md = 3 ∨ md = 4 by omega) with rfl | rfl | rfl | rfl | rfl
    · exact e_takeS0 l s0 D T A hA h0 ad rf xf nf fo sq sv hstr sg hsg op kd d n pt fw mo nm dg hQ hn
    · exact e_takeS1 l s0 D T A hA h0 ad rf xf nf fo sq sv hstr sg hsg op kd d n pt fw mo nm dg hQ hn
    · exact e_takeS2 l s0 D T A hA h0 ad rf xf nf fo sq sv hstr sg hsg op kd d n pt fw mo nm dg hQ hn
    · exact e_takeS3 l s0 D T A hA h0 ad rf xf nf fo sq sv hstr sg hsg op kd d n pt fw mo nm dg hQ hn
    · exact e_takeS4 l s0 D T A hA h0 ad rf xf nf fo sq sv hstr sg hsg op kd d n pt fw mo nm dg hQ hn
