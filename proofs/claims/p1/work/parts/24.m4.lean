theorem mb_full {c : Int32} {d md n : Nat} {pt fw mo : Nat → Nat} {nm : List Nat} {dg : Nat} (h : 0 < d ∧ pt (d - 1) = mo (d - 1)) : md_begin c (d, md, n, pt, fw, mo, nm, dg) = none := by
  show (if 0 < d ∧ pt (d - 1) = mo (d - 1) then none else _) = _
  rw [if_pos h]
theorem mb_dig {c : Int32} {d md n : Nat} {pt fw mo : Nat → Nat} {nm : List Nat} {dg : Nat} (h : ¬ (0 < d ∧ pt (d - 1) = mo (d - 1))) (h1 : ¬ c < 48 ∧ ¬ 57 < c) : md_begin c (d, md, n, pt, fw, mo, nm, dg) = some (d, 4, n + 1, md_add d pt, fw, mo, nm, 1) := by
  show (if 0 < d ∧ pt (d - 1) = mo (d - 1) then none else if ¬ c < 48 ∧ ¬ 57 < c then _ else _) = _
  rw [if_neg h, if_pos h1]
theorem mb_leaf {c : Int32} {d md n : Nat} {pt fw mo : Nat → Nat} {nm : List Nat} {dg : Nat} (h : ¬ (0 < d ∧ pt (d - 1) = mo (d - 1))) (h1 : c < 48 ∨ 57 < c) (h2 : (¬ c < 97 ∧ ¬ 122 < c) ∨ c = 95) : md_begin c (d, md, n, pt, fw, mo, nm, dg) = some (d, (if d = 0 then 6 else 0), n + 1, md_add d pt, fw, mo, nm, dg) := by
  show (if 0 < d ∧ pt (d - 1) = mo (d - 1) then none else if ¬ c < 48 ∧ ¬ 57 < c then _ else if (¬ c < 97 ∧ c ≤ 122) ∨ c = 95 then _ else _) = _
  rw [if_neg h, if_neg (fun z => h1.elim z.1 z.2), if_pos (h2.elim (fun z => Or.inl ⟨z.1, Int32.not_lt.mp z.2⟩) Or.inr)]
theorem mb_open {c : Int32} {d md n : Nat} {pt fw mo : Nat → Nat} {nm : List Nat} {dg : Nat} (h : ¬ (0 < d ∧ pt (d - 1) = mo (d - 1))) (h1 : c = 40) (hd : d ≠ 12) : md_begin c (d, md, n, pt, fw, mo, nm, dg) = some (d + 1, 1, n + 1, va_up pt d 0, va_up fw d 1, va_up mo d 4, nm, dg) := by
  subst h1
  show (if 0 < d ∧ pt (d - 1) = mo (d - 1) then none else if ¬ (40 : Int32) < 48 ∧ ¬ 57 < (40 : Int32) then _ else if (¬ (40 : Int32) < 97 ∧ (40 : Int32) ≤ 122) ∨ (40 : Int32) = 95 then _ else if ¬ (40 : Int32) = 40 ∨ d = 12 then _ else _) = _
  rw [if_neg h, if_neg (by decide), if_neg (by decide), if_neg (fun z => z.elim (fun q => q rfl) hd)]
theorem mb_none {c : Int32} {d md n : Nat} {pt fw mo : Nat → Nat} {nm : List Nat} {dg : Nat} (h1 : c < 48 ∨ 57 < c) (h2 : c < 97 ∨ 122 < c) (h3 : ¬ c = 95) (h4 : ¬ c = 40) : md_begin c (d, md, n, pt, fw, mo, nm, dg) = none := by
  show (if 0 < d ∧ pt (d - 1) = mo (d - 1) then none else if ¬ c < 48 ∧ ¬ 57 < c then _ else if (¬ c < 97 ∧ c ≤ 122) ∨ c = 95 then _ else if ¬ c = 40 ∨ d = 12 then none else _) = _
  by_cases h : 0 < d ∧ pt (d - 1) = mo (d - 1)
  · rw [if_pos h]
  · rw [if_neg h, if_neg (fun z => h1.elim z.1 z.2), if_neg (fun z => z.elim (fun q => h2.elim q.1 (fun w => absurd w (Int32.not_lt.mpr q.2))) h3), if_pos (Or.inl h4)]
/-- an expression is begun: in the reader as in the reference -/
theorem tE_cQ {ad : Nat → Nat → Nat} {sg n d : Nat} {rf : Nat → Int32} {xf xf1 nf : Nat → Nat → Int32} {fo : Nat → Option Nat} {op kd : Nat → Nat} {pt fw mo : Nat → Nat} {nm : List Nat} {dg : Nat} {r : Int32} {S : SS} (hQ : cQ ad (rf, xf, nf, fo) op kd d 0 n pt fw mo nm dg) (hp : 0 < d → pt (d - 1) < mo (d - 1)) (hd12 : d < 12) (hE : tE ad sg n d rf xf1 nf fo r S) (hx0 : ∀ j, j < d → S.2.1 (op j) 0 = xf (op j) 0) (hx3 : ∀ j, j < d → S.2.1 (op j) 3 = if j + 1 = d then nI (pt j + 1) else xf (op j) 3) : cRes ad (md_begin (nI sg) (d, 0, n, pt, fw, mo, nm, dg)) r S := by
  have hq := hQ.1
  have hp' : ¬ (0 < d ∧ pt (d - 1) = mo (d - 1)) := fun z => by have := hp z.1; omega
  have hq4 : rf 4 = 0 := hq.2.2.1
  have hq3 : rf 3 = 3 := hq.2.1
  obtain ⟨-, -, h | h | h | h⟩ := hE
  · obtain ⟨rfl, h1, h2, h3⟩ := h
    exact Or.inr ⟨rfl, _, mb_dig hp' h1, op, kd, hQ.leaf hp 4 1 (Or.inl ⟨rfl, rfl⟩) (by rw [h2]; rfl) (by rw [h2]; rfl) (by rw [h2]; rfl) (by rw [h2]; rfl) h3 hx0 hx3⟩
  · obtain ⟨rfl, h1, h2, h3, h4⟩ := h
    exact Or.inr ⟨rfl, _, mb_leaf hp' h1 h2, op, kd, hQ.leaf hp _ dg (Or.inr rfl) (by rw [h3]; rfl) (by rw [h3]; rfl) (by rw [h3]; show rf 4 = _; rw [hq4]; by_cases z : d = 0 <;> simp [z, nI_0]) (by rw [h3]; rfl) h4 hx0 hx3⟩
  · obtain ⟨rfl, h1, h2, h3, h4, h5⟩ := h
    exact Or.inr ⟨rfl, _, mb_open hp' h1 (by omega), _, _, hQ.opn hp (by rw [h2]; rfl) (by rw [h2]; rfl) (by rw [h2]; exact hq4) (by rw [h2]; rfl) h3 hx0 hx3 h4 h5⟩
  · obtain ⟨rfl, h1, h2, h3, h4⟩ := h
    exact Or.inl ⟨rfl, mb_none h1 h2 h3 h4⟩
def md_part (c : Int32) : MT → Option MT := fun (d, _, n, pt, fw, mo, nm, dg) => if c = 32 then some (d, 0, n, pt, fw, mo, nm, dg) else if c = 41 then (if pt (d - 1) < fw (d - 1) then none else some (d - 1, (if d - 1 = 0 then 6 else 0), n, md_add (d - 1) pt, fw, mo, nm, dg)) else md_begin c (d, 0, n, pt, fw, mo, nm, dg)
theorem md_part_b {c : Int32} {d md n : Nat} {pt fw mo : Nat → Nat} {nm : List Nat} {dg : Nat} (h1 : ¬ c = 32) (h2 : ¬ c = 41) : md_part c (d, md, n, pt, fw, mo, nm, dg) = md_begin c (d, 0, n, pt, fw, mo, nm, dg) := by
  show (if c = 32 then _ else if c = 41 then _ else _) = _
  rw [if_neg h1, if_neg h2]
theorem md_part_s {c : Int32} {d md n : Nat} {pt fw mo : Nat → Nat} {nm : List Nat} {dg : Nat} (h1 : c = 32) : md_part c (d, md, n, pt, fw, mo, nm, dg) = some (d, 0, n, pt, fw, mo, nm, dg) := by
  show (if c = 32 then _ else _) = _
  rw [if_pos h1]
theorem md_part_n {c : Int32} {d md n : Nat} {pt fw mo : Nat → Nat} {nm : List Nat} {dg : Nat} (h2 : c = 41) (h3 : pt d < fw d) : md_part c (d + 1, md, n, pt, fw, mo, nm, dg) = none := by
  show (if c = 32 then _ else if c = 41 then (if pt d < fw d then none else _) else _) = _
  rw [if_neg (by rw [h2]; decide), if_pos h2, if_pos h3]
theorem md_part_c {c : Int32} {d md n : Nat} {pt fw mo : Nat → Nat} {nm : List Nat} {dg : Nat} (h2 : c = 41) (h3 : ¬ pt d < fw d) : md_part c (d + 1, md, n, pt, fw, mo, nm, dg) = some (d, (if d = 0 then 6 else 0), n, md_add d pt, fw, mo, nm, dg) := by
  show (if c = 32 then _ else if c = 41 then (if pt d < fw d then none else _) else _) = _
  rw [if_neg (by rw [h2]; decide), if_pos h2, if_neg h3]; rfl
theorem part_x {xf S21 : Nat → Nat → Int32} {op pt : Nat → Nat} {d n : Nat} (hlt : ∀ j, j < d + 1 → op j < n) (hmono : ∀ j k, j < k → k < d + 1 → op j < op k) (ho : ∀ j, j ≠ n → S21 j = va_up xf (op d) (va_up (xf (op d)) 3 (nI (pt d + 1))) j) : (∀ j, j < d + 1 → S21 (op j) 0 = xf (op j) 0) ∧ (∀ j, j < d + 1 → S21 (op j) 3 = if j + 1 = d + 1 then nI (pt j + 1) else xf (op j) 3) := by
  refine ⟨fun j hj => ?_, fun j hj => ?_⟩
  · rw [ho _ (Nat.ne_of_lt (hlt j hj))]
    by_cases e : op j = op d
    · rw [e, va_up_self]; simp [va_up]
    · rw [va_up_ne _ _ e]
  · rw [ho _ (Nat.ne_of_lt (hlt j hj))]
    by_cases e : j = d
    · subst e; rw [va_up_self, if_pos rfl, va_up_self]
    · have := hmono j d (by omega) (by omega)
      rw [va_up_ne _ _ (by omega), if_neg (by omega)]
set_option maxHeartbeats 4000000 in
set_option maxRecDepth 100000 in
theorem e_Reader_takePart (l : Launch) (s0 : State) (D : va_G) (T : Nat → ClassId) (A : Nat → Prop) (hA : ∀ q, A q → s0.heap.size ≤ q) (h0 : Nat → Option va_E) (ad : Nat → Nat → Nat) (rf : Nat → Int32) (xf nf : Nat → Nat → Int32) (fo : Nat → Option Nat) (sg : Nat) (hsg : sg < 65536) (op kd : Nat → Nat) (d n : Nat) (pt fw mo : Nat → Nat) (nm : List Nat) (dg : Nat) (hQ : cQ ad (rf, xf, nf, fo) op kd (d + 1) 0 n pt fw mo nm dg) (hn : n < 12) :
    Met l y_Reader_takePart (.code y_Reader_takePart b_Reader_takePart 3 (some .boolean) :: lw_g) ({ frames := 2, cells := 0, slots := 0, locals := 44 }) (va_Pc [.ref (ad 0 0), .ref (ad 3 (op d)), .int (nI sg)] (rP s0 D T A h0 ad rf xf nf fo)) (va_Qi (cRes ad (md_part (nI sg) (d + 1, 0, n, pt, fw, mo, nm, dg))) (rB D T A h0 ad) A) 0 0 A := by
  refine Met.ofW (cc := b_Reader_takePart) (maxL := 3) (ret := (some .boolean)) (by decide) rfl ?_
  intro p e s m args below meth c s₁ B hml hv
  obtain ⟨rfl, hxB, hM, hK⟩ := hv
  have hx := B.exec
  have hb := B.bytes
  have hr := B.returns
  have hlocks := B.notSynchronized
  have hts := atoms_spec (ws := (.code y_Reader_takePart b_Reader_takePart 3 (some .boolean) :: lw_g)) B.pre
  have hown : s.vm.findClass R_Reader = some m.cls := findClass_of_methodNamed B.named
  have K : cK D T R_Reader s m _ := ⟨fun w h => hts w (List.mem_cons_of_mem _ h), hown, hK⟩
  have hS : va_S A s.heap s.heap [] := va_S.rf
  have hl := lv_entry ([.ref (ad 0 0), .ref (ad 3 (op d)), .int (nI sg)]) (n := 3) (Nat.le_of_ble_eq_true rfl)
  rw [lg_entry_eq]
  generalize (lg_sl ([.ref (ad 0 0), .ref (ad 3 (op d)), .int (nI sg)]) ++ List.replicate (3 - (lg_sl ([.ref (ad 0 0), .ref (ad 3 (op d)), .int (nI sg)])).length) Slot.unset).toArray = ls at hl ⊢
  have hl : lv_has ls 3 [(0, .ref (ad 0 0)), (1, .ref (ad 3 (op d))), (2, .int (nI sg))] := hl
  obtain ⟨⟨hq2, hq3, hq4, hq5⟩, ⟨hb1, -, -⟩, ⟨hL1, hL2⟩, -⟩ := id hQ
  dsimp only at hq2 hq3 hq4 hq5 hL1
  have hod : op d < 120 := by have := (hL1 d (by omega)).1.2; omega
  obtain ⟨⟨a1, a2⟩, ⟨a3, a4⟩, ⟨a5, a6⟩, a7, a8⟩ := hL1 d (Nat.lt_succ_self d)
  have e9 : pcN (d + 1) pt d = pt d := by unfold pcN; rw [if_neg (by omega)]
  rw [e9] at a7 a8
  have hp4 : pt d ≤ 4 := by have := (formK_le a4).1; omega
  refine lv_iload_n hx hb d_Reader_takePart_0 rfl (lv_at hl 2 rfl) ?_
  refine lv_bipush (v := 32) hx hb d_Reader_takePart_1 (by decide) ?_
  refine lv_icmp_ne (tgt := 8) hx hb d_Reader_takePart_3 (by decide) (fun c_3 => ?_) (fun c_3 => ?_)
  · skip
    refine lv_iload_n hx hb d_Reader_takePart_8 rfl (lv_at hl 2 rfl) ?_
    refine lv_bipush (v := 41) hx hb d_Reader_takePart_9 (by decide) ?_
    refine lv_icmp_ne (tgt := 29) hx hb d_Reader_takePart_11 (by decide) (fun c_11 => ?_) (fun c_11 => ?_)
    · skip
      refine lv_aload_n hx hb d_Reader_takePart_29 rfl (lv_at hl 0 rfl) ?_
      refine R_get hx hb K hM 5 (v := .int (nI n)) (rd5 hq5) k_Reader_f21 d_Reader_takePart_30 (kk := ?_)
      refine lv_bipush (v := 120) hx hb d_Reader_takePart_33 (by decide) ?_
      refine lv_icmp_ge (tgt := 66) hx hb d_Reader_takePart_35 (by decide) (fun c_35 => absurd c_35 (nI_ge (a := n) (b := 120) (by omega) (by decide))) (fun c_35 => ?_)
      refine lv_aload_n hx hb d_Reader_takePart_38 rfl (lv_at hl 1 rfl) ?_
      refine lv_aload_n hx hb d_Reader_takePart_39 rfl (lv_at hl 0 rfl) ?_
      refine R_get hx hb K hM 0 (v := .ref (ad 1 0)) rfl k_Reader_f11 d_Reader_takePart_40 (kk := ?_)
      refine lv_aload_n hx hb d_Reader_takePart_43 rfl (lv_at hl 0 rfl) ?_
      refine R_get hx hb K hM 5 (v := .int (nI n)) (rd5 hq5) k_Reader_f21 d_Reader_takePart_44 (kk := ?_)
      refine R_ex hx hb K hM (i := n) (by omega) d_Reader_takePart_47 ?_
      refine va_calli (R_run (As := [.ref (ad 3 (n))]) (rest := []) (n := 1) hx hb hml K hM hxB hA hS (fun _ q => (q.2.2.2.1 _ hod).1) (C := R_Expression) (ci := 3) rfl (e_Expression_addPart l s0 D T A hA h0 ad _ _ _ _ (op d) hod (kd d) a3 a4 (pt d) a7 hp4 n (by omega)) kc_Expression_addPart k_Reader_m86 ki_Expression_addPart ke_Expression_addPart k_Expression_ini rfl rfl (by decide +kernel) ⟨Nat.le_of_ble_eq_true rfl, Nat.le_of_ble_eq_true rfl⟩ rfl hl.1 rfl (lv_room (Nat.le_of_ble_eq_true rfl)) d_Reader_takePart_48 ⟨Nat.le_of_ble_eq_true rfl, Nat.le_of_ble_eq_true rfl⟩) hS (fun q _ h => h) (fun q h => h) (fun r S t H1 locs1 ht hvm hw hB hz hk hS => ?_)
      replace hM : RW D T A h0 ad S.1 S.2.1 S.2.2.1 S.2.2.2 H1 := by rw [← ht]; exact hB
      rcases hw with ⟨rfl, hge, rfl⟩ | ⟨rfl, hlt, rfl⟩
      · skip
        dsimp only at hM
        refine lv_if_eq (tgt := 66) hx hb d_Reader_takePart_51 (by decide) (fun c_51 => ?_) (fun c_51 => absurd rfl c_51)
        refine lv_iconst (v := 0) hx hb d_Reader_takePart_66 (by decide) ?_
        refine W.zret (v := (0)) hx hb hr rfl (r_endi hM hS ?_) hS.2.2 d_Reader_takePart_67
        exact Or.inl ⟨rfl, (md_part_b c_3 c_11).trans (mb_full ⟨by omega, by show pt d = mo d; omega⟩)⟩
      · skip
        dsimp only at hM
        refine lv_if_eq (tgt := 66) hx hb d_Reader_takePart_51 (by decide) (fun c_51 => absurd c_51 (by decide)) (fun c_51 => ?_)
        refine lv_aload_n hx hb d_Reader_takePart_54 rfl (lv_at hl 0 rfl) ?_
        refine lv_iload_n hx hb d_Reader_takePart_55 rfl (lv_at hl 2 rfl) ?_
        refine va_calli (R_run (As := [.int (nI sg)]) (rest := []) (n := 1) hx hb hml K hM hxB hA hS (fun _ q => q.1) (C := R_Reader) (ci := 2) rfl (e_Reader_takeExpression l s0 D T A hA h0 ad _ _ _ _ sg hsg n (by omega) hq5 (d + 1) hq2 (by omega)) kc_Reader_takeExpression k_Reader_m44 ki_Reader_takeExpression ke_Reader_takeExpression k_Reader_ini rfl rfl (by decide +kernel) ⟨Nat.le_of_ble_eq_true rfl, Nat.le_of_ble_eq_true rfl⟩ rfl hl.1 rfl (lv_room (Nat.le_of_ble_eq_true rfl)) d_Reader_takePart_56 ⟨Nat.le_of_ble_eq_true rfl, Nat.le_of_ble_eq_true rfl⟩) hS (fun q _ h => h) (fun q h => h) (fun r S t H1 locs1 ht hvm hw hB hz hk hS => ?_)
        replace hM : RW D T A h0 ad S.1 S.2.1 S.2.2.1 S.2.2.2 H1 := by rw [← ht]; exact hB
        have hxx := part_x (fun j hj => (hL1 j hj).1.2) hL2 hw.2.1
        have hres := tE_cQ hQ (fun _ => by show pt d < mo d; omega) (by omega) hw hxx.1 hxx.2
        rcases hres with ⟨rfl, hno⟩ | ⟨rfl, hyes⟩
        · skip
          refine lv_if_eq (tgt := 66) hx hb d_Reader_takePart_59 (by decide) (fun c_59 => ?_) (fun c_59 => absurd rfl c_59)
          refine lv_iconst (v := 0) hx hb d_Reader_takePart_66 (by decide) ?_
          refine W.zret (v := (0)) hx hb hr rfl (r_endi hM hS ?_) hS.2.2 d_Reader_takePart_67
          exact Or.inl ⟨rfl, (md_part_b c_3 c_11).trans hno⟩
        · skip
          refine lv_if_eq (tgt := 66) hx hb d_Reader_takePart_59 (by decide) (fun c_59 => absurd c_59 (by decide)) (fun c_59 => ?_)
          refine lv_iconst (v := 1) hx hb d_Reader_takePart_62 (by decide) ?_
          refine lv_goto (tgt := 67) hx hb d_Reader_takePart_63 (by decide) ?_
          refine W.zret (v := (1)) hx hb hr rfl (r_endi hM hS ?_) hS.2.2 d_Reader_takePart_67
          exact Or.inr ⟨rfl, hyes.choose, (md_part_b c_3 c_11).trans hyes.choose_spec.1, hyes.choose_spec.2⟩
    · skip
      refine lv_aload_n hx hb d_Reader_takePart_14 rfl (lv_at hl 0 rfl) ?_
      refine lv_dup hx hb d_Reader_takePart_15 rfl ?_
      refine R_get hx hb K hM 2 (v := .int (nI (d + 1))) (rd2 hq2) k_Reader_f25 d_Reader_takePart_16 (kk := ?_)
      refine lv_iconst (v := 1) hx hb d_Reader_takePart_19 (by decide) ?_
      refine lv_isub hx hb d_Reader_takePart_20 ?_
      refine lv_as (v := nI d) (nI_pred d) ?_
      refine R_put hx hb K hM hS 2 k_Reader_f25 d_Reader_takePart_21 (kk := fun H locs hM hS => ?_)
      refine lv_aload_n hx hb d_Reader_takePart_24 rfl (lv_at hl 1 rfl) ?_
      refine va_calli (R_run (As := []) (rest := []) (n := 0) hx hb hml K hM hxB hA hS (fun _ q => (q.2.2.2.1 _ hod).1) (C := R_Expression) (ci := 3) rfl (e_Expression_mayClose l s0 D T A hA h0 ad _ _ _ _ (op d) hod (kd d) a3 a4 (pt d) a7 hp4) kc_Expression_mayClose k_Reader_m82 ki_Expression_mayClose ke_Expression_mayClose k_Expression_ini rfl rfl (by decide +kernel) ⟨Nat.le_of_ble_eq_true rfl, Nat.le_of_ble_eq_true rfl⟩ rfl hl.1 rfl (lv_room (Nat.le_of_ble_eq_true rfl)) d_Reader_takePart_25 ⟨Nat.le_of_ble_eq_true rfl, Nat.le_of_ble_eq_true rfl⟩) hS (fun q _ h => h) (fun q h => h) (fun r S t H1 locs1 ht hvm hw hB hz hk hS => ?_)
      replace hM : RW D T A h0 ad S.1 S.2.1 S.2.2.1 S.2.2.2 H1 := by rw [← ht]; exact hB
      obtain ⟨rfl, hw⟩ := hw
      dsimp only at hM
      rcases hw with ⟨rfl, hcl⟩ | ⟨rfl, hcl⟩
      · skip
        refine W.zret (v := (1)) hx hb hr rfl (r_endi hM hS ?_) hS.2.2 d_Reader_takePart_28
        exact Or.inr ⟨rfl, (d, (if d = 0 then 6 else 0), n, md_add d pt, fw, mo, nm, dg), md_part_c c_11 (by omega), op, kd, hQ.close rfl rfl rfl rfl rfl⟩
      · skip
        refine W.zret (v := (0)) hx hb hr rfl (r_endi hM hS ?_) hS.2.2 d_Reader_takePart_28
        exact Or.inl ⟨rfl, md_part_n c_11 (by omega)⟩
  · skip
    refine lv_iconst (v := 1) hx hb d_Reader_takePart_6 (by decide) ?_
    refine W.zret (v := (1)) hx hb hr rfl (r_endi hM hS ?_) hS.2.2 d_Reader_takePart_7
    exact Or.inr ⟨rfl, (d + 1, 0, n, pt, fw, mo, nm, dg), md_part_s c_3, op, kd, hQ⟩
set_option maxHeartbeats 4000000 in
set_option maxRecDepth 100000 in
theorem e_Reader_takeOneName (l : Launch) (s0 : State) (D : va_G) (T : Nat → ClassId) (A : Nat → Prop) (hA : ∀ q, A q → s0.heap.size ≤ q) (h0 : Nat → Option va_E) (ad : Nat → Nat → Nat) (rf : Nat → Int32) (xf nf : Nat → Nat → Int32) (fo : Nat → Option Nat) (sg : Nat) (hsg : sg < 65536) (op kd : Nat → Nat) (d n : Nat) (pt fw mo : Nat → Nat) (nm : List Nat) (dg : Nat) (hQ : cQ ad (rf, xf, nf, fo) op kd (d + 1) 2 n pt fw mo nm dg) (hn : n < 12) :
    Met l y_Reader_takeOneName (.code y_Reader_takeOneName b_Reader_takeOneName 3 (some .boolean) :: lw_g) ({ frames := 1, cells := 0, slots := 0, locals := 20 }) (va_Pc [.ref (ad 0 0), .ref (ad 3 (op d)), .int (nI sg)] (rP s0 D T A h0 ad rf xf nf fo)) (va_Qi (cRes ad (if ¬ nI sg < 97 ∧ ¬ 122 < nI sg then some (d + 1, 0, n, pt, fw, mo, nm, dg) else none)) (rB D T A h0 ad) A) 0 0 A := by
  refine Met.ofW (cc := b_Reader_takeOneName) (maxL := 3) (ret := (some .boolean)) (by decide) rfl ?_
  intro p e s m args below meth c s₁ B hml hv
  obtain ⟨rfl, hxB, hM, hK⟩ := hv
  have hx := B.exec
  have hb := B.bytes
  have hr := B.returns
  have hlocks := B.notSynchronized
  have hts := atoms_spec (ws := (.code y_Reader_takeOneName b_Reader_takeOneName 3 (some .boolean) :: lw_g)) B.pre
  have hown : s.vm.findClass R_Reader = some m.cls := findClass_of_methodNamed B.named
  have K : cK D T R_Reader s m _ := ⟨fun w h => hts w (List.mem_cons_of_mem _ h), hown, hK⟩
  have hS : va_S A s.heap s.heap [] := va_S.rf
  have hl := lv_entry ([.ref (ad 0 0), .ref (ad 3 (op d)), .int (nI sg)]) (n := 3) (Nat.le_of_ble_eq_true rfl)
  rw [lg_entry_eq]
  generalize (lg_sl ([.ref (ad 0 0), .ref (ad 3 (op d)), .int (nI sg)]) ++ List.replicate (3 - (lg_sl ([.ref (ad 0 0), .ref (ad 3 (op d)), .int (nI sg)])).length) Slot.unset).toArray = ls at hl ⊢
  have hl : lv_has ls 3 [(0, .ref (ad 0 0)), (1, .ref (ad 3 (op d))), (2, .int (nI sg))] := hl
  obtain ⟨⟨hq2, hq3, hq4, hq5⟩, ⟨hb1, -, -⟩, ⟨hL1, hL2⟩, -⟩ := id hQ
  dsimp only at hq2 hq3 hq4 hq5 hL1
  have hod : op d < 120 := by have := (hL1 d (by omega)).1.2; omega
  obtain ⟨⟨a1, a2⟩, ⟨a3, a4⟩, ⟨a5, a6⟩, a7, a8⟩ := hL1 d (Nat.lt_succ_self d)
  have e9 : pcN (d + 1) pt d = pt d := by unfold pcN; rw [if_neg (by omega)]
  rw [e9] at a7 a8
  have hp4 : pt d ≤ 4 := by have := (formK_le a4).1; omega
  refine lv_aload_n hx hb d_Reader_takeOneName_0 rfl (lv_at hl 1 rfl) ?_
  refine lv_iload_n hx hb d_Reader_takeOneName_1 rfl (lv_at hl 2 rfl) ?_
  refine lv_bipush (v := 97) hx hb d_Reader_takeOneName_2 (by decide) ?_
  refine lv_isub hx hb d_Reader_takeOneName_4 ?_
  refine X_put hx hb K hM hS hod 1 (ty := .int) (by decide +kernel) rfl rfl k_Reader_f60 d_Reader_takeOneName_5 (kk := fun H locs hM hS => ?_)
  refine lv_aload_n hx hb d_Reader_takeOneName_8 rfl (lv_at hl 0 rfl) ?_
  refine lv_iconst (v := 3) hx hb d_Reader_takeOneName_9 (by decide) ?_
  refine R_put hx hb K hM hS 3 k_Reader_f28 d_Reader_takeOneName_10 (kk := fun H locs hM hS => ?_)
  refine lv_iload_n hx hb d_Reader_takeOneName_13 rfl (lv_at hl 2 rfl) ?_
  refine va_calli (S_run (As := [.int (nI sg)]) (rest := []) (n := 1) hx hb hml K (e_Reader_isName l (nI sg)) kc_Reader_isName k_Reader_m75 ks_Reader_isName k_Reader_ini rfl rfl (by decide +kernel) ⟨Nat.le_of_ble_eq_true rfl, Nat.le_of_ble_eq_true rfl⟩ rfl hl.1 rfl (lv_room (Nat.le_of_ble_eq_true rfl)) d_Reader_takeOneName_14 ⟨Nat.le_of_ble_eq_true rfl, Nat.le_of_ble_eq_true rfl⟩) hS (fun q _ h => h.elim) (fun q h => h.elim) (fun r S t H1 locs1 ht hvm hw hB hz hk hS => ?_)
  replace hM := hM.kept hk
  rcases hw with ⟨rfl, g3, g4⟩ | ⟨rfl, g34⟩
  · skip
    refine W.zret (v := (1)) hx hb hr rfl (r_endi hM hS ?_) hS.2.2 d_Reader_takeOneName_17
    exact Or.inr ⟨rfl, (d + 1, 0, n, pt, fw, mo, nm, dg), if_pos ⟨g3, g4⟩, op, kd, hQ.to0 rfl rfl hq4 rfl rfl (fun j => by by_cases z : j = op d <;> simp [va_up, z]) (fun j => by by_cases z : j = op d <;> simp [va_up, z])⟩
  · skip
    refine W.zret (v := (0)) hx hb hr rfl (r_endi hM hS ?_) hS.2.2 d_Reader_takeOneName_17
    exact Or.inl ⟨rfl, if_neg (fun z => g34.elim z.1 z.2)⟩
theorem mc_out {c : Int32} {d md n : Nat} {pt fw mo : Nat → Nat} {nm : List Nat} {dg : Nat} (h : ¬ c = 46) (h2 : c < 97 ∨ 122 < c ∨ nm.length = 3) : md_clos c (d, md, n, pt, fw, mo, nm, dg) = none := by
  show (if c = 46 then _ else if c < 97 ∨ 122 < c ∨ nm.length = 3 then none else _) = _
  rw [if_neg h, if_pos h2]
theorem mc_dup {c : Int32} {d md n q : Nat} {pt fw mo : Nat → Nat} {nm : List Nat} {dg : Nat} (h : ¬ c = 46) (hq : c - 97 = nI q) (hm : q ∈ nm) : md_clos c (d, md, n, pt, fw, mo, nm, dg) = none := by
  show (if c = 46 then _ else if c < 97 ∨ 122 < c ∨ nm.length = 3 then none else if (nm.any fun a => decide (nI a = c - 97)) = true then none else _) = _
  rw [if_neg h]
  split
  · rfl
  · rw [if_pos (List.any_eq_true.mpr ⟨q, hm, decide_eq_true hq.symm⟩)]
theorem mc_new {c : Int32} {d md n q : Nat} {pt fw mo : Nat → Nat} {nm : List Nat} {dg : Nat} (h : ¬ c = 46) (h1 : ¬ c < 97) (h2 : ¬ 122 < c) (hl : nm.length < 3) (hq : c - 97 = nI q) (hq26 : q < 26) (h26 : ∀ a ∈ nm, a < 26) (hm : q ∉ nm) : md_clos c (d, md, n, pt, fw, mo, nm, dg) = some (d, 3, n, pt, fw, mo, nm ++ [q], dg) := by
  show (if c = 46 then _ else if c < 97 ∨ 122 < c ∨ nm.length = 3 then none else if (nm.any fun a => decide (nI a = c - 97)) = true then none else some (d, 3, n, pt, fw, mo, nm ++ [(c - 97).toNatClampNeg], dg)) = _
  rw [if_neg h, if_neg (fun z => z.elim h1 (fun w => w.elim h2 (by omega))), if_neg (fun z => by
    obtain ⟨a, ha, hd⟩ := List.any_eq_true.mp z
    have e := of_decide_eq_true hd
    rw [hq] at e
    have := h26 a ha
    exact hm ((nI_eq (by omega) (by omega)).mp e ▸ ha)), hq, nI_clamp (by omega)]
set_option maxHeartbeats 4000000 in
set_option maxRecDepth 100000 in
theorem e_Reader_takeNameOrDot (l : Launch) (s0 : State) (D : va_G) (T : Nat → ClassId) (A : Nat → Prop) (hA : ∀ q, A q → s0.heap.size ≤ q) (h0 : Nat → Option va_E) (ad : Nat → Nat → Nat) (rf : Nat → Int32) (xf nf : Nat → Nat → Int32) (fo : Nat → Option Nat) (sg : Nat) (hsg : sg < 65536) (op kd : Nat → Nat) (d n : Nat) (pt fw mo : Nat → Nat) (nm : List Nat) (dg : Nat) (hQ : cQ ad (rf, xf, nf, fo) op kd (d + 1) 3 n pt fw mo nm dg) (hn : n < 12) :
    Met l y_Reader_takeNameOrDot (.code y_Reader_takeNameOrDot b_Reader_takeNameOrDot 3 (some .boolean) :: lw_g) ({ frames := 1, cells := 0, slots := 0, locals := 22 }) (va_Pc [.ref (ad 0 0), .ref (ad 3 (op d)), .int (nI sg)] (rP s0 D T A h0 ad rf xf nf fo)) (va_Qi (cRes ad (md_clos (nI sg) (d + 1, 3, n, pt, fw, mo, nm, dg))) (rB D T A h0 ad) A) 0 0 A := by
  refine Met.ofW (cc := b_Reader_takeNameOrDot) (maxL := 3) (ret := (some .boolean)) (by decide) rfl ?_
  intro p e s m args below meth c s₁ B hml hv
  obtain ⟨rfl, hxB, hM, hK⟩ := hv
  have hx := B.exec
  have hb := B.bytes
  have hr := B.returns
  have hlocks := B.notSynchronized
  have hts := atoms_spec (ws := (.code y_Reader_takeNameOrDot b_Reader_takeNameOrDot 3 (some .boolean) :: lw_g)) B.pre
  have hown : s.vm.findClass R_Reader = some m.cls := findClass_of_methodNamed B.named
  have K : cK D T R_Reader s m _ := ⟨fun w h => hts w (List.mem_cons_of_mem _ h), hown, hK⟩
  have hS : va_S A s.heap s.heap [] := va_S.rf
  have hl := lv_entry ([.ref (ad 0 0), .ref (ad 3 (op d)), .int (nI sg)]) (n := 3) (Nat.le_of_ble_eq_true rfl)
  rw [lg_entry_eq]
  generalize (lg_sl ([.ref (ad 0 0), .ref (ad 3 (op d)), .int (nI sg)]) ++ List.replicate (3 - (lg_sl ([.ref (ad 0 0), .ref (ad 3 (op d)), .int (nI sg)])).length) Slot.unset).toArray = ls at hl ⊢
  have hl : lv_has ls 3 [(0, .ref (ad 0 0)), (1, .ref (ad 3 (op d))), (2, .int (nI sg))] := hl
  obtain ⟨⟨hq2, hq3, hq4, hq5⟩, ⟨hb1, -, -⟩, ⟨hL1, hL2⟩, -⟩ := id hQ
  dsimp only at hq2 hq3 hq4 hq5 hL1
  have hod : op d < 120 := by have := (hL1 d (by omega)).1.2; omega
  obtain ⟨⟨a1, a2⟩, ⟨a3, a4⟩, ⟨a5, a6⟩, a7, a8⟩ := hL1 d (Nat.lt_succ_self d)
  have e9 : pcN (d + 1) pt d = pt d := by unfold pcN; rw [if_neg (by omega)]
  rw [e9] at a7 a8
  have hp4 : pt d ≤ 4 := by have := (formK_le a4).1; omega
  have hN := hQ.2.2.2.2.2.2.2.1 rfl
  dsimp only at hN
  rw [Nat.add_sub_cancel] at hN
  refine lv_iload_n hx hb d_Reader_takeNameOrDot_0 rfl (lv_at hl 2 rfl) ?_
  refine lv_bipush (v := 46) hx hb d_Reader_takeNameOrDot_1 (by decide) ?_
  refine lv_icmp_ne (tgt := 13) hx hb d_Reader_takeNameOrDot_3 (by decide) (fun c_3 => ?_) (fun c_3 => ?_)
  · skip
    refine lv_iload_n hx hb d_Reader_takeNameOrDot_13 rfl (lv_at hl 2 rfl) ?_
    refine va_calli (S_run (As := [.int (nI sg)]) (rest := []) (n := 1) hx hb hml K (e_Reader_isName l (nI sg)) kc_Reader_isName k_Reader_m75 ks_Reader_isName k_Reader_ini rfl rfl (by decide +kernel) ⟨Nat.le_of_ble_eq_true rfl, Nat.le_of_ble_eq_true rfl⟩ rfl hl.1 rfl (lv_room (Nat.le_of_ble_eq_true rfl)) d_Reader_takeNameOrDot_14 ⟨Nat.le_of_ble_eq_true rfl, Nat.le_of_ble_eq_true rfl⟩) hS (fun q _ h => h.elim) (fun q h => h.elim) (fun r S t H1 locs1 ht hvm hw hB hz hk hS => ?_)
    replace hM := hM.kept hk
    rcases hw with ⟨rfl, g3, g4⟩ | ⟨rfl, g34⟩
    · skip
      obtain ⟨q, hq26, hq⟩ := md_let g3 g4
      refine lv_if_eq (tgt := 35) hx hb d_Reader_takeNameOrDot_17 (by decide) (fun c_17 => absurd c_17 (by decide)) (fun c_17 => ?_)
      refine lv_aload_n hx hb d_Reader_takeNameOrDot_20 rfl (lv_at hl 1 rfl) ?_
      refine lv_iload_n hx hb d_Reader_takeNameOrDot_21 rfl (lv_at hl 2 rfl) ?_
      refine lv_bipush (v := 97) hx hb d_Reader_takeNameOrDot_22 (by decide) ?_
      refine lv_isub hx hb d_Reader_takeNameOrDot_24 ?_
      refine lv_as (v := nI q) hq ?_
      refine va_calli (R_run (As := [.int (nI q)]) (rest := []) (n := 1) hx hb hml K hM hxB hA hS (fun _ q => (q.2.2.2.1 _ hod).1) (C := R_Expression) (ci := 3) rfl (e_Expression_addName l s0 D T A hA h0 ad _ _ _ _ (op d) hod nm hN.1 hN.2.1 hN.2.2.1 hN.2.2.2 q hq26) kc_Expression_addName k_Reader_m78 ki_Expression_addName ke_Expression_addName k_Expression_ini rfl rfl (by decide +kernel) ⟨Nat.le_of_ble_eq_true rfl, Nat.le_of_ble_eq_true rfl⟩ rfl hl.1 rfl (lv_room (Nat.le_of_ble_eq_true rfl)) d_Reader_takeNameOrDot_25 ⟨Nat.le_of_ble_eq_true rfl, Nat.le_of_ble_eq_true rfl⟩) hS (fun q _ h => h) (fun q h => h) (fun r S t H1 locs1 ht hvm hw hB hz hk hS => ?_)
      replace hM : RW D T A h0 ad S.1 S.2.1 S.2.2.1 S.2.2.2 H1 := by rw [← ht]; exact hB
      rcases hw with ⟨rfl, hbad, rfl⟩ | ⟨rfl, hl3, hnew, rfl⟩
      · skip
        dsimp only at hM
        refine lv_if_eq (tgt := 35) hx hb d_Reader_takeNameOrDot_28 (by decide) (fun c_28 => ?_) (fun c_28 => absurd rfl c_28)
        refine lv_iconst (v := 0) hx hb d_Reader_takeNameOrDot_35 (by decide) ?_
        refine W.zret (v := (0)) hx hb hr rfl (r_endi hM hS ?_) hS.2.2 d_Reader_takeNameOrDot_36
        exact Or.inl ⟨rfl, hbad.elim (fun z => mc_out c_3 (Or.inr (Or.inr z))) (fun z => mc_dup c_3 hq z)⟩
      · skip
        dsimp only at hM
        refine lv_if_eq (tgt := 35) hx hb d_Reader_takeNameOrDot_28 (by decide) (fun c_28 => absurd c_28 (by decide)) (fun c_28 => ?_)
        refine lv_iconst (v := 1) hx hb d_Reader_takeNameOrDot_31 (by decide) ?_
        refine lv_goto (tgt := 36) hx hb d_Reader_takeNameOrDot_32 (by decide) ?_
        refine W.zret (v := (1)) hx hb hr rfl (r_endi hM hS ?_) hS.2.2 d_Reader_takeNameOrDot_36
        exact Or.inr ⟨rfl, _, mc_new c_3 g3 g4 hl3 hq hq26 hN.2.1 hnew, op, kd, hQ.name hl3 hq26 rfl rfl rfl rfl⟩
    · skip
      refine lv_if_eq (tgt := 35) hx hb d_Reader_takeNameOrDot_17 (by decide) (fun c_17 => ?_) (fun c_17 => absurd rfl c_17)
      refine lv_iconst (v := 0) hx hb d_Reader_takeNameOrDot_35 (by decide) ?_
      refine W.zret (v := (0)) hx hb hr rfl (r_endi hM hS ?_) hS.2.2 d_Reader_takeNameOrDot_36
      exact Or.inl ⟨rfl, mc_out c_3 (g34.elim Or.inl (fun z => Or.inr (Or.inl z)))⟩
  · skip
    refine lv_aload_n hx hb d_Reader_takeNameOrDot_6 rfl (lv_at hl 0 rfl) ?_
    refine lv_iconst (v := 3) hx hb d_Reader_takeNameOrDot_7 (by decide) ?_
    refine R_put hx hb K hM hS 3 k_Reader_f28 d_Reader_takeNameOrDot_8 (kk := fun H locs hM hS => ?_)
    refine lv_iconst (v := 1) hx hb d_Reader_takeNameOrDot_11 (by decide) ?_
    refine W.zret (v := (1)) hx hb hr rfl (r_endi hM hS ?_) hS.2.2 d_Reader_takeNameOrDot_12
    exact Or.inr ⟨rfl, (d + 1, 0, n, pt, fw, mo, nm, dg), if_pos c_3, op, kd, hQ.to0 rfl rfl hq4 rfl rfl (fun _ => rfl) (fun _ => rfl)⟩
set_option maxHeartbeats 4000000 in
set_option maxRecDepth 100000 in
theorem e_Reader_takeDigit (l : Launch) (s0 : State) (D : va_G) (T : Nat → ClassId) (A : Nat → Prop) (hA : ∀ q, A q → s0.heap.size ≤ q) (h0 : Nat → Option va_E) (ad : Nat → Nat → Nat) (rf : Nat → Int32) (xf nf : Nat → Nat → Int32) (fo : Nat → Option Nat) (sg : Nat) (hsg : sg < 65536) (op kd : Nat → Nat) (d n : Nat) (pt fw mo : Nat → Nat) (nm : List Nat) (dg : Nat) (hQ : cQ ad (rf, xf, nf, fo) op kd d 4 n pt fw mo nm dg) (hn : n < 12) :
    Met l y_Reader_takeDigit (.code y_Reader_takeDigit b_Reader_takeDigit 3 (some .boolean) :: lw_g) ({ frames := 0, cells := 0, slots := 0, locals := 0 }) (va_Pc [.ref (ad 0 0), .int (nI sg)] (rP s0 D T A h0 ad rf xf nf fo)) (va_Qi (cRes ad (if dg + 1 ≤ 4 then some (d, 4, n, pt, fw, mo, nm, dg + 1) else none)) (rB D T A h0 ad) A) 0 0 A := by
  refine Met.ofW (cc := b_Reader_takeDigit) (maxL := 3) (ret := (some .boolean)) (by decide) rfl ?_
  intro p e s m args below meth c s₁ B hml hv
  obtain ⟨rfl, hxB, hM, hK⟩ := hv
  have hx := B.exec
  have hb := B.bytes
  have hr := B.returns
  have hlocks := B.notSynchronized
  have hts := atoms_spec (ws := (.code y_Reader_takeDigit b_Reader_takeDigit 3 (some .boolean) :: lw_g)) B.pre
  have hown : s.vm.findClass R_Reader = some m.cls := findClass_of_methodNamed B.named
  have K : cK D T R_Reader s m _ := ⟨fun w h => hts w (List.mem_cons_of_mem _ h), hown, hK⟩
  have hS : va_S A s.heap s.heap [] := va_S.rf
  have hl := lv_entry ([.ref (ad 0 0), .int (nI sg)]) (n := 3) (Nat.le_of_ble_eq_true rfl)
  rw [lg_entry_eq]
  generalize (lg_sl ([.ref (ad 0 0), .int (nI sg)]) ++ List.replicate (3 - (lg_sl ([.ref (ad 0 0), .int (nI sg)])).length) Slot.unset).toArray = ls at hl ⊢
  have hl : lv_has ls 3 [(0, .ref (ad 0 0)), (1, .int (nI sg))] := hl
  obtain ⟨⟨hq2, hq3, hq4, hq5⟩, -⟩ := id hQ
  dsimp only at hq2 hq3 hq4 hq5
  have hq4 : rf 4 = nI dg := hq4
  obtain ⟨h0, h1d, h4d⟩ := hQ.2.2.2.2.2.2.2.2 rfl
  refine lv_aload_n hx hb d_Reader_takeDigit_0 rfl (lv_at hl 0 rfl) ?_
  refine R_get hx hb K hM 4 (v := .int (nI dg)) (rd4 hq4) k_Reader_f31 d_Reader_takeDigit_1 (kk := ?_)
  refine lv_iconst (v := 4) hx hb d_Reader_takeDigit_4 (by decide) ?_
  refine lv_icmp_ge (tgt := 15) hx hb d_Reader_takeDigit_5 (by decide) (fun c_5 => ?_) (fun c_5 => ?_)
  · skip
    have h4 : 4 ≤ dg := Nat.le_of_not_lt (fun z => absurd c_5 (nI_ge (a := dg) (b := 4) z (by decide)))
    refine lv_iconst (v := 0) hx hb d_Reader_takeDigit_15 (by decide) ?_
    refine W.zret (v := (0)) hx hb hr rfl (r_endi hM hS ?_) hS.2.2 d_Reader_takeDigit_16
    exact Or.inl ⟨rfl, if_neg (by omega)⟩
  · skip
    have h4 : dg < 4 := Nat.lt_of_not_le (fun z => c_5 (nI_le (a := 4) z (by omega)))
    refine lv_aload_n hx hb d_Reader_takeDigit_8 rfl (lv_at hl 0 rfl) ?_
    refine R_get hx hb K hM 5 (v := .int (nI n)) (rd5 hq5) k_Reader_f21 d_Reader_takeDigit_9 (kk := ?_)
    refine lv_if_ne (tgt := 17) hx hb d_Reader_takeDigit_12 (by decide) (fun c_12 => ?_) (fun c_12 => absurd c_12 (nI_ne0 h0 (by omega)))
    refine lv_aload_n hx hb d_Reader_takeDigit_17 rfl (lv_at hl 0 rfl) ?_
    refine R_get hx hb K hM 0 (v := .ref (ad 1 0)) rfl k_Reader_f11 d_Reader_takeDigit_18 (kk := ?_)
    refine lv_aload_n hx hb d_Reader_takeDigit_21 rfl (lv_at hl 0 rfl) ?_
    refine R_get hx hb K hM 5 (v := .int (nI n)) (rd5 hq5) k_Reader_f21 d_Reader_takeDigit_22 (kk := ?_)
    refine lv_iconst (v := 1) hx hb d_Reader_takeDigit_25 (by decide) ?_
    refine lv_isub hx hb d_Reader_takeDigit_26 ?_
    refine lv_as (v := nI (n - 1)) (md_pred h0) ?_
    refine R_ex hx hb K hM (i := n - 1) (by omega) d_Reader_takeDigit_27 ?_
    refine lv_astore_n (lv' := [(2, .ref (ad 3 (n - 1))), (0, .ref (ad 0 0)), (1, .int (nI sg))]) hx hb d_Reader_takeDigit_28 rfl hl (by decide) rfl (fun ls hl => ?_)
    refine lv_aload_n hx hb d_Reader_takeDigit_29 rfl (lv_at hl 0 rfl) ?_
    refine lv_bipush (v := 10) hx hb d_Reader_takeDigit_30 (by decide) ?_
    refine lv_aload_n hx hb d_Reader_takeDigit_32 rfl (lv_at hl 0 rfl) ?_
    refine X_get hx hb K hM (by omega) 1 (v := .int (xf (n - 1) 1)) (xp1 rfl) k_Reader_f60 d_Reader_takeDigit_33 (kk := ?_)
    refine lv_imul hx hb d_Reader_takeDigit_36 ?_
    refine lv_iload_n hx hb d_Reader_takeDigit_37 rfl (lv_at hl 2 rfl) ?_
    refine lv_bipush (v := 48) hx hb d_Reader_takeDigit_38 (by decide) ?_
    refine lv_isub hx hb d_Reader_takeDigit_40 ?_
    refine lv_iadd hx hb d_Reader_takeDigit_41 ?_
    refine X_put hx hb K hM hS (by omega) 1 (ty := .int) (by decide +kernel) rfl rfl k_Reader_f60 d_Reader_takeDigit_42 (kk := fun H locs hM hS => ?_)
    refine lv_aload_n hx hb d_Reader_takeDigit_45 rfl (lv_at hl 1 rfl) ?_
    refine lv_dup hx hb d_Reader_takeDigit_46 rfl ?_
    refine R_get hx hb K hM 4 (v := .int (nI dg)) (rd4 hq4) k_Reader_f31 d_Reader_takeDigit_47 (kk := ?_)
    refine lv_iconst (v := 1) hx hb d_Reader_takeDigit_50 (by decide) ?_
    refine lv_iadd hx hb d_Reader_takeDigit_51 ?_
    refine lv_as (v := nI (dg + 1)) (nI_1 dg) ?_
    refine R_put hx hb K hM hS 4 k_Reader_f31 d_Reader_takeDigit_52 (kk := fun H locs hM hS => ?_)
    refine lv_iconst (v := 1) hx hb d_Reader_takeDigit_55 (by decide) ?_
    refine W.zret (v := (1)) hx hb hr rfl (r_endi hM hS ?_) hS.2.2 d_Reader_takeDigit_56
    exact Or.inr ⟨rfl, (d, 4, n, pt, fw, mo, nm, dg + 1), if_pos (by omega), op, kd, hQ.digit (by omega) rfl rfl rfl rfl rfl (fun j => by by_cases z : j = n - 1 <;> simp [va_up, z]) (fun j => by by_cases z : j = n - 1 <;> simp [va_up, z])⟩
