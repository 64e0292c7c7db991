theorem rd2 {ad : Nat → Nat → Nat} {rf : Nat → Int32} {v : Int32} (h : rf 2 = v) : (rdF ad rf)[2]? = some (.int v) := by rw [← h]; rfl
theorem rd3 {ad : Nat → Nat → Nat} {rf : Nat → Int32} {v : Int32} (h : rf 3 = v) : (rdF ad rf)[3]? = some (.int v) := by rw [← h]; rfl
theorem rd4 {ad : Nat → Nat → Nat} {rf : Nat → Int32} {v : Int32} (h : rf 4 = v) : (rdF ad rf)[4]? = some (.int v) := by rw [← h]; rfl
theorem rd5 {ad : Nat → Nat → Nat} {rf : Nat → Int32} {v : Int32} (h : rf 5 = v) : (rdF ad rf)[5]? = some (.int v) := by rw [← h]; rfl
theorem xp0 {ad : Nat → Nat → Nat} {i : Nat} {x : Nat → Int32} {v : Int32} (h : x 0 = v) : (xpF ad i x)[0]? = some (.int v) := by rw [← h]; rfl
theorem xp1 {ad : Nat → Nat → Nat} {i : Nat} {x : Nat → Int32} {v : Int32} (h : x 1 = v) : (xpF ad i x)[1]? = some (.int v) := by rw [← h]; rfl
theorem xp2 {ad : Nat → Nat → Nat} {i : Nat} {x : Nat → Int32} {v : Int32} (h : x 2 = v) : (xpF ad i x)[2]? = some (.int v) := by rw [← h]; rfl
theorem xp3 {ad : Nat → Nat → Nat} {i : Nat} {x : Nat → Int32} {v : Int32} (h : x 3 = v) : (xpF ad i x)[3]? = some (.int v) := by rw [← h]; rfl
def formK : List Nat := [40, 43, 45, 42, 47, 60, 61, 58, 38, 64, 37, 65, 68, 80, 94, 33, 92, 63]
def mpN (k : Nat) : Nat := if k = 40 then 4 else md_arN (nI k)
def fwN (k : Nat) : Nat := if k = 40 then 1 else md_arN (nI k)
theorem formK_le {k : Nat} (h : k ∈ formK) : mpN k ≤ 4 ∧ 1 ≤ mpN k ∧ fwN k ≤ 4 ∧ 1 ≤ fwN k ∧ k < 128 := by
  have : ∀ k ∈ formK, mpN k ≤ 4 ∧ 1 ≤ mpN k ∧ fwN k ≤ 4 ∧ 1 ≤ fwN k ∧ k < 128 := by decide
  exact this k h
set_option maxHeartbeats 4000000 in
set_option maxRecDepth 100000 in
theorem e_Reader_isDigit (l : Launch) (x : Int32) :
    Met l y_Reader_isDigit (.code y_Reader_isDigit b_Reader_isDigit 1 (some .boolean) :: lw_g) ({ frames := 0, cells := 0, slots := 0, locals := 0 }) (va_Pc [.int x] (fun _ => True)) (va_Qi (fun r (_ : Unit) => (r = 1 ∧ ¬ x < 48 ∧ ¬ 57 < x) ∨ (r = 0 ∧ (x < 48 ∨ 57 < x))) (fun (_ : Unit) _ => True) (fun _ => False)) 0 0 (fun _ => False) := by
  refine Met.ofW (cc := b_Reader_isDigit) (maxL := 1) (ret := (some .boolean)) (by decide) rfl ?_
  intro p e s m args below meth c s₁ B hml hv
  obtain ⟨rfl, -⟩ := hv
  have hx := B.exec
  have hb := B.bytes
  have hr := B.returns
  have hlocks := B.notSynchronized
  have hS : va_S (fun _ => False) s.heap s.heap [] := va_S.rf
  have hl := lv_entry ([.int x]) (n := 1) (Nat.le_of_ble_eq_true rfl)
  rw [lg_entry_eq]
  generalize (lg_sl ([.int x]) ++ List.replicate (1 - (lg_sl ([.int x])).length) Slot.unset).toArray = ls at hl ⊢
  have hl : lv_has ls 1 [(0, .int x)] := hl
  refine lv_iload_n hx hb d_Reader_isDigit_0 rfl (lv_at hl 0 rfl) ?_
  refine lv_bipush (v := 48) hx hb d_Reader_isDigit_1 (by decide) ?_
  refine lv_icmp_lt (tgt := 16) hx hb d_Reader_isDigit_3 (by decide) (fun c_3 => ?_) (fun c_3 => ?_)
  · skip
    refine lv_iconst (v := 0) hx hb d_Reader_isDigit_16 (by decide) ?_
    exact W.zret (v := (0)) hx hb hr rfl (fun t ht _ => ⟨⟨_, (), rfl, (Or.inr ⟨rfl, Or.inl c_3⟩), trivial⟩, hS.F ht⟩) hS.2.2 d_Reader_isDigit_17
  · skip
    refine lv_iload_n hx hb d_Reader_isDigit_6 rfl (lv_at hl 0 rfl) ?_
    refine lv_bipush (v := 57) hx hb d_Reader_isDigit_7 (by decide) ?_
    refine lv_icmp_gt (tgt := 16) hx hb d_Reader_isDigit_9 (by decide) (fun c_9 => ?_) (fun c_9 => ?_)
    · skip
      refine lv_iconst (v := 0) hx hb d_Reader_isDigit_16 (by decide) ?_
      exact W.zret (v := (0)) hx hb hr rfl (fun t ht _ => ⟨⟨_, (), rfl, (Or.inr ⟨rfl, Or.inr c_9⟩), trivial⟩, hS.F ht⟩) hS.2.2 d_Reader_isDigit_17
    · skip
      refine lv_iconst (v := 1) hx hb d_Reader_isDigit_12 (by decide) ?_
      refine lv_goto (tgt := 17) hx hb d_Reader_isDigit_13 (by decide) ?_
      exact W.zret (v := (1)) hx hb hr rfl (fun t ht _ => ⟨⟨_, (), rfl, (Or.inl ⟨rfl, c_3, c_9⟩), trivial⟩, hS.F ht⟩) hS.2.2 d_Reader_isDigit_17
set_option maxHeartbeats 4000000 in
set_option maxRecDepth 100000 in
theorem e_Reader_isName (l : Launch) (x : Int32) :
    Met l y_Reader_isName (.code y_Reader_isName b_Reader_isName 1 (some .boolean) :: lw_g) ({ frames := 0, cells := 0, slots := 0, locals := 0 }) (va_Pc [.int x] (fun _ => True)) (va_Qi (fun r (_ : Unit) => (r = 1 ∧ ¬ x < 97 ∧ ¬ 122 < x) ∨ (r = 0 ∧ (x < 97 ∨ 122 < x))) (fun (_ : Unit) _ => True) (fun _ => False)) 0 0 (fun _ => False) := by
  refine Met.ofW (cc := b_Reader_isName) (maxL := 1) (ret := (some .boolean)) (by decide) rfl ?_
  intro p e s m args below meth c s₁ B hml hv
  obtain ⟨rfl, -⟩ := hv
  have hx := B.exec
  have hb := B.bytes
  have hr := B.returns
  have hlocks := B.notSynchronized
  have hS : va_S (fun _ => False) s.heap s.heap [] := va_S.rf
  have hl := lv_entry ([.int x]) (n := 1) (Nat.le_of_ble_eq_true rfl)
  rw [lg_entry_eq]
  generalize (lg_sl ([.int x]) ++ List.replicate (1 - (lg_sl ([.int x])).length) Slot.unset).toArray = ls at hl ⊢
  have hl : lv_has ls 1 [(0, .int x)] := hl
  refine lv_iload_n hx hb d_Reader_isName_0 rfl (lv_at hl 0 rfl) ?_
  refine lv_bipush (v := 97) hx hb d_Reader_isName_1 (by decide) ?_
  refine lv_icmp_lt (tgt := 16) hx hb d_Reader_isName_3 (by decide) (fun c_3 => ?_) (fun c_3 => ?_)
  · skip
    refine lv_iconst (v := 0) hx hb d_Reader_isName_16 (by decide) ?_
    exact W.zret (v := (0)) hx hb hr rfl (fun t ht _ => ⟨⟨_, (), rfl, (Or.inr ⟨rfl, Or.inl c_3⟩), trivial⟩, hS.F ht⟩) hS.2.2 d_Reader_isName_17
  · skip
    refine lv_iload_n hx hb d_Reader_isName_6 rfl (lv_at hl 0 rfl) ?_
    refine lv_bipush (v := 122) hx hb d_Reader_isName_7 (by decide) ?_
    refine lv_icmp_gt (tgt := 16) hx hb d_Reader_isName_9 (by decide) (fun c_9 => ?_) (fun c_9 => ?_)
    · skip
      refine lv_iconst (v := 0) hx hb d_Reader_isName_16 (by decide) ?_
      exact W.zret (v := (0)) hx hb hr rfl (fun t ht _ => ⟨⟨_, (), rfl, (Or.inr ⟨rfl, Or.inr c_9⟩), trivial⟩, hS.F ht⟩) hS.2.2 d_Reader_isName_17
    · skip
      refine lv_iconst (v := 1) hx hb d_Reader_isName_12 (by decide) ?_
      refine lv_goto (tgt := 17) hx hb d_Reader_isName_13 (by decide) ?_
      exact W.zret (v := (1)) hx hb hr rfl (fun t ht _ => ⟨⟨_, (), rfl, (Or.inl ⟨rfl, c_3, c_9⟩), trivial⟩, hS.F ht⟩) hS.2.2 d_Reader_isName_17
set_option maxHeartbeats 4000000 in
set_option maxRecDepth 100000 in
theorem e_C_isLetter (l : Launch) (x : Int32) :
    Met l y_C_isLetter (.code y_C_isLetter b_C_isLetter 1 (some .boolean) :: lw_g) ({ frames := 0, cells := 0, slots := 0, locals := 0 }) (va_Pc [.int x] (fun _ => True)) (va_Qi (fun r (_ : Unit) => (r = 1 ∧ ¬ x < 0 ∧ ¬ 26 ≤ x) ∨ (r = 0 ∧ (x < 0 ∨ 26 ≤ x))) (fun (_ : Unit) _ => True) (fun _ => False)) 0 0 (fun _ => False) := by
  refine Met.ofW (cc := b_C_isLetter) (maxL := 1) (ret := (some .boolean)) (by decide) rfl ?_
  intro p e s m args below meth c s₁ B hml hv
  obtain ⟨rfl, -⟩ := hv
  have hx := B.exec
  have hb := B.bytes
  have hr := B.returns
  have hlocks := B.notSynchronized
  have hS : va_S (fun _ => False) s.heap s.heap [] := va_S.rf
  have hl := lv_entry ([.int x]) (n := 1) (Nat.le_of_ble_eq_true rfl)
  rw [lg_entry_eq]
  generalize (lg_sl ([.int x]) ++ List.replicate (1 - (lg_sl ([.int x])).length) Slot.unset).toArray = ls at hl ⊢
  have hl : lv_has ls 1 [(0, .int x)] := hl
  refine lv_iload_n hx hb d_C_isLetter_0 rfl (lv_at hl 0 rfl) ?_
  refine lv_if_lt (tgt := 14) hx hb d_C_isLetter_1 (by decide) (fun c_1 => ?_) (fun c_1 => ?_)
  · skip
    refine lv_iconst (v := 0) hx hb d_C_isLetter_14 (by decide) ?_
    exact W.zret (v := (0)) hx hb hr rfl (fun t ht _ => ⟨⟨_, (), rfl, (Or.inr ⟨rfl, Or.inl c_1⟩), trivial⟩, hS.F ht⟩) hS.2.2 d_C_isLetter_15
  · skip
    refine lv_iload_n hx hb d_C_isLetter_4 rfl (lv_at hl 0 rfl) ?_
    refine lv_bipush (v := 26) hx hb d_C_isLetter_5 (by decide) ?_
    refine lv_icmp_ge (tgt := 14) hx hb d_C_isLetter_7 (by decide) (fun c_7 => ?_) (fun c_7 => ?_)
    · skip
      refine lv_iconst (v := 0) hx hb d_C_isLetter_14 (by decide) ?_
      exact W.zret (v := (0)) hx hb hr rfl (fun t ht _ => ⟨⟨_, (), rfl, (Or.inr ⟨rfl, Or.inr c_7⟩), trivial⟩, hS.F ht⟩) hS.2.2 d_C_isLetter_15
    · skip
      refine lv_iconst (v := 1) hx hb d_C_isLetter_10 (by decide) ?_
      refine lv_goto (tgt := 15) hx hb d_C_isLetter_11 (by decide) ?_
      exact W.zret (v := (1)) hx hb hr rfl (fun t ht _ => ⟨⟨_, (), rfl, (Or.inl ⟨rfl, c_1, c_7⟩), trivial⟩, hS.F ht⟩) hS.2.2 d_C_isLetter_15
set_option maxHeartbeats 4000000 in
set_option maxRecDepth 100000 in
theorem e_Expression_mostParts (l : Launch) (s0 : State) (D : va_G) (T : Nat → ClassId) (A : Nat → Prop) (hA : ∀ q, A q → s0.heap.size ≤ q) (h0 : Nat → Option va_E) (ad : Nat → Nat → Nat) (rf : Nat → Int32) (xf nf : Nat → Nat → Int32) (fo : Nat → Option Nat) (i : Nat) (hi : i < 120) (κ : Nat) (hκ : xf i 0 = nI κ) (hf : κ ∈ formK) :
    Met l y_Expression_mostParts (.code y_Expression_mostParts b_Expression_mostParts 1 (some .int) :: lw_g) ({ frames := 0, cells := 0, slots := 0, locals := 0 }) (va_Pc [.ref (ad 3 (i))] (rP s0 D T A h0 ad rf xf nf fo)) (va_Qi (fun r S => r = nI (mpN κ) ∧ S = (rf, xf, nf, fo)) (rB D T A h0 ad) A) 0 0 A := by
  refine Met.ofW (cc := b_Expression_mostParts) (maxL := 1) (ret := (some .int)) (by decide) rfl ?_
  intro p e s m args below meth c s₁ B hml hv
  obtain ⟨rfl, hxB, hM, hK⟩ := hv
  have hx := B.exec
  have hb := B.bytes
  have hr := B.returns
  have hlocks := B.notSynchronized
  have hts := atoms_spec (ws := (.code y_Expression_mostParts b_Expression_mostParts 1 (some .int) :: lw_g)) B.pre
  have hown : s.vm.findClass R_Expression = some m.cls := findClass_of_methodNamed B.named
  have K : cK D T R_Expression s m _ := ⟨fun w h => hts w (List.mem_cons_of_mem _ h), hown, hK⟩
  have hS : va_S A s.heap s.heap [] := va_S.rf
  have hl := lv_entry ([.ref (ad 3 (i))]) (n := 1) (Nat.le_of_ble_eq_true rfl)
  rw [lg_entry_eq]
  generalize (lg_sl ([.ref (ad 3 (i))]) ++ List.replicate (1 - (lg_sl ([.ref (ad 3 (i))])).length) Slot.unset).toArray = ls at hl ⊢
  have hl : lv_has ls 1 [(0, .ref (ad 3 (i)))] := hl
  refine lv_aload_n hx hb d_Expression_mostParts_0 rfl (lv_at hl 0 rfl) ?_
  refine X_get hx hb K hM hi 0 (v := .int (nI κ)) (xp0 hκ) k_Expression_f17 d_Expression_mostParts_1 (kk := ?_)
  simp only [formK, List.mem_cons, List.not_mem_nil, or_false] at hf
  rcases hf with rfl | rfl | rfl | rfl | rfl | rfl | rfl | rfl | rfl | rfl | rfl | rfl | rfl | rfl | rfl | rfl | rfl | rfl
  · refine lv_lookup (x := nI 40) (off := 106) (tgt := 110) hx hb d_Expression_mostParts_4 (by decide +kernel) (by decide +kernel) (by decide) ?_
    refine lv_iconst (v := 4) hx hb d_Expression_mostParts_110 (by decide) ?_
    exact W.iret (v := 4) hx hb hr (r_endi hM hS ⟨by decide, rfl⟩) hS.2.2 d_Expression_mostParts_111
  · refine lv_lookup (x := nI 43) (off := 108) (tgt := 112) hx hb d_Expression_mostParts_4 (by decide +kernel) (by decide +kernel) (by decide) ?_
    refine lv_iconst (v := 2) hx hb d_Expression_mostParts_112 (by decide) ?_
    exact W.iret (v := 2) hx hb hr (r_endi hM hS ⟨by decide, rfl⟩) hS.2.2 d_Expression_mostParts_113
  · refine lv_lookup (x := nI 45) (off := 108) (tgt := 112) hx hb d_Expression_mostParts_4 (by decide +kernel) (by decide +kernel) (by decide) ?_
    refine lv_iconst (v := 2) hx hb d_Expression_mostParts_112 (by decide) ?_
    exact W.iret (v := 2) hx hb hr (r_endi hM hS ⟨by decide, rfl⟩) hS.2.2 d_Expression_mostParts_113
  · refine lv_lookup (x := nI 42) (off := 108) (tgt := 112) hx hb d_Expression_mostParts_4 (by decide +kernel) (by decide +kernel) (by decide) ?_
    refine lv_iconst (v := 2) hx hb d_Expression_mostParts_112 (by decide) ?_
    exact W.iret (v := 2) hx hb hr (r_endi hM hS ⟨by decide, rfl⟩) hS.2.2 d_Expression_mostParts_113
  · refine lv_lookup (x := nI 47) (off := 108) (tgt := 112) hx hb d_Expression_mostParts_4 (by decide +kernel) (by decide +kernel) (by decide) ?_
    refine lv_iconst (v := 2) hx hb d_Expression_mostParts_112 (by decide) ?_
    exact W.iret (v := 2) hx hb hr (r_endi hM hS ⟨by decide, rfl⟩) hS.2.2 d_Expression_mostParts_113
  · refine lv_lookup (x := nI 60) (off := 108) (tgt := 112) hx hb d_Expression_mostParts_4 (by decide +kernel) (by decide +kernel) (by decide) ?_
    refine lv_iconst (v := 2) hx hb d_Expression_mostParts_112 (by decide) ?_
    exact W.iret (v := 2) hx hb hr (r_endi hM hS ⟨by decide, rfl⟩) hS.2.2 d_Expression_mostParts_113
  · refine lv_lookup (x := nI 61) (off := 108) (tgt := 112) hx hb d_Expression_mostParts_4 (by decide +kernel) (by decide +kernel) (by decide) ?_
    refine lv_iconst (v := 2) hx hb d_Expression_mostParts_112 (by decide) ?_
    exact W.iret (v := 2) hx hb hr (r_endi hM hS ⟨by decide, rfl⟩) hS.2.2 d_Expression_mostParts_113
  · refine lv_lookup (x := nI 58) (off := 108) (tgt := 112) hx hb d_Expression_mostParts_4 (by decide +kernel) (by decide +kernel) (by decide) ?_
    refine lv_iconst (v := 2) hx hb d_Expression_mostParts_112 (by decide) ?_
    exact W.iret (v := 2) hx hb hr (r_endi hM hS ⟨by decide, rfl⟩) hS.2.2 d_Expression_mostParts_113
  · refine lv_lookup (x := nI 38) (off := 108) (tgt := 112) hx hb d_Expression_mostParts_4 (by decide +kernel) (by decide +kernel) (by decide) ?_
    refine lv_iconst (v := 2) hx hb d_Expression_mostParts_112 (by decide) ?_
    exact W.iret (v := 2) hx hb hr (r_endi hM hS ⟨by decide, rfl⟩) hS.2.2 d_Expression_mostParts_113
  · refine lv_lookup (x := nI 64) (off := 108) (tgt := 112) hx hb d_Expression_mostParts_4 (by decide +kernel) (by decide +kernel) (by decide) ?_
    refine lv_iconst (v := 2) hx hb d_Expression_mostParts_112 (by decide) ?_
    exact W.iret (v := 2) hx hb hr (r_endi hM hS ⟨by decide, rfl⟩) hS.2.2 d_Expression_mostParts_113
  · refine lv_lookup (x := nI 37) (off := 108) (tgt := 112) hx hb d_Expression_mostParts_4 (by decide +kernel) (by decide +kernel) (by decide) ?_
    refine lv_iconst (v := 2) hx hb d_Expression_mostParts_112 (by decide) ?_
    exact W.iret (v := 2) hx hb hr (r_endi hM hS ⟨by decide, rfl⟩) hS.2.2 d_Expression_mostParts_113
  · refine lv_lookup (x := nI 65) (off := 102) (tgt := 106) hx hb d_Expression_mostParts_4 (by decide +kernel) (by decide +kernel) (by decide) ?_
    refine lv_iconst (v := 1) hx hb d_Expression_mostParts_106 (by decide) ?_
    exact W.iret (v := 1) hx hb hr (r_endi hM hS ⟨by decide, rfl⟩) hS.2.2 d_Expression_mostParts_107
  · refine lv_lookup (x := nI 68) (off := 102) (tgt := 106) hx hb d_Expression_mostParts_4 (by decide +kernel) (by decide +kernel) (by decide) ?_
    refine lv_iconst (v := 1) hx hb d_Expression_mostParts_106 (by decide) ?_
    exact W.iret (v := 1) hx hb hr (r_endi hM hS ⟨by decide, rfl⟩) hS.2.2 d_Expression_mostParts_107
  · refine lv_lookup (x := nI 80) (off := 102) (tgt := 106) hx hb d_Expression_mostParts_4 (by decide +kernel) (by decide +kernel) (by decide) ?_
    refine lv_iconst (v := 1) hx hb d_Expression_mostParts_106 (by decide) ?_
    exact W.iret (v := 1) hx hb hr (r_endi hM hS ⟨by decide, rfl⟩) hS.2.2 d_Expression_mostParts_107
  · refine lv_lookup (x := nI 94) (off := 102) (tgt := 106) hx hb d_Expression_mostParts_4 (by decide +kernel) (by decide +kernel) (by decide) ?_
    refine lv_iconst (v := 1) hx hb d_Expression_mostParts_106 (by decide) ?_
    exact W.iret (v := 1) hx hb hr (r_endi hM hS ⟨by decide, rfl⟩) hS.2.2 d_Expression_mostParts_107
  · refine lv_lookup (x := nI 33) (off := 102) (tgt := 106) hx hb d_Expression_mostParts_4 (by decide +kernel) (by decide +kernel) (by decide) ?_
    refine lv_iconst (v := 1) hx hb d_Expression_mostParts_106 (by decide) ?_
    exact W.iret (v := 1) hx hb hr (r_endi hM hS ⟨by decide, rfl⟩) hS.2.2 d_Expression_mostParts_107
  · refine lv_lookup (x := nI 92) (off := 102) (tgt := 106) hx hb d_Expression_mostParts_4 (by decide +kernel) (by decide +kernel) (by decide) ?_
    refine lv_iconst (v := 1) hx hb d_Expression_mostParts_106 (by decide) ?_
    exact W.iret (v := 1) hx hb hr (r_endi hM hS ⟨by decide, rfl⟩) hS.2.2 d_Expression_mostParts_107
  · refine lv_lookup (x := nI 63) (off := 104) (tgt := 108) hx hb d_Expression_mostParts_4 (by decide +kernel) (by decide +kernel) (by decide) ?_
    refine lv_iconst (v := 3) hx hb d_Expression_mostParts_108 (by decide) ?_
    exact W.iret (v := 3) hx hb hr (r_endi hM hS ⟨by decide, rfl⟩) hS.2.2 d_Expression_mostParts_109
set_option maxHeartbeats 4000000 in
set_option maxRecDepth 100000 in
theorem e_Expression_become (l : Launch) (s0 : State) (D : va_G) (T : Nat → ClassId) (A : Nat → Prop) (hA : ∀ q, A q → s0.heap.size ≤ q) (h0 : Nat → Option va_E) (ad : Nat → Nat → Nat) (rf : Nat → Int32) (xf nf : Nat → Nat → Int32) (fo : Nat → Option Nat) (i : Nat) (hi : i < 120) (κ : Nat) (hκ : κ < 65536) (v : Int32) :
    Met l y_Expression_become (.code y_Expression_become b_Expression_become 3 none :: lw_g) ({ frames := 0, cells := 0, slots := 0, locals := 0 }) (va_Pc [.ref (ad 3 (i)), .int (nI κ), .int v] (rP s0 D T A h0 ad rf xf nf fo)) (va_Qv (fun S => S.1 = rf ∧ S.2.2 = (nf, fo) ∧ (S.2.1 i 0 = nI κ ∧ S.2.1 i 1 = v ∧ S.2.1 i 2 = 0 ∧ S.2.1 i 3 = 0) ∧ ∀ j, j ≠ i → S.2.1 j = xf j) (rB D T A h0 ad) A) 0 0 A := by
  refine Met.ofW (cc := b_Expression_become) (maxL := 3) (ret := none) (by decide) rfl ?_
  intro p e s m args below meth c s₁ B hml hv
  obtain ⟨rfl, hxB, hM, hK⟩ := hv
  have hx := B.exec
  have hb := B.bytes
  have hr := B.returns
  have hlocks := B.notSynchronized
  have hts := atoms_spec (ws := (.code y_Expression_become b_Expression_become 3 none :: lw_g)) B.pre
  have hown : s.vm.findClass R_Expression = some m.cls := findClass_of_methodNamed B.named
  have K : cK D T R_Expression s m _ := ⟨fun w h => hts w (List.mem_cons_of_mem _ h), hown, hK⟩
  have hS : va_S A s.heap s.heap [] := va_S.rf
  have hl := lv_entry ([.ref (ad 3 (i)), .int (nI κ), .int v]) (n := 3) (Nat.le_of_ble_eq_true rfl)
  rw [lg_entry_eq]
  generalize (lg_sl ([.ref (ad 3 (i)), .int (nI κ), .int v]) ++ List.replicate (3 - (lg_sl ([.ref (ad 3 (i)), .int (nI κ), .int v])).length) Slot.unset).toArray = ls at hl ⊢
  have hl : lv_has ls 3 [(0, .ref (ad 3 (i))), (1, .int (nI κ)), (2, .int v)] := hl
  refine lv_aload_n hx hb d_Expression_become_0 rfl (lv_at hl 0 rfl) ?_
  refine lv_iload_n hx hb d_Expression_become_1 rfl (lv_at hl 1 rfl) ?_
  refine X_put hx hb K hM hS hi 0 (ty := .char) (by decide +kernel) (pk_charN hκ).1 (pk_charN hκ).2 k_Expression_f17 d_Expression_become_2 (kk := fun H locs hM hS => ?_)
  refine lv_aload_n hx hb d_Expression_become_5 rfl (lv_at hl 0 rfl) ?_
  refine lv_iload_n hx hb d_Expression_become_6 rfl (lv_at hl 2 rfl) ?_
  refine X_put hx hb K hM hS hi 1 (ty := .int) (by decide +kernel) rfl rfl k_Expression_f21 d_Expression_become_7 (kk := fun H locs hM hS => ?_)
  refine lv_aload_n hx hb d_Expression_become_10 rfl (lv_at hl 0 rfl) ?_
  refine lv_iconst (v := 0) hx hb d_Expression_become_11 (by decide) ?_
  refine X_put hx hb K hM hS hi 2 (ty := .int) (by decide +kernel) rfl rfl k_Expression_f25 d_Expression_become_12 (kk := fun H locs hM hS => ?_)
  refine lv_aload_n hx hb d_Expression_become_15 rfl (lv_at hl 0 rfl) ?_
  refine lv_iconst (v := 0) hx hb d_Expression_become_16 (by decide) ?_
  refine X_put hx hb K hM hS hi 3 (ty := .int) (by decide +kernel) rfl rfl k_Expression_f28 d_Expression_become_17 (kk := fun H locs hM hS => ?_)
  refine W.vret hx hb hr (r_endv hM hS ?_) hS.2.2 d_Expression_become_20
  exact ⟨rfl, rfl, by simp [va_up], fun j hj => by simp [va_up, hj]⟩
set_option maxHeartbeats 4000000 in
set_option maxRecDepth 100000 in
theorem e_Expression_mayClose (l : Launch) (s0 : State) (D : va_G) (T : Nat → ClassId) (A : Nat → Prop) (hA : ∀ q, A q → s0.heap.size ≤ q) (h0 : Nat → Option va_E) (ad : Nat → Nat → Nat) (rf : Nat → Int32) (xf nf : Nat → Nat → Int32) (fo : Nat → Option Nat) (i : Nat) (hi : i < 120) (κ : Nat) (hκ : xf i 0 = nI κ) (hf : κ ∈ formK) (pn : Nat) (hp : xf i 3 = nI pn) (hp4 : pn ≤ 4) :
    Met l y_Expression_mayClose (.code y_Expression_mayClose b_Expression_mayClose 1 (some .boolean) :: lw_g) ({ frames := 1, cells := 0, slots := 0, locals := 20 }) (va_Pc [.ref (ad 3 (i))] (rP s0 D T A h0 ad rf xf nf fo)) (va_Qi (fun r S => S = (rf, xf, nf, fo) ∧ ((r = 1 ∧ fwN κ ≤ pn) ∨ (r = 0 ∧ pn < fwN κ))) (rB D T A h0 ad) A) 0 0 A := by
  refine Met.ofW (cc := b_Expression_mayClose) (maxL := 1) (ret := (some .boolean)) (by decide) rfl ?_
  intro p e s m args below meth c s₁ B hml hv
  obtain ⟨rfl, hxB, hM, hK⟩ := hv
  have hx := B.exec
  have hb := B.bytes
  have hr := B.returns
  have hlocks := B.notSynchronized
  have hts := atoms_spec (ws := (.code y_Expression_mayClose b_Expression_mayClose 1 (some .boolean) :: lw_g)) B.pre
  have hown : s.vm.findClass R_Expression = some m.cls := findClass_of_methodNamed B.named
  have K : cK D T R_Expression s m _ := ⟨fun w h => hts w (List.mem_cons_of_mem _ h), hown, hK⟩
  have hS : va_S A s.heap s.heap [] := va_S.rf
  have hl := lv_entry ([.ref (ad 3 (i))]) (n := 1) (Nat.le_of_ble_eq_true rfl)
  rw [lg_entry_eq]
  generalize (lg_sl ([.ref (ad 3 (i))]) ++ List.replicate (1 - (lg_sl ([.ref (ad 3 (i))])).length) Slot.unset).toArray = ls at hl ⊢
  have hl : lv_has ls 1 [(0, .ref (ad 3 (i)))] := hl
  refine lv_aload_n hx hb d_Expression_mayClose_0 rfl (lv_at hl 0 rfl) ?_
  refine X_get hx hb K hM hi 3 (v := .int (nI pn)) (xp3 hp) k_Expression_f28 d_Expression_mayClose_1 (kk := ?_)
  refine lv_aload_n hx hb d_Expression_mayClose_4 rfl (lv_at hl 0 rfl) ?_
  refine X_get hx hb K hM hi 0 (v := .int (nI κ)) (xp0 hκ) k_Expression_f17 d_Expression_mayClose_5 (kk := ?_)
  refine lv_bipush (v := 40) hx hb d_Expression_mayClose_8 (by decide) ?_
  refine lv_icmp_ne (tgt := 17) hx hb d_Expression_mayClose_10 (by decide) (fun c_10 => ?_) (fun c_10 => ?_)
  · skip
    have k40 : ¬ κ = 40 := fun z => c_10 (by rw [z]; rfl)
    refine lv_aload_n hx hb d_Expression_mayClose_17 rfl (lv_at hl 0 rfl) ?_
    refine va_calli (R_run (As := []) (rest := [.int (nI pn)]) (n := 0) hx hb hml K hM hxB hA hS (fun _ q => (q.2.2.2.1 _ hi).1) (C := R_Expression) (ci := 3) rfl (e_Expression_mostParts l s0 D T A hA h0 ad rf xf nf fo i hi κ hκ hf) kc_Expression_mostParts k_Expression_m31 ki_Expression_mostParts ke_Expression_mostParts k_Expression_ini rfl rfl (by decide +kernel) ⟨Nat.le_of_ble_eq_true rfl, Nat.le_of_ble_eq_true rfl⟩ rfl hl.1 rfl (lv_room (Nat.le_of_ble_eq_true rfl)) d_Expression_mayClose_18 ⟨Nat.le_of_ble_eq_true rfl, Nat.le_of_ble_eq_true rfl⟩) hS (fun q _ h => h) (fun q h => h) (fun r S t H1 locs1 ht hvm hw hB hz hk hS => ?_)
    replace hM : RW D T A h0 ad S.1 S.2.1 S.2.2.1 S.2.2.2 H1 := by rw [← ht]; exact hB
    obtain ⟨rfl, rfl⟩ := hw
    dsimp only at hM
    refine lv_icmp_lt (tgt := 28) hx hb d_Expression_mayClose_21 (by decide) (fun c_21 => ?_) (fun c_21 => ?_)
    · skip
      refine lv_iconst (v := 0) hx hb d_Expression_mayClose_28 (by decide) ?_
      refine W.zret (v := (0)) hx hb hr rfl (r_endi hM hS ?_) hS.2.2 d_Expression_mayClose_29
      exact ⟨rfl, Or.inr ⟨rfl, by rw [show fwN κ = mpN κ from (by unfold fwN mpN; rw [if_neg k40, if_neg k40])]; exact Nat.lt_of_not_le (fun z => absurd c_21 (nI_nlt (b := mpN κ) z (by omega)))⟩⟩
    · skip
      refine lv_iconst (v := 1) hx hb d_Expression_mayClose_24 (by decide) ?_
      refine lv_goto (tgt := 29) hx hb d_Expression_mayClose_25 (by decide) ?_
      refine W.zret (v := (1)) hx hb hr rfl (r_endi hM hS ?_) hS.2.2 d_Expression_mayClose_29
      exact ⟨rfl, Or.inl ⟨rfl, by rw [show fwN κ = mpN κ from (by unfold fwN mpN; rw [if_neg k40, if_neg k40])]; exact Nat.le_of_not_lt (fun z => c_21 (nI_lt z (by have := (formK_le hf).1; omega)))⟩⟩
  · skip
    have k40 : κ = 40 := by
      have h9 : nI κ = nI 40 := c_10
      exact (nI_eq (by have := (formK_le hf).2.2.2.2; omega) (by decide)).mp h9
    refine lv_iconst (v := 1) hx hb d_Expression_mayClose_13 (by decide) ?_
    refine lv_goto (tgt := 21) hx hb d_Expression_mayClose_14 (by decide) ?_
    refine lv_icmp_lt (tgt := 28) hx hb d_Expression_mayClose_21 (by decide) (fun c_21 => ?_) (fun c_21 => ?_)
    · skip
      refine lv_iconst (v := 0) hx hb d_Expression_mayClose_28 (by decide) ?_
      refine W.zret (v := (0)) hx hb hr rfl (r_endi hM hS ?_) hS.2.2 d_Expression_mayClose_29
      exact ⟨rfl, Or.inr ⟨rfl, by rw [show fwN κ = 1 from by rw [k40]; decide]; exact Nat.lt_of_not_le (fun z => absurd c_21 (nI_nlt (b := 1) z (by omega)))⟩⟩
    · skip
      refine lv_iconst (v := 1) hx hb d_Expression_mayClose_24 (by decide) ?_
      refine lv_goto (tgt := 29) hx hb d_Expression_mayClose_25 (by decide) ?_
      refine W.zret (v := (1)) hx hb hr rfl (r_endi hM hS ?_) hS.2.2 d_Expression_mayClose_29
      exact ⟨rfl, Or.inl ⟨rfl, by rw [show fwN κ = 1 from by rw [k40]; decide]; exact Nat.le_of_not_lt (fun z => c_21 (nI_lt (b := 1) z (by decide)))⟩⟩
set_option maxHeartbeats 4000000 in
set_option maxRecDepth 100000 in
theorem e_Expression_addPart (l : Launch) (s0 : State) (D : va_G) (T : Nat → ClassId) (A : Nat → Prop) (hA : ∀ q, A q → s0.heap.size ≤ q) (h0 : Nat → Option va_E) (ad : Nat → Nat → Nat) (rf : Nat → Int32) (xf nf : Nat → Nat → Int32) (fo : Nat → Option Nat) (i : Nat) (hi : i < 120) (κ : Nat) (hκ : xf i 0 = nI κ) (hf : κ ∈ formK) (pn : Nat) (hp : xf i 3 = nI pn) (hp4 : pn ≤ 4) (i2 : Nat) (hi2 : i2 < 120) :
    Met l y_Expression_addPart (.code y_Expression_addPart b_Expression_addPart 2 (some .boolean) :: lw_g) ({ frames := 1, cells := 0, slots := 0, locals := 20 }) (va_Pc [.ref (ad 3 (i)), .ref (ad 3 (i2))] (rP s0 D T A h0 ad rf xf nf fo)) (va_Qi (fun r S => (r = 0 ∧ mpN κ ≤ pn ∧ S = (rf, xf, nf, fo)) ∨ (r = 1 ∧ pn < mpN κ ∧ S = (rf, va_up xf i (va_up (xf i) 3 (nI (pn + 1))), nf, fo))) (rB D T A h0 ad) A) 0 0 A := by
  refine Met.ofW (cc := b_Expression_addPart) (maxL := 2) (ret := (some .boolean)) (by decide) rfl ?_
  intro p e s m args below meth c s₁ B hml hv
  obtain ⟨rfl, hxB, hM, hK⟩ := hv
  have hx := B.exec
  have hb := B.bytes
  have hr := B.returns
  have hlocks := B.notSynchronized
  have hts := atoms_spec (ws := (.code y_Expression_addPart b_Expression_addPart 2 (some .boolean) :: lw_g)) B.pre
  have hown : s.vm.findClass R_Expression = some m.cls := findClass_of_methodNamed B.named
  have K : cK D T R_Expression s m _ := ⟨fun w h => hts w (List.mem_cons_of_mem _ h), hown, hK⟩
  have hS : va_S A s.heap s.heap [] := va_S.rf
  have hl := lv_entry ([.ref (ad 3 (i)), .ref (ad 3 (i2))]) (n := 2) (Nat.le_of_ble_eq_true rfl)
  rw [lg_entry_eq]
  generalize (lg_sl ([.ref (ad 3 (i)), .ref (ad 3 (i2))]) ++ List.replicate (2 - (lg_sl ([.ref (ad 3 (i)), .ref (ad 3 (i2))])).length) Slot.unset).toArray = ls at hl ⊢
  have hl : lv_has ls 2 [(0, .ref (ad 3 (i))), (1, .ref (ad 3 (i2)))] := hl
  refine lv_aload_n hx hb d_Expression_addPart_0 rfl (lv_at hl 0 rfl) ?_
  refine X_get hx hb K hM hi 3 (v := .int (nI pn)) (xp3 hp) k_Expression_f28 d_Expression_addPart_1 (kk := ?_)
  refine lv_aload_n hx hb d_Expression_addPart_4 rfl (lv_at hl 0 rfl) ?_
  refine va_calli (R_run (As := []) (rest := [.int (nI pn)]) (n := 0) hx hb hml K hM hxB hA hS (fun _ q => (q.2.2.2.1 _ hi).1) (C := R_Expression) (ci := 3) rfl (e_Expression_mostParts l s0 D T A hA h0 ad rf xf nf fo i hi κ hκ hf) kc_Expression_mostParts k_Expression_m31 ki_Expression_mostParts ke_Expression_mostParts k_Expression_ini rfl rfl (by decide +kernel) ⟨Nat.le_of_ble_eq_true rfl, Nat.le_of_ble_eq_true rfl⟩ rfl hl.1 rfl (lv_room (Nat.le_of_ble_eq_true rfl)) d_Expression_addPart_5 ⟨Nat.le_of_ble_eq_true rfl, Nat.le_of_ble_eq_true rfl⟩) hS (fun q _ h => h) (fun q h => h) (fun r S t H1 locs1 ht hvm hw hB hz hk hS => ?_)
  replace hM : RW D T A h0 ad S.1 S.2.1 S.2.2.1 S.2.2.2 H1 := by rw [← ht]; exact hB
  obtain ⟨rfl, rfl⟩ := hw
  dsimp only at hM
  refine lv_icmp_lt (tgt := 13) hx hb d_Expression_addPart_8 (by decide) (fun c_8 => ?_) (fun c_8 => ?_)
  · skip
    have hlt : pn < mpN κ := Nat.lt_of_not_le (fun z => absurd c_8 (nI_nlt z (by omega)))
    refine lv_aload_n hx hb d_Expression_addPart_13 rfl (lv_at hl 0 rfl) ?_
    refine X_get hx hb K hM hi 5 (v := .ref (ad 5 (i))) rfl k_Expression_f13 d_Expression_addPart_14 (kk := ?_)
    refine lv_aload_n hx hb d_Expression_addPart_17 rfl (lv_at hl 0 rfl) ?_
    refine X_get hx hb K hM hi 3 (v := .int (nI pn)) (xp3 hp) k_Expression_f28 d_Expression_addPart_18 (kk := ?_)
    refine lv_aload_n hx hb d_Expression_addPart_21 rfl (lv_at hl 1 rfl) ?_
    refine P_ast hx hb K hM hS (i := i) (j := pn) (i2 := i2) hi (by have := (formK_le hf).1; omega) hi2 d_Expression_addPart_22 (fun H locs hM hS => ?_)
    refine lv_aload_n hx hb d_Expression_addPart_23 rfl (lv_at hl 0 rfl) ?_
    refine lv_dup hx hb d_Expression_addPart_24 rfl ?_
    refine X_get hx hb K hM hi 3 (v := .int (nI pn)) (xp3 hp) k_Expression_f28 d_Expression_addPart_25 (kk := ?_)
    refine lv_iconst (v := 1) hx hb d_Expression_addPart_28 (by decide) ?_
    refine lv_iadd hx hb d_Expression_addPart_29 ?_
    refine lv_as (v := nI (pn + 1)) (nI_1 pn) ?_
    refine X_put hx hb K hM hS hi 3 (ty := .int) (by decide +kernel) rfl rfl k_Expression_f28 d_Expression_addPart_30 (kk := fun H locs hM hS => ?_)
    refine lv_iconst (v := 1) hx hb d_Expression_addPart_33 (by decide) ?_
    refine W.zret (v := (1)) hx hb hr rfl (r_endi hM hS ?_) hS.2.2 d_Expression_addPart_34
    exact Or.inr ⟨rfl, hlt, rfl⟩
  · skip
    have hge : mpN κ ≤ pn := Nat.le_of_not_lt (fun z => c_8 (nI_lt z (by have := (formK_le hf).1; omega)))
    refine lv_iconst (v := 0) hx hb d_Expression_addPart_11 (by decide) ?_
    refine W.zret (v := (0)) hx hb hr rfl (r_endi hM hS ?_) hS.2.2 d_Expression_addPart_12
    exact Or.inl ⟨rfl, hge, rfl⟩
set_option maxHeartbeats 4000000 in
set_option maxRecDepth 100000 in
theorem e_Expression_addName (l : Launch) (s0 : State) (D : va_G) (T : Nat → ClassId) (A : Nat → Prop) (hA : ∀ q, A q → s0.heap.size ≤ q) (h0 : Nat → Option va_E) (ad : Nat → Nat → Nat) (rf : Nat → Int32) (xf nf : Nat → Nat → Int32) (fo : Nat → Option Nat) (i : Nat) (hi : i < 120) (nm : List Nat) (hl3 : nm.length ≤ 3) (h26 : ∀ a ∈ nm, a < 26) (hc : xf i 2 = nI nm.length) (hn : ∀ j, j < nm.length → nf i j = nI (nm.getD j 0)) (q : Nat) (hq : q < 26) :
    Met l y_Expression_addName (.code y_Expression_addName b_Expression_addName 3 (some .boolean) :: lw_g) ({ frames := 0, cells := 0, slots := 0, locals := 0 }) (va_Pc [.ref (ad 3 (i)), .int (nI q)] (rP s0 D T A h0 ad rf xf nf fo)) (va_Qi (fun r S => (r = 0 ∧ (nm.length = 3 ∨ q ∈ nm) ∧ S = (rf, xf, nf, fo)) ∨ (r = 1 ∧ nm.length < 3 ∧ q ∉ nm ∧ S = (rf, va_up xf i (va_up (xf i) 2 (nI (nm.length + 1))), va_up nf i (upd (nf i) nm.length (nI q)), fo))) (rB D T A h0 ad) A) 0 0 A := by
  refine Met.ofW (cc := b_Expression_addName) (maxL := 3) (ret := (some .boolean)) (by decide) rfl ?_
  intro p e s m args below meth c s₁ B hml hv
  obtain ⟨rfl, hxB, hM, hK⟩ := hv
  have hx := B.exec
  have hb := B.bytes
  have hr := B.returns
  have hlocks := B.notSynchronized
  have hts := atoms_spec (ws := (.code y_Expression_addName b_Expression_addName 3 (some .boolean) :: lw_g)) B.pre
  have hown : s.vm.findClass R_Expression = some m.cls := findClass_of_methodNamed B.named
  have K : cK D T R_Expression s m _ := ⟨fun w h => hts w (List.mem_cons_of_mem _ h), hown, hK⟩
  have hS : va_S A s.heap s.heap [] := va_S.rf
  have hl := lv_entry ([.ref (ad 3 (i)), .int (nI q)]) (n := 3) (Nat.le_of_ble_eq_true rfl)
  rw [lg_entry_eq]
  generalize (lg_sl ([.ref (ad 3 (i)), .int (nI q)]) ++ List.replicate (3 - (lg_sl ([.ref (ad 3 (i)), .int (nI q)])).length) Slot.unset).toArray = ls at hl ⊢
  have hl : lv_has ls 3 [(0, .ref (ad 3 (i))), (1, .int (nI q))] := hl
  refine lv_aload_n hx hb d_Expression_addName_0 rfl (lv_at hl 0 rfl) ?_
  refine X_get hx hb K hM hi 2 (v := .int (nI nm.length)) (xp2 hc) k_Expression_f25 d_Expression_addName_1 (kk := ?_)
  refine lv_iconst (v := 3) hx hb d_Expression_addName_4 (by decide) ?_
  refine lv_icmp_lt (tgt := 10) hx hb d_Expression_addName_5 (by decide) (fun c_5 => ?_) (fun c_5 => ?_)
  · skip
    have h3 : nm.length < 3 := Nat.lt_of_not_le (fun z => absurd c_5 (nI_nlt (b := 3) z (by omega)))
    refine lv_iconst (v := 0) hx hb d_Expression_addName_10 (by decide) ?_
    refine lv_as (v := nI 0) rfl ?_
    refine lv_istore_n (lv' := [(2, .int (nI 0)), (0, .ref (ad 3 (i))), (1, .int (nI q))]) hx hb d_Expression_addName_11 rfl hl (by decide) rfl (fun ls hl => ?_)
    have loop : ∀ (z j : Nat) (H : Heap) (locs : List Loc) (ls : Array Slot), j + z = nm.length → RW D T A h0 ad rf xf nf fo H → va_S A s.heap H locs → lv_has ls 3 [(2, .int (nI j)), (0, .ref (ad 3 (i))), (1, .int (nI q))] → (∀ j2, j2 < j → nm.getD j2 0 ≠ q) → W p l e (headSpec (.code y_Expression_addName b_Expression_addName 3 (some .boolean) :: lw_g) ({ frames := 0, cells := 0, slots := 0, locals := 0 })).room s m #[Value.ref (ad 3 i), Value.int (nI q)] below meth c H locs 0 0 (MQ below (va_Qi (fun r S => (r = 0 ∧ (nm.length = 3 ∨ q ∈ nm) ∧ S = (rf, xf, nf, fo)) ∨ (r = 1 ∧ nm.length < 3 ∧ q ∉ nm ∧ S = (rf, va_up xf i (va_up (xf i) 2 (nI (nm.length + 1))), va_up nf i (upd (nf i) nm.length (nI q)), fo))) (rB D T A h0 ad) A) #[Value.ref (ad 3 i), Value.int (nI q)] s 0 0 A) (F0 m 12 ls []) := by
      intro z
      induction z with
      | zero =>
        intro j H locs ls hj hM hS hl hno
        obtain rfl : j = nm.length := by omega
        refine lv_iload_n hx hb d_Expression_addName_12 rfl (lv_at hl 0 rfl) ?_
        refine lv_aload_n hx hb d_Expression_addName_13 rfl (lv_at hl 1 rfl) ?_
        refine X_get hx hb K hM hi 2 (v := .int (nI nm.length)) (xp2 hc) k_Expression_f25 d_Expression_addName_14 (kk := ?_)
        refine lv_icmp_ge (tgt := 38) hx hb d_Expression_addName_17 (by decide) (fun c_17 => ?_) (fun c_17 => absurd (nI_le (Nat.le_refl _) (by omega)) c_17)
        refine lv_aload_n hx hb d_Expression_addName_38 rfl (lv_at hl 1 rfl) ?_
        refine X_get hx hb K hM hi 4 (v := .ref (ad 4 (i))) rfl k_Expression_f9 d_Expression_addName_39 (kk := ?_)
        refine lv_aload_n hx hb d_Expression_addName_42 rfl (lv_at hl 1 rfl) ?_
        refine X_get hx hb K hM hi 2 (v := .int (nI nm.length)) (xp2 hc) k_Expression_f25 d_Expression_addName_43 (kk := ?_)
        refine lv_iload_n hx hb d_Expression_addName_46 rfl (lv_at hl 2 rfl) ?_
        refine N_ast hx hb K hM hS (i := i) (j := nm.length) hi h3 d_Expression_addName_47 (fun H locs hM hS => ?_)
        refine lv_aload_n hx hb d_Expression_addName_48 rfl (lv_at hl 1 rfl) ?_
        refine lv_dup hx hb d_Expression_addName_49 rfl ?_
        refine X_get hx hb K hM hi 2 (v := .int (nI nm.length)) (xp2 hc) k_Expression_f25 d_Expression_addName_50 (kk := ?_)
        refine lv_iconst (v := 1) hx hb d_Expression_addName_53 (by decide) ?_
        refine lv_iadd hx hb d_Expression_addName_54 ?_
        refine lv_as (v := nI (nm.length + 1)) (nI_1 _) ?_
        refine X_put hx hb K hM hS hi 2 (ty := .int) (by decide +kernel) rfl rfl k_Expression_f25 d_Expression_addName_55 (kk := fun H locs hM hS => ?_)
        refine lv_iconst (v := 1) hx hb d_Expression_addName_58 (by decide) ?_
        refine W.zret (v := (1)) hx hb hr rfl (r_endi hM hS ?_) hS.2.2 d_Expression_addName_59
        exact Or.inr ⟨rfl, h3, fun z => by obtain ⟨j, hj, e⟩ := List.getElem_of_mem z; exact hno j hj (by rw [List.getD_eq_getElem?_getD, List.getElem?_eq_getElem hj]; exact e), rfl⟩
      | succ z ih =>
        intro j H locs ls hj hM hS hl hno
        have hjl : j < nm.length := by omega
        refine lv_iload_n hx hb d_Expression_addName_12 rfl (lv_at hl 0 rfl) ?_
        refine lv_aload_n hx hb d_Expression_addName_13 rfl (lv_at hl 1 rfl) ?_
        refine X_get hx hb K hM hi 2 (v := .int (nI nm.length)) (xp2 hc) k_Expression_f25 d_Expression_addName_14 (kk := ?_)
        refine lv_icmp_ge (tgt := 38) hx hb d_Expression_addName_17 (by decide) (fun c_17 => absurd c_17 (nI_ge hjl (by omega))) (fun c_17 => ?_)
        refine lv_aload_n hx hb d_Expression_addName_20 rfl (lv_at hl 1 rfl) ?_
        refine X_get hx hb K hM hi 4 (v := .ref (ad 4 (i))) rfl k_Expression_f9 d_Expression_addName_21 (kk := ?_)
        refine lv_iload_n hx hb d_Expression_addName_24 rfl (lv_at hl 0 rfl) ?_
        refine N_ald hx hb K hM (i := i) (j := j) hi (by omega) (v := nI (nm.getD j 0)) (hn j hjl) d_Expression_addName_25 ?_
        refine lv_iload_n hx hb d_Expression_addName_26 rfl (lv_at hl 2 rfl) ?_
        refine lv_icmp_ne (tgt := 32) hx hb d_Expression_addName_27 (by decide) (fun c_27 => ?_) (fun c_27 => ?_)
        · skip
          have hne : nm.getD j 0 ≠ q := fun z => c_27 (by rw [z])
          refine lv_iinc (v := nI (j + 1)) (lv' := [(2, .int (nI (j + 1))), (0, .ref (ad 3 (i))), (1, .int (nI q))]) hx hb d_Expression_addName_32 hl (k := 0) rfl (nI_1 j) (by decide) rfl (fun ls hl => ?_)
          refine lv_goto (tgt := 12) hx hb d_Expression_addName_35 (by decide) ?_
          exact ih (j + 1) H locs ls (by omega) hM hS hl (fun j2 h2 => by
            rcases Nat.lt_or_ge j2 j with z | z
            · exact hno j2 z
            · rw [show j2 = j by omega]; exact hne)
        · skip
          have hqq : nm.getD j 0 = q := by
            have h9 : nI (nm.getD j 0) = nI q := c_27
            have ha : nm.getD j 0 < 26 := by rw [List.getD_eq_getElem?_getD, List.getElem?_eq_getElem hjl]; exact h26 _ (List.getElem_mem hjl)
            exact (nI_eq (by omega) (by omega)).mp h9
          refine lv_iconst (v := 0) hx hb d_Expression_addName_30 (by decide) ?_
          refine W.zret (v := (0)) hx hb hr rfl (r_endi hM hS ?_) hS.2.2 d_Expression_addName_31
          exact Or.inl ⟨rfl, Or.inr (by rw [← hqq, List.getD_eq_getElem?_getD, List.getElem?_eq_getElem hjl]; exact List.getElem_mem hjl), rfl⟩
    exact loop nm.length 0 s.heap [] ls (by omega) hM hS hl (fun j hj => absurd hj (Nat.not_lt_zero j))
  · skip
    have h3 : nm.length = 3 := by have : 3 ≤ nm.length := Nat.le_of_not_lt (fun z => c_5 (nI_lt (b := 3) z (by decide))); omega
    refine lv_iconst (v := 0) hx hb d_Expression_addName_8 (by decide) ?_
    refine W.zret (v := (0)) hx hb hr rfl (r_endi hM hS ?_) hS.2.2 d_Expression_addName_9
    exact Or.inl ⟨rfl, Or.inl h3, rfl⟩
