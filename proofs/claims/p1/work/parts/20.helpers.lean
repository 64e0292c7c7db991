theorem x_tab1 {L : List ExceptionTableEntry} {a : Nat × Nat × Nat × Nat} (h : L.map (fun h => (h.startPc, h.endPc, h.handlerPc, h.catchType)) = [a]) : ∃ e1 : ExceptionTableEntry, L = [e1] ∧ (e1.startPc, e1.endPc, e1.handlerPc, e1.catchType) = a := by
  match L, h with
  | [e1], h => exact ⟨e1, rfl, (List.cons.inj h).1⟩
theorem x_tab2 {L : List ExceptionTableEntry} {a b : Nat × Nat × Nat × Nat} (h : L.map (fun h => (h.startPc, h.endPc, h.handlerPc, h.catchType)) = [a, b]) : ∃ e1 e2 : ExceptionTableEntry, L = [e1, e2] ∧ (e1.startPc, e1.endPc, e1.handlerPc, e1.catchType) = a ∧ (e2.startPc, e2.endPc, e2.handlerPc, e2.catchType) = b := by
  match L, h with
  | [e1, e2], h => exact ⟨e1, e2, rfl, (List.cons.inj h).1, (List.cons.inj (List.cons.inj h).2).1⟩
theorem x_tab4 {L : List ExceptionTableEntry} {a b a2 b2 : Nat × Nat × Nat × Nat} (h : L.map (fun h => (h.startPc, h.endPc, h.handlerPc, h.catchType)) = [a, b, a2, b2]) : ∃ e1 e2 e3 e4 : ExceptionTableEntry, L = [e1, e2, e3, e4] ∧ (e1.startPc, e1.endPc, e1.handlerPc, e1.catchType) = a ∧ (e2.startPc, e2.endPc, e2.handlerPc, e2.catchType) = b := by
  match L, h with
  | [e1, e2, e3, e4], h => exact ⟨e1, e2, e3, e4, rfl, (List.cons.inj h).1, (List.cons.inj (List.cons.inj h).2).1⟩
/-- what a helper of the law starts from, and the class's method under it -/
def hPre (s0 : State) (CF : State → Prop) (D : va_G) (cl : List vw_C) (tys : List (ClassId × FieldType)) (tJ : Nat) (cJ : ClassId) (A : Nat → Prop) (oa : Nat) (g : Nat → Int64) : State → Prop := fun U => xB s0 U ∧ CF U ∧ va_P D cl [(oa, .inl (cJ, 1, .inr (.inl g)))] U.heap ∧ va_D A [(oa, .inl (cJ, 1, .inr (.inl g)))] ∧ va_K D cl tys U ∧ tys[tJ]? = some (cJ, .long)
def hB (D : va_G) (cl : List vw_C) (tys : List (ClassId × FieldType)) (A : Nat → Prop) (cJ : ClassId) (oa : Nat) : (Nat → Int64) → State → Prop := fun g t => va_P D cl [(oa, .inl (cJ, 1, .inr (.inl g)))] t.heap ∧ va_D A [(oa, .inl (cJ, 1, .inr (.inl g)))] ∧ va_K D cl tys t
def cPre (s0 : State) (CF : State → Prop) : State → Prop := fun U => xB s0 U ∧ CF U
/-- how the class's world is carried, and where its object lies -/
def cOk (CF : State → Prop) (xo : Nat) : Prop := (∀ U U2 : State, U2.heap = U.heap → U.WarmedH U2.vm → CF U → CF U2) ∧ ∀ U : State, CF U → ∃ cellB : Cell, U.heap[xo]? = some cellB ∧ cellB.vm.isStatics = false ∧ U.vm.findClass R_C = some cellB.cls
theorem cOk.V {s0 s : State} {CF : State → Prop} {xo : Nat} {As : List Value} (h : cOk CF xo) (hx : xB s0 s) (hc : CF s) : PreV s s.heap R_C xo (va_Pc (.ref xo :: As) (cPre s0 CF)) As :=
  ⟨fun _ U _ _ q => ⟨q.1, q.2.1, h.1 U _ rfl (State.WarmedH.refl U) q.2.2⟩, h.2 s hc, fun U hU hW => ⟨rfl, ⟨State.WarmedH.trans hx.1 hW, by rw [hU]; exact hx.2.1, by rw [hU]; exact hx.2.2⟩, h.1 s U hU hW hc⟩⟩
theorem k_Law_x13 : Cond.classLink R_Law 13 "java/lang/IllegalStateException" ∈ lw_g := lw_in (List.mem_append_right _ (List.mem_of_getElem? (i := 305) (by decide +kernel))) rfl
theorem k_Law_x15 : Cond.classLink R_Law 15 "java/lang/IllegalArgumentException" ∈ lw_g := lw_in (List.mem_append_right _ (List.mem_of_getElem? (i := 306) (by decide +kernel))) rfl
set_option maxHeartbeats 4000000 in
set_option maxRecDepth 100000 in
theorem h_text_R (l : Launch) (s0 : State) (a0 : Array Value) (D : va_G) (cl : List vw_C) (tys : List (ClassId × FieldType)) (tJ : Nat) (cJ : ClassId) (A B : Nat → Prop) (xo oa : Nat) (g : Nat → Int64) (CF : State → Prop) (hCF : cOk CF xo) (hBA : ∀ q, B q → A q) (hoB : ¬ B oa) (fr lo mc ms : Nat) (p0 : Int64) (rv : Int32) (hM : Met l y_C_text (.code y_C_text b_C_text 4 (some .int) :: lw_g) ({ frames := fr, cells := mc, slots := ms, locals := lo }) (va_Pc (.ref xo :: [.long p0]) (cPre s0 CF)) (va_Qi (fun r (_ : Unit) => r = rv) (fun _ _ => True) B) mc ms B) :
    Met l y_Law_text (.codeWith y_Law_text b_Law_text 5 (some .int) [(0, 9, 12, 13), (0, 9, 16, 15)] :: lw_g) ({ frames := fr + 1, cells := mc, slots := ms, locals := 8 + (4 + 11) + lo }) (va_Pc [.ref xo, .long p0, .ref oa] (hPre s0 CF D cl tys tJ cJ A oa g)) (va_Qi (fun r g2 => r = 0 ∧ g2 0 = rv.toInt64) (hB D cl tys A cJ oa) A) mc ms A := by
  refine va_MetW (cc := b_Law_text) (maxL := 5) (ret := some .int) (by decide) rfl ?_
  intro p e s m args below meth c s₁ B9 hml hv
  obtain ⟨rfl, hxB, hcf, hP, hD, hK, htJ⟩ := hv
  have hx := B9.exec
  have hb := B9.bytes
  have hr := B9.returns
  have hts := atoms_spec (ws := (.codeWith y_Law_text b_Law_text 5 (some .int) [(0, 9, 12, 13), (0, 9, 16, 15)] :: lw_g)) B9.pre
  have hgt : ∀ w ∈ lw_g, w.before _ s = true := fun w h => hts w (List.mem_cons_of_mem _ h)
  have hown : s.vm.findClass R_Law = some m.cls := findClass_of_methodNamed B9.named
  have hlocks := B9.notSynchronized
  have hS : va_S A s.heap s.heap [] := va_S.rf
  have hl := lv_entry ([.ref xo, .long p0, .ref oa]) (n := 5) (Nat.le_of_ble_eq_true rfl)
  rw [lg_entry_eq]
  generalize (lg_sl ([.ref xo, .long p0, .ref oa]) ++ List.replicate (5 - (lg_sl ([.ref xo, .long p0, .ref oa])).length) Slot.unset).toArray = ls at hl ⊢
  have hl : lv_has ls 5 [(0, .ref xo), (1, .long p0), (3, .ref oa)] := hl
  refine lv_aload_n hx hb d_Law_text_0 rfl (lv_at hl 2 rfl) ?_
  refine lv_iconst (v := 0) hx hb d_Law_text_1 (by decide) ?_
  refine lv_aload_n hx hb d_Law_text_2 rfl (lv_at hl 0 rfl) ?_
  refine lv_lload_n hx hb d_Law_text_3 rfl (lv_at hl 1 rfl) ?_
  refine va_calli (va_runV (As := [.long p0]) (rest := [.int 0, .ref oa]) ⟨hx, hb, hml, hown, hgt⟩ hM ⟨callB_of 1 (Ts := lw_g) hgt (fun w h => ⟨(List.mem_cons.mp h).elim (fun q => by rw [q]; exact kc_C_text) id, good_of_word (lw_good ((List.mem_cons.mp h).elim (fun q => by rw [q]; exact kc_C_text) id))⟩) rfl rfl rfl (hgt _ k_C_ini) (hgt _ k_Law_m7) (by decide +kernel) ⟨Nat.le_refl _, Nat.le_refl _⟩, hgt _ ki_C_text, hgt _ ke_C_text⟩ (hCF.V hxB hcf) rfl rfl hl.1 rfl (lv_room (Nat.le_of_ble_eq_true rfl)) d_Law_text_4 ⟨by rw [Nat.zero_add]; exact Nat.le_refl _, by rw [Nat.zero_add]; exact Nat.le_refl _⟩) hS (fun q _ h => hBA q h) (fun q h => hBA q h) (fun r u t H1 locs1 ht hvm hw hB1 hz hk hS => ?_)
  obtain rfl := hw
  have hP : va_P D cl [(oa, .inl (cJ, 1, .inr (.inl g)))] H1 := hP.kept (fun k q hk9 => by
    have hk0 : k < 1 := (List.getElem?_eq_some_iff.mp hk9).1
    have hlt := (hP k q hk9).lt
    rw [show k = 0 by omega] at hk9
    cases hk9
    exact hk oa hlt hoB)
  refine lv_i2l (v := r.toInt64) hx hb d_Law_text_7 rfl ?_
  refine va_last hx hb hK hP hD hS 0 tJ rfl htJ (vp_in_nI (n := 0) (N := 1) (by decide) (by decide)) d_Law_text_8 (fun H locs hP hD hS => ?_)
  refine lv_goto (tgt := 20) hx hb d_Law_text_9 (by decide) ?_
  refine lv_iconst (v := 0) hx hb d_Law_text_20 (by decide) ?_
  refine W.cs (cells' := mc) (slots' := ms) (Nat.zero_add _) (Nat.zero_add _) ?_
  exact W.iret (v := 0) hx hb hr (fun t ht hW => ⟨⟨0, _, rfl, ⟨rfl, rfl⟩, by rw [ht]; exact hP, hD, va_K.moved hW.alike hK⟩, hS.F ht⟩) hS.2.2 d_Law_text_21
set_option maxHeartbeats 4000000 in
set_option maxRecDepth 100000 in
theorem h_text_T1 (l : Launch) (s0 : State) (a0 : Array Value) (D : va_G) (cl : List vw_C) (tys : List (ClassId × FieldType)) (tJ : Nat) (cJ : ClassId) (A B : Nat → Prop) (xo oa : Nat) (g : Nat → Int64) (CF : State → Prop) (hCF : cOk CF xo) (hBA : ∀ q, B q → A q) (hoB : ¬ B oa) (fr lo mc ms : Nat) (p0 : Int64) (XC : State → State → Prop) (hXC : ∀ st0 t : State, XC st0 t → va_F B st0 t) (hca : (Cond.castable "java/lang/IllegalStateException" "java/lang/IllegalStateException").before a0 s0 = true) (hM : Thr l y_C_text (.code y_C_text b_C_text 4 (some .int) :: lw_g) ({ frames := fr, cells := mc, slots := ms, locals := lo }) (va_Pc (.ref xo :: [.long p0]) (cPre s0 CF)) "java/lang/IllegalStateException" XC mc ms B) :
    Met l y_Law_text (.codeWith y_Law_text b_Law_text 5 (some .int) [(0, 9, 12, 13), (0, 9, 16, 15)] :: lw_g) ({ frames := fr + 1, cells := mc, slots := ms, locals := 8 + (4 + 11) + lo }) (va_Pc [.ref xo, .long p0, .ref oa] (hPre s0 CF D cl tys tJ cJ A oa g)) (va_Qi (fun r g2 => r = 1 ∧ g2 = g) (hB D cl tys A cJ oa) A) mc ms A := by
  refine va_MetW (cc := b_Law_text) (maxL := 5) (ret := some .int) (by decide) rfl ?_
  intro p e s m args below meth c s₁ B9 hml hv
  obtain ⟨rfl, hxB, hcf, hP, hD, hK, htJ⟩ := hv
  have hx := B9.exec
  have hb := B9.bytes
  have hr := B9.returns
  have hts := atoms_spec (ws := (.codeWith y_Law_text b_Law_text 5 (some .int) [(0, 9, 12, 13), (0, 9, 16, 15)] :: lw_g)) B9.pre
  have hgt : ∀ w ∈ lw_g, w.before _ s = true := fun w h => hts w (List.mem_cons_of_mem _ h)
  have hown : s.vm.findClass R_Law = some m.cls := findClass_of_methodNamed B9.named
  have hlocks := B9.notSynchronized
  have hS : va_S A s.heap s.heap [] := va_S.rf
  have hl := lv_entry ([.ref xo, .long p0, .ref oa]) (n := 5) (Nat.le_of_ble_eq_true rfl)
  rw [lg_entry_eq]
  generalize (lg_sl ([.ref xo, .long p0, .ref oa]) ++ List.replicate (5 - (lg_sl ([.ref xo, .long p0, .ref oa])).length) Slot.unset).toArray = ls at hl ⊢
  have hl : lv_has ls 5 [(0, .ref xo), (1, .long p0), (3, .ref oa)] := hl
  obtain ⟨m9, meth9, c9, hn9, hm9, hc9, -, -, htab, -⟩ := Cond.codeWith_spec (hts _ List.mem_cons_self)
  cases B9.named.symm.trans hn9
  cases B9.method.symm.trans hm9
  cases (Stand.of_body B9).code.symm.trans hc9
  obtain ⟨e1, e2, htb, he1, he2⟩ := x_tab2 htab
  obtain ⟨q11, q12, q13, q14⟩ : e1.startPc = 0 ∧ e1.endPc = 9 ∧ e1.handlerPc = 12 ∧ e1.catchType = 13 := by simpa using he1
  refine lv_aload_n hx hb d_Law_text_0 rfl (lv_at hl 2 rfl) ?_
  refine lv_iconst (v := 0) hx hb d_Law_text_1 (by decide) ?_
  refine lv_aload_n hx hb d_Law_text_2 rfl (lv_at hl 0 rfl) ?_
  refine lv_lload_n hx hb d_Law_text_3 rfl (lv_at hl 1 rfl) ?_
  refine x_catchV (As := [.long p0]) (rest := [.int 0, .ref oa]) ⟨hx, hb, hml, hown, hgt⟩ hM ⟨callB_of 1 (Ts := lw_g) hgt (fun w h => ⟨(List.mem_cons.mp h).elim (fun q => by rw [q]; exact kc_C_text) id, good_of_word (lw_good ((List.mem_cons.mp h).elim (fun q => by rw [q]; exact kc_C_text) id))⟩) rfl rfl rfl (hgt _ k_C_ini) (hgt _ k_Law_m7) (by decide +kernel) ⟨Nat.le_refl _, Nat.le_refl _⟩, hgt _ ki_C_text, hgt _ ke_C_text⟩ (hCF.V hxB hcf) rfl hl.1 rfl (lv_room (Nat.le_of_ble_eq_true rfl)) d_Law_text_4 ⟨by rw [Nat.zero_add]; exact Nat.le_refl _, by rw [Nat.zero_add]; exact Nat.le_refl _⟩ hS (fun q h => hBA q h) (fun st0 t _ h => ⟨(hXC st0 t h).1, fun q h1 h2 => (hXC st0 t h).2 q h1 (fun z => h2 (hBA q z))⟩) [] e1 [e2] htb (name := "java/lang/IllegalStateException") (fun z hz => nomatch hz) (by simp [covers, q11, q12]) (by rw [q14]; decide) (by rw [q14]; exact hgt _ k_Law_x13) (xB.castable hca hxB) (fun qx st0 t H1 locs1 h0 ht hvm hw hz hS => ?_)
  have hP : va_P D cl [(oa, .inl (cJ, 1, .inr (.inl g)))] H1 := hP.kept (fun k q hk9 => by
    have hk0 : k < 1 := (List.getElem?_eq_some_iff.mp hk9).1
    have hlt := (hP k q hk9).lt
    rw [show k = 0 by omega] at hk9
    cases hk9
    rw [← ht, (hXC st0 t hw).2 oa (by rw [h0]; exact hlt) hoB, h0])
  rw [q13]
  refine lv_astore (lv' := [(4, .ref qx), (0, .ref xo), (1, .long p0), (3, .ref oa)]) hx hb d_Law_text_12 hl (by decide) rfl (fun ls hl => ?_)
  refine lv_iconst (v := 1) hx hb d_Law_text_14 (by decide) ?_
  refine W.cs (cells' := mc) (slots' := ms) (Nat.zero_add _) (Nat.zero_add _) ?_
  exact W.iret (v := 1) hx hb hr (fun t ht hW => ⟨⟨1, _, rfl, ⟨rfl, rfl⟩, by rw [ht]; exact hP, hD, va_K.moved hW.alike hK⟩, hS.F ht⟩) hS.2.2 d_Law_text_15
set_option maxHeartbeats 4000000 in
set_option maxRecDepth 100000 in
theorem h_text_T2 (l : Launch) (s0 : State) (a0 : Array Value) (D : va_G) (cl : List vw_C) (tys : List (ClassId × FieldType)) (tJ : Nat) (cJ : ClassId) (A B : Nat → Prop) (xo oa : Nat) (g : Nat → Int64) (CF : State → Prop) (hCF : cOk CF xo) (hBA : ∀ q, B q → A q) (hoB : ¬ B oa) (fr lo mc ms : Nat) (p0 : Int64) (XC : State → State → Prop) (hXC : ∀ st0 t : State, XC st0 t → va_F B st0 t) (hca : (Cond.castable "java/lang/IllegalArgumentException" "java/lang/IllegalArgumentException").before a0 s0 = true) (hno0 : (Cond.not (.castable "java/lang/IllegalArgumentException" "java/lang/IllegalStateException")).before a0 s0 = true) (hM : Thr l y_C_text (.code y_C_text b_C_text 4 (some .int) :: lw_g) ({ frames := fr, cells := mc, slots := ms, locals := lo }) (va_Pc (.ref xo :: [.long p0]) (cPre s0 CF)) "java/lang/IllegalArgumentException" XC mc ms B) :
    Met l y_Law_text (.codeWith y_Law_text b_Law_text 5 (some .int) [(0, 9, 12, 13), (0, 9, 16, 15)] :: lw_g) ({ frames := fr + 1, cells := mc, slots := ms, locals := 8 + (4 + 11) + lo }) (va_Pc [.ref xo, .long p0, .ref oa] (hPre s0 CF D cl tys tJ cJ A oa g)) (va_Qi (fun r g2 => r = 2 ∧ g2 = g) (hB D cl tys A cJ oa) A) mc ms A := by
  refine va_MetW (cc := b_Law_text) (maxL := 5) (ret := some .int) (by decide) rfl ?_
  intro p e s m args below meth c s₁ B9 hml hv
  obtain ⟨rfl, hxB, hcf, hP, hD, hK, htJ⟩ := hv
  have hx := B9.exec
  have hb := B9.bytes
  have hr := B9.returns
  have hts := atoms_spec (ws := (.codeWith y_Law_text b_Law_text 5 (some .int) [(0, 9, 12, 13), (0, 9, 16, 15)] :: lw_g)) B9.pre
  have hgt : ∀ w ∈ lw_g, w.before _ s = true := fun w h => hts w (List.mem_cons_of_mem _ h)
  have hown : s.vm.findClass R_Law = some m.cls := findClass_of_methodNamed B9.named
  have hlocks := B9.notSynchronized
  have hS : va_S A s.heap s.heap [] := va_S.rf
  have hl := lv_entry ([.ref xo, .long p0, .ref oa]) (n := 5) (Nat.le_of_ble_eq_true rfl)
  rw [lg_entry_eq]
  generalize (lg_sl ([.ref xo, .long p0, .ref oa]) ++ List.replicate (5 - (lg_sl ([.ref xo, .long p0, .ref oa])).length) Slot.unset).toArray = ls at hl ⊢
  have hl : lv_has ls 5 [(0, .ref xo), (1, .long p0), (3, .ref oa)] := hl
  obtain ⟨m9, meth9, c9, hn9, hm9, hc9, -, -, htab, -⟩ := Cond.codeWith_spec (hts _ List.mem_cons_self)
  cases B9.named.symm.trans hn9
  cases B9.method.symm.trans hm9
  cases (Stand.of_body B9).code.symm.trans hc9
  obtain ⟨e1, e2, htb, he1, he2⟩ := x_tab2 htab
  obtain ⟨q11, q12, q13, q14⟩ : e1.startPc = 0 ∧ e1.endPc = 9 ∧ e1.handlerPc = 12 ∧ e1.catchType = 13 := by simpa using he1
  obtain ⟨q21, q22, q23, q24⟩ : e2.startPc = 0 ∧ e2.endPc = 9 ∧ e2.handlerPc = 16 ∧ e2.catchType = 15 := by simpa using he2
  refine lv_aload_n hx hb d_Law_text_0 rfl (lv_at hl 2 rfl) ?_
  refine lv_iconst (v := 0) hx hb d_Law_text_1 (by decide) ?_
  refine lv_aload_n hx hb d_Law_text_2 rfl (lv_at hl 0 rfl) ?_
  refine lv_lload_n hx hb d_Law_text_3 rfl (lv_at hl 1 rfl) ?_
  refine x_catchV (As := [.long p0]) (rest := [.int 0, .ref oa]) ⟨hx, hb, hml, hown, hgt⟩ hM ⟨callB_of 1 (Ts := lw_g) hgt (fun w h => ⟨(List.mem_cons.mp h).elim (fun q => by rw [q]; exact kc_C_text) id, good_of_word (lw_good ((List.mem_cons.mp h).elim (fun q => by rw [q]; exact kc_C_text) id))⟩) rfl rfl rfl (hgt _ k_C_ini) (hgt _ k_Law_m7) (by decide +kernel) ⟨Nat.le_refl _, Nat.le_refl _⟩, hgt _ ki_C_text, hgt _ ke_C_text⟩ (hCF.V hxB hcf) rfl hl.1 rfl (lv_room (Nat.le_of_ble_eq_true rfl)) d_Law_text_4 ⟨by rw [Nat.zero_add]; exact Nat.le_refl _, by rw [Nat.zero_add]; exact Nat.le_refl _⟩ hS (fun q h => hBA q h) (fun st0 t _ h => ⟨(hXC st0 t h).1, fun q h1 h2 => (hXC st0 t h).2 q h1 (fun z => h2 (hBA q z))⟩) [e1] e2 [] htb (name := "java/lang/IllegalArgumentException") (fun z hz => Or.inr (by rw [List.mem_singleton.mp hz]; exact ⟨by rw [q14]; decide, "java/lang/IllegalStateException", by rw [q14]; exact hgt _ k_Law_x13, va_Nc.moved hxB.1.alike (va_Nc.of hno0)⟩)) (by simp [covers, q21, q22]) (by rw [q24]; decide) (by rw [q24]; exact hgt _ k_Law_x15) (xB.castable hca hxB) (fun qx st0 t H1 locs1 h0 ht hvm hw hz hS => ?_)
  have hP : va_P D cl [(oa, .inl (cJ, 1, .inr (.inl g)))] H1 := hP.kept (fun k q hk9 => by
    have hk0 : k < 1 := (List.getElem?_eq_some_iff.mp hk9).1
    have hlt := (hP k q hk9).lt
    rw [show k = 0 by omega] at hk9
    cases hk9
    rw [← ht, (hXC st0 t hw).2 oa (by rw [h0]; exact hlt) hoB, h0])
  rw [q23]
  refine lv_astore (lv' := [(4, .ref qx), (0, .ref xo), (1, .long p0), (3, .ref oa)]) hx hb d_Law_text_16 hl (by decide) rfl (fun ls hl => ?_)
  refine lv_iconst (v := 2) hx hb d_Law_text_18 (by decide) ?_
  refine W.cs (cells' := mc) (slots' := ms) (Nat.zero_add _) (Nat.zero_add _) ?_
  exact W.iret (v := 2) hx hb hr (fun t ht hW => ⟨⟨2, _, rfl, ⟨rfl, rfl⟩, by rw [ht]; exact hP, hD, va_K.moved hW.alike hK⟩, hS.F ht⟩) hS.2.2 d_Law_text_19
set_option maxHeartbeats 4000000 in
set_option maxRecDepth 100000 in
theorem h_clear_R (l : Launch) (s0 : State) (a0 : Array Value) (D : va_G) (cl : List vw_C) (tys : List (ClassId × FieldType)) (tJ : Nat) (cJ : ClassId) (A B : Nat → Prop) (xo oa : Nat) (g : Nat → Int64) (CF : State → Prop) (hCF : cOk CF xo) (hBA : ∀ q, B q → A q) (hoB : ¬ B oa) (fr lo mc ms : Nat) (rv : Int32) (hM : Met l y_C_clear (.code y_C_clear b_C_clear 2 (some .int) :: lw_g) ({ frames := fr, cells := mc, slots := ms, locals := lo }) (va_Pc (.ref xo :: []) (cPre s0 CF)) (va_Qi (fun r (_ : Unit) => r = rv) (fun _ _ => True) B) mc ms B) :
    Met l y_Law_clear (.codeWith y_Law_clear b_Law_clear 3 (some .int) [(0, 8, 11, 13)] :: lw_g) ({ frames := fr + 1, cells := mc, slots := ms, locals := 8 + (2 + 11) + lo }) (va_Pc [.ref xo, .ref oa] (hPre s0 CF D cl tys tJ cJ A oa g)) (va_Qi (fun r g2 => r = 0 ∧ g2 0 = rv.toInt64) (hB D cl tys A cJ oa) A) mc ms A := by
  refine va_MetW (cc := b_Law_clear) (maxL := 3) (ret := some .int) (by decide) rfl ?_
  intro p e s m args below meth c s₁ B9 hml hv
  obtain ⟨rfl, hxB, hcf, hP, hD, hK, htJ⟩ := hv
  have hx := B9.exec
  have hb := B9.bytes
  have hr := B9.returns
  have hts := atoms_spec (ws := (.codeWith y_Law_clear b_Law_clear 3 (some .int) [(0, 8, 11, 13)] :: lw_g)) B9.pre
  have hgt : ∀ w ∈ lw_g, w.before _ s = true := fun w h => hts w (List.mem_cons_of_mem _ h)
  have hown : s.vm.findClass R_Law = some m.cls := findClass_of_methodNamed B9.named
  have hlocks := B9.notSynchronized
  have hS : va_S A s.heap s.heap [] := va_S.rf
  have hl := lv_entry ([.ref xo, .ref oa]) (n := 3) (Nat.le_of_ble_eq_true rfl)
  rw [lg_entry_eq]
  generalize (lg_sl ([.ref xo, .ref oa]) ++ List.replicate (3 - (lg_sl ([.ref xo, .ref oa])).length) Slot.unset).toArray = ls at hl ⊢
  have hl : lv_has ls 3 [(0, .ref xo), (1, .ref oa)] := hl
  refine lv_aload_n hx hb d_Law_clear_0 rfl (lv_at hl 1 rfl) ?_
  refine lv_iconst (v := 0) hx hb d_Law_clear_1 (by decide) ?_
  refine lv_aload_n hx hb d_Law_clear_2 rfl (lv_at hl 0 rfl) ?_
  refine va_calli (va_runV (As := []) (rest := [.int 0, .ref oa]) ⟨hx, hb, hml, hown, hgt⟩ hM ⟨callB_of 0 (Ts := lw_g) hgt (fun w h => ⟨(List.mem_cons.mp h).elim (fun q => by rw [q]; exact kc_C_clear) id, good_of_word (lw_good ((List.mem_cons.mp h).elim (fun q => by rw [q]; exact kc_C_clear) id))⟩) rfl rfl rfl (hgt _ k_C_ini) (hgt _ k_Law_m17) (by decide +kernel) ⟨Nat.le_refl _, Nat.le_refl _⟩, hgt _ ki_C_clear, hgt _ ke_C_clear⟩ (hCF.V hxB hcf) rfl rfl hl.1 rfl (lv_room (Nat.le_of_ble_eq_true rfl)) d_Law_clear_3 ⟨by rw [Nat.zero_add]; exact Nat.le_refl _, by rw [Nat.zero_add]; exact Nat.le_refl _⟩) hS (fun q _ h => hBA q h) (fun q h => hBA q h) (fun r u t H1 locs1 ht hvm hw hB1 hz hk hS => ?_)
  obtain rfl := hw
  have hP : va_P D cl [(oa, .inl (cJ, 1, .inr (.inl g)))] H1 := hP.kept (fun k q hk9 => by
    have hk0 : k < 1 := (List.getElem?_eq_some_iff.mp hk9).1
    have hlt := (hP k q hk9).lt
    rw [show k = 0 by omega] at hk9
    cases hk9
    exact hk oa hlt hoB)
  refine lv_i2l (v := r.toInt64) hx hb d_Law_clear_6 rfl ?_
  refine va_last hx hb hK hP hD hS 0 tJ rfl htJ (vp_in_nI (n := 0) (N := 1) (by decide) (by decide)) d_Law_clear_7 (fun H locs hP hD hS => ?_)
  refine lv_goto (tgt := 14) hx hb d_Law_clear_8 (by decide) ?_
  refine lv_iconst (v := 0) hx hb d_Law_clear_14 (by decide) ?_
  refine W.cs (cells' := mc) (slots' := ms) (Nat.zero_add _) (Nat.zero_add _) ?_
  exact W.iret (v := 0) hx hb hr (fun t ht hW => ⟨⟨0, _, rfl, ⟨rfl, rfl⟩, by rw [ht]; exact hP, hD, va_K.moved hW.alike hK⟩, hS.F ht⟩) hS.2.2 d_Law_clear_15
set_option maxHeartbeats 4000000 in
set_option maxRecDepth 100000 in
theorem h_clear_T1 (l : Launch) (s0 : State) (a0 : Array Value) (D : va_G) (cl : List vw_C) (tys : List (ClassId × FieldType)) (tJ : Nat) (cJ : ClassId) (A B : Nat → Prop) (xo oa : Nat) (g : Nat → Int64) (CF : State → Prop) (hCF : cOk CF xo) (hBA : ∀ q, B q → A q) (hoB : ¬ B oa) (fr lo mc ms : Nat) (XC : State → State → Prop) (hXC : ∀ st0 t : State, XC st0 t → va_F B st0 t) (hca : (Cond.castable "java/lang/IllegalStateException" "java/lang/IllegalStateException").before a0 s0 = true) (hM : Thr l y_C_clear (.code y_C_clear b_C_clear 2 (some .int) :: lw_g) ({ frames := fr, cells := mc, slots := ms, locals := lo }) (va_Pc (.ref xo :: []) (cPre s0 CF)) "java/lang/IllegalStateException" XC mc ms B) :
    Met l y_Law_clear (.codeWith y_Law_clear b_Law_clear 3 (some .int) [(0, 8, 11, 13)] :: lw_g) ({ frames := fr + 1, cells := mc, slots := ms, locals := 8 + (2 + 11) + lo }) (va_Pc [.ref xo, .ref oa] (hPre s0 CF D cl tys tJ cJ A oa g)) (va_Qi (fun r g2 => r = 1 ∧ g2 = g) (hB D cl tys A cJ oa) A) mc ms A := by
  refine va_MetW (cc := b_Law_clear) (maxL := 3) (ret := some .int) (by decide) rfl ?_
  intro p e s m args below meth c s₁ B9 hml hv
  obtain ⟨rfl, hxB, hcf, hP, hD, hK, htJ⟩ := hv
  have hx := B9.exec
  have hb := B9.bytes
  have hr := B9.returns
  have hts := atoms_spec (ws := (.codeWith y_Law_clear b_Law_clear 3 (some .int) [(0, 8, 11, 13)] :: lw_g)) B9.pre
  have hgt : ∀ w ∈ lw_g, w.before _ s = true := fun w h => hts w (List.mem_cons_of_mem _ h)
  have hown : s.vm.findClass R_Law = some m.cls := findClass_of_methodNamed B9.named
  have hlocks := B9.notSynchronized
  have hS : va_S A s.heap s.heap [] := va_S.rf
  have hl := lv_entry ([.ref xo, .ref oa]) (n := 3) (Nat.le_of_ble_eq_true rfl)
  rw [lg_entry_eq]
  generalize (lg_sl ([.ref xo, .ref oa]) ++ List.replicate (3 - (lg_sl ([.ref xo, .ref oa])).length) Slot.unset).toArray = ls at hl ⊢
  have hl : lv_has ls 3 [(0, .ref xo), (1, .ref oa)] := hl
  obtain ⟨m9, meth9, c9, hn9, hm9, hc9, -, -, htab, -⟩ := Cond.codeWith_spec (hts _ List.mem_cons_self)
  cases B9.named.symm.trans hn9
  cases B9.method.symm.trans hm9
  cases (Stand.of_body B9).code.symm.trans hc9
  obtain ⟨e1, htb, he1⟩ := x_tab1 htab
  obtain ⟨q11, q12, q13, q14⟩ : e1.startPc = 0 ∧ e1.endPc = 8 ∧ e1.handlerPc = 11 ∧ e1.catchType = 13 := by simpa using he1
  refine lv_aload_n hx hb d_Law_clear_0 rfl (lv_at hl 1 rfl) ?_
  refine lv_iconst (v := 0) hx hb d_Law_clear_1 (by decide) ?_
  refine lv_aload_n hx hb d_Law_clear_2 rfl (lv_at hl 0 rfl) ?_
  refine x_catchV (As := []) (rest := [.int 0, .ref oa]) ⟨hx, hb, hml, hown, hgt⟩ hM ⟨callB_of 0 (Ts := lw_g) hgt (fun w h => ⟨(List.mem_cons.mp h).elim (fun q => by rw [q]; exact kc_C_clear) id, good_of_word (lw_good ((List.mem_cons.mp h).elim (fun q => by rw [q]; exact kc_C_clear) id))⟩) rfl rfl rfl (hgt _ k_C_ini) (hgt _ k_Law_m17) (by decide +kernel) ⟨Nat.le_refl _, Nat.le_refl _⟩, hgt _ ki_C_clear, hgt _ ke_C_clear⟩ (hCF.V hxB hcf) rfl hl.1 rfl (lv_room (Nat.le_of_ble_eq_true rfl)) d_Law_clear_3 ⟨by rw [Nat.zero_add]; exact Nat.le_refl _, by rw [Nat.zero_add]; exact Nat.le_refl _⟩ hS (fun q h => hBA q h) (fun st0 t _ h => ⟨(hXC st0 t h).1, fun q h1 h2 => (hXC st0 t h).2 q h1 (fun z => h2 (hBA q z))⟩) [] e1 [] htb (name := "java/lang/IllegalStateException") (fun z hz => nomatch hz) (by simp [covers, q11, q12]) (by rw [q14]; decide) (by rw [q14]; exact hgt _ k_Law_x13) (xB.castable hca hxB) (fun qx st0 t H1 locs1 h0 ht hvm hw hz hS => ?_)
  have hP : va_P D cl [(oa, .inl (cJ, 1, .inr (.inl g)))] H1 := hP.kept (fun k q hk9 => by
    have hk0 : k < 1 := (List.getElem?_eq_some_iff.mp hk9).1
    have hlt := (hP k q hk9).lt
    rw [show k = 0 by omega] at hk9
    cases hk9
    rw [← ht, (hXC st0 t hw).2 oa (by rw [h0]; exact hlt) hoB, h0])
  rw [q13]
  refine lv_astore_n (lv' := [(2, .ref qx), (0, .ref xo), (1, .ref oa)]) hx hb d_Law_clear_11 rfl hl (by decide) rfl (fun ls hl => ?_)
  refine lv_iconst (v := 1) hx hb d_Law_clear_12 (by decide) ?_
  refine W.cs (cells' := mc) (slots' := ms) (Nat.zero_add _) (Nat.zero_add _) ?_
  exact W.iret (v := 1) hx hb hr (fun t ht hW => ⟨⟨1, _, rfl, ⟨rfl, rfl⟩, by rw [ht]; exact hP, hD, va_K.moved hW.alike hK⟩, hS.F ht⟩) hS.2.2 d_Law_clear_13
set_option maxHeartbeats 4000000 in
set_option maxRecDepth 100000 in
theorem h_given_R (l : Launch) (s0 : State) (a0 : Array Value) (D : va_G) (cl : List vw_C) (tys : List (ClassId × FieldType)) (tJ : Nat) (cJ : ClassId) (A B : Nat → Prop) (xo oa : Nat) (g : Nat → Int64) (CF : State → Prop) (hCF : cOk CF xo) (hBA : ∀ q, B q → A q) (hoB : ¬ B oa) (fr lo mc ms : Nat) (p0 : Int32) (p1 : Int32) (rv : Int32) (hM : Met l y_C_given (.code y_C_given b_C_given 3 (some .int) :: lw_g) ({ frames := fr, cells := mc, slots := ms, locals := lo }) (va_Pc (.ref xo :: [.int p0, .int p1]) (cPre s0 CF)) (va_Qi (fun r (_ : Unit) => r = rv) (fun _ _ => True) B) mc ms B) :
    Met l y_Law_given (.codeWith y_Law_given b_Law_given 5 (some .int) [(0, 10, 13, 13), (0, 10, 17, 15)] :: lw_g) ({ frames := fr + 1, cells := mc, slots := ms, locals := 8 + (3 + 11) + lo }) (va_Pc [.ref xo, .int p0, .int p1, .ref oa] (hPre s0 CF D cl tys tJ cJ A oa g)) (va_Qi (fun r g2 => r = 0 ∧ g2 0 = rv.toInt64) (hB D cl tys A cJ oa) A) mc ms A := by
  refine va_MetW (cc := b_Law_given) (maxL := 5) (ret := some .int) (by decide) rfl ?_
  intro p e s m args below meth c s₁ B9 hml hv
  obtain ⟨rfl, hxB, hcf, hP, hD, hK, htJ⟩ := hv
  have hx := B9.exec
  have hb := B9.bytes
  have hr := B9.returns
  have hts := atoms_spec (ws := (.codeWith y_Law_given b_Law_given 5 (some .int) [(0, 10, 13, 13), (0, 10, 17, 15)] :: lw_g)) B9.pre
  have hgt : ∀ w ∈ lw_g, w.before _ s = true := fun w h => hts w (List.mem_cons_of_mem _ h)
  have hown : s.vm.findClass R_Law = some m.cls := findClass_of_methodNamed B9.named
  have hlocks := B9.notSynchronized
  have hS : va_S A s.heap s.heap [] := va_S.rf
  have hl := lv_entry ([.ref xo, .int p0, .int p1, .ref oa]) (n := 5) (Nat.le_of_ble_eq_true rfl)
  rw [lg_entry_eq]
  generalize (lg_sl ([.ref xo, .int p0, .int p1, .ref oa]) ++ List.replicate (5 - (lg_sl ([.ref xo, .int p0, .int p1, .ref oa])).length) Slot.unset).toArray = ls at hl ⊢
  have hl : lv_has ls 5 [(0, .ref xo), (1, .int p0), (2, .int p1), (3, .ref oa)] := hl
  refine lv_aload_n hx hb d_Law_given_0 rfl (lv_at hl 3 rfl) ?_
  refine lv_iconst (v := 0) hx hb d_Law_given_1 (by decide) ?_
  refine lv_aload_n hx hb d_Law_given_2 rfl (lv_at hl 0 rfl) ?_
  refine lv_iload_n hx hb d_Law_given_3 rfl (lv_at hl 1 rfl) ?_
  refine lv_iload_n hx hb d_Law_given_4 rfl (lv_at hl 2 rfl) ?_
  refine va_calli (va_runV (As := [.int p0, .int p1]) (rest := [.int 0, .ref oa]) ⟨hx, hb, hml, hown, hgt⟩ hM ⟨callB_of 2 (Ts := lw_g) hgt (fun w h => ⟨(List.mem_cons.mp h).elim (fun q => by rw [q]; exact kc_C_given) id, good_of_word (lw_good ((List.mem_cons.mp h).elim (fun q => by rw [q]; exact kc_C_given) id))⟩) rfl rfl rfl (hgt _ k_C_ini) (hgt _ k_Law_m21) (by decide +kernel) ⟨Nat.le_refl _, Nat.le_refl _⟩, hgt _ ki_C_given, hgt _ ke_C_given⟩ (hCF.V hxB hcf) rfl rfl hl.1 rfl (lv_room (Nat.le_of_ble_eq_true rfl)) d_Law_given_5 ⟨by rw [Nat.zero_add]; exact Nat.le_refl _, by rw [Nat.zero_add]; exact Nat.le_refl _⟩) hS (fun q _ h => hBA q h) (fun q h => hBA q h) (fun r u t H1 locs1 ht hvm hw hB1 hz hk hS => ?_)
  obtain rfl := hw
  have hP : va_P D cl [(oa, .inl (cJ, 1, .inr (.inl g)))] H1 := hP.kept (fun k q hk9 => by
    have hk0 : k < 1 := (List.getElem?_eq_some_iff.mp hk9).1
    have hlt := (hP k q hk9).lt
    rw [show k = 0 by omega] at hk9
    cases hk9
    exact hk oa hlt hoB)
  refine lv_i2l (v := r.toInt64) hx hb d_Law_given_8 rfl ?_
  refine va_last hx hb hK hP hD hS 0 tJ rfl htJ (vp_in_nI (n := 0) (N := 1) (by decide) (by decide)) d_Law_given_9 (fun H locs hP hD hS => ?_)
  refine lv_goto (tgt := 21) hx hb d_Law_given_10 (by decide) ?_
  refine lv_iconst (v := 0) hx hb d_Law_given_21 (by decide) ?_
  refine W.cs (cells' := mc) (slots' := ms) (Nat.zero_add _) (Nat.zero_add _) ?_
  exact W.iret (v := 0) hx hb hr (fun t ht hW => ⟨⟨0, _, rfl, ⟨rfl, rfl⟩, by rw [ht]; exact hP, hD, va_K.moved hW.alike hK⟩, hS.F ht⟩) hS.2.2 d_Law_given_22
set_option maxHeartbeats 4000000 in
set_option maxRecDepth 100000 in
theorem h_given_T1 (l : Launch) (s0 : State) (a0 : Array Value) (D : va_G) (cl : List vw_C) (tys : List (ClassId × FieldType)) (tJ : Nat) (cJ : ClassId) (A B : Nat → Prop) (xo oa : Nat) (g : Nat → Int64) (CF : State → Prop) (hCF : cOk CF xo) (hBA : ∀ q, B q → A q) (hoB : ¬ B oa) (fr lo mc ms : Nat) (p0 : Int32) (p1 : Int32) (XC : State → State → Prop) (hXC : ∀ st0 t : State, XC st0 t → va_F B st0 t) (hca : (Cond.castable "java/lang/IllegalStateException" "java/lang/IllegalStateException").before a0 s0 = true) (hM : Thr l y_C_given (.code y_C_given b_C_given 3 (some .int) :: lw_g) ({ frames := fr, cells := mc, slots := ms, locals := lo }) (va_Pc (.ref xo :: [.int p0, .int p1]) (cPre s0 CF)) "java/lang/IllegalStateException" XC mc ms B) :
    Met l y_Law_given (.codeWith y_Law_given b_Law_given 5 (some .int) [(0, 10, 13, 13), (0, 10, 17, 15)] :: lw_g) ({ frames := fr + 1, cells := mc, slots := ms, locals := 8 + (3 + 11) + lo }) (va_Pc [.ref xo, .int p0, .int p1, .ref oa] (hPre s0 CF D cl tys tJ cJ A oa g)) (va_Qi (fun r g2 => r = 1 ∧ g2 = g) (hB D cl tys A cJ oa) A) mc ms A := by
  refine va_MetW (cc := b_Law_given) (maxL := 5) (ret := some .int) (by decide) rfl ?_
  intro p e s m args below meth c s₁ B9 hml hv
  obtain ⟨rfl, hxB, hcf, hP, hD, hK, htJ⟩ := hv
  have hx := B9.exec
  have hb := B9.bytes
  have hr := B9.returns
  have hts := atoms_spec (ws := (.codeWith y_Law_given b_Law_given 5 (some .int) [(0, 10, 13, 13), (0, 10, 17, 15)] :: lw_g)) B9.pre
  have hgt : ∀ w ∈ lw_g, w.before _ s = true := fun w h => hts w (List.mem_cons_of_mem _ h)
  have hown : s.vm.findClass R_Law = some m.cls := findClass_of_methodNamed B9.named
  have hlocks := B9.notSynchronized
  have hS : va_S A s.heap s.heap [] := va_S.rf
  have hl := lv_entry ([.ref xo, .int p0, .int p1, .ref oa]) (n := 5) (Nat.le_of_ble_eq_true rfl)
  rw [lg_entry_eq]
  generalize (lg_sl ([.ref xo, .int p0, .int p1, .ref oa]) ++ List.replicate (5 - (lg_sl ([.ref xo, .int p0, .int p1, .ref oa])).length) Slot.unset).toArray = ls at hl ⊢
  have hl : lv_has ls 5 [(0, .ref xo), (1, .int p0), (2, .int p1), (3, .ref oa)] := hl
  obtain ⟨m9, meth9, c9, hn9, hm9, hc9, -, -, htab, -⟩ := Cond.codeWith_spec (hts _ List.mem_cons_self)
  cases B9.named.symm.trans hn9
  cases B9.method.symm.trans hm9
  cases (Stand.of_body B9).code.symm.trans hc9
  obtain ⟨e1, e2, htb, he1, he2⟩ := x_tab2 htab
  obtain ⟨q11, q12, q13, q14⟩ : e1.startPc = 0 ∧ e1.endPc = 10 ∧ e1.handlerPc = 13 ∧ e1.catchType = 13 := by simpa using he1
  refine lv_aload_n hx hb d_Law_given_0 rfl (lv_at hl 3 rfl) ?_
  refine lv_iconst (v := 0) hx hb d_Law_given_1 (by decide) ?_
  refine lv_aload_n hx hb d_Law_given_2 rfl (lv_at hl 0 rfl) ?_
  refine lv_iload_n hx hb d_Law_given_3 rfl (lv_at hl 1 rfl) ?_
  refine lv_iload_n hx hb d_Law_given_4 rfl (lv_at hl 2 rfl) ?_
  refine x_catchV (As := [.int p0, .int p1]) (rest := [.int 0, .ref oa]) ⟨hx, hb, hml, hown, hgt⟩ hM ⟨callB_of 2 (Ts := lw_g) hgt (fun w h => ⟨(List.mem_cons.mp h).elim (fun q => by rw [q]; exact kc_C_given) id, good_of_word (lw_good ((List.mem_cons.mp h).elim (fun q => by rw [q]; exact kc_C_given) id))⟩) rfl rfl rfl (hgt _ k_C_ini) (hgt _ k_Law_m21) (by decide +kernel) ⟨Nat.le_refl _, Nat.le_refl _⟩, hgt _ ki_C_given, hgt _ ke_C_given⟩ (hCF.V hxB hcf) rfl hl.1 rfl (lv_room (Nat.le_of_ble_eq_true rfl)) d_Law_given_5 ⟨by rw [Nat.zero_add]; exact Nat.le_refl _, by rw [Nat.zero_add]; exact Nat.le_refl _⟩ hS (fun q h => hBA q h) (fun st0 t _ h => ⟨(hXC st0 t h).1, fun q h1 h2 => (hXC st0 t h).2 q h1 (fun z => h2 (hBA q z))⟩) [] e1 [e2] htb (name := "java/lang/IllegalStateException") (fun z hz => nomatch hz) (by simp [covers, q11, q12]) (by rw [q14]; decide) (by rw [q14]; exact hgt _ k_Law_x13) (xB.castable hca hxB) (fun qx st0 t H1 locs1 h0 ht hvm hw hz hS => ?_)
  have hP : va_P D cl [(oa, .inl (cJ, 1, .inr (.inl g)))] H1 := hP.kept (fun k q hk9 => by
    have hk0 : k < 1 := (List.getElem?_eq_some_iff.mp hk9).1
    have hlt := (hP k q hk9).lt
    rw [show k = 0 by omega] at hk9
    cases hk9
    rw [← ht, (hXC st0 t hw).2 oa (by rw [h0]; exact hlt) hoB, h0])
  rw [q13]
  refine lv_astore (lv' := [(4, .ref qx), (0, .ref xo), (1, .int p0), (2, .int p1), (3, .ref oa)]) hx hb d_Law_given_13 hl (by decide) rfl (fun ls hl => ?_)
  refine lv_iconst (v := 1) hx hb d_Law_given_15 (by decide) ?_
  refine W.cs (cells' := mc) (slots' := ms) (Nat.zero_add _) (Nat.zero_add _) ?_
  exact W.iret (v := 1) hx hb hr (fun t ht hW => ⟨⟨1, _, rfl, ⟨rfl, rfl⟩, by rw [ht]; exact hP, hD, va_K.moved hW.alike hK⟩, hS.F ht⟩) hS.2.2 d_Law_given_16
set_option maxHeartbeats 4000000 in
set_option maxRecDepth 100000 in
theorem h_given_T2 (l : Launch) (s0 : State) (a0 : Array Value) (D : va_G) (cl : List vw_C) (tys : List (ClassId × FieldType)) (tJ : Nat) (cJ : ClassId) (A B : Nat → Prop) (xo oa : Nat) (g : Nat → Int64) (CF : State → Prop) (hCF : cOk CF xo) (hBA : ∀ q, B q → A q) (hoB : ¬ B oa) (fr lo mc ms : Nat) (p0 : Int32) (p1 : Int32) (XC : State → State → Prop) (hXC : ∀ st0 t : State, XC st0 t → va_F B st0 t) (hca : (Cond.castable "java/lang/IllegalArgumentException" "java/lang/IllegalArgumentException").before a0 s0 = true) (hno0 : (Cond.not (.castable "java/lang/IllegalArgumentException" "java/lang/IllegalStateException")).before a0 s0 = true) (hM : Thr l y_C_given (.code y_C_given b_C_given 3 (some .int) :: lw_g) ({ frames := fr, cells := mc, slots := ms, locals := lo }) (va_Pc (.ref xo :: [.int p0, .int p1]) (cPre s0 CF)) "java/lang/IllegalArgumentException" XC mc ms B) :
    Met l y_Law_given (.codeWith y_Law_given b_Law_given 5 (some .int) [(0, 10, 13, 13), (0, 10, 17, 15)] :: lw_g) ({ frames := fr + 1, cells := mc, slots := ms, locals := 8 + (3 + 11) + lo }) (va_Pc [.ref xo, .int p0, .int p1, .ref oa] (hPre s0 CF D cl tys tJ cJ A oa g)) (va_Qi (fun r g2 => r = 2 ∧ g2 = g) (hB D cl tys A cJ oa) A) mc ms A := by
  refine va_MetW (cc := b_Law_given) (maxL := 5) (ret := some .int) (by decide) rfl ?_
  intro p e s m args below meth c s₁ B9 hml hv
  obtain ⟨rfl, hxB, hcf, hP, hD, hK, htJ⟩ := hv
  have hx := B9.exec
  have hb := B9.bytes
  have hr := B9.returns
  have hts := atoms_spec (ws := (.codeWith y_Law_given b_Law_given 5 (some .int) [(0, 10, 13, 13), (0, 10, 17, 15)] :: lw_g)) B9.pre
  have hgt : ∀ w ∈ lw_g, w.before _ s = true := fun w h => hts w (List.mem_cons_of_mem _ h)
  have hown : s.vm.findClass R_Law = some m.cls := findClass_of_methodNamed B9.named
  have hlocks := B9.notSynchronized
  have hS : va_S A s.heap s.heap [] := va_S.rf
  have hl := lv_entry ([.ref xo, .int p0, .int p1, .ref oa]) (n := 5) (Nat.le_of_ble_eq_true rfl)
  rw [lg_entry_eq]
  generalize (lg_sl ([.ref xo, .int p0, .int p1, .ref oa]) ++ List.replicate (5 - (lg_sl ([.ref xo, .int p0, .int p1, .ref oa])).length) Slot.unset).toArray = ls at hl ⊢
  have hl : lv_has ls 5 [(0, .ref xo), (1, .int p0), (2, .int p1), (3, .ref oa)] := hl
  obtain ⟨m9, meth9, c9, hn9, hm9, hc9, -, -, htab, -⟩ := Cond.codeWith_spec (hts _ List.mem_cons_self)
  cases B9.named.symm.trans hn9
  cases B9.method.symm.trans hm9
  cases (Stand.of_body B9).code.symm.trans hc9
  obtain ⟨e1, e2, htb, he1, he2⟩ := x_tab2 htab
  obtain ⟨q11, q12, q13, q14⟩ : e1.startPc = 0 ∧ e1.endPc = 10 ∧ e1.handlerPc = 13 ∧ e1.catchType = 13 := by simpa using he1
  obtain ⟨q21, q22, q23, q24⟩ : e2.startPc = 0 ∧ e2.endPc = 10 ∧ e2.handlerPc = 17 ∧ e2.catchType = 15 := by simpa using he2
  refine lv_aload_n hx hb d_Law_given_0 rfl (lv_at hl 3 rfl) ?_
  refine lv_iconst (v := 0) hx hb d_Law_given_1 (by decide) ?_
  refine lv_aload_n hx hb d_Law_given_2 rfl (lv_at hl 0 rfl) ?_
  refine lv_iload_n hx hb d_Law_given_3 rfl (lv_at hl 1 rfl) ?_
  refine lv_iload_n hx hb d_Law_given_4 rfl (lv_at hl 2 rfl) ?_
  refine x_catchV (As := [.int p0, .int p1]) (rest := [.int 0, .ref oa]) ⟨hx, hb, hml, hown, hgt⟩ hM ⟨callB_of 2 (Ts := lw_g) hgt (fun w h => ⟨(List.mem_cons.mp h).elim (fun q => by rw [q]; exact kc_C_given) id, good_of_word (lw_good ((List.mem_cons.mp h).elim (fun q => by rw [q]; exact kc_C_given) id))⟩) rfl rfl rfl (hgt _ k_C_ini) (hgt _ k_Law_m21) (by decide +kernel) ⟨Nat.le_refl _, Nat.le_refl _⟩, hgt _ ki_C_given, hgt _ ke_C_given⟩ (hCF.V hxB hcf) rfl hl.1 rfl (lv_room (Nat.le_of_ble_eq_true rfl)) d_Law_given_5 ⟨by rw [Nat.zero_add]; exact Nat.le_refl _, by rw [Nat.zero_add]; exact Nat.le_refl _⟩ hS (fun q h => hBA q h) (fun st0 t _ h => ⟨(hXC st0 t h).1, fun q h1 h2 => (hXC st0 t h).2 q h1 (fun z => h2 (hBA q z))⟩) [e1] e2 [] htb (name := "java/lang/IllegalArgumentException") (fun z hz => Or.inr (by rw [List.mem_singleton.mp hz]; exact ⟨by rw [q14]; decide, "java/lang/IllegalStateException", by rw [q14]; exact hgt _ k_Law_x13, va_Nc.moved hxB.1.alike (va_Nc.of hno0)⟩)) (by simp [covers, q21, q22]) (by rw [q24]; decide) (by rw [q24]; exact hgt _ k_Law_x15) (xB.castable hca hxB) (fun qx st0 t H1 locs1 h0 ht hvm hw hz hS => ?_)
  have hP : va_P D cl [(oa, .inl (cJ, 1, .inr (.inl g)))] H1 := hP.kept (fun k q hk9 => by
    have hk0 : k < 1 := (List.getElem?_eq_some_iff.mp hk9).1
    have hlt := (hP k q hk9).lt
    rw [show k = 0 by omega] at hk9
    cases hk9
    rw [← ht, (hXC st0 t hw).2 oa (by rw [h0]; exact hlt) hoB, h0])
  rw [q23]
  refine lv_astore (lv' := [(4, .ref qx), (0, .ref xo), (1, .int p0), (2, .int p1), (3, .ref oa)]) hx hb d_Law_given_17 hl (by decide) rfl (fun ls hl => ?_)
  refine lv_iconst (v := 2) hx hb d_Law_given_19 (by decide) ?_
  refine W.cs (cells' := mc) (slots' := ms) (Nat.zero_add _) (Nat.zero_add _) ?_
  exact W.iret (v := 2) hx hb hr (fun t ht hW => ⟨⟨2, _, rfl, ⟨rfl, rfl⟩, by rw [ht]; exact hP, hD, va_K.moved hW.alike hK⟩, hS.F ht⟩) hS.2.2 d_Law_given_20
set_option maxHeartbeats 4000000 in
set_option maxRecDepth 100000 in
theorem h_start_R (l : Launch) (s0 : State) (a0 : Array Value) (D : va_G) (cl : List vw_C) (tys : List (ClassId × FieldType)) (tJ : Nat) (cJ : ClassId) (A B : Nat → Prop) (xo oa : Nat) (g : Nat → Int64) (CF : State → Prop) (hCF : cOk CF xo) (hBA : ∀ q, B q → A q) (hoB : ¬ B oa) (fr lo mc ms : Nat) (rv : Int32) (hM : Met l y_C_start (.code y_C_start b_C_start 1 (some .int) :: lw_g) ({ frames := fr, cells := mc, slots := ms, locals := lo }) (va_Pc (.ref xo :: []) (cPre s0 CF)) (va_Qi (fun r (_ : Unit) => r = rv) (fun _ _ => True) B) mc ms B) :
    Met l y_Law_start (.codeWith y_Law_start b_Law_start 3 (some .int) [(0, 8, 11, 13)] :: lw_g) ({ frames := fr + 1, cells := mc, slots := ms, locals := 8 + (1 + 11) + lo }) (va_Pc [.ref xo, .ref oa] (hPre s0 CF D cl tys tJ cJ A oa g)) (va_Qi (fun r g2 => r = 0 ∧ g2 0 = rv.toInt64) (hB D cl tys A cJ oa) A) mc ms A := by
  refine va_MetW (cc := b_Law_start) (maxL := 3) (ret := some .int) (by decide) rfl ?_
  intro p e s m args below meth c s₁ B9 hml hv
  obtain ⟨rfl, hxB, hcf, hP, hD, hK, htJ⟩ := hv
  have hx := B9.exec
  have hb := B9.bytes
  have hr := B9.returns
  have hts := atoms_spec (ws := (.codeWith y_Law_start b_Law_start 3 (some .int) [(0, 8, 11, 13)] :: lw_g)) B9.pre
  have hgt : ∀ w ∈ lw_g, w.before _ s = true := fun w h => hts w (List.mem_cons_of_mem _ h)
  have hown : s.vm.findClass R_Law = some m.cls := findClass_of_methodNamed B9.named
  have hlocks := B9.notSynchronized
  have hS : va_S A s.heap s.heap [] := va_S.rf
  have hl := lv_entry ([.ref xo, .ref oa]) (n := 3) (Nat.le_of_ble_eq_true rfl)
  rw [lg_entry_eq]
  generalize (lg_sl ([.ref xo, .ref oa]) ++ List.replicate (3 - (lg_sl ([.ref xo, .ref oa])).length) Slot.unset).toArray = ls at hl ⊢
  have hl : lv_has ls 3 [(0, .ref xo), (1, .ref oa)] := hl
  refine lv_aload_n hx hb d_Law_start_0 rfl (lv_at hl 1 rfl) ?_
  refine lv_iconst (v := 0) hx hb d_Law_start_1 (by decide) ?_
  refine lv_aload_n hx hb d_Law_start_2 rfl (lv_at hl 0 rfl) ?_
  refine va_calli (va_runV (As := []) (rest := [.int 0, .ref oa]) ⟨hx, hb, hml, hown, hgt⟩ hM ⟨callB_of 0 (Ts := lw_g) hgt (fun w h => ⟨(List.mem_cons.mp h).elim (fun q => by rw [q]; exact kc_C_start) id, good_of_word (lw_good ((List.mem_cons.mp h).elim (fun q => by rw [q]; exact kc_C_start) id))⟩) rfl rfl rfl (hgt _ k_C_ini) (hgt _ k_Law_m25) (by decide +kernel) ⟨Nat.le_refl _, Nat.le_refl _⟩, hgt _ ki_C_start, hgt _ ke_C_start⟩ (hCF.V hxB hcf) rfl rfl hl.1 rfl (lv_room (Nat.le_of_ble_eq_true rfl)) d_Law_start_3 ⟨by rw [Nat.zero_add]; exact Nat.le_refl _, by rw [Nat.zero_add]; exact Nat.le_refl _⟩) hS (fun q _ h => hBA q h) (fun q h => hBA q h) (fun r u t H1 locs1 ht hvm hw hB1 hz hk hS => ?_)
  obtain rfl := hw
  have hP : va_P D cl [(oa, .inl (cJ, 1, .inr (.inl g)))] H1 := hP.kept (fun k q hk9 => by
    have hk0 : k < 1 := (List.getElem?_eq_some_iff.mp hk9).1
    have hlt := (hP k q hk9).lt
    rw [show k = 0 by omega] at hk9
    cases hk9
    exact hk oa hlt hoB)
  refine lv_i2l (v := r.toInt64) hx hb d_Law_start_6 rfl ?_
  refine va_last hx hb hK hP hD hS 0 tJ rfl htJ (vp_in_nI (n := 0) (N := 1) (by decide) (by decide)) d_Law_start_7 (fun H locs hP hD hS => ?_)
  refine lv_goto (tgt := 14) hx hb d_Law_start_8 (by decide) ?_
  refine lv_iconst (v := 0) hx hb d_Law_start_14 (by decide) ?_
  refine W.cs (cells' := mc) (slots' := ms) (Nat.zero_add _) (Nat.zero_add _) ?_
  exact W.iret (v := 0) hx hb hr (fun t ht hW => ⟨⟨0, _, rfl, ⟨rfl, rfl⟩, by rw [ht]; exact hP, hD, va_K.moved hW.alike hK⟩, hS.F ht⟩) hS.2.2 d_Law_start_15
set_option maxHeartbeats 4000000 in
set_option maxRecDepth 100000 in
theorem h_start_T1 (l : Launch) (s0 : State) (a0 : Array Value) (D : va_G) (cl : List vw_C) (tys : List (ClassId × FieldType)) (tJ : Nat) (cJ : ClassId) (A B : Nat → Prop) (xo oa : Nat) (g : Nat → Int64) (CF : State → Prop) (hCF : cOk CF xo) (hBA : ∀ q, B q → A q) (hoB : ¬ B oa) (fr lo mc ms : Nat) (XC : State → State → Prop) (hXC : ∀ st0 t : State, XC st0 t → va_F B st0 t) (hca : (Cond.castable "java/lang/IllegalStateException" "java/lang/IllegalStateException").before a0 s0 = true) (hM : Thr l y_C_start (.code y_C_start b_C_start 1 (some .int) :: lw_g) ({ frames := fr, cells := mc, slots := ms, locals := lo }) (va_Pc (.ref xo :: []) (cPre s0 CF)) "java/lang/IllegalStateException" XC mc ms B) :
    Met l y_Law_start (.codeWith y_Law_start b_Law_start 3 (some .int) [(0, 8, 11, 13)] :: lw_g) ({ frames := fr + 1, cells := mc, slots := ms, locals := 8 + (1 + 11) + lo }) (va_Pc [.ref xo, .ref oa] (hPre s0 CF D cl tys tJ cJ A oa g)) (va_Qi (fun r g2 => r = 1 ∧ g2 = g) (hB D cl tys A cJ oa) A) mc ms A := by
  refine va_MetW (cc := b_Law_start) (maxL := 3) (ret := some .int) (by decide) rfl ?_
  intro p e s m args below meth c s₁ B9 hml hv
  obtain ⟨rfl, hxB, hcf, hP, hD, hK, htJ⟩ := hv
  have hx := B9.exec
  have hb := B9.bytes
  have hr := B9.returns
  have hts := atoms_spec (ws := (.codeWith y_Law_start b_Law_start 3 (some .int) [(0, 8, 11, 13)] :: lw_g)) B9.pre
  have hgt : ∀ w ∈ lw_g, w.before _ s = true := fun w h => hts w (List.mem_cons_of_mem _ h)
  have hown : s.vm.findClass R_Law = some m.cls := findClass_of_methodNamed B9.named
  have hlocks := B9.notSynchronized
  have hS : va_S A s.heap s.heap [] := va_S.rf
  have hl := lv_entry ([.ref xo, .ref oa]) (n := 3) (Nat.le_of_ble_eq_true rfl)
  rw [lg_entry_eq]
  generalize (lg_sl ([.ref xo, .ref oa]) ++ List.replicate (3 - (lg_sl ([.ref xo, .ref oa])).length) Slot.unset).toArray = ls at hl ⊢
  have hl : lv_has ls 3 [(0, .ref xo), (1, .ref oa)] := hl
  obtain ⟨m9, meth9, c9, hn9, hm9, hc9, -, -, htab, -⟩ := Cond.codeWith_spec (hts _ List.mem_cons_self)
  cases B9.named.symm.trans hn9
  cases B9.method.symm.trans hm9
  cases (Stand.of_body B9).code.symm.trans hc9
  obtain ⟨e1, htb, he1⟩ := x_tab1 htab
  obtain ⟨q11, q12, q13, q14⟩ : e1.startPc = 0 ∧ e1.endPc = 8 ∧ e1.handlerPc = 11 ∧ e1.catchType = 13 := by simpa using he1
  refine lv_aload_n hx hb d_Law_start_0 rfl (lv_at hl 1 rfl) ?_
  refine lv_iconst (v := 0) hx hb d_Law_start_1 (by decide) ?_
  refine lv_aload_n hx hb d_Law_start_2 rfl (lv_at hl 0 rfl) ?_
  refine x_catchV (As := []) (rest := [.int 0, .ref oa]) ⟨hx, hb, hml, hown, hgt⟩ hM ⟨callB_of 0 (Ts := lw_g) hgt (fun w h => ⟨(List.mem_cons.mp h).elim (fun q => by rw [q]; exact kc_C_start) id, good_of_word (lw_good ((List.mem_cons.mp h).elim (fun q => by rw [q]; exact kc_C_start) id))⟩) rfl rfl rfl (hgt _ k_C_ini) (hgt _ k_Law_m25) (by decide +kernel) ⟨Nat.le_refl _, Nat.le_refl _⟩, hgt _ ki_C_start, hgt _ ke_C_start⟩ (hCF.V hxB hcf) rfl hl.1 rfl (lv_room (Nat.le_of_ble_eq_true rfl)) d_Law_start_3 ⟨by rw [Nat.zero_add]; exact Nat.le_refl _, by rw [Nat.zero_add]; exact Nat.le_refl _⟩ hS (fun q h => hBA q h) (fun st0 t _ h => ⟨(hXC st0 t h).1, fun q h1 h2 => (hXC st0 t h).2 q h1 (fun z => h2 (hBA q z))⟩) [] e1 [] htb (name := "java/lang/IllegalStateException") (fun z hz => nomatch hz) (by simp [covers, q11, q12]) (by rw [q14]; decide) (by rw [q14]; exact hgt _ k_Law_x13) (xB.castable hca hxB) (fun qx st0 t H1 locs1 h0 ht hvm hw hz hS => ?_)
  have hP : va_P D cl [(oa, .inl (cJ, 1, .inr (.inl g)))] H1 := hP.kept (fun k q hk9 => by
    have hk0 : k < 1 := (List.getElem?_eq_some_iff.mp hk9).1
    have hlt := (hP k q hk9).lt
    rw [show k = 0 by omega] at hk9
    cases hk9
    rw [← ht, (hXC st0 t hw).2 oa (by rw [h0]; exact hlt) hoB, h0])
  rw [q13]
  refine lv_astore_n (lv' := [(2, .ref qx), (0, .ref xo), (1, .ref oa)]) hx hb d_Law_start_11 rfl hl (by decide) rfl (fun ls hl => ?_)
  refine lv_iconst (v := 1) hx hb d_Law_start_12 (by decide) ?_
  refine W.cs (cells' := mc) (slots' := ms) (Nat.zero_add _) (Nat.zero_add _) ?_
  exact W.iret (v := 1) hx hb hr (fun t ht hW => ⟨⟨1, _, rfl, ⟨rfl, rfl⟩, by rw [ht]; exact hP, hD, va_K.moved hW.alike hK⟩, hS.F ht⟩) hS.2.2 d_Law_start_13
theorem k_Law_x32 : Cond.classLink R_Law 32 "java/lang/ArithmeticException" ∈ lw_g := lw_in (List.mem_append_right _ (List.mem_of_getElem? (i := 598) (by decide +kernel))) rfl
theorem k_Law_x34 : Cond.classLink R_Law 34 "java/lang/UnsupportedOperationException" ∈ lw_g := lw_in (List.mem_append_right _ (List.mem_of_getElem? (i := 599) (by decide +kernel))) rfl
set_option maxHeartbeats 4000000 in
set_option maxRecDepth 100000 in
theorem h_run_R (l : Launch) (s0 : State) (a0 : Array Value) (D : va_G) (cl : List vw_C) (tys : List (ClassId × FieldType)) (tJ : Nat) (cJ : ClassId) (A B : Nat → Prop) (xo oa : Nat) (g : Nat → Int64) (CF : State → Prop) (hCF : cOk CF xo) (hBA : ∀ q, B q → A q) (hoB : ¬ B oa) (fr lo mc ms : Nat) (p0 : Int32) (rv : Int32) (hM : Met l y_C_run (.code y_C_run b_C_run 3 (some .int) :: lw_g) ({ frames := fr, cells := mc, slots := ms, locals := lo }) (va_Pc (.ref xo :: [.int p0]) (cPre s0 CF)) (va_Qi (fun r (_ : Unit) => r = rv) (fun _ _ => True) B) mc ms B) :
    Met l y_Law_run (.codeWith y_Law_run b_Law_run 4 (some .int) [(0, 9, 12, 13), (0, 9, 15, 15), (0, 9, 18, 32), (0, 9, 21, 34)] :: lw_g) ({ frames := fr + 1, cells := mc, slots := ms, locals := 8 + (3 + 11) + lo }) (va_Pc [.ref xo, .int p0, .ref oa] (hPre s0 CF D cl tys tJ cJ A oa g)) (va_Qi (fun r g2 => r = 0 ∧ g2 0 = rv.toInt64) (hB D cl tys A cJ oa) A) mc ms A := by
  refine va_MetW (cc := b_Law_run) (maxL := 4) (ret := some .int) (by decide) rfl ?_
  intro p e s m args below meth c s₁ B9 hml hv
  obtain ⟨rfl, hxB, hcf, hP, hD, hK, htJ⟩ := hv
  have hx := B9.exec
  have hb := B9.bytes
  have hr := B9.returns
  have hts := atoms_spec (ws := (.codeWith y_Law_run b_Law_run 4 (some .int) [(0, 9, 12, 13), (0, 9, 15, 15), (0, 9, 18, 32), (0, 9, 21, 34)] :: lw_g)) B9.pre
  have hgt : ∀ w ∈ lw_g, w.before _ s = true := fun w h => hts w (List.mem_cons_of_mem _ h)
  have hown : s.vm.findClass R_Law = some m.cls := findClass_of_methodNamed B9.named
  have hlocks := B9.notSynchronized
  have hS : va_S A s.heap s.heap [] := va_S.rf
  have hl := lv_entry ([.ref xo, .int p0, .ref oa]) (n := 4) (Nat.le_of_ble_eq_true rfl)
  rw [lg_entry_eq]
  generalize (lg_sl ([.ref xo, .int p0, .ref oa]) ++ List.replicate (4 - (lg_sl ([.ref xo, .int p0, .ref oa])).length) Slot.unset).toArray = ls at hl ⊢
  have hl : lv_has ls 4 [(0, .ref xo), (1, .int p0), (2, .ref oa)] := hl
  refine lv_aload_n hx hb d_Law_run_0 rfl (lv_at hl 2 rfl) ?_
  refine lv_iconst (v := 0) hx hb d_Law_run_1 (by decide) ?_
  refine lv_aload_n hx hb d_Law_run_2 rfl (lv_at hl 0 rfl) ?_
  refine lv_iload_n hx hb d_Law_run_3 rfl (lv_at hl 1 rfl) ?_
  refine va_calli (va_runV (As := [.int p0]) (rest := [.int 0, .ref oa]) ⟨hx, hb, hml, hown, hgt⟩ hM ⟨callB_of 1 (Ts := lw_g) hgt (fun w h => ⟨(List.mem_cons.mp h).elim (fun q => by rw [q]; exact kc_C_run) id, good_of_word (lw_good ((List.mem_cons.mp h).elim (fun q => by rw [q]; exact kc_C_run) id))⟩) rfl rfl rfl (hgt _ k_C_ini) (hgt _ k_Law_m28) (by decide +kernel) ⟨Nat.le_refl _, Nat.le_refl _⟩, hgt _ ki_C_run, hgt _ ke_C_run⟩ (hCF.V hxB hcf) rfl rfl hl.1 rfl (lv_room (Nat.le_of_ble_eq_true rfl)) d_Law_run_4 ⟨by rw [Nat.zero_add]; exact Nat.le_refl _, by rw [Nat.zero_add]; exact Nat.le_refl _⟩) hS (fun q _ h => hBA q h) (fun q h => hBA q h) (fun r u t H1 locs1 ht hvm hw hB1 hz hk hS => ?_)
  obtain rfl := hw
  have hP : va_P D cl [(oa, .inl (cJ, 1, .inr (.inl g)))] H1 := hP.kept (fun k q hk9 => by
    have hk0 : k < 1 := (List.getElem?_eq_some_iff.mp hk9).1
    have hlt := (hP k q hk9).lt
    rw [show k = 0 by omega] at hk9
    cases hk9
    exact hk oa hlt hoB)
  refine lv_i2l (v := r.toInt64) hx hb d_Law_run_7 rfl ?_
  refine va_last hx hb hK hP hD hS 0 tJ rfl htJ (vp_in_nI (n := 0) (N := 1) (by decide) (by decide)) d_Law_run_8 (fun H locs hP hD hS => ?_)
  refine lv_goto (tgt := 24) hx hb d_Law_run_9 (by decide) ?_
  refine lv_iconst (v := 0) hx hb d_Law_run_24 (by decide) ?_
  refine W.cs (cells' := mc) (slots' := ms) (Nat.zero_add _) (Nat.zero_add _) ?_
  exact W.iret (v := 0) hx hb hr (fun t ht hW => ⟨⟨0, _, rfl, ⟨rfl, rfl⟩, by rw [ht]; exact hP, hD, va_K.moved hW.alike hK⟩, hS.F ht⟩) hS.2.2 d_Law_run_25
set_option maxHeartbeats 4000000 in
set_option maxRecDepth 100000 in
theorem h_run_T1 (l : Launch) (s0 : State) (a0 : Array Value) (D : va_G) (cl : List vw_C) (tys : List (ClassId × FieldType)) (tJ : Nat) (cJ : ClassId) (A B : Nat → Prop) (xo oa : Nat) (g : Nat → Int64) (CF : State → Prop) (hCF : cOk CF xo) (hBA : ∀ q, B q → A q) (hoB : ¬ B oa) (fr lo mc ms : Nat) (p0 : Int32) (XC : State → State → Prop) (hXC : ∀ st0 t : State, XC st0 t → va_F B st0 t) (hca : (Cond.castable "java/lang/IllegalStateException" "java/lang/IllegalStateException").before a0 s0 = true) (hM : Thr l y_C_run (.code y_C_run b_C_run 3 (some .int) :: lw_g) ({ frames := fr, cells := mc, slots := ms, locals := lo }) (va_Pc (.ref xo :: [.int p0]) (cPre s0 CF)) "java/lang/IllegalStateException" XC mc ms B) :
    Met l y_Law_run (.codeWith y_Law_run b_Law_run 4 (some .int) [(0, 9, 12, 13), (0, 9, 15, 15), (0, 9, 18, 32), (0, 9, 21, 34)] :: lw_g) ({ frames := fr + 1, cells := mc, slots := ms, locals := 8 + (3 + 11) + lo }) (va_Pc [.ref xo, .int p0, .ref oa] (hPre s0 CF D cl tys tJ cJ A oa g)) (va_Qi (fun r g2 => r = 1 ∧ g2 = g) (hB D cl tys A cJ oa) A) mc ms A := by
  refine va_MetW (cc := b_Law_run) (maxL := 4) (ret := some .int) (by decide) rfl ?_
  intro p e s m args below meth c s₁ B9 hml hv
  obtain ⟨rfl, hxB, hcf, hP, hD, hK, htJ⟩ := hv
  have hx := B9.exec
  have hb := B9.bytes
  have hr := B9.returns
  have hts := atoms_spec (ws := (.codeWith y_Law_run b_Law_run 4 (some .int) [(0, 9, 12, 13), (0, 9, 15, 15), (0, 9, 18, 32), (0, 9, 21, 34)] :: lw_g)) B9.pre
  have hgt : ∀ w ∈ lw_g, w.before _ s = true := fun w h => hts w (List.mem_cons_of_mem _ h)
  have hown : s.vm.findClass R_Law = some m.cls := findClass_of_methodNamed B9.named
  have hlocks := B9.notSynchronized
  have hS : va_S A s.heap s.heap [] := va_S.rf
  have hl := lv_entry ([.ref xo, .int p0, .ref oa]) (n := 4) (Nat.le_of_ble_eq_true rfl)
  rw [lg_entry_eq]
  generalize (lg_sl ([.ref xo, .int p0, .ref oa]) ++ List.replicate (4 - (lg_sl ([.ref xo, .int p0, .ref oa])).length) Slot.unset).toArray = ls at hl ⊢
  have hl : lv_has ls 4 [(0, .ref xo), (1, .int p0), (2, .ref oa)] := hl
  obtain ⟨m9, meth9, c9, hn9, hm9, hc9, -, -, htab, -⟩ := Cond.codeWith_spec (hts _ List.mem_cons_self)
  cases B9.named.symm.trans hn9
  cases B9.method.symm.trans hm9
  cases (Stand.of_body B9).code.symm.trans hc9
  obtain ⟨e1, e2, e3, e4, htb, he1, he2⟩ := x_tab4 htab
  obtain ⟨q11, q12, q13, q14⟩ : e1.startPc = 0 ∧ e1.endPc = 9 ∧ e1.handlerPc = 12 ∧ e1.catchType = 13 := by simpa using he1
  refine lv_aload_n hx hb d_Law_run_0 rfl (lv_at hl 2 rfl) ?_
  refine lv_iconst (v := 0) hx hb d_Law_run_1 (by decide) ?_
  refine lv_aload_n hx hb d_Law_run_2 rfl (lv_at hl 0 rfl) ?_
  refine lv_iload_n hx hb d_Law_run_3 rfl (lv_at hl 1 rfl) ?_
  refine x_catchV (As := [.int p0]) (rest := [.int 0, .ref oa]) ⟨hx, hb, hml, hown, hgt⟩ hM ⟨callB_of 1 (Ts := lw_g) hgt (fun w h => ⟨(List.mem_cons.mp h).elim (fun q => by rw [q]; exact kc_C_run) id, good_of_word (lw_good ((List.mem_cons.mp h).elim (fun q => by rw [q]; exact kc_C_run) id))⟩) rfl rfl rfl (hgt _ k_C_ini) (hgt _ k_Law_m28) (by decide +kernel) ⟨Nat.le_refl _, Nat.le_refl _⟩, hgt _ ki_C_run, hgt _ ke_C_run⟩ (hCF.V hxB hcf) rfl hl.1 rfl (lv_room (Nat.le_of_ble_eq_true rfl)) d_Law_run_4 ⟨by rw [Nat.zero_add]; exact Nat.le_refl _, by rw [Nat.zero_add]; exact Nat.le_refl _⟩ hS (fun q h => hBA q h) (fun st0 t _ h => ⟨(hXC st0 t h).1, fun q h1 h2 => (hXC st0 t h).2 q h1 (fun z => h2 (hBA q z))⟩) [] e1 [e2, e3, e4] htb (name := "java/lang/IllegalStateException") (fun z hz => nomatch hz) (by simp [covers, q11, q12]) (by rw [q14]; decide) (by rw [q14]; exact hgt _ k_Law_x13) (xB.castable hca hxB) (fun qx st0 t H1 locs1 h0 ht hvm hw hz hS => ?_)
  have hP : va_P D cl [(oa, .inl (cJ, 1, .inr (.inl g)))] H1 := hP.kept (fun k q hk9 => by
    have hk0 : k < 1 := (List.getElem?_eq_some_iff.mp hk9).1
    have hlt := (hP k q hk9).lt
    rw [show k = 0 by omega] at hk9
    cases hk9
    rw [← ht, (hXC st0 t hw).2 oa (by rw [h0]; exact hlt) hoB, h0])
  rw [q13]
  refine lv_astore_n (lv' := [(3, .ref qx), (0, .ref xo), (1, .int p0), (2, .ref oa)]) hx hb d_Law_run_12 rfl hl (by decide) rfl (fun ls hl => ?_)
  refine lv_iconst (v := 1) hx hb d_Law_run_13 (by decide) ?_
  refine W.cs (cells' := mc) (slots' := ms) (Nat.zero_add _) (Nat.zero_add _) ?_
  exact W.iret (v := 1) hx hb hr (fun t ht hW => ⟨⟨1, _, rfl, ⟨rfl, rfl⟩, by rw [ht]; exact hP, hD, va_K.moved hW.alike hK⟩, hS.F ht⟩) hS.2.2 d_Law_run_14
set_option maxHeartbeats 4000000 in
set_option maxRecDepth 100000 in
theorem h_run_T2 (l : Launch) (s0 : State) (a0 : Array Value) (D : va_G) (cl : List vw_C) (tys : List (ClassId × FieldType)) (tJ : Nat) (cJ : ClassId) (A B : Nat → Prop) (xo oa : Nat) (g : Nat → Int64) (CF : State → Prop) (hCF : cOk CF xo) (hBA : ∀ q, B q → A q) (hoB : ¬ B oa) (fr lo mc ms : Nat) (p0 : Int32) (XC : State → State → Prop) (hXC : ∀ st0 t : State, XC st0 t → va_F B st0 t) (hca : (Cond.castable "java/lang/IllegalArgumentException" "java/lang/IllegalArgumentException").before a0 s0 = true) (hno0 : (Cond.not (.castable "java/lang/IllegalArgumentException" "java/lang/IllegalStateException")).before a0 s0 = true) (hM : Thr l y_C_run (.code y_C_run b_C_run 3 (some .int) :: lw_g) ({ frames := fr, cells := mc, slots := ms, locals := lo }) (va_Pc (.ref xo :: [.int p0]) (cPre s0 CF)) "java/lang/IllegalArgumentException" XC mc ms B) :
    Met l y_Law_run (.codeWith y_Law_run b_Law_run 4 (some .int) [(0, 9, 12, 13), (0, 9, 15, 15), (0, 9, 18, 32), (0, 9, 21, 34)] :: lw_g) ({ frames := fr + 1, cells := mc, slots := ms, locals := 8 + (3 + 11) + lo }) (va_Pc [.ref xo, .int p0, .ref oa] (hPre s0 CF D cl tys tJ cJ A oa g)) (va_Qi (fun r g2 => r = 2 ∧ g2 = g) (hB D cl tys A cJ oa) A) mc ms A := by
  refine va_MetW (cc := b_Law_run) (maxL := 4) (ret := some .int) (by decide) rfl ?_
  intro p e s m args below meth c s₁ B9 hml hv
  obtain ⟨rfl, hxB, hcf, hP, hD, hK, htJ⟩ := hv
  have hx := B9.exec
  have hb := B9.bytes
  have hr := B9.returns
  have hts := atoms_spec (ws := (.codeWith y_Law_run b_Law_run 4 (some .int) [(0, 9, 12, 13), (0, 9, 15, 15), (0, 9, 18, 32), (0, 9, 21, 34)] :: lw_g)) B9.pre
  have hgt : ∀ w ∈ lw_g, w.before _ s = true := fun w h => hts w (List.mem_cons_of_mem _ h)
  have hown : s.vm.findClass R_Law = some m.cls := findClass_of_methodNamed B9.named
  have hlocks := B9.notSynchronized
  have hS : va_S A s.heap s.heap [] := va_S.rf
  have hl := lv_entry ([.ref xo, .int p0, .ref oa]) (n := 4) (Nat.le_of_ble_eq_true rfl)
  rw [lg_entry_eq]
  generalize (lg_sl ([.ref xo, .int p0, .ref oa]) ++ List.replicate (4 - (lg_sl ([.ref xo, .int p0, .ref oa])).length) Slot.unset).toArray = ls at hl ⊢
  have hl : lv_has ls 4 [(0, .ref xo), (1, .int p0), (2, .ref oa)] := hl
  obtain ⟨m9, meth9, c9, hn9, hm9, hc9, -, -, htab, -⟩ := Cond.codeWith_spec (hts _ List.mem_cons_self)
  cases B9.named.symm.trans hn9
  cases B9.method.symm.trans hm9
  cases (Stand.of_body B9).code.symm.trans hc9
  obtain ⟨e1, e2, e3, e4, htb, he1, he2⟩ := x_tab4 htab
  obtain ⟨q11, q12, q13, q14⟩ : e1.startPc = 0 ∧ e1.endPc = 9 ∧ e1.handlerPc = 12 ∧ e1.catchType = 13 := by simpa using he1
  obtain ⟨q21, q22, q23, q24⟩ : e2.startPc = 0 ∧ e2.endPc = 9 ∧ e2.handlerPc = 15 ∧ e2.catchType = 15 := by simpa using he2
  refine lv_aload_n hx hb d_Law_run_0 rfl (lv_at hl 2 rfl) ?_
  refine lv_iconst (v := 0) hx hb d_Law_run_1 (by decide) ?_
  refine lv_aload_n hx hb d_Law_run_2 rfl (lv_at hl 0 rfl) ?_
  refine lv_iload_n hx hb d_Law_run_3 rfl (lv_at hl 1 rfl) ?_
  refine x_catchV (As := [.int p0]) (rest := [.int 0, .ref oa]) ⟨hx, hb, hml, hown, hgt⟩ hM ⟨callB_of 1 (Ts := lw_g) hgt (fun w h => ⟨(List.mem_cons.mp h).elim (fun q => by rw [q]; exact kc_C_run) id, good_of_word (lw_good ((List.mem_cons.mp h).elim (fun q => by rw [q]; exact kc_C_run) id))⟩) rfl rfl rfl (hgt _ k_C_ini) (hgt _ k_Law_m28) (by decide +kernel) ⟨Nat.le_refl _, Nat.le_refl _⟩, hgt _ ki_C_run, hgt _ ke_C_run⟩ (hCF.V hxB hcf) rfl hl.1 rfl (lv_room (Nat.le_of_ble_eq_true rfl)) d_Law_run_4 ⟨by rw [Nat.zero_add]; exact Nat.le_refl _, by rw [Nat.zero_add]; exact Nat.le_refl _⟩ hS (fun q h => hBA q h) (fun st0 t _ h => ⟨(hXC st0 t h).1, fun q h1 h2 => (hXC st0 t h).2 q h1 (fun z => h2 (hBA q z))⟩) [e1] e2 [e3, e4] htb (name := "java/lang/IllegalArgumentException") (fun z hz => Or.inr (by rw [List.mem_singleton.mp hz]; exact ⟨by rw [q14]; decide, "java/lang/IllegalStateException", by rw [q14]; exact hgt _ k_Law_x13, va_Nc.moved hxB.1.alike (va_Nc.of hno0)⟩)) (by simp [covers, q21, q22]) (by rw [q24]; decide) (by rw [q24]; exact hgt _ k_Law_x15) (xB.castable hca hxB) (fun qx st0 t H1 locs1 h0 ht hvm hw hz hS => ?_)
  have hP : va_P D cl [(oa, .inl (cJ, 1, .inr (.inl g)))] H1 := hP.kept (fun k q hk9 => by
    have hk0 : k < 1 := (List.getElem?_eq_some_iff.mp hk9).1
    have hlt := (hP k q hk9).lt
    rw [show k = 0 by omega] at hk9
    cases hk9
    rw [← ht, (hXC st0 t hw).2 oa (by rw [h0]; exact hlt) hoB, h0])
  rw [q23]
  refine lv_astore_n (lv' := [(3, .ref qx), (0, .ref xo), (1, .int p0), (2, .ref oa)]) hx hb d_Law_run_15 rfl hl (by decide) rfl (fun ls hl => ?_)
  refine lv_iconst (v := 2) hx hb d_Law_run_16 (by decide) ?_
  refine W.cs (cells' := mc) (slots' := ms) (Nat.zero_add _) (Nat.zero_add _) ?_
  exact W.iret (v := 2) hx hb hr (fun t ht hW => ⟨⟨2, _, rfl, ⟨rfl, rfl⟩, by rw [ht]; exact hP, hD, va_K.moved hW.alike hK⟩, hS.F ht⟩) hS.2.2 d_Law_run_17
set_option maxHeartbeats 4000000 in
set_option maxRecDepth 100000 in
theorem h_stop_R (l : Launch) (s0 : State) (a0 : Array Value) (D : va_G) (cl : List vw_C) (tys : List (ClassId × FieldType)) (tJ : Nat) (cJ : ClassId) (A B : Nat → Prop) (xo oa : Nat) (g : Nat → Int64) (CF : State → Prop) (hCF : cOk CF xo) (hBA : ∀ q, B q → A q) (hoB : ¬ B oa) (fr lo mc ms : Nat) (rv : Int32) (hM : Met l y_C_stop (.code y_C_stop b_C_stop 1 (some .int) :: lw_g) ({ frames := fr, cells := mc, slots := ms, locals := lo }) (va_Pc (.ref xo :: []) (cPre s0 CF)) (va_Qi (fun r (_ : Unit) => r = rv) (fun _ _ => True) B) mc ms B) :
    Met l y_Law_stop (.codeWith y_Law_stop b_Law_stop 3 (some .int) [(0, 8, 11, 13)] :: lw_g) ({ frames := fr + 1, cells := mc, slots := ms, locals := 8 + (1 + 11) + lo }) (va_Pc [.ref xo, .ref oa] (hPre s0 CF D cl tys tJ cJ A oa g)) (va_Qi (fun r g2 => r = 0 ∧ g2 0 = rv.toInt64) (hB D cl tys A cJ oa) A) mc ms A := by
  refine va_MetW (cc := b_Law_stop) (maxL := 3) (ret := some .int) (by decide) rfl ?_
  intro p e s m args below meth c s₁ B9 hml hv
  obtain ⟨rfl, hxB, hcf, hP, hD, hK, htJ⟩ := hv
  have hx := B9.exec
  have hb := B9.bytes
  have hr := B9.returns
  have hts := atoms_spec (ws := (.codeWith y_Law_stop b_Law_stop 3 (some .int) [(0, 8, 11, 13)] :: lw_g)) B9.pre
  have hgt : ∀ w ∈ lw_g, w.before _ s = true := fun w h => hts w (List.mem_cons_of_mem _ h)
  have hown : s.vm.findClass R_Law = some m.cls := findClass_of_methodNamed B9.named
  have hlocks := B9.notSynchronized
  have hS : va_S A s.heap s.heap [] := va_S.rf
  have hl := lv_entry ([.ref xo, .ref oa]) (n := 3) (Nat.le_of_ble_eq_true rfl)
  rw [lg_entry_eq]
  generalize (lg_sl ([.ref xo, .ref oa]) ++ List.replicate (3 - (lg_sl ([.ref xo, .ref oa])).length) Slot.unset).toArray = ls at hl ⊢
  have hl : lv_has ls 3 [(0, .ref xo), (1, .ref oa)] := hl
  refine lv_aload_n hx hb d_Law_stop_0 rfl (lv_at hl 1 rfl) ?_
  refine lv_iconst (v := 0) hx hb d_Law_stop_1 (by decide) ?_
  refine lv_aload_n hx hb d_Law_stop_2 rfl (lv_at hl 0 rfl) ?_
  refine va_calli (va_runV (As := []) (rest := [.int 0, .ref oa]) ⟨hx, hb, hml, hown, hgt⟩ hM ⟨callB_of 0 (Ts := lw_g) hgt (fun w h => ⟨(List.mem_cons.mp h).elim (fun q => by rw [q]; exact kc_C_stop) id, good_of_word (lw_good ((List.mem_cons.mp h).elim (fun q => by rw [q]; exact kc_C_stop) id))⟩) rfl rfl rfl (hgt _ k_C_ini) (hgt _ k_Law_m36) (by decide +kernel) ⟨Nat.le_refl _, Nat.le_refl _⟩, hgt _ ki_C_stop, hgt _ ke_C_stop⟩ (hCF.V hxB hcf) rfl rfl hl.1 rfl (lv_room (Nat.le_of_ble_eq_true rfl)) d_Law_stop_3 ⟨by rw [Nat.zero_add]; exact Nat.le_refl _, by rw [Nat.zero_add]; exact Nat.le_refl _⟩) hS (fun q _ h => hBA q h) (fun q h => hBA q h) (fun r u t H1 locs1 ht hvm hw hB1 hz hk hS => ?_)
  obtain rfl := hw
  have hP : va_P D cl [(oa, .inl (cJ, 1, .inr (.inl g)))] H1 := hP.kept (fun k q hk9 => by
    have hk0 : k < 1 := (List.getElem?_eq_some_iff.mp hk9).1
    have hlt := (hP k q hk9).lt
    rw [show k = 0 by omega] at hk9
    cases hk9
    exact hk oa hlt hoB)
  refine lv_i2l (v := r.toInt64) hx hb d_Law_stop_6 rfl ?_
  refine va_last hx hb hK hP hD hS 0 tJ rfl htJ (vp_in_nI (n := 0) (N := 1) (by decide) (by decide)) d_Law_stop_7 (fun H locs hP hD hS => ?_)
  refine lv_goto (tgt := 14) hx hb d_Law_stop_8 (by decide) ?_
  refine lv_iconst (v := 0) hx hb d_Law_stop_14 (by decide) ?_
  refine W.cs (cells' := mc) (slots' := ms) (Nat.zero_add _) (Nat.zero_add _) ?_
  exact W.iret (v := 0) hx hb hr (fun t ht hW => ⟨⟨0, _, rfl, ⟨rfl, rfl⟩, by rw [ht]; exact hP, hD, va_K.moved hW.alike hK⟩, hS.F ht⟩) hS.2.2 d_Law_stop_15
set_option maxHeartbeats 4000000 in
set_option maxRecDepth 100000 in
theorem h_stop_T1 (l : Launch) (s0 : State) (a0 : Array Value) (D : va_G) (cl : List vw_C) (tys : List (ClassId × FieldType)) (tJ : Nat) (cJ : ClassId) (A B : Nat → Prop) (xo oa : Nat) (g : Nat → Int64) (CF : State → Prop) (hCF : cOk CF xo) (hBA : ∀ q, B q → A q) (hoB : ¬ B oa) (fr lo mc ms : Nat) (XC : State → State → Prop) (hXC : ∀ st0 t : State, XC st0 t → va_F B st0 t) (hca : (Cond.castable "java/lang/IllegalStateException" "java/lang/IllegalStateException").before a0 s0 = true) (hM : Thr l y_C_stop (.code y_C_stop b_C_stop 1 (some .int) :: lw_g) ({ frames := fr, cells := mc, slots := ms, locals := lo }) (va_Pc (.ref xo :: []) (cPre s0 CF)) "java/lang/IllegalStateException" XC mc ms B) :
    Met l y_Law_stop (.codeWith y_Law_stop b_Law_stop 3 (some .int) [(0, 8, 11, 13)] :: lw_g) ({ frames := fr + 1, cells := mc, slots := ms, locals := 8 + (1 + 11) + lo }) (va_Pc [.ref xo, .ref oa] (hPre s0 CF D cl tys tJ cJ A oa g)) (va_Qi (fun r g2 => r = 1 ∧ g2 = g) (hB D cl tys A cJ oa) A) mc ms A := by
  refine va_MetW (cc := b_Law_stop) (maxL := 3) (ret := some .int) (by decide) rfl ?_
  intro p e s m args below meth c s₁ B9 hml hv
  obtain ⟨rfl, hxB, hcf, hP, hD, hK, htJ⟩ := hv
  have hx := B9.exec
  have hb := B9.bytes
  have hr := B9.returns
  have hts := atoms_spec (ws := (.codeWith y_Law_stop b_Law_stop 3 (some .int) [(0, 8, 11, 13)] :: lw_g)) B9.pre
  have hgt : ∀ w ∈ lw_g, w.before _ s = true := fun w h => hts w (List.mem_cons_of_mem _ h)
  have hown : s.vm.findClass R_Law = some m.cls := findClass_of_methodNamed B9.named
  have hlocks := B9.notSynchronized
  have hS : va_S A s.heap s.heap [] := va_S.rf
  have hl := lv_entry ([.ref xo, .ref oa]) (n := 3) (Nat.le_of_ble_eq_true rfl)
  rw [lg_entry_eq]
  generalize (lg_sl ([.ref xo, .ref oa]) ++ List.replicate (3 - (lg_sl ([.ref xo, .ref oa])).length) Slot.unset).toArray = ls at hl ⊢
  have hl : lv_has ls 3 [(0, .ref xo), (1, .ref oa)] := hl
  obtain ⟨m9, meth9, c9, hn9, hm9, hc9, -, -, htab, -⟩ := Cond.codeWith_spec (hts _ List.mem_cons_self)
  cases B9.named.symm.trans hn9
  cases B9.method.symm.trans hm9
  cases (Stand.of_body B9).code.symm.trans hc9
  obtain ⟨e1, htb, he1⟩ := x_tab1 htab
  obtain ⟨q11, q12, q13, q14⟩ : e1.startPc = 0 ∧ e1.endPc = 8 ∧ e1.handlerPc = 11 ∧ e1.catchType = 13 := by simpa using he1
  refine lv_aload_n hx hb d_Law_stop_0 rfl (lv_at hl 1 rfl) ?_
  refine lv_iconst (v := 0) hx hb d_Law_stop_1 (by decide) ?_
  refine lv_aload_n hx hb d_Law_stop_2 rfl (lv_at hl 0 rfl) ?_
  refine x_catchV (As := []) (rest := [.int 0, .ref oa]) ⟨hx, hb, hml, hown, hgt⟩ hM ⟨callB_of 0 (Ts := lw_g) hgt (fun w h => ⟨(List.mem_cons.mp h).elim (fun q => by rw [q]; exact kc_C_stop) id, good_of_word (lw_good ((List.mem_cons.mp h).elim (fun q => by rw [q]; exact kc_C_stop) id))⟩) rfl rfl rfl (hgt _ k_C_ini) (hgt _ k_Law_m36) (by decide +kernel) ⟨Nat.le_refl _, Nat.le_refl _⟩, hgt _ ki_C_stop, hgt _ ke_C_stop⟩ (hCF.V hxB hcf) rfl hl.1 rfl (lv_room (Nat.le_of_ble_eq_true rfl)) d_Law_stop_3 ⟨by rw [Nat.zero_add]; exact Nat.le_refl _, by rw [Nat.zero_add]; exact Nat.le_refl _⟩ hS (fun q h => hBA q h) (fun st0 t _ h => ⟨(hXC st0 t h).1, fun q h1 h2 => (hXC st0 t h).2 q h1 (fun z => h2 (hBA q z))⟩) [] e1 [] htb (name := "java/lang/IllegalStateException") (fun z hz => nomatch hz) (by simp [covers, q11, q12]) (by rw [q14]; decide) (by rw [q14]; exact hgt _ k_Law_x13) (xB.castable hca hxB) (fun qx st0 t H1 locs1 h0 ht hvm hw hz hS => ?_)
  have hP : va_P D cl [(oa, .inl (cJ, 1, .inr (.inl g)))] H1 := hP.kept (fun k q hk9 => by
    have hk0 : k < 1 := (List.getElem?_eq_some_iff.mp hk9).1
    have hlt := (hP k q hk9).lt
    rw [show k = 0 by omega] at hk9
    cases hk9
    rw [← ht, (hXC st0 t hw).2 oa (by rw [h0]; exact hlt) hoB, h0])
  rw [q13]
  refine lv_astore_n (lv' := [(2, .ref qx), (0, .ref xo), (1, .ref oa)]) hx hb d_Law_stop_11 rfl hl (by decide) rfl (fun ls hl => ?_)
  refine lv_iconst (v := 1) hx hb d_Law_stop_12 (by decide) ?_
  refine W.cs (cells' := mc) (slots' := ms) (Nat.zero_add _) (Nat.zero_add _) ?_
  exact W.iret (v := 1) hx hb hr (fun t ht hW => ⟨⟨1, _, rfl, ⟨rfl, rfl⟩, by rw [ht]; exact hP, hD, va_K.moved hW.alike hK⟩, hS.F ht⟩) hS.2.2 d_Law_stop_13
set_option maxHeartbeats 4000000 in
set_option maxRecDepth 100000 in
theorem h_state_R (l : Launch) (s0 : State) (a0 : Array Value) (D : va_G) (cl : List vw_C) (tys : List (ClassId × FieldType)) (tJ : Nat) (cJ : ClassId) (A B : Nat → Prop) (xo oa : Nat) (g : Nat → Int64) (CF : State → Prop) (hCF : cOk CF xo) (hBA : ∀ q, B q → A q) (hoB : ¬ B oa) (fr lo mc ms : Nat) (p0 : Int32) (rv : Int32) (hM : Met l y_C_state (.code y_C_state b_C_state 2 (some .int) :: lw_g) ({ frames := fr, cells := mc, slots := ms, locals := lo }) (va_Pc (.ref xo :: [.int p0]) (cPre s0 CF)) (va_Qi (fun r (_ : Unit) => r = rv) (fun _ _ => True) B) mc ms B) :
    Met l y_Law_state (.codeWith y_Law_state b_Law_state 4 (some .int) [(0, 9, 12, 15)] :: lw_g) ({ frames := fr + 1, cells := mc, slots := ms, locals := 8 + (2 + 11) + lo }) (va_Pc [.ref xo, .int p0, .ref oa] (hPre s0 CF D cl tys tJ cJ A oa g)) (va_Qi (fun r g2 => r = 0 ∧ g2 0 = rv.toInt64) (hB D cl tys A cJ oa) A) mc ms A := by
  refine va_MetW (cc := b_Law_state) (maxL := 4) (ret := some .int) (by decide) rfl ?_
  intro p e s m args below meth c s₁ B9 hml hv
  obtain ⟨rfl, hxB, hcf, hP, hD, hK, htJ⟩ := hv
  have hx := B9.exec
  have hb := B9.bytes
  have hr := B9.returns
  have hts := atoms_spec (ws := (.codeWith y_Law_state b_Law_state 4 (some .int) [(0, 9, 12, 15)] :: lw_g)) B9.pre
  have hgt : ∀ w ∈ lw_g, w.before _ s = true := fun w h => hts w (List.mem_cons_of_mem _ h)
  have hown : s.vm.findClass R_Law = some m.cls := findClass_of_methodNamed B9.named
  have hlocks := B9.notSynchronized
  have hS : va_S A s.heap s.heap [] := va_S.rf
  have hl := lv_entry ([.ref xo, .int p0, .ref oa]) (n := 4) (Nat.le_of_ble_eq_true rfl)
  rw [lg_entry_eq]
  generalize (lg_sl ([.ref xo, .int p0, .ref oa]) ++ List.replicate (4 - (lg_sl ([.ref xo, .int p0, .ref oa])).length) Slot.unset).toArray = ls at hl ⊢
  have hl : lv_has ls 4 [(0, .ref xo), (1, .int p0), (2, .ref oa)] := hl
  refine lv_aload_n hx hb d_Law_state_0 rfl (lv_at hl 2 rfl) ?_
  refine lv_iconst (v := 0) hx hb d_Law_state_1 (by decide) ?_
  refine lv_aload_n hx hb d_Law_state_2 rfl (lv_at hl 0 rfl) ?_
  refine lv_iload_n hx hb d_Law_state_3 rfl (lv_at hl 1 rfl) ?_
  refine va_calli (va_runV (As := [.int p0]) (rest := [.int 0, .ref oa]) ⟨hx, hb, hml, hown, hgt⟩ hM ⟨callB_of 1 (Ts := lw_g) hgt (fun w h => ⟨(List.mem_cons.mp h).elim (fun q => by rw [q]; exact kc_C_state) id, good_of_word (lw_good ((List.mem_cons.mp h).elim (fun q => by rw [q]; exact kc_C_state) id))⟩) rfl rfl rfl (hgt _ k_C_ini) (hgt _ k_Law_m39) (by decide +kernel) ⟨Nat.le_refl _, Nat.le_refl _⟩, hgt _ ki_C_state, hgt _ ke_C_state⟩ (hCF.V hxB hcf) rfl rfl hl.1 rfl (lv_room (Nat.le_of_ble_eq_true rfl)) d_Law_state_4 ⟨by rw [Nat.zero_add]; exact Nat.le_refl _, by rw [Nat.zero_add]; exact Nat.le_refl _⟩) hS (fun q _ h => hBA q h) (fun q h => hBA q h) (fun r u t H1 locs1 ht hvm hw hB1 hz hk hS => ?_)
  obtain rfl := hw
  have hP : va_P D cl [(oa, .inl (cJ, 1, .inr (.inl g)))] H1 := hP.kept (fun k q hk9 => by
    have hk0 : k < 1 := (List.getElem?_eq_some_iff.mp hk9).1
    have hlt := (hP k q hk9).lt
    rw [show k = 0 by omega] at hk9
    cases hk9
    exact hk oa hlt hoB)
  refine lv_i2l (v := r.toInt64) hx hb d_Law_state_7 rfl ?_
  refine va_last hx hb hK hP hD hS 0 tJ rfl htJ (vp_in_nI (n := 0) (N := 1) (by decide) (by decide)) d_Law_state_8 (fun H locs hP hD hS => ?_)
  refine lv_goto (tgt := 15) hx hb d_Law_state_9 (by decide) ?_
  refine lv_iconst (v := 0) hx hb d_Law_state_15 (by decide) ?_
  refine W.cs (cells' := mc) (slots' := ms) (Nat.zero_add _) (Nat.zero_add _) ?_
  exact W.iret (v := 0) hx hb hr (fun t ht hW => ⟨⟨0, _, rfl, ⟨rfl, rfl⟩, by rw [ht]; exact hP, hD, va_K.moved hW.alike hK⟩, hS.F ht⟩) hS.2.2 d_Law_state_16
set_option maxHeartbeats 4000000 in
set_option maxRecDepth 100000 in
theorem h_state_T1 (l : Launch) (s0 : State) (a0 : Array Value) (D : va_G) (cl : List vw_C) (tys : List (ClassId × FieldType)) (tJ : Nat) (cJ : ClassId) (A B : Nat → Prop) (xo oa : Nat) (g : Nat → Int64) (CF : State → Prop) (hCF : cOk CF xo) (hBA : ∀ q, B q → A q) (hoB : ¬ B oa) (fr lo mc ms : Nat) (p0 : Int32) (XC : State → State → Prop) (hXC : ∀ st0 t : State, XC st0 t → va_F B st0 t) (hca : (Cond.castable "java/lang/IllegalArgumentException" "java/lang/IllegalArgumentException").before a0 s0 = true) (hM : Thr l y_C_state (.code y_C_state b_C_state 2 (some .int) :: lw_g) ({ frames := fr, cells := mc, slots := ms, locals := lo }) (va_Pc (.ref xo :: [.int p0]) (cPre s0 CF)) "java/lang/IllegalArgumentException" XC mc ms B) :
    Met l y_Law_state (.codeWith y_Law_state b_Law_state 4 (some .int) [(0, 9, 12, 15)] :: lw_g) ({ frames := fr + 1, cells := mc, slots := ms, locals := 8 + (2 + 11) + lo }) (va_Pc [.ref xo, .int p0, .ref oa] (hPre s0 CF D cl tys tJ cJ A oa g)) (va_Qi (fun r g2 => r = 1 ∧ g2 = g) (hB D cl tys A cJ oa) A) mc ms A := by
  refine va_MetW (cc := b_Law_state) (maxL := 4) (ret := some .int) (by decide) rfl ?_
  intro p e s m args below meth c s₁ B9 hml hv
  obtain ⟨rfl, hxB, hcf, hP, hD, hK, htJ⟩ := hv
  have hx := B9.exec
  have hb := B9.bytes
  have hr := B9.returns
  have hts := atoms_spec (ws := (.codeWith y_Law_state b_Law_state 4 (some .int) [(0, 9, 12, 15)] :: lw_g)) B9.pre
  have hgt : ∀ w ∈ lw_g, w.before _ s = true := fun w h => hts w (List.mem_cons_of_mem _ h)
  have hown : s.vm.findClass R_Law = some m.cls := findClass_of_methodNamed B9.named
  have hlocks := B9.notSynchronized
  have hS : va_S A s.heap s.heap [] := va_S.rf
  have hl := lv_entry ([.ref xo, .int p0, .ref oa]) (n := 4) (Nat.le_of_ble_eq_true rfl)
  rw [lg_entry_eq]
  generalize (lg_sl ([.ref xo, .int p0, .ref oa]) ++ List.replicate (4 - (lg_sl ([.ref xo, .int p0, .ref oa])).length) Slot.unset).toArray = ls at hl ⊢
  have hl : lv_has ls 4 [(0, .ref xo), (1, .int p0), (2, .ref oa)] := hl
  obtain ⟨m9, meth9, c9, hn9, hm9, hc9, -, -, htab, -⟩ := Cond.codeWith_spec (hts _ List.mem_cons_self)
  cases B9.named.symm.trans hn9
  cases B9.method.symm.trans hm9
  cases (Stand.of_body B9).code.symm.trans hc9
  obtain ⟨e1, htb, he1⟩ := x_tab1 htab
  obtain ⟨q11, q12, q13, q14⟩ : e1.startPc = 0 ∧ e1.endPc = 9 ∧ e1.handlerPc = 12 ∧ e1.catchType = 15 := by simpa using he1
  refine lv_aload_n hx hb d_Law_state_0 rfl (lv_at hl 2 rfl) ?_
  refine lv_iconst (v := 0) hx hb d_Law_state_1 (by decide) ?_
  refine lv_aload_n hx hb d_Law_state_2 rfl (lv_at hl 0 rfl) ?_
  refine lv_iload_n hx hb d_Law_state_3 rfl (lv_at hl 1 rfl) ?_
  refine x_catchV (As := [.int p0]) (rest := [.int 0, .ref oa]) ⟨hx, hb, hml, hown, hgt⟩ hM ⟨callB_of 1 (Ts := lw_g) hgt (fun w h => ⟨(List.mem_cons.mp h).elim (fun q => by rw [q]; exact kc_C_state) id, good_of_word (lw_good ((List.mem_cons.mp h).elim (fun q => by rw [q]; exact kc_C_state) id))⟩) rfl rfl rfl (hgt _ k_C_ini) (hgt _ k_Law_m39) (by decide +kernel) ⟨Nat.le_refl _, Nat.le_refl _⟩, hgt _ ki_C_state, hgt _ ke_C_state⟩ (hCF.V hxB hcf) rfl hl.1 rfl (lv_room (Nat.le_of_ble_eq_true rfl)) d_Law_state_4 ⟨by rw [Nat.zero_add]; exact Nat.le_refl _, by rw [Nat.zero_add]; exact Nat.le_refl _⟩ hS (fun q h => hBA q h) (fun st0 t _ h => ⟨(hXC st0 t h).1, fun q h1 h2 => (hXC st0 t h).2 q h1 (fun z => h2 (hBA q z))⟩) [] e1 [] htb (name := "java/lang/IllegalArgumentException") (fun z hz => nomatch hz) (by simp [covers, q11, q12]) (by rw [q14]; decide) (by rw [q14]; exact hgt _ k_Law_x15) (xB.castable hca hxB) (fun qx st0 t H1 locs1 h0 ht hvm hw hz hS => ?_)
  have hP : va_P D cl [(oa, .inl (cJ, 1, .inr (.inl g)))] H1 := hP.kept (fun k q hk9 => by
    have hk0 : k < 1 := (List.getElem?_eq_some_iff.mp hk9).1
    have hlt := (hP k q hk9).lt
    rw [show k = 0 by omega] at hk9
    cases hk9
    rw [← ht, (hXC st0 t hw).2 oa (by rw [h0]; exact hlt) hoB, h0])
  rw [q13]
  refine lv_astore_n (lv' := [(3, .ref qx), (0, .ref xo), (1, .int p0), (2, .ref oa)]) hx hb d_Law_state_12 rfl hl (by decide) rfl (fun ls hl => ?_)
  refine lv_iconst (v := 1) hx hb d_Law_state_13 (by decide) ?_
  refine W.cs (cells' := mc) (slots' := ms) (Nat.zero_add _) (Nat.zero_add _) ?_
  exact W.iret (v := 1) hx hb hr (fun t ht hW => ⟨⟨1, _, rfl, ⟨rfl, rfl⟩, by rw [ht]; exact hP, hD, va_K.moved hW.alike hK⟩, hS.F ht⟩) hS.2.2 d_Law_state_14
set_option maxHeartbeats 4000000 in
set_option maxRecDepth 100000 in
theorem h_sign_R (l : Launch) (s0 : State) (a0 : Array Value) (D : va_G) (cl : List vw_C) (tys : List (ClassId × FieldType)) (tJ : Nat) (cJ : ClassId) (A B : Nat → Prop) (xo oa : Nat) (g : Nat → Int64) (CF : State → Prop) (hCF : cOk CF xo) (hBA : ∀ q, B q → A q) (hoB : ¬ B oa) (fr lo mc ms : Nat) (p0 : Int32) (rv : Int32) (hM : Met l y_C_sign (.code y_C_sign b_C_sign 2 (some .int) :: lw_g) ({ frames := fr, cells := mc, slots := ms, locals := lo }) (va_Pc (.ref xo :: [.int p0]) (cPre s0 CF)) (va_Qi (fun r (_ : Unit) => r = rv) (fun _ _ => True) B) mc ms B) :
    Met l y_Law_sign (.codeWith y_Law_sign b_Law_sign 4 (some .int) [(0, 9, 12, 13), (0, 9, 15, 15)] :: lw_g) ({ frames := fr + 1, cells := mc, slots := ms, locals := 8 + (2 + 11) + lo }) (va_Pc [.ref xo, .int p0, .ref oa] (hPre s0 CF D cl tys tJ cJ A oa g)) (va_Qi (fun r g2 => r = 0 ∧ g2 0 = rv.toInt64) (hB D cl tys A cJ oa) A) mc ms A := by
  refine va_MetW (cc := b_Law_sign) (maxL := 4) (ret := some .int) (by decide) rfl ?_
  intro p e s m args below meth c s₁ B9 hml hv
  obtain ⟨rfl, hxB, hcf, hP, hD, hK, htJ⟩ := hv
  have hx := B9.exec
  have hb := B9.bytes
  have hr := B9.returns
  have hts := atoms_spec (ws := (.codeWith y_Law_sign b_Law_sign 4 (some .int) [(0, 9, 12, 13), (0, 9, 15, 15)] :: lw_g)) B9.pre
  have hgt : ∀ w ∈ lw_g, w.before _ s = true := fun w h => hts w (List.mem_cons_of_mem _ h)
  have hown : s.vm.findClass R_Law = some m.cls := findClass_of_methodNamed B9.named
  have hlocks := B9.notSynchronized
  have hS : va_S A s.heap s.heap [] := va_S.rf
  have hl := lv_entry ([.ref xo, .int p0, .ref oa]) (n := 4) (Nat.le_of_ble_eq_true rfl)
  rw [lg_entry_eq]
  generalize (lg_sl ([.ref xo, .int p0, .ref oa]) ++ List.replicate (4 - (lg_sl ([.ref xo, .int p0, .ref oa])).length) Slot.unset).toArray = ls at hl ⊢
  have hl : lv_has ls 4 [(0, .ref xo), (1, .int p0), (2, .ref oa)] := hl
  refine lv_aload_n hx hb d_Law_sign_0 rfl (lv_at hl 2 rfl) ?_
  refine lv_iconst (v := 0) hx hb d_Law_sign_1 (by decide) ?_
  refine lv_aload_n hx hb d_Law_sign_2 rfl (lv_at hl 0 rfl) ?_
  refine lv_iload_n hx hb d_Law_sign_3 rfl (lv_at hl 1 rfl) ?_
  refine va_calli (va_runV (As := [.int p0]) (rest := [.int 0, .ref oa]) ⟨hx, hb, hml, hown, hgt⟩ hM ⟨callB_of 1 (Ts := lw_g) hgt (fun w h => ⟨(List.mem_cons.mp h).elim (fun q => by rw [q]; exact kc_C_sign) id, good_of_word (lw_good ((List.mem_cons.mp h).elim (fun q => by rw [q]; exact kc_C_sign) id))⟩) rfl rfl rfl (hgt _ k_C_ini) (hgt _ k_Law_m42) (by decide +kernel) ⟨Nat.le_refl _, Nat.le_refl _⟩, hgt _ ki_C_sign, hgt _ ke_C_sign⟩ (hCF.V hxB hcf) rfl rfl hl.1 rfl (lv_room (Nat.le_of_ble_eq_true rfl)) d_Law_sign_4 ⟨by rw [Nat.zero_add]; exact Nat.le_refl _, by rw [Nat.zero_add]; exact Nat.le_refl _⟩) hS (fun q _ h => hBA q h) (fun q h => hBA q h) (fun r u t H1 locs1 ht hvm hw hB1 hz hk hS => ?_)
  obtain rfl := hw
  have hP : va_P D cl [(oa, .inl (cJ, 1, .inr (.inl g)))] H1 := hP.kept (fun k q hk9 => by
    have hk0 : k < 1 := (List.getElem?_eq_some_iff.mp hk9).1
    have hlt := (hP k q hk9).lt
    rw [show k = 0 by omega] at hk9
    cases hk9
    exact hk oa hlt hoB)
  refine lv_i2l (v := r.toInt64) hx hb d_Law_sign_7 rfl ?_
  refine va_last hx hb hK hP hD hS 0 tJ rfl htJ (vp_in_nI (n := 0) (N := 1) (by decide) (by decide)) d_Law_sign_8 (fun H locs hP hD hS => ?_)
  refine lv_goto (tgt := 18) hx hb d_Law_sign_9 (by decide) ?_
  refine lv_iconst (v := 0) hx hb d_Law_sign_18 (by decide) ?_
  refine W.cs (cells' := mc) (slots' := ms) (Nat.zero_add _) (Nat.zero_add _) ?_
  exact W.iret (v := 0) hx hb hr (fun t ht hW => ⟨⟨0, _, rfl, ⟨rfl, rfl⟩, by rw [ht]; exact hP, hD, va_K.moved hW.alike hK⟩, hS.F ht⟩) hS.2.2 d_Law_sign_19
set_option maxHeartbeats 4000000 in
set_option maxRecDepth 100000 in
theorem h_sign_T1 (l : Launch) (s0 : State) (a0 : Array Value) (D : va_G) (cl : List vw_C) (tys : List (ClassId × FieldType)) (tJ : Nat) (cJ : ClassId) (A B : Nat → Prop) (xo oa : Nat) (g : Nat → Int64) (CF : State → Prop) (hCF : cOk CF xo) (hBA : ∀ q, B q → A q) (hoB : ¬ B oa) (fr lo mc ms : Nat) (p0 : Int32) (XC : State → State → Prop) (hXC : ∀ st0 t : State, XC st0 t → va_F B st0 t) (hca : (Cond.castable "java/lang/IllegalStateException" "java/lang/IllegalStateException").before a0 s0 = true) (hM : Thr l y_C_sign (.code y_C_sign b_C_sign 2 (some .int) :: lw_g) ({ frames := fr, cells := mc, slots := ms, locals := lo }) (va_Pc (.ref xo :: [.int p0]) (cPre s0 CF)) "java/lang/IllegalStateException" XC mc ms B) :
    Met l y_Law_sign (.codeWith y_Law_sign b_Law_sign 4 (some .int) [(0, 9, 12, 13), (0, 9, 15, 15)] :: lw_g) ({ frames := fr + 1, cells := mc, slots := ms, locals := 8 + (2 + 11) + lo }) (va_Pc [.ref xo, .int p0, .ref oa] (hPre s0 CF D cl tys tJ cJ A oa g)) (va_Qi (fun r g2 => r = 1 ∧ g2 = g) (hB D cl tys A cJ oa) A) mc ms A := by
  refine va_MetW (cc := b_Law_sign) (maxL := 4) (ret := some .int) (by decide) rfl ?_
  intro p e s m args below meth c s₁ B9 hml hv
  obtain ⟨rfl, hxB, hcf, hP, hD, hK, htJ⟩ := hv
  have hx := B9.exec
  have hb := B9.bytes
  have hr := B9.returns
  have hts := atoms_spec (ws := (.codeWith y_Law_sign b_Law_sign 4 (some .int) [(0, 9, 12, 13), (0, 9, 15, 15)] :: lw_g)) B9.pre
  have hgt : ∀ w ∈ lw_g, w.before _ s = true := fun w h => hts w (List.mem_cons_of_mem _ h)
  have hown : s.vm.findClass R_Law = some m.cls := findClass_of_methodNamed B9.named
  have hlocks := B9.notSynchronized
  have hS : va_S A s.heap s.heap [] := va_S.rf
  have hl := lv_entry ([.ref xo, .int p0, .ref oa]) (n := 4) (Nat.le_of_ble_eq_true rfl)
  rw [lg_entry_eq]
  generalize (lg_sl ([.ref xo, .int p0, .ref oa]) ++ List.replicate (4 - (lg_sl ([.ref xo, .int p0, .ref oa])).length) Slot.unset).toArray = ls at hl ⊢
  have hl : lv_has ls 4 [(0, .ref xo), (1, .int p0), (2, .ref oa)] := hl
  obtain ⟨m9, meth9, c9, hn9, hm9, hc9, -, -, htab, -⟩ := Cond.codeWith_spec (hts _ List.mem_cons_self)
  cases B9.named.symm.trans hn9
  cases B9.method.symm.trans hm9
  cases (Stand.of_body B9).code.symm.trans hc9
  obtain ⟨e1, e2, htb, he1, he2⟩ := x_tab2 htab
  obtain ⟨q11, q12, q13, q14⟩ : e1.startPc = 0 ∧ e1.endPc = 9 ∧ e1.handlerPc = 12 ∧ e1.catchType = 13 := by simpa using he1
  refine lv_aload_n hx hb d_Law_sign_0 rfl (lv_at hl 2 rfl) ?_
  refine lv_iconst (v := 0) hx hb d_Law_sign_1 (by decide) ?_
  refine lv_aload_n hx hb d_Law_sign_2 rfl (lv_at hl 0 rfl) ?_
  refine lv_iload_n hx hb d_Law_sign_3 rfl (lv_at hl 1 rfl) ?_
  refine x_catchV (As := [.int p0]) (rest := [.int 0, .ref oa]) ⟨hx, hb, hml, hown, hgt⟩ hM ⟨callB_of 1 (Ts := lw_g) hgt (fun w h => ⟨(List.mem_cons.mp h).elim (fun q => by rw [q]; exact kc_C_sign) id, good_of_word (lw_good ((List.mem_cons.mp h).elim (fun q => by rw [q]; exact kc_C_sign) id))⟩) rfl rfl rfl (hgt _ k_C_ini) (hgt _ k_Law_m42) (by decide +kernel) ⟨Nat.le_refl _, Nat.le_refl _⟩, hgt _ ki_C_sign, hgt _ ke_C_sign⟩ (hCF.V hxB hcf) rfl hl.1 rfl (lv_room (Nat.le_of_ble_eq_true rfl)) d_Law_sign_4 ⟨by rw [Nat.zero_add]; exact Nat.le_refl _, by rw [Nat.zero_add]; exact Nat.le_refl _⟩ hS (fun q h => hBA q h) (fun st0 t _ h => ⟨(hXC st0 t h).1, fun q h1 h2 => (hXC st0 t h).2 q h1 (fun z => h2 (hBA q z))⟩) [] e1 [e2] htb (name := "java/lang/IllegalStateException") (fun z hz => nomatch hz) (by simp [covers, q11, q12]) (by rw [q14]; decide) (by rw [q14]; exact hgt _ k_Law_x13) (xB.castable hca hxB) (fun qx st0 t H1 locs1 h0 ht hvm hw hz hS => ?_)
  have hP : va_P D cl [(oa, .inl (cJ, 1, .inr (.inl g)))] H1 := hP.kept (fun k q hk9 => by
    have hk0 : k < 1 := (List.getElem?_eq_some_iff.mp hk9).1
    have hlt := (hP k q hk9).lt
    rw [show k = 0 by omega] at hk9
    cases hk9
    rw [← ht, (hXC st0 t hw).2 oa (by rw [h0]; exact hlt) hoB, h0])
  rw [q13]
  refine lv_astore_n (lv' := [(3, .ref qx), (0, .ref xo), (1, .int p0), (2, .ref oa)]) hx hb d_Law_sign_12 rfl hl (by decide) rfl (fun ls hl => ?_)
  refine lv_iconst (v := 1) hx hb d_Law_sign_13 (by decide) ?_
  refine W.cs (cells' := mc) (slots' := ms) (Nat.zero_add _) (Nat.zero_add _) ?_
  exact W.iret (v := 1) hx hb hr (fun t ht hW => ⟨⟨1, _, rfl, ⟨rfl, rfl⟩, by rw [ht]; exact hP, hD, va_K.moved hW.alike hK⟩, hS.F ht⟩) hS.2.2 d_Law_sign_14
set_option maxHeartbeats 4000000 in
set_option maxRecDepth 100000 in
theorem h_sign_T2 (l : Launch) (s0 : State) (a0 : Array Value) (D : va_G) (cl : List vw_C) (tys : List (ClassId × FieldType)) (tJ : Nat) (cJ : ClassId) (A B : Nat → Prop) (xo oa : Nat) (g : Nat → Int64) (CF : State → Prop) (hCF : cOk CF xo) (hBA : ∀ q, B q → A q) (hoB : ¬ B oa) (fr lo mc ms : Nat) (p0 : Int32) (XC : State → State → Prop) (hXC : ∀ st0 t : State, XC st0 t → va_F B st0 t) (hca : (Cond.castable "java/lang/IllegalArgumentException" "java/lang/IllegalArgumentException").before a0 s0 = true) (hno0 : (Cond.not (.castable "java/lang/IllegalArgumentException" "java/lang/IllegalStateException")).before a0 s0 = true) (hM : Thr l y_C_sign (.code y_C_sign b_C_sign 2 (some .int) :: lw_g) ({ frames := fr, cells := mc, slots := ms, locals := lo }) (va_Pc (.ref xo :: [.int p0]) (cPre s0 CF)) "java/lang/IllegalArgumentException" XC mc ms B) :
    Met l y_Law_sign (.codeWith y_Law_sign b_Law_sign 4 (some .int) [(0, 9, 12, 13), (0, 9, 15, 15)] :: lw_g) ({ frames := fr + 1, cells := mc, slots := ms, locals := 8 + (2 + 11) + lo }) (va_Pc [.ref xo, .int p0, .ref oa] (hPre s0 CF D cl tys tJ cJ A oa g)) (va_Qi (fun r g2 => r = 2 ∧ g2 = g) (hB D cl tys A cJ oa) A) mc ms A := by
  refine va_MetW (cc := b_Law_sign) (maxL := 4) (ret := some .int) (by decide) rfl ?_
  intro p e s m args below meth c s₁ B9 hml hv
  obtain ⟨rfl, hxB, hcf, hP, hD, hK, htJ⟩ := hv
  have hx := B9.exec
  have hb := B9.bytes
  have hr := B9.returns
  have hts := atoms_spec (ws := (.codeWith y_Law_sign b_Law_sign 4 (some .int) [(0, 9, 12, 13), (0, 9, 15, 15)] :: lw_g)) B9.pre
  have hgt : ∀ w ∈ lw_g, w.before _ s = true := fun w h => hts w (List.mem_cons_of_mem _ h)
  have hown : s.vm.findClass R_Law = some m.cls := findClass_of_methodNamed B9.named
  have hlocks := B9.notSynchronized
  have hS : va_S A s.heap s.heap [] := va_S.rf
  have hl := lv_entry ([.ref xo, .int p0, .ref oa]) (n := 4) (Nat.le_of_ble_eq_true rfl)
  rw [lg_entry_eq]
  generalize (lg_sl ([.ref xo, .int p0, .ref oa]) ++ List.replicate (4 - (lg_sl ([.ref xo, .int p0, .ref oa])).length) Slot.unset).toArray = ls at hl ⊢
  have hl : lv_has ls 4 [(0, .ref xo), (1, .int p0), (2, .ref oa)] := hl
  obtain ⟨m9, meth9, c9, hn9, hm9, hc9, -, -, htab, -⟩ := Cond.codeWith_spec (hts _ List.mem_cons_self)
  cases B9.named.symm.trans hn9
  cases B9.method.symm.trans hm9
  cases (Stand.of_body B9).code.symm.trans hc9
  obtain ⟨e1, e2, htb, he1, he2⟩ := x_tab2 htab
  obtain ⟨q11, q12, q13, q14⟩ : e1.startPc = 0 ∧ e1.endPc = 9 ∧ e1.handlerPc = 12 ∧ e1.catchType = 13 := by simpa using he1
  obtain ⟨q21, q22, q23, q24⟩ : e2.startPc = 0 ∧ e2.endPc = 9 ∧ e2.handlerPc = 15 ∧ e2.catchType = 15 := by simpa using he2
  refine lv_aload_n hx hb d_Law_sign_0 rfl (lv_at hl 2 rfl) ?_
  refine lv_iconst (v := 0) hx hb d_Law_sign_1 (by decide) ?_
  refine lv_aload_n hx hb d_Law_sign_2 rfl (lv_at hl 0 rfl) ?_
  refine lv_iload_n hx hb d_Law_sign_3 rfl (lv_at hl 1 rfl) ?_
  refine x_catchV (As := [.int p0]) (rest := [.int 0, .ref oa]) ⟨hx, hb, hml, hown, hgt⟩ hM ⟨callB_of 1 (Ts := lw_g) hgt (fun w h => ⟨(List.mem_cons.mp h).elim (fun q => by rw [q]; exact kc_C_sign) id, good_of_word (lw_good ((List.mem_cons.mp h).elim (fun q => by rw [q]; exact kc_C_sign) id))⟩) rfl rfl rfl (hgt _ k_C_ini) (hgt _ k_Law_m42) (by decide +kernel) ⟨Nat.le_refl _, Nat.le_refl _⟩, hgt _ ki_C_sign, hgt _ ke_C_sign⟩ (hCF.V hxB hcf) rfl hl.1 rfl (lv_room (Nat.le_of_ble_eq_true rfl)) d_Law_sign_4 ⟨by rw [Nat.zero_add]; exact Nat.le_refl _, by rw [Nat.zero_add]; exact Nat.le_refl _⟩ hS (fun q h => hBA q h) (fun st0 t _ h => ⟨(hXC st0 t h).1, fun q h1 h2 => (hXC st0 t h).2 q h1 (fun z => h2 (hBA q z))⟩) [e1] e2 [] htb (name := "java/lang/IllegalArgumentException") (fun z hz => Or.inr (by rw [List.mem_singleton.mp hz]; exact ⟨by rw [q14]; decide, "java/lang/IllegalStateException", by rw [q14]; exact hgt _ k_Law_x13, va_Nc.moved hxB.1.alike (va_Nc.of hno0)⟩)) (by simp [covers, q21, q22]) (by rw [q24]; decide) (by rw [q24]; exact hgt _ k_Law_x15) (xB.castable hca hxB) (fun qx st0 t H1 locs1 h0 ht hvm hw hz hS => ?_)
  have hP : va_P D cl [(oa, .inl (cJ, 1, .inr (.inl g)))] H1 := hP.kept (fun k q hk9 => by
    have hk0 : k < 1 := (List.getElem?_eq_some_iff.mp hk9).1
    have hlt := (hP k q hk9).lt
    rw [show k = 0 by omega] at hk9
    cases hk9
    rw [← ht, (hXC st0 t hw).2 oa (by rw [h0]; exact hlt) hoB, h0])
  rw [q23]
  refine lv_astore_n (lv' := [(3, .ref qx), (0, .ref xo), (1, .int p0), (2, .ref oa)]) hx hb d_Law_sign_15 rfl hl (by decide) rfl (fun ls hl => ?_)
  refine lv_iconst (v := 2) hx hb d_Law_sign_16 (by decide) ?_
  refine W.cs (cells' := mc) (slots' := ms) (Nat.zero_add _) (Nat.zero_add _) ?_
  exact W.iret (v := 2) hx hb hr (fun t ht hW => ⟨⟨2, _, rfl, ⟨rfl, rfl⟩, by rw [ht]; exact hP, hD, va_K.moved hW.alike hK⟩, hS.F ht⟩) hS.2.2 d_Law_sign_17
theorem k_Law_x48 : Cond.classLink R_Law 48 "java/util/NoSuchElementException" ∈ lw_g := lw_in (List.mem_append_right _ (List.mem_of_getElem? (i := 1041) (by decide +kernel))) rfl
set_option maxHeartbeats 4000000 in
set_option maxRecDepth 100000 in
theorem h_global_R (l : Launch) (s0 : State) (a0 : Array Value) (D : va_G) (cl : List vw_C) (tys : List (ClassId × FieldType)) (tJ : Nat) (cJ : ClassId) (A B : Nat → Prop) (xo oa : Nat) (g : Nat → Int64) (CF : State → Prop) (hCF : cOk CF xo) (hBA : ∀ q, B q → A q) (hoB : ¬ B oa) (fr lo mc ms : Nat) (p0 : Int32) (rv : Int32) (hM : Met l y_C_global (.code y_C_global b_C_global 3 (some .int) :: lw_g) ({ frames := fr, cells := mc, slots := ms, locals := lo }) (va_Pc (.ref xo :: [.int p0]) (cPre s0 CF)) (va_Qi (fun r (_ : Unit) => r = rv) (fun _ _ => True) B) mc ms B) :
    Met l y_Law_global (.codeWith y_Law_global b_Law_global 4 (some .int) [(0, 9, 12, 15), (0, 9, 15, 48)] :: lw_g) ({ frames := fr + 1, cells := mc, slots := ms, locals := 8 + (3 + 11) + lo }) (va_Pc [.ref xo, .int p0, .ref oa] (hPre s0 CF D cl tys tJ cJ A oa g)) (va_Qi (fun r g2 => r = 0 ∧ g2 0 = rv.toInt64) (hB D cl tys A cJ oa) A) mc ms A := by
  refine va_MetW (cc := b_Law_global) (maxL := 4) (ret := some .int) (by decide) rfl ?_
  intro p e s m args below meth c s₁ B9 hml hv
  obtain ⟨rfl, hxB, hcf, hP, hD, hK, htJ⟩ := hv
  have hx := B9.exec
  have hb := B9.bytes
  have hr := B9.returns
  have hts := atoms_spec (ws := (.codeWith y_Law_global b_Law_global 4 (some .int) [(0, 9, 12, 15), (0, 9, 15, 48)] :: lw_g)) B9.pre
  have hgt : ∀ w ∈ lw_g, w.before _ s = true := fun w h => hts w (List.mem_cons_of_mem _ h)
  have hown : s.vm.findClass R_Law = some m.cls := findClass_of_methodNamed B9.named
  have hlocks := B9.notSynchronized
  have hS : va_S A s.heap s.heap [] := va_S.rf
  have hl := lv_entry ([.ref xo, .int p0, .ref oa]) (n := 4) (Nat.le_of_ble_eq_true rfl)
  rw [lg_entry_eq]
  generalize (lg_sl ([.ref xo, .int p0, .ref oa]) ++ List.replicate (4 - (lg_sl ([.ref xo, .int p0, .ref oa])).length) Slot.unset).toArray = ls at hl ⊢
  have hl : lv_has ls 4 [(0, .ref xo), (1, .int p0), (2, .ref oa)] := hl
  refine lv_aload_n hx hb d_Law_global_0 rfl (lv_at hl 2 rfl) ?_
  refine lv_iconst (v := 0) hx hb d_Law_global_1 (by decide) ?_
  refine lv_aload_n hx hb d_Law_global_2 rfl (lv_at hl 0 rfl) ?_
  refine lv_iload_n hx hb d_Law_global_3 rfl (lv_at hl 1 rfl) ?_
  refine va_calli (va_runV (As := [.int p0]) (rest := [.int 0, .ref oa]) ⟨hx, hb, hml, hown, hgt⟩ hM ⟨callB_of 1 (Ts := lw_g) hgt (fun w h => ⟨(List.mem_cons.mp h).elim (fun q => by rw [q]; exact kc_C_global) id, good_of_word (lw_good ((List.mem_cons.mp h).elim (fun q => by rw [q]; exact kc_C_global) id))⟩) rfl rfl rfl (hgt _ k_C_ini) (hgt _ k_Law_m45) (by decide +kernel) ⟨Nat.le_refl _, Nat.le_refl _⟩, hgt _ ki_C_global, hgt _ ke_C_global⟩ (hCF.V hxB hcf) rfl rfl hl.1 rfl (lv_room (Nat.le_of_ble_eq_true rfl)) d_Law_global_4 ⟨by rw [Nat.zero_add]; exact Nat.le_refl _, by rw [Nat.zero_add]; exact Nat.le_refl _⟩) hS (fun q _ h => hBA q h) (fun q h => hBA q h) (fun r u t H1 locs1 ht hvm hw hB1 hz hk hS => ?_)
  obtain rfl := hw
  have hP : va_P D cl [(oa, .inl (cJ, 1, .inr (.inl g)))] H1 := hP.kept (fun k q hk9 => by
    have hk0 : k < 1 := (List.getElem?_eq_some_iff.mp hk9).1
    have hlt := (hP k q hk9).lt
    rw [show k = 0 by omega] at hk9
    cases hk9
    exact hk oa hlt hoB)
  refine lv_i2l (v := r.toInt64) hx hb d_Law_global_7 rfl ?_
  refine va_last hx hb hK hP hD hS 0 tJ rfl htJ (vp_in_nI (n := 0) (N := 1) (by decide) (by decide)) d_Law_global_8 (fun H locs hP hD hS => ?_)
  refine lv_goto (tgt := 18) hx hb d_Law_global_9 (by decide) ?_
  refine lv_iconst (v := 0) hx hb d_Law_global_18 (by decide) ?_
  refine W.cs (cells' := mc) (slots' := ms) (Nat.zero_add _) (Nat.zero_add _) ?_
  exact W.iret (v := 0) hx hb hr (fun t ht hW => ⟨⟨0, _, rfl, ⟨rfl, rfl⟩, by rw [ht]; exact hP, hD, va_K.moved hW.alike hK⟩, hS.F ht⟩) hS.2.2 d_Law_global_19
set_option maxHeartbeats 4000000 in
set_option maxRecDepth 100000 in
theorem h_global_T1 (l : Launch) (s0 : State) (a0 : Array Value) (D : va_G) (cl : List vw_C) (tys : List (ClassId × FieldType)) (tJ : Nat) (cJ : ClassId) (A B : Nat → Prop) (xo oa : Nat) (g : Nat → Int64) (CF : State → Prop) (hCF : cOk CF xo) (hBA : ∀ q, B q → A q) (hoB : ¬ B oa) (fr lo mc ms : Nat) (p0 : Int32) (XC : State → State → Prop) (hXC : ∀ st0 t : State, XC st0 t → va_F B st0 t) (hca : (Cond.castable "java/lang/IllegalArgumentException" "java/lang/IllegalArgumentException").before a0 s0 = true) (hM : Thr l y_C_global (.code y_C_global b_C_global 3 (some .int) :: lw_g) ({ frames := fr, cells := mc, slots := ms, locals := lo }) (va_Pc (.ref xo :: [.int p0]) (cPre s0 CF)) "java/lang/IllegalArgumentException" XC mc ms B) :
    Met l y_Law_global (.codeWith y_Law_global b_Law_global 4 (some .int) [(0, 9, 12, 15), (0, 9, 15, 48)] :: lw_g) ({ frames := fr + 1, cells := mc, slots := ms, locals := 8 + (3 + 11) + lo }) (va_Pc [.ref xo, .int p0, .ref oa] (hPre s0 CF D cl tys tJ cJ A oa g)) (va_Qi (fun r g2 => r = 1 ∧ g2 = g) (hB D cl tys A cJ oa) A) mc ms A := by
  refine va_MetW (cc := b_Law_global) (maxL := 4) (ret := some .int) (by decide) rfl ?_
  intro p e s m args below meth c s₁ B9 hml hv
  obtain ⟨rfl, hxB, hcf, hP, hD, hK, htJ⟩ := hv
  have hx := B9.exec
  have hb := B9.bytes
  have hr := B9.returns
  have hts := atoms_spec (ws := (.codeWith y_Law_global b_Law_global 4 (some .int) [(0, 9, 12, 15), (0, 9, 15, 48)] :: lw_g)) B9.pre
  have hgt : ∀ w ∈ lw_g, w.before _ s = true := fun w h => hts w (List.mem_cons_of_mem _ h)
  have hown : s.vm.findClass R_Law = some m.cls := findClass_of_methodNamed B9.named
  have hlocks := B9.notSynchronized
  have hS : va_S A s.heap s.heap [] := va_S.rf
  have hl := lv_entry ([.ref xo, .int p0, .ref oa]) (n := 4) (Nat.le_of_ble_eq_true rfl)
  rw [lg_entry_eq]
  generalize (lg_sl ([.ref xo, .int p0, .ref oa]) ++ List.replicate (4 - (lg_sl ([.ref xo, .int p0, .ref oa])).length) Slot.unset).toArray = ls at hl ⊢
  have hl : lv_has ls 4 [(0, .ref xo), (1, .int p0), (2, .ref oa)] := hl
  obtain ⟨m9, meth9, c9, hn9, hm9, hc9, -, -, htab, -⟩ := Cond.codeWith_spec (hts _ List.mem_cons_self)
  cases B9.named.symm.trans hn9
  cases B9.method.symm.trans hm9
  cases (Stand.of_body B9).code.symm.trans hc9
  obtain ⟨e1, e2, htb, he1, he2⟩ := x_tab2 htab
  obtain ⟨q11, q12, q13, q14⟩ : e1.startPc = 0 ∧ e1.endPc = 9 ∧ e1.handlerPc = 12 ∧ e1.catchType = 15 := by simpa using he1
  refine lv_aload_n hx hb d_Law_global_0 rfl (lv_at hl 2 rfl) ?_
  refine lv_iconst (v := 0) hx hb d_Law_global_1 (by decide) ?_
  refine lv_aload_n hx hb d_Law_global_2 rfl (lv_at hl 0 rfl) ?_
  refine lv_iload_n hx hb d_Law_global_3 rfl (lv_at hl 1 rfl) ?_
  refine x_catchV (As := [.int p0]) (rest := [.int 0, .ref oa]) ⟨hx, hb, hml, hown, hgt⟩ hM ⟨callB_of 1 (Ts := lw_g) hgt (fun w h => ⟨(List.mem_cons.mp h).elim (fun q => by rw [q]; exact kc_C_global) id, good_of_word (lw_good ((List.mem_cons.mp h).elim (fun q => by rw [q]; exact kc_C_global) id))⟩) rfl rfl rfl (hgt _ k_C_ini) (hgt _ k_Law_m45) (by decide +kernel) ⟨Nat.le_refl _, Nat.le_refl _⟩, hgt _ ki_C_global, hgt _ ke_C_global⟩ (hCF.V hxB hcf) rfl hl.1 rfl (lv_room (Nat.le_of_ble_eq_true rfl)) d_Law_global_4 ⟨by rw [Nat.zero_add]; exact Nat.le_refl _, by rw [Nat.zero_add]; exact Nat.le_refl _⟩ hS (fun q h => hBA q h) (fun st0 t _ h => ⟨(hXC st0 t h).1, fun q h1 h2 => (hXC st0 t h).2 q h1 (fun z => h2 (hBA q z))⟩) [] e1 [e2] htb (name := "java/lang/IllegalArgumentException") (fun z hz => nomatch hz) (by simp [covers, q11, q12]) (by rw [q14]; decide) (by rw [q14]; exact hgt _ k_Law_x15) (xB.castable hca hxB) (fun qx st0 t H1 locs1 h0 ht hvm hw hz hS => ?_)
  have hP : va_P D cl [(oa, .inl (cJ, 1, .inr (.inl g)))] H1 := hP.kept (fun k q hk9 => by
    have hk0 : k < 1 := (List.getElem?_eq_some_iff.mp hk9).1
    have hlt := (hP k q hk9).lt
    rw [show k = 0 by omega] at hk9
    cases hk9
    rw [← ht, (hXC st0 t hw).2 oa (by rw [h0]; exact hlt) hoB, h0])
  rw [q13]
  refine lv_astore_n (lv' := [(3, .ref qx), (0, .ref xo), (1, .int p0), (2, .ref oa)]) hx hb d_Law_global_12 rfl hl (by decide) rfl (fun ls hl => ?_)
  refine lv_iconst (v := 1) hx hb d_Law_global_13 (by decide) ?_
  refine W.cs (cells' := mc) (slots' := ms) (Nat.zero_add _) (Nat.zero_add _) ?_
  exact W.iret (v := 1) hx hb hr (fun t ht hW => ⟨⟨1, _, rfl, ⟨rfl, rfl⟩, by rw [ht]; exact hP, hD, va_K.moved hW.alike hK⟩, hS.F ht⟩) hS.2.2 d_Law_global_14
set_option maxHeartbeats 4000000 in
set_option maxRecDepth 100000 in
theorem h_global_T2 (l : Launch) (s0 : State) (a0 : Array Value) (D : va_G) (cl : List vw_C) (tys : List (ClassId × FieldType)) (tJ : Nat) (cJ : ClassId) (A B : Nat → Prop) (xo oa : Nat) (g : Nat → Int64) (CF : State → Prop) (hCF : cOk CF xo) (hBA : ∀ q, B q → A q) (hoB : ¬ B oa) (fr lo mc ms : Nat) (p0 : Int32) (XC : State → State → Prop) (hXC : ∀ st0 t : State, XC st0 t → va_F B st0 t) (hca : (Cond.castable "java/util/NoSuchElementException" "java/util/NoSuchElementException").before a0 s0 = true) (hno0 : (Cond.not (.castable "java/util/NoSuchElementException" "java/lang/IllegalArgumentException")).before a0 s0 = true) (hM : Thr l y_C_global (.code y_C_global b_C_global 3 (some .int) :: lw_g) ({ frames := fr, cells := mc, slots := ms, locals := lo }) (va_Pc (.ref xo :: [.int p0]) (cPre s0 CF)) "java/util/NoSuchElementException" XC mc ms B) :
    Met l y_Law_global (.codeWith y_Law_global b_Law_global 4 (some .int) [(0, 9, 12, 15), (0, 9, 15, 48)] :: lw_g) ({ frames := fr + 1, cells := mc, slots := ms, locals := 8 + (3 + 11) + lo }) (va_Pc [.ref xo, .int p0, .ref oa] (hPre s0 CF D cl tys tJ cJ A oa g)) (va_Qi (fun r g2 => r = 2 ∧ g2 = g) (hB D cl tys A cJ oa) A) mc ms A := by
  refine va_MetW (cc := b_Law_global) (maxL := 4) (ret := some .int) (by decide) rfl ?_
  intro p e s m args below meth c s₁ B9 hml hv
  obtain ⟨rfl, hxB, hcf, hP, hD, hK, htJ⟩ := hv
  have hx := B9.exec
  have hb := B9.bytes
  have hr := B9.returns
  have hts := atoms_spec (ws := (.codeWith y_Law_global b_Law_global 4 (some .int) [(0, 9, 12, 15), (0, 9, 15, 48)] :: lw_g)) B9.pre
  have hgt : ∀ w ∈ lw_g, w.before _ s = true := fun w h => hts w (List.mem_cons_of_mem _ h)
  have hown : s.vm.findClass R_Law = some m.cls := findClass_of_methodNamed B9.named
  have hlocks := B9.notSynchronized
  have hS : va_S A s.heap s.heap [] := va_S.rf
  have hl := lv_entry ([.ref xo, .int p0, .ref oa]) (n := 4) (Nat.le_of_ble_eq_true rfl)
  rw [lg_entry_eq]
  generalize (lg_sl ([.ref xo, .int p0, .ref oa]) ++ List.replicate (4 - (lg_sl ([.ref xo, .int p0, .ref oa])).length) Slot.unset).toArray = ls at hl ⊢
  have hl : lv_has ls 4 [(0, .ref xo), (1, .int p0), (2, .ref oa)] := hl
  obtain ⟨m9, meth9, c9, hn9, hm9, hc9, -, -, htab, -⟩ := Cond.codeWith_spec (hts _ List.mem_cons_self)
  cases B9.named.symm.trans hn9
  cases B9.method.symm.trans hm9
  cases (Stand.of_body B9).code.symm.trans hc9
  obtain ⟨e1, e2, htb, he1, he2⟩ := x_tab2 htab
  obtain ⟨q11, q12, q13, q14⟩ : e1.startPc = 0 ∧ e1.endPc = 9 ∧ e1.handlerPc = 12 ∧ e1.catchType = 15 := by simpa using he1
  obtain ⟨q21, q22, q23, q24⟩ : e2.startPc = 0 ∧ e2.endPc = 9 ∧ e2.handlerPc = 15 ∧ e2.catchType = 48 := by simpa using he2
  refine lv_aload_n hx hb d_Law_global_0 rfl (lv_at hl 2 rfl) ?_
  refine lv_iconst (v := 0) hx hb d_Law_global_1 (by decide) ?_
  refine lv_aload_n hx hb d_Law_global_2 rfl (lv_at hl 0 rfl) ?_
  refine lv_iload_n hx hb d_Law_global_3 rfl (lv_at hl 1 rfl) ?_
  refine x_catchV (As := [.int p0]) (rest := [.int 0, .ref oa]) ⟨hx, hb, hml, hown, hgt⟩ hM ⟨callB_of 1 (Ts := lw_g) hgt (fun w h => ⟨(List.mem_cons.mp h).elim (fun q => by rw [q]; exact kc_C_global) id, good_of_word (lw_good ((List.mem_cons.mp h).elim (fun q => by rw [q]; exact kc_C_global) id))⟩) rfl rfl rfl (hgt _ k_C_ini) (hgt _ k_Law_m45) (by decide +kernel) ⟨Nat.le_refl _, Nat.le_refl _⟩, hgt _ ki_C_global, hgt _ ke_C_global⟩ (hCF.V hxB hcf) rfl hl.1 rfl (lv_room (Nat.le_of_ble_eq_true rfl)) d_Law_global_4 ⟨by rw [Nat.zero_add]; exact Nat.le_refl _, by rw [Nat.zero_add]; exact Nat.le_refl _⟩ hS (fun q h => hBA q h) (fun st0 t _ h => ⟨(hXC st0 t h).1, fun q h1 h2 => (hXC st0 t h).2 q h1 (fun z => h2 (hBA q z))⟩) [e1] e2 [] htb (name := "java/util/NoSuchElementException") (fun z hz => Or.inr (by rw [List.mem_singleton.mp hz]; exact ⟨by rw [q14]; decide, "java/lang/IllegalArgumentException", by rw [q14]; exact hgt _ k_Law_x15, va_Nc.moved hxB.1.alike (va_Nc.of hno0)⟩)) (by simp [covers, q21, q22]) (by rw [q24]; decide) (by rw [q24]; exact hgt _ k_Law_x48) (xB.castable hca hxB) (fun qx st0 t H1 locs1 h0 ht hvm hw hz hS => ?_)
  have hP : va_P D cl [(oa, .inl (cJ, 1, .inr (.inl g)))] H1 := hP.kept (fun k q hk9 => by
    have hk0 : k < 1 := (List.getElem?_eq_some_iff.mp hk9).1
    have hlt := (hP k q hk9).lt
    rw [show k = 0 by omega] at hk9
    cases hk9
    rw [← ht, (hXC st0 t hw).2 oa (by rw [h0]; exact hlt) hoB, h0])
  rw [q23]
  refine lv_astore_n (lv' := [(3, .ref qx), (0, .ref xo), (1, .int p0), (2, .ref oa)]) hx hb d_Law_global_15 rfl hl (by decide) rfl (fun ls hl => ?_)
  refine lv_iconst (v := 2) hx hb d_Law_global_16 (by decide) ?_
  refine W.cs (cells' := mc) (slots' := ms) (Nat.zero_add _) (Nat.zero_add _) ?_
  exact W.iret (v := 2) hx hb hr (fun t ht hW => ⟨⟨2, _, rfl, ⟨rfl, rfl⟩, by rw [ht]; exact hP, hD, va_K.moved hW.alike hK⟩, hS.F ht⟩) hS.2.2 d_Law_global_17
