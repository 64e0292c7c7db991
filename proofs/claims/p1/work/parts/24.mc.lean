theorem k_ao_Expression : Cond.arrayOver (.object R_Expression) ∈ lw_tbl := List.mem_append_right _ (List.mem_of_getElem? (i := 46) (by decide +kernel))
theorem k_ao_Binding : Cond.arrayOver (.object R_Binding) ∈ lw_tbl := List.mem_append_right _ (List.mem_of_getElem? (i := 108) (by decide +kernel))
theorem k_ao_Place : Cond.arrayOver (.object R_Place) ∈ lw_tbl := List.mem_append_right _ (List.mem_of_getElem? (i := 173) (by decide +kernel))
theorem k_ao_Pair : Cond.arrayOver (.object R_Pair) ∈ lw_tbl := List.mem_append_right _ (List.mem_of_getElem? (i := 143) (by decide +kernel))
def R_AB : String := "java/lang/AbstractStringBuilder"
def ty_SB : Nat → FieldType := fun k => match k with
  | 0 => .array .byte
  | 1 => .byte
  | 2 => .boolean
  | _ => .int
theorem nm_SB : ∀ a, a < 4 → ∀ b, b < 4 → a ≠ b → (T_SB a).2.1 ≠ (T_SB b).2.1 := by decide +kernel
theorem ty_SB_ok : ∀ k, k < 4 → parseFieldDescriptor (T_SB k).2.2.1 = some (ty_SB k) := by decide +kernel
theorem in_SB_l : u_ws R_SB T_SB 4 = ([132, 134, 136, 138] : List Nat).filterMap (fun i => tables_1[i]?) := by decide +kernel
theorem in_SB : ∀ w ∈ u_ws R_SB T_SB 4, w ∈ lw_g := fun w h => by
  have hg : (u_ws R_SB T_SB 4).all goodWord = true := by decide +kernel
  refine lw_in ?_ (List.all_eq_true.mp hg w h)
  rw [in_SB_l] at h
  obtain ⟨i, -, hi⟩ := List.mem_filterMap.mp h
  exact List.mem_append_right _ (List.mem_of_getElem? hi)
theorem k_SB_inst : Cond.instantiable R_SB 4 ∈ lw_g := lw_in (List.mem_append_right _ (List.mem_of_getElem? (i := 110) (by decide +kernel))) rfl
theorem k_SB_ini : Cond.initialized R_SB ∈ lw_g := lw_in (List.mem_append_right _ (List.mem_of_getElem? (i := 6) (by decide +kernel))) rfl
theorem k_AB_ini : Cond.initialized R_AB ∈ lw_g := lw_in (List.mem_append_right _ (List.mem_of_getElem? (i := 5) (by decide +kernel))) rfl
abbrev b_SB_init : ByteArray := prog_23_method_1_code
def y_SB_init : MethodName := ⟨R_SB, "<init>", "()V"⟩
theorem kc_SB_init : Cond.code y_SB_init b_SB_init 1 none ∈ lw_g := lw_in (List.mem_append_right _ (List.mem_of_getElem? (i := 113) (by decide +kernel))) rfl
theorem ki_SB_init : Cond.instanceMethod y_SB_init ∈ lw_g := lw_in (List.mem_append_right _ (List.mem_of_getElem? (i := 112) (by decide +kernel))) rfl
abbrev b_AB_init : ByteArray := prog_12_method_2_code
def y_AB_init : MethodName := ⟨R_AB, "<init>", "(I)V"⟩
theorem kc_AB_init : Cond.code y_AB_init b_AB_init 2 none ∈ lw_g := lw_in (List.mem_append_right _ (List.mem_of_getElem? (i := 116) (by decide +kernel))) rfl
theorem ki_AB_init : Cond.instanceMethod y_AB_init ∈ lw_g := lw_in (List.mem_append_right _ (List.mem_of_getElem? (i := 115) (by decide +kernel))) rfl
theorem d_SB_init_0 : decode b_SB_init 0 = .ok (.aload_n 0, 1) := by decide +kernel
theorem d_SB_init_1 : decode b_SB_init 1 = .ok (.bipush 16, 2) := by decide +kernel
theorem d_SB_init_3 : decode b_SB_init 3 = .ok (.invokespecial 1, 3) := by decide +kernel
theorem d_SB_init_6 : decode b_SB_init 6 = .ok (.return_, 1) := by decide +kernel
theorem d_AB_init_0 : decode b_AB_init 0 = .ok (.aload_n 0, 1) := by decide +kernel
theorem d_AB_init_1 : decode b_AB_init 1 = .ok (.invokespecial 3, 3) := by decide +kernel
theorem d_AB_init_4 : decode b_AB_init 4 = .ok (.getstatic 18, 3) := by decide +kernel
theorem d_AB_init_7 : decode b_AB_init 7 = .ok (.ifCond .eq 18, 3) := by decide +kernel
theorem d_AB_init_10 : decode b_AB_init 10 = .ok (.aload_n 0, 1) := by decide +kernel
theorem d_AB_init_11 : decode b_AB_init 11 = .ok (.iload_n 1, 1) := by decide +kernel
theorem d_AB_init_12 : decode b_AB_init 12 = .ok (.newarray .byte, 2) := by decide +kernel
theorem d_AB_init_14 : decode b_AB_init 14 = .ok (.putfield 15, 3) := by decide +kernel
theorem d_AB_init_17 : decode b_AB_init 17 = .ok (.aload_n 0, 1) := by decide +kernel
theorem d_AB_init_18 : decode b_AB_init 18 = .ok (.iconst 0, 1) := by decide +kernel
theorem d_AB_init_19 : decode b_AB_init 19 = .ok (.putfield 22, 3) := by decide +kernel
theorem d_AB_init_22 : decode b_AB_init 22 = .ok (.goto 16, 3) := by decide +kernel
theorem d_AB_init_25 : decode b_AB_init 25 = .ok (.aload_n 0, 1) := by decide +kernel
theorem d_AB_init_26 : decode b_AB_init 26 = .ok (.iload_n 1, 1) := by decide +kernel
theorem d_AB_init_27 : decode b_AB_init 27 = .ok (.invokestatic 26, 3) := by decide +kernel
theorem d_AB_init_30 : decode b_AB_init 30 = .ok (.putfield 15, 3) := by decide +kernel
theorem d_AB_init_33 : decode b_AB_init 33 = .ok (.aload_n 0, 1) := by decide +kernel
theorem d_AB_init_34 : decode b_AB_init 34 = .ok (.iconst 1, 1) := by decide +kernel
theorem d_AB_init_35 : decode b_AB_init 35 = .ok (.putfield 22, 3) := by decide +kernel
theorem d_AB_init_38 : decode b_AB_init 38 = .ok (.return_, 1) := by decide +kernel
theorem k_SB_m1 : Cond.methodLink R_SB 1 y_AB_init ∈ lw_g := lw_in (List.mem_append_right _ (List.mem_of_getElem? (i := 114) (by decide +kernel))) rfl
theorem k_AB_m3 : Cond.methodLink R_AB 3 objectInit ∈ lw_g := lw_in (List.mem_append_right _ (List.mem_of_getElem? (i := 117) (by decide +kernel))) rfl
theorem k_AB_f18 : Cond.fieldLink R_AB 18 "java/lang/String" "COMPACT_STRINGS" "Z" ∈ lw_g := lw_in (List.mem_append_right _ (List.mem_of_getElem? (i := 118) (by decide +kernel))) rfl
theorem k_AB_f15 : Cond.fieldLink R_AB 15 "java/lang/AbstractStringBuilder" "value" "[B" ∈ lw_g := lw_in (List.mem_append_right _ (List.mem_of_getElem? (i := 127) (by decide +kernel))) rfl
theorem k_AB_f22 : Cond.fieldLink R_AB 22 "java/lang/AbstractStringBuilder" "coder" "B" ∈ lw_g := lw_in (List.mem_append_right _ (List.mem_of_getElem? (i := 128) (by decide +kernel))) rfl
theorem k_Machine_m19s : Cond.methodLink R_Machine 19 y_SB_init ∈ lw_g := lw_in (List.mem_append_right _ (List.mem_of_getElem? (i := 111) (by decide +kernel))) rfl
theorem va_same {D : va_G} {cl : List vw_C} {tys : List (ClassId × FieldType)} {s : State} {cA cT : ClassId} {t0 : Nat} {ty : FieldType} (h : va_K D cl (tys ++ [(cA, ty)]) s) (ht : tys[t0]? = some (cT, ty)) : cA = cT := by
  have h1 := (h.2 tys.length (cA, ty) (by rw [List.getElem?_append_right (Nat.le_refl _), Nat.sub_self]; rfl)).2
  have h2 := (h.2 t0 (cT, ty) (by rw [List.getElem?_append_left (List.getElem?_eq_some_iff.mp ht).1]; exact ht)).2
  cases ty with
  | object C =>
    obtain ⟨_, _, _, _, _, a⟩ := h1
    obtain ⟨_, _, _, _, _, b⟩ := h2
    exact Option.some.inj (a.symm.trans b)
  | _ => exact Option.some.inj (h1.symm.trans h2)
/-- what a constructor leaves: all but its own object -/
def kp (h0 : Nat → Option va_E) (q : Nat) (h : Nat → Option va_E) : Prop := ∀ (a : Nat) (e : va_E), h0 a = some e → a ≠ q → h a = some e
theorem kp.rf (h : Nat → Option va_E) (q : Nat) : kp h q h := fun _ _ h1 _ => h1
theorem kp.self {h0 h : Nat → Option va_E} {q : Nat} (k : kp h0 q h) (v : Option va_E) : kp h0 q (va_up h q v) := fun a e h1 h2 => by rw [va_up_ne _ _ h2]; exact k a e h1 h2
theorem kp.new {h0 h : Nat → Option va_E} {q x : Nat} (k : kp h0 q h) (hx : h x = none) (v : Option va_E) : kp h0 q (va_up h x v) := fun a e h1 h2 => g_upn v hx (k a e h1 h2)
theorem kp.upn {h0 h : Nat → Option va_E} {q x : Nat} (k : kp h0 q h) (hx : h0 x = none) (v : Option va_E) : kp h0 q (va_up h x v) := fun a e h1 h2 => by
  rw [va_up_ne _ _ (fun z => by rw [z, hx] at h1; cases h1)]; exact k a e h1 h2
theorem kp.fresh {h0 h : Nat → Option va_E} {q x : Nat} {z : va_E} (k : kp h0 q h) (hq : h q = some z) (hx : h x = none) : h0 x = none := by
  cases hh : h0 x with
  | none => rfl
  | some e =>
    have : h x = some e := k x e hh (fun w => by rw [w, hq] at hx; cases hx)
    rw [hx] at this; cases this
theorem kp.call {h0 h h2 : Nat → Option va_E} {q x : Nat} (k : kp h0 q h) (k2 : kp h x h2) (hx : h0 x = none) : kp h0 q h2 := fun a e h1 hq => k2 a e (k a e h1 hq) (fun z => by rw [z, hx] at h1; cases h1)
def wd (s0 : State) (D : va_G) (T : Nat → ClassId) (A : Nat → Prop) (h : Nat → Option va_E) : State → Prop := fun U => xB s0 U ∧ (∀ x, U.heap.size ≤ x → A x) ∧ gw D classes A h U.heap ∧ va_K D classes (tyl T) U
theorem wd.blind {s0 : State} {D : va_G} {T : Nat → ClassId} {A : Nat → Prop} {h : Nat → Option va_E} {av : List Value} : FrameBlind (va_Pc av (wd s0 D T A h)) := fun a U g mk q => by
  obtain ⟨q0, q1, q2, q3, q4⟩ := q
  exact ⟨q0, q1, q2, q3, va_K.moved (u := U) (U := U.calling g mk a) (Vm.Alike.refl U.vm) q4⟩
theorem va_Z.reg {C n d : String} {v : Value} {A : Nat → Prop} {s0 : State} (h : va_Z C n d v noA s0 s0.heap) (hA : ∀ q, A q → s0.heap.size ≤ q) : va_Z C n d v A s0 s0.heap := by
  obtain ⟨cf, kf, fi, f, a, cell, h1, h2, h3, h4, h5, h6, h7, -⟩ := h
  exact ⟨cf, kf, fi, f, a, cell, h1, h2, h3, h4, h5, h6, h7, fun z => by have := hA a z; have := (Array.getElem?_eq_some_iff.mp h5).1; omega⟩
section IROWS
variable {p : Program} {l : Launch} {e : Env} {R : Room} {s : State} {m : MethodId} {args : Array Value} {below : List Frame} {meth : Method} {c : Code} {H : Heap} {locs : List Loc} {cells slots : Nat} {cc : ByteArray} {pc : Nat} {ls : Array Slot} {rest : List Value} {D : va_G} {T : Nat → ClassId} {A : Nat → Prop} {h : Nat → Option va_E} {Q : State → Prop} {H0 : Heap} {own : String} {s0 : State} {a0 : Array Value}
theorem g_newp {atype : ArrayType} {ty : FieldType} (hx : p.tables.exec = Jvm.exec) (hb : c.code = cc) (harr : (Cond.arrayClass (newarray.typeOf atype)).before args s = true) (hty : newarray.typeOf atype = ty) (hK : va_K D classes (tyl T) s) (hg : gw D classes A h H) (hS : va_S A H0 H locs) (hA : ∀ q, H0.size ≤ q → A q) {k : Int32} (N : Nat) (hk : k = nI N) (hN : N < 100000) (t0 : Nat) {cT : ClassId} (ht : (tyl T)[t0]? = some (cT, ty)) (ha : ∀ cA : ClassId, vp_cell cA (N, .inl (fun _ => 0)) = arrV cA N (fun _ => defaultValue ty)) (hby : componentBytes ty ≤ 8) (hcells : cells + 1 ≤ R.cells) (hslots : slots + N ≤ R.slots) (hdg : decode cc pc = .ok (.newarray atype, 2))
    (kk : ∀ (q : Nat) (H1 : Heap), h q = none → gw D classes A (va_up h q (some (.inl (cT, N, .inl (fun _ => 0))))) H1 → va_S A H0 H1 locs → W p l e R s m args below meth c H1 locs (cells + 1) (slots + N) Q (F0 m (pc + 2) ls (.ref q :: rest))) : W p l e R s m args below meth c H locs cells slots Q (F0 m pc ls (.int k :: rest)) := by
  subst hk
  refine va_newa (atype := atype) (ty := ty) hx hb harr hty hK (hg.P H.size) (hg.Dd H.size) hS hA (a0 := (N, .inl (fun _ => 0))) (N' := N) ha (nI_pos (by omega)) (nI_clamp (by omega)) (by have := Nat.mul_le_mul_left N hby; omega) hcells hslots hdg (fun q cA H1 k1 p1 d1 s1 => ?_)
  obtain rfl := va_same k1 ht
  exact kk q H1 (hg.push (Nat.le_refl _) p1 d1).1 (hg.push (Nat.le_refl _) p1 d1).2 s1
theorem g_newq {C : String} {index : Nat} (hx : p.tables.exec = Jvm.exec) (hb : c.code = cc) (hown : s.vm.findClass own = some m.cls) (hcl : (Cond.classLink own index C).before args s = true) (hover : va_AO C s) (hK : va_K D classes (tyl T) s) (hg : gw D classes A h H) (hS : va_S A H0 H locs) (hA : ∀ q, H0.size ≤ q → A q) {k : Int32} (N : Nat) (hk : k = nI N) (hN : N < 100000) (t0 : Nat) {cT : ClassId} (ht : (tyl T)[t0]? = some (cT, .object C)) (hcells : cells + 1 ≤ R.cells) (hslots : slots + N ≤ R.slots) (hdg : decode cc pc = .ok (.anewarray index, 3))
    (kk : ∀ (q : Nat) (H1 : Heap), h q = none → gw D classes A (va_up h q (some (.inl (cT, N, vQ (fun _ => none))))) H1 → va_S A H0 H1 locs → W p l e R s m args below meth c H1 locs (cells + 1) (slots + N) Q (F0 m (pc + 3) ls (.ref q :: rest))) : W p l e R s m args below meth c H locs cells slots Q (F0 m pc ls (.int k :: rest)) := by
  subst hk
  refine va_newq hx hb hown hcl hover hK (hg.P H.size) (hg.Dd H.size) hS hA (N' := N) (nI_pos (by omega)) (nI_clamp (by omega)) (by omega) hcells hslots hdg (fun q cA H1 k1 p1 d1 s1 => ?_)
  obtain rfl := va_same k1 ht
  exact kk q H1 (hg.push (Nat.le_refl _) p1 d1).1 (hg.push (Nat.le_refl _) p1 d1).2 s1
variable {y : MethodName} {bytes : ByteArray} {maxL idx n nL b mc ms : Nat} {rm : Room} {Qc : Array Value → State → Outcome → State → Prop} {As : List Value}
theorem I_run (hx : p.tables.exec = Jvm.exec) (hb : c.code = cc) (hml : c.maxLocals = nL) (hgt : ∀ w ∈ lw_g, w.before args s = true) (hown : s.vm.findClass own = some m.cls) (hxB : xB s0 s) (hA0 : ∀ q, A q → s0.heap.size ≤ q) (hA : ∀ q, s.heap.size ≤ q → A q) (hK : va_K D classes (tyl T) s) (hg : gw D classes A h H) (hS : va_S A s.heap H locs)
    (hC : Met l y (.code y bytes maxL none :: lw_g) rm (va_Pc (.ref b :: As) (wd s0 D T A h)) Qc mc ms A) (hcode : Cond.code y bytes maxL none ∈ lw_g) (hlink : Cond.methodLink own idx y ∈ lw_g) (hins : Cond.instanceMethod y ∈ lw_g) (hnm : y.name = "<init>") (hini : Cond.initialized y.cls ∈ lw_g) (hrc : rm.cells = mc) (hrs : rm.slots = ms) (hd : y.cls ≠ "java/lang/invoke/MethodHandle" ∧ y.cls ≠ "java/lang/invoke/VarHandle" ∧ (parseMethodDescriptor y.desc).map (fun d => d.parameters.length) = some n) (hR : rm.frames + 1 ≤ R.frames ∧ 8 + (maxL + 11) + rm.locals ≤ R.locals) (hn : As.length = n) (hsize : ls.size = nL) {st : List Value} (hstk : st = As.reverse ++ .ref b :: rest) (hW : 2 * (F0 m pc ls st).monitorRoom + (rest.map fun v => v.category).sum ≤ 8) (hdg : decode cc pc = .ok (.invokespecial idx, 3)) (hf : cells + mc ≤ R.cells ∧ slots + ms ≤ R.slots) :
    va_Run p l e R s m args below meth c H locs cells slots mc ms (F0 m pc ls st) rest (Qc (Value.ref b :: As).toArray) A :=
  va_runI (Ts := .code y bytes maxL none :: lw_g) (own := own) (nL := nL) (bytes := bytes) (maxL := maxL) (n := n) ⟨hx, hb, hml, hown, lw_with hgt hcode⟩ hC ⟨callB_of n (Ts := .code y bytes maxL none :: lw_g) (lw_with hgt hcode) (lw_goodIn _ hcode) rfl hrc hrs (hgt _ hini) (hgt _ hlink) hd hR, hnm, hgt _ hins⟩ ⟨wd.blind, fun U hU hW9 => ⟨rfl, xB.later hxB hA0 (by rw [hU]; exact hS) hW9, fun x hx9 => hA x (Nat.le_trans hS.1 (by rw [hU] at hx9; exact hx9)), by rw [hU]; exact hg, va_K.moved hW9.alike hK⟩⟩ rfl hn hsize hstk hW hdg hf
theorem IN_run (hx : p.tables.exec = Jvm.exec) (hb : c.code = cc) (hml : c.maxLocals = nL) (hgt : ∀ w ∈ lw_g, w.before args s = true) (hown : s.vm.findClass own = some m.cls) (G : G0 l a0 s0) (hxB : xB s0 s) (hA0 : ∀ q, A q → s0.heap.size ≤ q) (hA : ∀ q, s.heap.size ≤ q → A q) (hK : va_K D classes (tyl T) s) (hg : gw D classes A h H) (hS : va_S A s.heap H locs)
    (hC : Met l y (.code y bytes maxL none :: lw_g) rm (va_Pc (.ref b :: As) (wd s0 D T A h)) Qc mc ms A) (hcode : Cond.code y bytes maxL none ∈ lw_g) (hlink : Cond.methodLinkNest own idx y "ContinuationCore" ∈ lw_tbl) (hins : Cond.instanceMethod y ∈ lw_g) (hnm : y.name = "<init>") (hini : Cond.initialized y.cls ∈ lw_g) (hrc : rm.cells = mc) (hrs : rm.slots = ms) (hd : y.cls ≠ "java/lang/invoke/MethodHandle" ∧ y.cls ≠ "java/lang/invoke/VarHandle" ∧ (parseMethodDescriptor y.desc).map (fun d => d.parameters.length) = some n) (hR : rm.frames + 1 ≤ R.frames ∧ 8 + (maxL + 11) + rm.locals ≤ R.locals) (hn : As.length = n) (hsize : ls.size = nL) {st : List Value} (hstk : st = As.reverse ++ .ref b :: rest) (hW : 2 * (F0 m pc ls st).monitorRoom + (rest.map fun v => v.category).sum ≤ 8) (hdg : decode cc pc = .ok (.invokespecial idx, 3)) (hf : cells + mc ≤ R.cells ∧ slots + ms ≤ R.slots) :
    va_Run p l e R s m args below meth c H locs cells slots mc ms (F0 m pc ls st) rest (Qc (Value.ref b :: As).toArray) A :=
  va_runIN (Ts := .code y bytes maxL none :: lw_g) (own := own) (host := "ContinuationCore") (nL := nL) (bytes := bytes) (maxL := maxL) (n := n) ⟨hx, hb, hml, hown, lw_with hgt hcode⟩ hC ⟨va_cnB n (Ts := .code y bytes maxL none :: lw_g) (lw_with hgt hcode) (lw_goodIn _ hcode) rfl hrc hrs (va_Nw.warmM hxB.1 (va_Nw.of rfl (G.2.1 _ hlink))) (hgt _ hini) hd hR, hnm, hgt _ hins⟩ ⟨wd.blind, fun U hU hW9 => ⟨rfl, xB.later hxB hA0 (by rw [hU]; exact hS) hW9, fun x hx9 => hA x (Nat.le_trans hS.1 (by rw [hU] at hx9; exact hx9)), by rw [hU]; exact hg, va_K.moved hW9.alike hK⟩⟩ rfl hn hsize hstk hW hdg hf
end IROWS
theorem v_end {s : State} {H : Heap} {locs : List Loc} {args : Array Value} {D : va_G} {A : Nat → Prop} {h : Nat → Option va_E} {P : (Nat → Option va_E) → Prop} (hg : gw D classes A h H) (hS : va_S A s.heap H locs) (hp : P h) : ∀ t : State, t.heap = H → s.WarmedH t.vm → va_Qv P (fun h t => gw D classes A h t.heap) A args s (.returned none) t := fun t ht _ => ⟨⟨h, rfl, hp, by show gw D classes A h t.heap; rw [ht]; exact hg⟩, hS.F ht⟩
theorem G0.ao {l : Launch} {a0 : Array Value} {s0 s : State} (G : G0 l a0 s0) (hxB : xB s0 s) {C : String} (h : Cond.arrayOver (.object C) ∈ lw_tbl) : va_AO C s := va_AO.moved hxB.1.alike (va_AO.of (G.2.1 _ h))
set_option maxHeartbeats 4000000 in
set_option maxRecDepth 100000 in
theorem k_Place_init_new (l : Launch) (a0 : Array Value) (s0 : State) (G : G0 l a0 s0) (D : va_G) (T : Nat → ClassId) (A : Nat → Prop) (hA0 : ∀ q, A q → s0.heap.size ≤ q) (h0 : Nat → Option va_E) (q : Nat) (hq : h0 q = some (.inr (6, [.int 0, .int 0, .null, .null, .null]))) : Met l y_Place_init (.code y_Place_init b_Place_init 1 none :: lw_g) ({ frames := 1, cells := 0, slots := 0, locals := 12 }) (va_Pc [.ref q] (wd s0 D T A h0)) (va_Qv (fun h => h = va_up h0 q (some (.inr (6, pl0)))) (fun h t => gw D classes A h t.heap) A) 0 0 A := by
  refine Met.ofW (cc := b_Place_init) (maxL := 1) (ret := none) (by decide) rfl ?_
  intro p e s m args below meth c s₁ B9 hml hv
  obtain ⟨rfl, hxB, hA, hg, hK⟩ := hv
  have hx := B9.exec
  have hb := B9.bytes
  have hr := B9.returns
  have hts := atoms_spec (ws := (.code y_Place_init b_Place_init 1 none :: lw_g)) B9.pre
  have hgt : ∀ w ∈ lw_g, w.before _ s = true := fun w h => hts w (List.mem_cons_of_mem _ h)
  have hown : s.vm.findClass R_Place = some m.cls := findClass_of_methodNamed B9.named
  have hin : meth.name = "<init>" := (name_of_methodNamed B9.named B9.method).1
  have hS : va_S A s.heap s.heap [] := va_S.rf
  have hl := lv_entry ([.ref q]) (n := 1) (Nat.le_of_ble_eq_true rfl)
  rw [lg_entry_eq]
  generalize (lg_sl ([.ref q]) ++ List.replicate (1 - (lg_sl ([.ref q])).length) Slot.unset).toArray = ls at hl ⊢
  have hl : lv_has ls 1 [(0, .ref q)] := hl
  refine lv_aload_n hx hb d_Place_init_0 rfl (lv_at hl 0 rfl) ?_
  refine W.objInit hx hb hown (hgt _ k_Place_m3) (hgt _ kO_i) (hgt _ kO_c) rfl (by rw [hml]; exact hl.1) rfl d_Place_init_1 (Nat.le_of_ble_eq_true rfl) (Nat.le_of_ble_eq_true rfl) ?_
  refine W.eq (g2 := F0 m 4 ls []) rfl ?_
  refine lv_aload_n hx hb d_Place_init_4 rfl (lv_at hl 0 rfl) ?_
  refine lv_bipush (v := 32) hx hb d_Place_init_5 (by decide) ?_
  refine g_put hx hb hgt in_Place ty_Place ty_Place_ok nm_Place hown hK hg hS hq rfl 0 (by decide) (hgt _ k_Place_f11) (fun _ h9 => h9) rfl (ty := .char) (by decide +kernel) (by decide) (by decide) (by show 0 < 5; decide) d_Place_init_7 (fun H locs hg hS => ?_)
  refine W.vret hx hb hr (v_end hg hS ?_) hS.2.2 d_Place_init_10
  exact rfl
set_option maxHeartbeats 4000000 in
set_option maxRecDepth 100000 in
theorem k_Binding_init_new (l : Launch) (a0 : Array Value) (s0 : State) (G : G0 l a0 s0) (D : va_G) (T : Nat → ClassId) (A : Nat → Prop) (hA0 : ∀ q, A q → s0.heap.size ≤ q) (h0 : Nat → Option va_E) (q : Nat) (hq : h0 q = some (.inr (5, [.null, .int 0, .null]))) : Met l y_Binding_init (.code y_Binding_init b_Binding_init 1 none :: lw_g) ({ frames := 2, cells := 1, slots := 5, locals := 40 }) (va_Pc [.ref q] (wd s0 D T A h0)) (va_Qv (fun h => kp h0 q h ∧ ∃ x, h0 x = none ∧ h q = some (.inr (5, [.ref x, .int 0, .null])) ∧ h x = some (.inr (6, pl0))) (fun h t => gw D classes A h t.heap) A) 1 5 A := by
  refine Met.ofW (cc := b_Binding_init) (maxL := 1) (ret := none) (by decide) rfl ?_
  intro p e s m args below meth c s₁ B9 hml hv
  obtain ⟨rfl, hxB, hA, hg, hK⟩ := hv
  have hx := B9.exec
  have hb := B9.bytes
  have hr := B9.returns
  have hts := atoms_spec (ws := (.code y_Binding_init b_Binding_init 1 none :: lw_g)) B9.pre
  have hgt : ∀ w ∈ lw_g, w.before _ s = true := fun w h => hts w (List.mem_cons_of_mem _ h)
  have hown : s.vm.findClass R_Binding = some m.cls := findClass_of_methodNamed B9.named
  have hin : meth.name = "<init>" := (name_of_methodNamed B9.named B9.method).1
  have hS : va_S A s.heap s.heap [] := va_S.rf
  have hl := lv_entry ([.ref q]) (n := 1) (Nat.le_of_ble_eq_true rfl)
  rw [lg_entry_eq]
  generalize (lg_sl ([.ref q]) ++ List.replicate (1 - (lg_sl ([.ref q])).length) Slot.unset).toArray = ls at hl ⊢
  have hl : lv_has ls 1 [(0, .ref q)] := hl
  refine lv_aload_n hx hb d_Binding_init_0 rfl (lv_at hl 0 rfl) ?_
  refine W.objInit hx hb hown (hgt _ k_Binding_m1) (hgt _ kO_i) (hgt _ kO_c) rfl (by rw [hml]; exact hl.1) rfl d_Binding_init_1 (Nat.le_of_ble_eq_true rfl) (Nat.le_of_ble_eq_true rfl) ?_
  refine W.eq (g2 := F0 m 4 ls []) rfl ?_
  refine lv_aload_n hx hb d_Binding_init_4 rfl (lv_at hl 0 rfl) ?_
  refine g_new hx hb hgt in_Place ty_Place ty_Place_ok hown (hgt _ k_Binding_c7) (hgt _ k_Place_inst) (hgt _ k_Place_ini) hK hg hS hA (ci := 6) rfl (fs := [.int 0, .int 0, .null, .null, .null]) (by decide +kernel) (Nat.le_of_ble_eq_true rfl) (Nat.le_of_ble_eq_true rfl) d_Binding_init_5 (fun x H hn_x hg hS => ?_)
  refine lv_dup hx hb d_Binding_init_8 rfl ?_
  refine va_callv (IN_run (As := []) (rest := [.ref x, .ref q]) (n := 0) hx hb hml hgt hown G hxB hA0 hA hK hg hS (k_Place_init_new l a0 s0 G D T A hA0 _ x (va_up_self _ _ _)) kc_Place_init k_Binding_mn9 ki_Place_init rfl k_Place_ini rfl rfl (by decide +kernel) ⟨Nat.le_of_ble_eq_true rfl, Nat.le_of_ble_eq_true rfl⟩ rfl hl.1 rfl (lv_room (Nat.le_of_ble_eq_true rfl)) d_Binding_init_9 ⟨Nat.le_of_ble_eq_true rfl, Nat.le_of_ble_eq_true rfl⟩) hS (fun q _ h => h) (fun q h => h) (fun h2 t H1 locs1 ht hvm hw hB hz hk9 hS => ?_)
  replace hg : gw D classes A h2 H1 := by rw [← ht]; exact hB
  obtain rfl := hw
  rw [bx_uu] at hg
  refine g_putF hx hb hgt in_Binding ty_Binding ty_Binding_ok nm_Binding hown hK hg hS (g_upn _ hn_x hq) rfl 0 (by decide) (hgt _ k_Binding_f10) (fun _ h9 => h9) rfl hin rfl (ty := .object "ContinuationCore$Place") (by decide +kernel) rfl rfl (by show 0 < 3; decide) d_Binding_init_12 (fun H locs hg hS => ?_)
  refine W.vret hx hb hr (v_end hg hS ?_) hS.2.2 d_Binding_init_15
  exact ⟨((kp.rf h0 q).new hn_x _).self _, x, hn_x, va_up_self _ _ _, by rw [va_up_ne _ _ (fun z => by rw [z, hq] at hn_x; cases hn_x), va_up_self]⟩
set_option maxHeartbeats 4000000 in
set_option maxRecDepth 100000 in
theorem k_Binding_become_n_new (l : Launch) (a0 : Array Value) (s0 : State) (G : G0 l a0 s0) (D : va_G) (T : Nat → ClassId) (A : Nat → Prop) (hA0 : ∀ q, A q → s0.heap.size ≤ q) (h0 : Nat → Option va_E) (q : Nat) (k : Int32) (x : Nat) (y1 y2 : Value) (hq : h0 q = some (.inr (5, [.ref x, y1, y2]))) : Met l y_Binding_become (.code y_Binding_become b_Binding_become 3 none :: lw_g) ({ frames := 0, cells := 0, slots := 0, locals := 0 }) (va_Pc [.ref q, .int k, .null] (wd s0 D T A h0)) (va_Qv (fun h => h = va_up h0 q (some (.inr (5, [.ref x, .int k, .null])))) (fun h t => gw D classes A h t.heap) A) 0 0 A := by
  refine Met.ofW (cc := b_Binding_become) (maxL := 3) (ret := none) (by decide) rfl ?_
  intro p e s m args below meth c s₁ B9 hml hv
  obtain ⟨rfl, hxB, hA, hg, hK⟩ := hv
  have hx := B9.exec
  have hb := B9.bytes
  have hr := B9.returns
  have hts := atoms_spec (ws := (.code y_Binding_become b_Binding_become 3 none :: lw_g)) B9.pre
  have hgt : ∀ w ∈ lw_g, w.before _ s = true := fun w h => hts w (List.mem_cons_of_mem _ h)
  have hown : s.vm.findClass R_Binding = some m.cls := findClass_of_methodNamed B9.named
  have hS : va_S A s.heap s.heap [] := va_S.rf
  have hl := lv_entry ([.ref q, .int k, .null]) (n := 3) (Nat.le_of_ble_eq_true rfl)
  rw [lg_entry_eq]
  generalize (lg_sl ([.ref q, .int k, .null]) ++ List.replicate (3 - (lg_sl ([.ref q, .int k, .null])).length) Slot.unset).toArray = ls at hl ⊢
  have hl : lv_has ls 3 [(0, .ref q), (1, .int k), (2, .null)] := hl
  refine lv_aload_n hx hb d_Binding_become_0 rfl (lv_at hl 0 rfl) ?_
  refine lv_iload_n hx hb d_Binding_become_1 rfl (lv_at hl 1 rfl) ?_
  refine g_put hx hb hgt in_Binding ty_Binding ty_Binding_ok nm_Binding hown hK hg hS hq rfl 1 (by decide) (hgt _ k_Binding_f16) (fun _ h9 => h9) rfl (ty := .int) (by decide +kernel) rfl rfl (by show 1 < 3; decide) d_Binding_become_2 (fun H locs hg hS => ?_)
  refine lv_aload_n hx hb d_Binding_become_5 rfl (lv_at hl 0 rfl) ?_
  refine lv_aload_nN hx hb d_Binding_become_6 rfl (lv_at hl 2 rfl) ?_
  refine g_put hx hb hgt in_Binding ty_Binding ty_Binding_ok nm_Binding hown hK hg hS (va_up_self _ _ _) rfl 2 (by decide) (hgt _ k_Binding_f20) (fun _ h9 => h9) rfl (ty := .object "ContinuationCore$Binding") (by decide +kernel) rfl rfl (by show 2 < 3; decide) d_Binding_become_7 (fun H locs hg hS => ?_)
  rw [bx_uu] at hg
  refine W.vret hx hb hr (v_end hg hS ?_) hS.2.2 d_Binding_become_10
  exact rfl
set_option maxHeartbeats 4000000 in
set_option maxRecDepth 100000 in
theorem k_Binding_become_s_new (l : Launch) (a0 : Array Value) (s0 : State) (G : G0 l a0 s0) (D : va_G) (T : Nat → ClassId) (A : Nat → Prop) (hA0 : ∀ q, A q → s0.heap.size ≤ q) (h0 : Nat → Option va_E) (q : Nat) (k : Int32) (b : Nat) (x : Nat) (y1 y2 : Value) (hq : h0 q = some (.inr (5, [.ref x, y1, y2]))) : Met l y_Binding_become (.code y_Binding_become b_Binding_become 3 none :: lw_g) ({ frames := 0, cells := 0, slots := 0, locals := 0 }) (va_Pc [.ref q, .int k, .ref b] (wd s0 D T A h0)) (va_Qv (fun h => h = va_up h0 q (some (.inr (5, [.ref x, .int k, .ref b])))) (fun h t => gw D classes A h t.heap) A) 0 0 A := by
  refine Met.ofW (cc := b_Binding_become) (maxL := 3) (ret := none) (by decide) rfl ?_
  intro p e s m args below meth c s₁ B9 hml hv
  obtain ⟨rfl, hxB, hA, hg, hK⟩ := hv
  have hx := B9.exec
  have hb := B9.bytes
  have hr := B9.returns
  have hts := atoms_spec (ws := (.code y_Binding_become b_Binding_become 3 none :: lw_g)) B9.pre
  have hgt : ∀ w ∈ lw_g, w.before _ s = true := fun w h => hts w (List.mem_cons_of_mem _ h)
  have hown : s.vm.findClass R_Binding = some m.cls := findClass_of_methodNamed B9.named
  have hS : va_S A s.heap s.heap [] := va_S.rf
  have hl := lv_entry ([.ref q, .int k, .ref b]) (n := 3) (Nat.le_of_ble_eq_true rfl)
  rw [lg_entry_eq]
  generalize (lg_sl ([.ref q, .int k, .ref b]) ++ List.replicate (3 - (lg_sl ([.ref q, .int k, .ref b])).length) Slot.unset).toArray = ls at hl ⊢
  have hl : lv_has ls 3 [(0, .ref q), (1, .int k), (2, .ref b)] := hl
  refine lv_aload_n hx hb d_Binding_become_0 rfl (lv_at hl 0 rfl) ?_
  refine lv_iload_n hx hb d_Binding_become_1 rfl (lv_at hl 1 rfl) ?_
  refine g_put hx hb hgt in_Binding ty_Binding ty_Binding_ok nm_Binding hown hK hg hS hq rfl 1 (by decide) (hgt _ k_Binding_f16) (fun _ h9 => h9) rfl (ty := .int) (by decide +kernel) rfl rfl (by show 1 < 3; decide) d_Binding_become_2 (fun H locs hg hS => ?_)
  refine lv_aload_n hx hb d_Binding_become_5 rfl (lv_at hl 0 rfl) ?_
  refine lv_aload_n hx hb d_Binding_become_6 rfl (lv_at hl 2 rfl) ?_
  refine g_put hx hb hgt in_Binding ty_Binding ty_Binding_ok nm_Binding hown hK hg hS (va_up_self _ _ _) rfl 2 (by decide) (hgt _ k_Binding_f20) (fun _ h9 => h9) rfl (ty := .object "ContinuationCore$Binding") (by decide +kernel) rfl rfl (by show 2 < 3; decide) d_Binding_become_7 (fun H locs hg hS => ?_)
  rw [bx_uu] at hg
  refine W.vret hx hb hr (v_end hg hS ?_) hS.2.2 d_Binding_become_10
  exact rfl
set_option maxHeartbeats 4000000 in
set_option maxRecDepth 100000 in
theorem k_Pair_init_new (l : Launch) (a0 : Array Value) (s0 : State) (G : G0 l a0 s0) (D : va_G) (T : Nat → ClassId) (A : Nat → Prop) (hA0 : ∀ q, A q → s0.heap.size ≤ q) (h0 : Nat → Option va_E) (q : Nat) (hq : h0 q = some (.inr (7, [.null, .null]))) : Met l y_Pair_init (.code y_Pair_init b_Pair_init 1 none :: lw_g) ({ frames := 2, cells := 2, slots := 10, locals := 40 }) (va_Pc [.ref q] (wd s0 D T A h0)) (va_Qv (fun h => kp h0 q h ∧ ∃ fs, h q = some (.inr (7, fs))) (fun h t => gw D classes A h t.heap) A) 2 10 A := by
  refine Met.ofW (cc := b_Pair_init) (maxL := 1) (ret := none) (by decide) rfl ?_
  intro p e s m args below meth c s₁ B9 hml hv
  obtain ⟨rfl, hxB, hA, hg, hK⟩ := hv
  have hx := B9.exec
  have hb := B9.bytes
  have hr := B9.returns
  have hts := atoms_spec (ws := (.code y_Pair_init b_Pair_init 1 none :: lw_g)) B9.pre
  have hgt : ∀ w ∈ lw_g, w.before _ s = true := fun w h => hts w (List.mem_cons_of_mem _ h)
  have hown : s.vm.findClass R_Pair = some m.cls := findClass_of_methodNamed B9.named
  have hin : meth.name = "<init>" := (name_of_methodNamed B9.named B9.method).1
  have hS : va_S A s.heap s.heap [] := va_S.rf
  have hl := lv_entry ([.ref q]) (n := 1) (Nat.le_of_ble_eq_true rfl)
  rw [lg_entry_eq]
  generalize (lg_sl ([.ref q]) ++ List.replicate (1 - (lg_sl ([.ref q])).length) Slot.unset).toArray = ls at hl ⊢
  have hl : lv_has ls 1 [(0, .ref q)] := hl
  refine lv_aload_n hx hb d_Pair_init_0 rfl (lv_at hl 0 rfl) ?_
  refine W.objInit hx hb hown (hgt _ k_Pair_m1) (hgt _ kO_i) (hgt _ kO_c) rfl (by rw [hml]; exact hl.1) rfl d_Pair_init_1 (Nat.le_of_ble_eq_true rfl) (Nat.le_of_ble_eq_true rfl) ?_
  refine W.eq (g2 := F0 m 4 ls []) rfl ?_
  refine lv_aload_n hx hb d_Pair_init_4 rfl (lv_at hl 0 rfl) ?_
  refine g_new hx hb hgt in_Place ty_Place ty_Place_ok hown (hgt _ k_Pair_c7) (hgt _ k_Place_inst) (hgt _ k_Place_ini) hK hg hS hA (ci := 6) rfl (fs := [.int 0, .int 0, .null, .null, .null]) (by decide +kernel) (Nat.le_of_ble_eq_true rfl) (Nat.le_of_ble_eq_true rfl) d_Pair_init_5 (fun x H hn_x hg hS => ?_)
  refine lv_dup hx hb d_Pair_init_8 rfl ?_
  refine va_callv (IN_run (As := []) (rest := [.ref x, .ref q]) (n := 0) hx hb hml hgt hown G hxB hA0 hA hK hg hS (k_Place_init_new l a0 s0 G D T A hA0 _ x (va_up_self _ _ _)) kc_Place_init k_Pair_mn9 ki_Place_init rfl k_Place_ini rfl rfl (by decide +kernel) ⟨Nat.le_of_ble_eq_true rfl, Nat.le_of_ble_eq_true rfl⟩ rfl hl.1 rfl (lv_room (Nat.le_of_ble_eq_true rfl)) d_Pair_init_9 ⟨Nat.le_of_ble_eq_true rfl, Nat.le_of_ble_eq_true rfl⟩) hS (fun q _ h => h) (fun q h => h) (fun h2 t H1 locs1 ht hvm hw hB hz hk9 hS => ?_)
  replace hg : gw D classes A h2 H1 := by rw [← ht]; exact hB
  obtain rfl := hw
  rw [bx_uu] at hg
  refine g_putF hx hb hgt in_Pair ty_Pair ty_Pair_ok nm_Pair hown hK hg hS (g_upn _ hn_x hq) rfl 0 (by decide) (hgt _ k_Pair_f10) (fun _ h9 => h9) rfl hin rfl (ty := .object "ContinuationCore$Place") (by decide +kernel) rfl rfl (by show 0 < 2; decide) d_Pair_init_12 (fun H locs hg hS => ?_)
  refine lv_aload_n hx hb d_Pair_init_15 rfl (lv_at hl 0 rfl) ?_
  refine g_new hx hb hgt in_Place ty_Place ty_Place_ok hown (hgt _ k_Pair_c7) (hgt _ k_Place_inst) (hgt _ k_Place_ini) hK hg hS hA (ci := 6) rfl (fs := [.int 0, .int 0, .null, .null, .null]) (by decide +kernel) (Nat.le_of_ble_eq_true rfl) (Nat.le_of_ble_eq_true rfl) d_Pair_init_16 (fun x2 H hn_x2 hg hS => ?_)
  refine lv_dup hx hb d_Pair_init_19 rfl ?_
  refine va_callv (IN_run (As := []) (rest := [.ref x2, .ref q]) (n := 0) hx hb hml hgt hown G hxB hA0 hA hK hg hS (k_Place_init_new l a0 s0 G D T A hA0 _ x2 (va_up_self _ _ _)) kc_Place_init k_Pair_mn9 ki_Place_init rfl k_Place_ini rfl rfl (by decide +kernel) ⟨Nat.le_of_ble_eq_true rfl, Nat.le_of_ble_eq_true rfl⟩ rfl hl.1 rfl (lv_room (Nat.le_of_ble_eq_true rfl)) d_Pair_init_20 ⟨Nat.le_of_ble_eq_true rfl, Nat.le_of_ble_eq_true rfl⟩) hS (fun q _ h => h) (fun q h => h) (fun h2 t H1 locs1 ht hvm hw hB hz hk9 hS => ?_)
  replace hg : gw D classes A h2 H1 := by rw [← ht]; exact hB
  obtain rfl := hw
  rw [bx_uu] at hg
  refine g_putF hx hb hgt in_Pair ty_Pair ty_Pair_ok nm_Pair hown hK hg hS (g_upn _ hn_x2 (va_up_self _ _ _)) rfl 1 (by decide) (hgt _ k_Pair_f16) (fun _ h9 => h9) rfl hin rfl (ty := .object "ContinuationCore$Place") (by decide +kernel) rfl rfl (by show 1 < 2; decide) d_Pair_init_23 (fun H locs hg hS => ?_)
  refine W.vret hx hb hr (v_end hg hS ?_) hS.2.2 d_Pair_init_26
  exact ⟨((((kp.rf h0 q).new hn_x _).self _).new hn_x2 _).self _, _, va_up_self _ _ _⟩
set_option maxHeartbeats 4000000 in
set_option maxRecDepth 100000 in
theorem k_Expression_init_new (l : Launch) (a0 : Array Value) (s0 : State) (G : G0 l a0 s0) (D : va_G) (T : Nat → ClassId) (A : Nat → Prop) (hA0 : ∀ q, A q → s0.heap.size ≤ q) (h0 : Nat → Option va_E) (q : Nat) (hq : h0 q = some (.inr (3, [.int 0, .int 0, .int 0, .int 0, .null, .null]))) : Met l y_Expression_init (.code y_Expression_init b_Expression_init 1 none :: lw_g) ({ frames := 1, cells := 2, slots := 7, locals := 12 }) (va_Pc [.ref q] (wd s0 D T A h0)) (va_Qv (fun h => kp h0 q h ∧ ∃ x z, h0 x = none ∧ h0 z = none ∧ h q = some (.inr (3, [.int 0, .int 0, .int 0, .int 0, .ref x, .ref z])) ∧ h x = some (.inl (T 0, 3, .inl (fun _ => 0))) ∧ h z = some (.inl (T 5, 4, vQ (fun _ => none)))) (fun h t => gw D classes A h t.heap) A) 2 7 A := by
  refine Met.ofW (cc := b_Expression_init) (maxL := 1) (ret := none) (by decide) rfl ?_
  intro p e s m args below meth c s₁ B9 hml hv
  obtain ⟨rfl, hxB, hA, hg, hK⟩ := hv
  have hx := B9.exec
  have hb := B9.bytes
  have hr := B9.returns
  have hts := atoms_spec (ws := (.code y_Expression_init b_Expression_init 1 none :: lw_g)) B9.pre
  have hgt : ∀ w ∈ lw_g, w.before _ s = true := fun w h => hts w (List.mem_cons_of_mem _ h)
  have hown : s.vm.findClass R_Expression = some m.cls := findClass_of_methodNamed B9.named
  have hin : meth.name = "<init>" := (name_of_methodNamed B9.named B9.method).1
  have hS : va_S A s.heap s.heap [] := va_S.rf
  have hl := lv_entry ([.ref q]) (n := 1) (Nat.le_of_ble_eq_true rfl)
  rw [lg_entry_eq]
  generalize (lg_sl ([.ref q]) ++ List.replicate (1 - (lg_sl ([.ref q])).length) Slot.unset).toArray = ls at hl ⊢
  have hl : lv_has ls 1 [(0, .ref q)] := hl
  refine lv_aload_n hx hb d_Expression_init_0 rfl (lv_at hl 0 rfl) ?_
  refine W.objInit hx hb hown (hgt _ k_Expression_m1) (hgt _ kO_i) (hgt _ kO_c) rfl (by rw [hml]; exact hl.1) rfl d_Expression_init_1 (Nat.le_of_ble_eq_true rfl) (Nat.le_of_ble_eq_true rfl) ?_
  refine W.eq (g2 := F0 m 4 ls []) rfl ?_
  refine lv_aload_n hx hb d_Expression_init_4 rfl (lv_at hl 0 rfl) ?_
  refine lv_iconst (v := 3) hx hb d_Expression_init_5 (by decide) ?_
  refine g_newp (atype := .int) (ty := .int) hx hb (hgt _ kA_int) rfl hK hg hS hA 3 (by decide) (by decide) 0 rfl (fun _ => rfl) (by decide) (Nat.le_of_ble_eq_true rfl) (Nat.le_of_ble_eq_true rfl) d_Expression_init_6 (fun x H hn_x hg hS => ?_)
  refine g_putF hx hb hgt in_Expression ty_Expression ty_Expression_ok nm_Expression hown hK hg hS (g_upn _ hn_x hq) rfl 4 (by decide) (hgt _ k_Expression_f9) (fun _ h9 => h9) rfl hin rfl (ty := .array .int) (by decide +kernel) rfl rfl (by show 4 < 6; decide) d_Expression_init_8 (fun H locs hg hS => ?_)
  refine lv_aload_n hx hb d_Expression_init_11 rfl (lv_at hl 0 rfl) ?_
  refine lv_iconst (v := 4) hx hb d_Expression_init_12 (by decide) ?_
  refine g_newq hx hb hown (hgt _ k_Expression_c7) (G.ao hxB k_ao_Expression) hK hg hS hA 4 (by decide) (by decide) 5 rfl (Nat.le_of_ble_eq_true rfl) (Nat.le_of_ble_eq_true rfl) d_Expression_init_13 (fun z H hn_z hg hS => ?_)
  refine g_putF hx hb hgt in_Expression ty_Expression ty_Expression_ok nm_Expression hown hK hg hS (g_upn _ hn_z (va_up_self _ _ _)) rfl 5 (by decide) (hgt _ k_Expression_f13) (fun _ h9 => h9) rfl hin rfl (ty := .array (.object "ContinuationCore$Expression")) (by decide +kernel) rfl rfl (by show 5 < 6; decide) d_Expression_init_16 (fun H locs hg hS => ?_)
  have hk1 : kp h0 q (va_up (va_up h0 x (some (.inl (T 0, 3, .inl (fun _ => 0))))) q (some (.inr (3, [.int 0, .int 0, .int 0, .int 0, .ref x, .null])))) := ((kp.rf h0 q).new hn_x _).self _
  have hxq : x ≠ q := fun w => by rw [w, hq] at hn_x; cases hn_x
  have hzx : z ≠ x := fun w => by rw [w, va_up_ne _ _ hxq, va_up_self] at hn_z; cases hn_z
  have hzq : z ≠ q := fun w => by rw [w, va_up_self] at hn_z; cases hn_z
  refine W.vret hx hb hr (v_end hg hS ?_) hS.2.2 d_Expression_init_19
  exact ⟨(hk1.new hn_z _).self _, x, z, hn_x, kp.fresh hk1 (va_up_self _ _ _) hn_z, va_up_self _ _ _, by rw [va_up_ne _ _ hxq, va_up_ne _ _ hzx.symm, va_up_ne _ _ hxq, va_up_self], by rw [va_up_ne _ _ hzq, va_up_self]⟩
set_option maxHeartbeats 4000000 in
set_option maxRecDepth 100000 in
theorem k_AB_init_new (l : Launch) (a0 : Array Value) (s0 : State) (G : G0 l a0 s0) (D : va_G) (T : Nat → ClassId) (A : Nat → Prop) (hA0 : ∀ q, A q → s0.heap.size ≤ q) (h0 : Nat → Option va_E) (q : Nat) (hq : h0 q = some (.inr (8, [.null, .int 0, .int 0, .int 0]))) : Met l y_AB_init (.code y_AB_init b_AB_init 2 none :: lw_g) ({ frames := 1, cells := 1, slots := 16, locals := 20 }) (va_Pc [.ref q, .int 16] (wd s0 D T A h0)) (va_Qv (fun h => kp h0 q h ∧ ∃ fs, h q = some (.inr (8, fs))) (fun h t => gw D classes A h t.heap) A) 1 16 A := by
  refine Met.ofW (cc := b_AB_init) (maxL := 2) (ret := none) (by decide) rfl ?_
  intro p e s m args below meth c s₁ B9 hml hv
  obtain ⟨rfl, hxB, hA, hg, hK⟩ := hv
  have hx := B9.exec
  have hb := B9.bytes
  have hr := B9.returns
  have hts := atoms_spec (ws := (.code y_AB_init b_AB_init 2 none :: lw_g)) B9.pre
  have hgt : ∀ w ∈ lw_g, w.before _ s = true := fun w h => hts w (List.mem_cons_of_mem _ h)
  have hown : s.vm.findClass R_AB = some m.cls := findClass_of_methodNamed B9.named
  have hin : meth.name = "<init>" := (name_of_methodNamed B9.named B9.method).1
  have hS : va_S A s.heap s.heap [] := va_S.rf
  have hl := lv_entry ([.ref q, .int 16]) (n := 2) (Nat.le_of_ble_eq_true rfl)
  rw [lg_entry_eq]
  generalize (lg_sl ([.ref q, .int 16]) ++ List.replicate (2 - (lg_sl ([.ref q, .int 16])).length) Slot.unset).toArray = ls at hl ⊢
  have hl : lv_has ls 2 [(0, .ref q), (1, .int 16)] := hl
  refine lv_aload_n hx hb d_AB_init_0 rfl (lv_at hl 0 rfl) ?_
  refine W.objInit hx hb hown (hgt _ k_AB_m3) (hgt _ kO_i) (hgt _ kO_c) rfl (by rw [hml]; exact hl.1) rfl d_AB_init_1 (Nat.le_of_ble_eq_true rfl) (Nat.le_of_ble_eq_true rfl) ?_
  refine W.eq (g2 := F0 m 4 ls []) rfl ?_
  obtain ⟨sq, sv, hstr⟩ := G.2.2.2.1
  have hZ : va_Z "java/lang/String" "COMPACT_STRINGS" "Z" (.int 1) A s s.heap := (va_Z.moved hxB.1.alike (va_Z.reg hstr.1.1 hA0)).kept (fun a ha _ => hxB.2.2 a ha)
  refine va_gets (v := .int 1) hx hb hZ hS hown (hgt _ k_AB_f18) (fun _ h9 => h9) d_AB_init_4 ?_
  refine lv_if_eq (tgt := 25) hx hb d_AB_init_7 (by decide) (fun c_7 => absurd c_7 (by decide)) (fun c_7 => ?_)
  refine lv_aload_n hx hb d_AB_init_10 rfl (lv_at hl 0 rfl) ?_
  refine lv_iload_n hx hb d_AB_init_11 rfl (lv_at hl 1 rfl) ?_
  refine g_newp (atype := .byte) (ty := .byte) hx hb (hgt _ kA_byte) rfl hK hg hS hA 16 (by decide) (by decide) 4 rfl (fun _ => rfl) (by decide) (Nat.le_of_ble_eq_true rfl) (Nat.le_of_ble_eq_true rfl) d_AB_init_12 (fun x H hn_x hg hS => ?_)
  refine g_put hx hb hgt in_SB ty_SB ty_SB_ok nm_SB hown hK hg hS (g_upn _ hn_x hq) rfl 0 (by decide) (hgt _ k_AB_f15) (fun _ h9 => h9) rfl (ty := .array .byte) (by decide +kernel) rfl rfl (by show 0 < 4; decide) d_AB_init_14 (fun H locs hg hS => ?_)
  refine lv_aload_n hx hb d_AB_init_17 rfl (lv_at hl 0 rfl) ?_
  refine lv_iconst (v := 0) hx hb d_AB_init_18 (by decide) ?_
  refine g_put hx hb hgt in_SB ty_SB ty_SB_ok nm_SB hown hK hg hS (va_up_self _ _ _) rfl 1 (by decide) (hgt _ k_AB_f22) (fun _ h9 => h9) rfl (ty := .byte) (by decide +kernel) (by decide) (by decide) (by show 1 < 4; decide) d_AB_init_19 (fun H locs hg hS => ?_)
  refine lv_goto (tgt := 38) hx hb d_AB_init_22 (by decide) ?_
  refine W.vret hx hb hr (v_end hg hS ?_) hS.2.2 d_AB_init_38
  exact ⟨(((kp.rf h0 q).new hn_x _).self _).self _, _, va_up_self _ _ _⟩
set_option maxHeartbeats 4000000 in
set_option maxRecDepth 100000 in
theorem k_SB_init_new (l : Launch) (a0 : Array Value) (s0 : State) (G : G0 l a0 s0) (D : va_G) (T : Nat → ClassId) (A : Nat → Prop) (hA0 : ∀ q, A q → s0.heap.size ≤ q) (h0 : Nat → Option va_E) (q : Nat) (hq : h0 q = some (.inr (8, [.null, .int 0, .int 0, .int 0]))) : Met l y_SB_init (.code y_SB_init b_SB_init 1 none :: lw_g) ({ frames := 2, cells := 1, slots := 16, locals := 50 }) (va_Pc [.ref q] (wd s0 D T A h0)) (va_Qv (fun h => kp h0 q h ∧ ∃ fs, h q = some (.inr (8, fs))) (fun h t => gw D classes A h t.heap) A) 1 16 A := by
  refine Met.ofW (cc := b_SB_init) (maxL := 1) (ret := none) (by decide) rfl ?_
  intro p e s m args below meth c s₁ B9 hml hv
  obtain ⟨rfl, hxB, hA, hg, hK⟩ := hv
  have hx := B9.exec
  have hb := B9.bytes
  have hr := B9.returns
  have hts := atoms_spec (ws := (.code y_SB_init b_SB_init 1 none :: lw_g)) B9.pre
  have hgt : ∀ w ∈ lw_g, w.before _ s = true := fun w h => hts w (List.mem_cons_of_mem _ h)
  have hown : s.vm.findClass R_SB = some m.cls := findClass_of_methodNamed B9.named
  have hin : meth.name = "<init>" := (name_of_methodNamed B9.named B9.method).1
  have hS : va_S A s.heap s.heap [] := va_S.rf
  have hl := lv_entry ([.ref q]) (n := 1) (Nat.le_of_ble_eq_true rfl)
  rw [lg_entry_eq]
  generalize (lg_sl ([.ref q]) ++ List.replicate (1 - (lg_sl ([.ref q])).length) Slot.unset).toArray = ls at hl ⊢
  have hl : lv_has ls 1 [(0, .ref q)] := hl
  refine lv_aload_n hx hb d_SB_init_0 rfl (lv_at hl 0 rfl) ?_
  refine lv_bipush (v := 16) hx hb d_SB_init_1 (by decide) ?_
  refine va_callv (I_run (As := [.int 16]) (rest := []) (n := 1) hx hb hml hgt hown hxB hA0 hA hK hg hS (k_AB_init_new l a0 s0 G D T A hA0 _ q hq) kc_AB_init k_SB_m1 ki_AB_init rfl k_AB_ini rfl rfl (by decide +kernel) ⟨Nat.le_of_ble_eq_true rfl, Nat.le_of_ble_eq_true rfl⟩ rfl hl.1 rfl (lv_room (Nat.le_of_ble_eq_true rfl)) d_SB_init_3 ⟨Nat.le_of_ble_eq_true rfl, Nat.le_of_ble_eq_true rfl⟩) hS (fun q _ h => h) (fun q h => h) (fun h2 t H1 locs1 ht hvm hw hB hz hk9 hS => ?_)
  replace hg : gw D classes A h2 H1 := by rw [← ht]; exact hB
  refine W.vret hx hb hr (v_end hg hS ?_) hS.2.2 d_SB_init_6
  exact hw
