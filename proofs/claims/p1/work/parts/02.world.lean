/-! THE WORLD AS A FUNCTION: h says of an address which cell lies there (of those that we speak of); A: where they may lie -/
def gw (D : va_G) (cl : List vw_C) (A : Nat → Prop) (h : Nat → Option va_E) (H : Heap) : Prop := ∀ (a : Nat) (e : va_E), h a = some e → A a ∧ va_at D cl (a, e) H
def gl (h : Nat → Option va_E) (n : Nat) : va_W := (List.range n).filterMap (fun a => (h a).map (fun e => (a, e)))
theorem gl_mem {h : Nat → Option va_E} {n : Nat} {q : Nat × va_E} (hq : q ∈ gl h n) : h q.1 = some q.2 := by
  obtain ⟨a, -, ha⟩ := List.mem_filterMap.mp hq
  cases he : h a with
  | none => rw [he] at ha; cases ha
  | some e => rw [he] at ha; cases ha; exact he
theorem gl_in {h : Nat → Option va_E} {n a : Nat} {e : va_E} (he : h a = some e) (hn : a < n) : ∃ k : Nat, (gl h n)[k]? = some (a, e) := by
  apply List.getElem?_of_mem
  refine List.mem_filterMap.mpr ⟨a, List.mem_range.mpr hn, ?_⟩
  rw [he]; rfl
theorem gw.lt {D : va_G} {cl : List vw_C} {A : Nat → Prop} {h : Nat → Option va_E} {H : Heap} (g : gw D cl A h H) {a : Nat} {e : va_E} (he : h a = some e) : a < H.size := (g a e he).2.lt
theorem gw.P {D : va_G} {cl : List vw_C} {A : Nat → Prop} {h : Nat → Option va_E} {H : Heap} (g : gw D cl A h H) (n : Nat) : va_P D cl (gl h n) H := fun _ q hk => (g q.1 q.2 (gl_mem (List.mem_of_getElem? hk))).2
theorem gl_pw (h : Nat → Option va_E) (n : Nat) : (gl h n).Pairwise (fun p q => p.1 < q.1) := by
  unfold gl
  rw [List.pairwise_filterMap]
  refine List.Pairwise.imp ?_ List.pairwise_lt_range
  intro a b hab p hp q hq
  cases ha : h a with
  | none => rw [ha] at hp; cases hp
  | some e =>
    cases hb : h b with
    | none => rw [hb] at hq; cases hq
    | some e2 =>
      rw [ha] at hp; rw [hb] at hq
      cases hp; cases hq
      exact hab
theorem gw.Dd {D : va_G} {cl : List vw_C} {A : Nat → Prop} {h : Nat → Option va_E} {H : Heap} (g : gw D cl A h H) (n : Nat) : va_D A (gl h n) := by
  refine ⟨fun i j p q hi hj hpq => ?_, fun k q hk => (g q.1 q.2 (gl_mem (List.mem_of_getElem? hk))).1⟩
  have pw := List.pairwise_iff_getElem.mp (gl_pw h n)
  obtain ⟨li, ei⟩ := List.getElem?_eq_some_iff.mp hi
  obtain ⟨lj, ej⟩ := List.getElem?_eq_some_iff.mp hj
  rcases Nat.lt_trichotomy i j with hl | hl | hl
  · have := pw i j li lj hl
    rw [ei, ej] at this
    omega
  · exact hl
  · have := pw j i lj li hl
    rw [ei, ej] at this
    omega
theorem gw.set {D : va_G} {cl : List vw_C} {A : Nat → Prop} {h : Nat → Option va_E} {H H1 : Heap} {n k a : Nat} {e e' : va_E} (g : gw D cl A h H) (hn : H.size ≤ n) (hk : (gl h n)[k]? = some (a, e)) (hP : va_P D cl ((gl h n).set k (a, e')) H1) : gw D cl A (va_up h a (some e')) H1 := by
  have hD := g.Dd n
  have hl := (List.getElem?_eq_some_iff.mp hk).1
  intro b x hx
  by_cases hb : b = a
  · subst hb
    rw [va_up_self] at hx
    cases hx
    exact ⟨hD.2 k _ hk, hP k (b, e') (by rw [List.getElem?_set_self hl])⟩
  · rw [va_up_ne _ _ hb] at hx
    obtain ⟨j, hj⟩ := gl_in hx (Nat.lt_of_lt_of_le (g.lt hx) hn)
    have hjk : j ≠ k := fun q => by
      subst q
      rw [hk] at hj
      exact hb (congrArg Prod.fst (Option.some.inj hj)).symm
    exact ⟨(g b x hx).1, hP j (b, x) (by rw [List.getElem?_set_ne (Ne.symm hjk)]; exact hj)⟩
theorem gw.push {D : va_G} {cl : List vw_C} {A : Nat → Prop} {h : Nat → Option va_E} {H H1 : Heap} {n q : Nat} {e : va_E} (g : gw D cl A h H) (hn : H.size ≤ n) (hP : va_P D cl (gl h n ++ [(q, e)]) H1) (hD : va_D A (gl h n ++ [(q, e)])) : h q = none ∧ gw D cl A (va_up h q (some e)) H1 := by
  have hlast : (gl h n ++ [(q, e)])[(gl h n).length]? = some (q, e) := by
    rw [List.getElem?_append_right (Nat.le_refl _), Nat.sub_self]; rfl
  have hold : ∀ (b : Nat) (x : va_E), h b = some x → ∃ j : Nat, j < (gl h n).length ∧ (gl h n ++ [(q, e)])[j]? = some (b, x) := fun b x hx => by
    obtain ⟨j, hj⟩ := gl_in hx (Nat.lt_of_lt_of_le (g.lt hx) hn)
    have hl := (List.getElem?_eq_some_iff.mp hj).1
    exact ⟨j, hl, by rw [List.getElem?_append_left hl]; exact hj⟩
  refine ⟨?_, fun b x hx => ?_⟩
  · cases hq : h q with
    | none => rfl
    | some x =>
      obtain ⟨j, hl, hj⟩ := hold q x hq
      have := hD.1 j _ _ _ hj hlast rfl
      omega
  · by_cases hb : b = q
    · subst hb
      rw [va_up_self] at hx
      cases hx
      exact ⟨hD.2 _ _ hlast, hP _ _ hlast⟩
    · rw [va_up_ne _ _ hb] at hx
      obtain ⟨j, -, hj⟩ := hold b x hx
      exact ⟨hD.2 _ _ hj, hP _ _ hj⟩
theorem gw.one {D : va_G} {cl : List vw_C} {A : Nat → Prop} {h : Nat → Option va_E} {H : Heap} (g : gw D cl A h H) {a : Nat} {e : va_E} (he : h a = some e) : va_P D cl [(a, e)] H := fun k q hk => by
  have hz : k < 1 := (List.getElem?_eq_some_iff.mp hk).1
  rw [show k = 0 by omega] at hk
  cases hk
  exact (g a e he).2
theorem gw.kept {D : va_G} {cl : List vw_C} {A A2 : Nat → Prop} {h : Nat → Option va_E} {H H1 : Heap} (g : gw D cl A h H) (hk : ∀ q : Nat, q < H.size → ¬ A2 q → H1[q]? = H[q]?) (hd : ∀ q, A q → ¬ A2 q) : gw D cl A h H1 := fun a e he => ⟨(g a e he).1, (g a e he).2.kept (hk a (g.lt he) (hd a (g a e he).1))⟩
theorem gw.weaken {D : va_G} {cl : List vw_C} {A A2 : Nat → Prop} {h : Nat → Option va_E} {H : Heap} (g : gw D cl A h H) (hd : ∀ (q : Nat) (e : va_E), h q = some e → A q → A2 q) : gw D cl A2 h H := fun a e he => ⟨hd a e he (g a e he).1, (g a e he).2⟩
/-- addresses with different cells differ -/
theorem g_ne {h : Nat → Option va_E} {a b : Nat} {x y : va_E} (ha : h a = some x) (hb : h b = some y) (hxy : x ≠ y) : a ≠ b := fun q => hxy (Option.some.inj (ha.symm.trans (by rw [q]; exact hb)))
theorem g_up {h : Nat → Option va_E} {a b : Nat} {x y : va_E} (v : Option va_E) (ha : h a = some x) (hb : h b = some y) (hxy : x ≠ y) : va_up h a v b = some y := by rw [va_up_ne _ _ (g_ne ha hb hxy).symm]; exact hb
theorem g_upn {h : Nat → Option va_E} {a b : Nat} {y : va_E} (v : Option va_E) (ha : h a = none) (hb : h b = some y) : va_up h a v b = some y := by
  rw [va_up_ne _ _ (fun q => by rw [q, ha] at hb; cases hb)]; exact hb
/-- a method's start and end in such a world -/
def gP (D : va_G) (cl : List vw_C) (tys : List (ClassId × FieldType)) (A : Nat → Prop) (h : Nat → Option va_E) : State → Prop := fun U => (∀ q, U.heap.size ≤ q → A q) ∧ gw D cl A h U.heap ∧ va_K D cl tys U
def gB (D : va_G) (cl : List vw_C) (tys : List (ClassId × FieldType)) (A : Nat → Prop) : (Nat → Option va_E) → State → Prop := fun h t => gw D cl A h t.heap ∧ va_K D cl tys t
theorem gP.blind {D : va_G} {cl : List vw_C} {tys : List (ClassId × FieldType)} {A : Nat → Prop} {h : Nat → Option va_E} {av : List Value} : FrameBlind (va_Pc av (gP D cl tys A h)) := fun a U g mk q => by
  obtain ⟨q0, q1, q2, q3⟩ := q
  exact ⟨q0, q1, q2, va_K.moved (u := U) (U := U.calling g mk a) (Vm.Alike.refl U.vm) q3⟩
theorem gP.S {D : va_G} {cl : List vw_C} {tys : List (ClassId × FieldType)} {A : Nat → Prop} {h : Nat → Option va_E} {s : State} {H : Heap} {av : List Value} (hA : ∀ q, H.size ≤ q → A q) (hg : gw D cl A h H) (hK : va_K D cl tys s) : PreS s H (va_Pc av (gP D cl tys A h)) av :=
  ⟨gP.blind, fun U hU hW => ⟨rfl, by rw [hU]; exact hA, by rw [hU]; exact hg, va_K.moved hW.alike hK⟩⟩
theorem gP.V {D : va_G} {cl : List vw_C} {tys : List (ClassId × FieldType)} {A : Nat → Prop} {h : Nat → Option va_E} {s : State} {H : Heap} {As : List Value} {b ci : Nat} {r : vw_C} {fs : List Value} (hA : ∀ q, H.size ≤ q → A q) (hg : gw D cl A h H) (hK : va_K D cl tys s) (hb : h b = some (.inr (ci, fs))) (hc : cl[ci]? = some r) : PreV s H r.1 b (va_Pc (.ref b :: As) (gP D cl tys A h)) As :=
  ⟨gP.blind, va_recv hK (hg.one hb) hc (q0 := 0) rfl, fun U hU hW => ⟨rfl, by rw [hU]; exact hA, by rw [hU]; exact hg, va_K.moved hW.alike hK⟩⟩
theorem va_S.ge {A : Nat → Prop} {H0 H : Heap} {locs : List Loc} (hS : va_S A H0 H locs) (hA : ∀ q, H0.size ≤ q → A q) : ∀ q, H.size ≤ q → A q := fun q h => hA q (Nat.le_trans hS.1 h)
section GROWS
variable {p : Program} {l : Launch} {e : Env} {R : Room} {s : State} {m : MethodId} {args : Array Value} {below : List Frame} {meth : Method} {c : Code} {H : Heap} {locs : List Loc} {cells slots : Nat} {Q : State → Prop}
variable {cc : ByteArray} {pc : Nat} {ls : Array Slot} {rest : List Value} {D : va_G} {cl : List vw_C} {A : Nat → Prop} {a : Nat} {tys : List (ClassId × FieldType)} {h : Nat → Option va_E} {H0 : Heap}
theorem g_get (hexec : p.tables.exec = Jvm.exec) (hb : c.code = cc) {own ref C : String} {T : u_T} {N ci index : Nat} {Ts : List Cond} (hts : ∀ w ∈ Ts, w.before args s = true) (hin : ∀ w ∈ u_ws C T N, w ∈ Ts) (hown : s.vm.findClass own = some m.cls) (hK : va_K D cl tys s) (hg : gw D cl A h H) {fs : List Value} (he : h a = some (.inr (ci, fs))) (hc : cl[ci]? = some (C, T, N)) (k : Nat) (hk : k < N) (hlink : (Cond.fieldLink own index ref (T k).2.1 (T k).2.2.1).before args s = true) (hsame : ∀ x, s.fieldFound? (T k).1 (T k).2.1 (T k).2.2.1 = some x → s.fieldFound? ref (T k).2.1 (T k).2.2.1 = some x) {v : Value} (hv : fs[k]? = some v) (hdg : decode cc pc = .ok (.getfield index, 3))
    (kk : W p l e R s m args below meth c H locs cells slots Q (F0 m (pc + 3) ls (v :: rest))) : W p l e R s m args below meth c H locs cells slots Q (F0 m pc ls (.ref a :: rest)) :=
  va_get hexec hb hts hin hown hK (hg.one he) 0 rfl hc k hk hlink hsame hv hdg kk
theorem g_put (hexec : p.tables.exec = Jvm.exec) (hb : c.code = cc) {own ref C : String} {T : u_T} {N ci index : Nat} {Ts : List Cond} (hts : ∀ w ∈ Ts, w.before args s = true) (hin : ∀ w ∈ u_ws C T N, w ∈ Ts) (ty0 : Nat → FieldType) (hty : ∀ k, k < N → parseFieldDescriptor (T k).2.2.1 = some (ty0 k)) (hnm : ∀ a, a < N → ∀ b, b < N → a ≠ b → (T a).2.1 ≠ (T b).2.1) (hown : s.vm.findClass own = some m.cls) (hK : va_K D cl tys s) (hg : gw D cl A h H) (hS0 : va_S A H0 H locs) {fs : List Value} (he : h a = some (.inr (ci, fs))) (hc : cl[ci]? = some (C, T, N)) (k : Nat) (hk : k < N) (hlink : (Cond.fieldLink own index ref (T k).2.1 (T k).2.2.1).before args s = true) (hsame : ∀ x, s.fieldFound? (T k).1 (T k).2.1 (T k).2.2.1 = some x → s.fieldFound? ref (T k).2.1 (T k).2.2.1 = some x) (hfin : (T k).2.2.2 = false) {ty : FieldType} {v : Value} (hd : parseFieldDescriptor (T k).2.2.1 = some ty) (hn : narrow ty v = v) (hfit : fits ty v = true) (hl : k < fs.length)
    (hdg : decode cc pc = .ok (.putfield index, 3)) (kk : ∀ (H1 : Heap) (locs1 : List Loc), gw D cl A (va_up h a (some (.inr (ci, fs.set k v)))) H1 → va_S A H0 H1 locs1 → W p l e R s m args below meth c H1 locs1 cells slots Q (F0 m (pc + 3) ls rest)) : W p l e R s m args below meth c H locs cells slots Q (F0 m pc ls (v :: .ref a :: rest)) := by
  obtain ⟨q0, hq⟩ := gl_in he (hg.lt he)
  exact va_put hexec hb hts hin ty0 hty hnm hown hK (hg.P H.size) (hg.Dd H.size) hS0 q0 hq hc k hk hlink hsame hfin hd hn hfit hl hdg (fun H1 locs1 p1 _ s1 => kk H1 locs1 (hg.set (Nat.le_refl _) hq p1) s1)
theorem g_putF (hexec : p.tables.exec = Jvm.exec) (hb : c.code = cc) {own ref C : String} {T : u_T} {N ci index : Nat} {Ts : List Cond} (hts : ∀ w ∈ Ts, w.before args s = true) (hin : ∀ w ∈ u_ws C T N, w ∈ Ts) (ty0 : Nat → FieldType) (hty : ∀ k, k < N → parseFieldDescriptor (T k).2.2.1 = some (ty0 k)) (hnm : ∀ a, a < N → ∀ b, b < N → a ≠ b → (T a).2.1 ≠ (T b).2.1) (hown : s.vm.findClass own = some m.cls) (hK : va_K D cl tys s) (hg : gw D cl A h H) (hS0 : va_S A H0 H locs) {fs : List Value} (he : h a = some (.inr (ci, fs))) (hc : cl[ci]? = some (C, T, N)) (k : Nat) (hk : k < N) (hlink : (Cond.fieldLink own index ref (T k).2.1 (T k).2.2.1).before args s = true) (hsame : ∀ x, s.fieldFound? (T k).1 (T k).2.1 (T k).2.2.1 = some x → s.fieldFound? ref (T k).2.1 (T k).2.2.1 = some x) (hfin : (T k).2.2.2 = true) (hin2 : meth.name = "<init>") (hdecl : (T k).1 = own) {ty : FieldType} {v : Value} (hd : parseFieldDescriptor (T k).2.2.1 = some ty) (hn : narrow ty v = v) (hfit : fits ty v = true) (hl : k < fs.length)
    (hdg : decode cc pc = .ok (.putfield index, 3)) (kk : ∀ (H1 : Heap) (locs1 : List Loc), gw D cl A (va_up h a (some (.inr (ci, fs.set k v)))) H1 → va_S A H0 H1 locs1 → W p l e R s m args below meth c H1 locs1 cells slots Q (F0 m (pc + 3) ls rest)) : W p l e R s m args below meth c H locs cells slots Q (F0 m pc ls (v :: .ref a :: rest)) := by
  obtain ⟨q0, hq⟩ := gl_in he (hg.lt he)
  exact va_putF hexec hb hts hin ty0 hty hnm hown hK (hg.P H.size) (hg.Dd H.size) hS0 q0 hq hc k hk hlink hsame hfin hin2 hdecl hd hn hfit hl hdg (fun H1 locs1 p1 _ s1 => kk H1 locs1 (hg.set (Nat.le_refl _) hq p1) s1)
theorem g_iald (hexec : p.tables.exec = Jvm.exec) (hb : c.code = cc) (hK : va_K D cl tys s) (hg : gw D cl A h H) (t0 : Nat) {cA : ClassId} {n : Nat} {f : Nat → Int32} (ha : h a = some (.inl (cA, n, .inl f))) (ht : tys[t0]? = some (cA, .int)) {i : Int32} (hin : vp_in i n) (hdg : decode cc pc = .ok (.iaload, 1))
    (kk : W p l e R s m args below meth c H locs cells slots Q (F0 m (pc + 1) ls (.int (f i.toNatClampNeg) :: rest))) : W p l e R s m args below meth c H locs cells slots Q (F0 m pc ls (.int i :: .ref a :: rest)) := va_iald hexec hb hK (hg.one ha) 0 t0 rfl ht hin hdg kk
theorem g_cald (hexec : p.tables.exec = Jvm.exec) (hb : c.code = cc) (hK : va_K D cl tys s) (hg : gw D cl A h H) (t0 : Nat) {cA : ClassId} {n : Nat} {f : Nat → Int32} (ha : h a = some (.inl (cA, n, .inl f))) (ht : tys[t0]? = some (cA, .char)) {i : Int32} (hin : vp_in i n) (hdg : decode cc pc = .ok (.caload, 1))
    (kk : W p l e R s m args below meth c H locs cells slots Q (F0 m (pc + 1) ls (.int (f i.toNatClampNeg) :: rest))) : W p l e R s m args below meth c H locs cells slots Q (F0 m pc ls (.int i :: .ref a :: rest)) := va_cald hexec hb hK (hg.one ha) 0 t0 rfl ht hin hdg kk
theorem g_bald (hexec : p.tables.exec = Jvm.exec) (hb : c.code = cc) (hK : va_K D cl tys s) (hg : gw D cl A h H) (t0 : Nat) {cA : ClassId} {n : Nat} {f : Nat → Int32} (ha : h a = some (.inl (cA, n, .inl f))) (ht : tys[t0]? = some (cA, .byte)) {i : Int32} (hin : vp_in i n) (hdg : decode cc pc = .ok (.baload, 1))
    (kk : W p l e R s m args below meth c H locs cells slots Q (F0 m (pc + 1) ls (.int (f i.toNatClampNeg) :: rest))) : W p l e R s m args below meth c H locs cells slots Q (F0 m pc ls (.int i :: .ref a :: rest)) := va_bald hexec hb hK (hg.one ha) 0 t0 rfl ht hin hdg kk
theorem g_zald (hexec : p.tables.exec = Jvm.exec) (hb : c.code = cc) (hK : va_K D cl tys s) (hg : gw D cl A h H) (t0 : Nat) {cA : ClassId} {n : Nat} {f : Nat → Int32} (ha : h a = some (.inl (cA, n, .inl f))) (ht : tys[t0]? = some (cA, .boolean)) {i : Int32} (hin : vp_in i n) (hdg : decode cc pc = .ok (.baload, 1))
    (kk : W p l e R s m args below meth c H locs cells slots Q (F0 m (pc + 1) ls (.int (f i.toNatClampNeg) :: rest))) : W p l e R s m args below meth c H locs cells slots Q (F0 m pc ls (.int i :: .ref a :: rest)) := va_zald hexec hb hK (hg.one ha) 0 t0 rfl ht hin hdg kk
theorem g_alen (hexec : p.tables.exec = Jvm.exec) (hb : c.code = cc) (hK : va_K D cl tys s) (hg : gw D cl A h H) (t0 : Nat) {cA : ClassId} {x : vp_A} (ha : h a = some (.inl (cA, x))) {ty : FieldType} (ht : tys[t0]? = some (cA, ty)) {v : Int32} (hv : Int32.ofNat x.1 = v) (hdg : decode cc pc = .ok (.arraylength, 1))
    (kk : W p l e R s m args below meth c H locs cells slots Q (F0 m (pc + 1) ls (.int v :: rest))) : W p l e R s m args below meth c H locs cells slots Q (F0 m pc ls (.ref a :: rest)) := va_alen hexec hb hK (hg.one ha) 0 t0 rfl ht hv hdg kk
theorem g_iast (hexec : p.tables.exec = Jvm.exec) (hb : c.code = cc) (hK : va_K D cl tys s) (hg : gw D cl A h H) (hS : va_S A H0 H locs) (t0 : Nat) {cA : ClassId} {n : Nat} {f : Nat → Int32} (ha : h a = some (.inl (cA, n, .inl f))) (ht : tys[t0]? = some (cA, .int)) {i : Int32} {x : Int32} (hin : vp_in i n) (hdg : decode cc pc = .ok (.iastore, 1))
    (kk : ∀ (H1 : Heap) (locs1 : List Loc), gw D cl A (va_up h a (some (.inl (cA, n, .inl (upd f i.toNatClampNeg x))))) H1 → va_S A H0 H1 locs1 → W p l e R s m args below meth c H1 locs1 cells slots Q (F0 m (pc + 1) ls rest)) : W p l e R s m args below meth c H locs cells slots Q (F0 m pc ls (.int x :: .int i :: .ref a :: rest)) := by
  obtain ⟨q0, hq⟩ := gl_in ha (hg.lt ha)
  exact va_iast hexec hb hK (hg.P H.size) (hg.Dd H.size) hS q0 t0 hq ht hin hdg (fun H1 locs1 p1 _ s1 => kk H1 locs1 (hg.set (Nat.le_refl _) hq p1) s1)
theorem g_cast (hexec : p.tables.exec = Jvm.exec) (hb : c.code = cc) (hK : va_K D cl tys s) (hg : gw D cl A h H) (hS : va_S A H0 H locs) (t0 : Nat) {cA : ClassId} {n : Nat} {f : Nat → Int32} (ha : h a = some (.inl (cA, n, .inl f))) (ht : tys[t0]? = some (cA, .char)) {i : Int32} {x : Int32} (hin : vp_in i n) (hdg : decode cc pc = .ok (.castore, 1))
    (kk : ∀ (H1 : Heap) (locs1 : List Loc), gw D cl A (va_up h a (some (.inl (cA, n, .inl (upd f i.toNatClampNeg (vp_nar .char x)))))) H1 → va_S A H0 H1 locs1 → W p l e R s m args below meth c H1 locs1 cells slots Q (F0 m (pc + 1) ls rest)) : W p l e R s m args below meth c H locs cells slots Q (F0 m pc ls (.int x :: .int i :: .ref a :: rest)) := by
  obtain ⟨q0, hq⟩ := gl_in ha (hg.lt ha)
  exact va_cast hexec hb hK (hg.P H.size) (hg.Dd H.size) hS q0 t0 hq ht hin hdg (fun H1 locs1 p1 _ s1 => kk H1 locs1 (hg.set (Nat.le_refl _) hq p1) s1)
theorem g_aldq (hexec : p.tables.exec = Jvm.exec) (hb : c.code = cc) (hK : va_K D cl tys s) (hg : gw D cl A h H) (t0 : Nat) {cA : ClassId} {C : String} {n : Nat} {f : Nat → Option Nat} (ha : h a = some (.inl (cA, n, .inr (.inr (.inr (.inr f)))))) (ht : tys[t0]? = some (cA, .object C)) {i : Int32} (hin : vp_in i n) (hdg : decode cc pc = .ok (.aaload, 1))
    (kk : W p l e R s m args below meth c H locs cells slots Q (F0 m (pc + 1) ls (va_rf (f i.toNatClampNeg) :: rest))) : W p l e R s m args below meth c H locs cells slots Q (F0 m pc ls (.int i :: .ref a :: rest)) := va_aldq hexec hb hK (hg.one ha) 0 t0 rfl ht hin hdg kk
theorem g_new {c0 : Code} (hexec : p.tables.exec = Jvm.exec) (hb : c0.code = cc) {own C : String} {T : u_T} {N ci index : Nat} {Ts : List Cond} (hts : ∀ w ∈ Ts, w.before args s = true) (hin : ∀ w ∈ u_ws C T N, w ∈ Ts) (ty : Nat → FieldType) (hty : ∀ k, k < N → parseFieldDescriptor (T k).2.2.1 = some (ty k)) (hown : s.vm.findClass own = some m.cls) (hcl : (Cond.classLink own index C).before args s = true) (hinst : (Cond.instantiable C N).before args s = true) (hini : (Cond.initialized C).before args s = true)
    (hK : va_K D cl tys s) (hg : gw D cl A h H) (hS : va_S A H0 H locs) (hA : ∀ q, H0.size ≤ q → A q) (hc : cl[ci]? = some (C, T, N)) {fs : List Value} (hfs : ∀ j, j < N → defaultValue (ty j) = vp_V fs j) (hcells : cells + 1 ≤ R.cells) (hslots : slots + N ≤ R.slots) (hdg : decode cc pc = .ok (.new index, 3))
    (kk : ∀ (q : Nat) (H1 : Heap), h q = none → gw D cl A (va_up h q (some (.inr (ci, fs)))) H1 → va_S A H0 H1 locs →
      W p l e R s m args below meth c0 H1 locs (cells + 1) (slots + N) Q (F0 m (pc + 3) ls (.ref q :: rest))) : W p l e R s m args below meth c0 H locs cells slots Q (F0 m pc ls rest) :=
  va_new hexec hb hts hin ty hty hown hcl hinst hini hK (hg.P H.size) (hg.Dd H.size) hS hA hc hfs hcells hslots hdg (fun q H1 p1 d1 s1 => kk q H1 (hg.push (Nat.le_refl _) p1 d1).1 (hg.push (Nat.le_refl _) p1 d1).2 s1)
end GROWS
