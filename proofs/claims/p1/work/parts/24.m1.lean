/-- the classes whose objects the worlds hold -/
def R_SB : String := "java/lang/StringBuilder"
def T_SB : u_T := fun k => match k with
  | 0 => ("java/lang/AbstractStringBuilder", "value", "[B", false)
  | 1 => ("java/lang/AbstractStringBuilder", "coder", "B", false)
  | 2 => ("java/lang/AbstractStringBuilder", "maybeLatin1", "Z", false)
  | _ => ("java/lang/AbstractStringBuilder", "count", "I", false)
abbrev classes : List vw_C := [(RM, TM, 40), (R_C, T_C, 6), (R_Reader, T_Reader, 6), (R_Expression, T_Expression, 6), (R_Machine, T_Machine, 16), (R_Binding, T_Binding, 3), (R_Place, T_Place, 5), (R_Pair, T_Pair, 2), (R_SB, T_SB, 4)]
abbrev tyl (T : Nat → ClassId) : List (ClassId × FieldType) := [(T 0, .int), (T 1, .boolean), (T 2, .long), (T 3, .char), (T 4, .byte), (T 5, .object R_Expression), (T 6, .object R_Binding), (T 7, .object R_Place), (T 8, .object R_Pair)]
abbrev vQ (f : Nat → Option Nat) : (Nat → Int32) ⊕ (Nat → Int64) ⊕ (Nat → UInt32) ⊕ (Nat → UInt64) ⊕ (Nat → Option Nat) := .inr (.inr (.inr (.inr f)))
/-- cells that the reader's methods leave alone -/
def okc : va_E → Bool
  | .inr (c, _) => !(c == 2) && !(c == 3)
  | .inl (_, n, _) => !(n == 3) && !(n == 4) && !(n == 12)
def keep (h0 h : Nat → Option va_E) : Prop := ∀ (a : Nat) (e : va_E), h0 a = some e → okc e = true → h a = some e
theorem keep.rf (h : Nat → Option va_E) : keep h h := fun _ _ h1 _ => h1
theorem keep.trans {h0 h1 h2 : Nat → Option va_E} (a : keep h0 h1) (b : keep h1 h2) : keep h0 h2 := fun q e h ho => b q e (a q e h ho) ho
theorem keep.up {h0 h : Nat → Option va_E} {a : Nat} {e : va_E} (v : Option va_E) (k : keep h0 h) (ha : h a = some e) (ho : okc e = false) : keep h0 (va_up h a v) := fun q x hq hx => by
  have h1 := k q x hq hx
  have hne : q ≠ a := fun z => by
    rw [z, ha] at h1
    cases h1
    rw [ho] at hx; cases hx
  rw [va_up_ne _ _ hne]; exact h1
/-- the reader, its rows, its expressions -/
def rdF (ad : Nat → Nat → Nat) (rf : Nat → Int32) : List Value := [.ref (ad 1 0), .ref (ad 2 0), .int (rf 2), .int (rf 3), .int (rf 4), .int (rf 5)]
def xpF (ad : Nat → Nat → Nat) (i : Nat) (x : Nat → Int32) : List Value := [.int (x 0), .int (x 1), .int (x 2), .int (x 3), .ref (ad 4 i), .ref (ad 5 i)]
def RdW (T : Nat → ClassId) (h : Nat → Option va_E) (ad : Nat → Nat → Nat) (rf : Nat → Int32) (xf nf : Nat → Nat → Int32) (fo : Nat → Option Nat) : Prop :=
  h (ad 0 0) = some (.inr (2, rdF ad rf)) ∧ (∃ f : Nat → Option Nat, h (ad 1 0) = some (.inl (T 5, 120, vQ f)) ∧ ∀ i, i < 120 → f i = some (ad 3 i)) ∧ h (ad 2 0) = some (.inl (T 5, 12, vQ fo)) ∧
  (∀ i, i < 120 → h (ad 3 i) = some (.inr (3, xpF ad i (xf i))) ∧ h (ad 4 i) = some (.inl (T 0, 3, .inl (nf i))) ∧ ∃ pf, h (ad 5 i) = some (.inl (T 5, 4, vQ pf))) ∧
  (∀ i j, i < 120 → j < 120 → (ad 3 i = ad 3 j → i = j) ∧ (ad 4 i = ad 4 j → i = j) ∧ (ad 5 i = ad 5 j → i = j))
theorem RdW.r {T : Nat → ClassId} {h : Nat → Option va_E} {ad : Nat → Nat → Nat} {rf : Nat → Int32} {xf nf : Nat → Nat → Int32} {fo : Nat → Option Nat} (q : RdW T h ad rf xf nf fo) (rf' : Nat → Int32) : RdW T (va_up h (ad 0 0) (some (.inr (2, rdF ad rf')))) ad rf' xf nf fo := by
  obtain ⟨q1, ⟨f, q2, q3⟩, q4, q5, q6⟩ := q
  refine ⟨va_up_self _ _ _, ⟨f, g_up _ q1 q2 (by simp), q3⟩, g_up _ q1 q4 (by simp), fun i hi => ?_, q6⟩
  obtain ⟨a1, a2, pf, a3⟩ := q5 i hi
  exact ⟨g_up _ q1 a1 (by simp), g_up _ q1 a2 (by simp), pf, g_up _ q1 a3 (by simp)⟩
theorem RdW.x {T : Nat → ClassId} {h : Nat → Option va_E} {ad : Nat → Nat → Nat} {rf : Nat → Int32} {xf nf : Nat → Nat → Int32} {fo : Nat → Option Nat} (q : RdW T h ad rf xf nf fo) {i : Nat} (hi : i < 120) (x' : Nat → Int32) : RdW T (va_up h (ad 3 i) (some (.inr (3, xpF ad i x')))) ad rf (va_up xf i x') nf fo := by
  obtain ⟨q1, ⟨f, q2, q3⟩, q4, q5, q6⟩ := q
  obtain ⟨b1, -⟩ := q5 i hi
  refine ⟨g_up _ b1 q1 (by simp), ⟨f, g_up _ b1 q2 (by simp), q3⟩, g_up _ b1 q4 (by simp), fun j hj => ?_, q6⟩
  obtain ⟨a1, a2, pf, a3⟩ := q5 j hj
  refine ⟨?_, g_up _ b1 a2 (by simp), pf, g_up _ b1 a3 (by simp)⟩
  by_cases e : j = i
  · subst e; rw [va_up_self, va_up_self]
  · rw [va_up_ne _ _ (fun z => e ((q6 j i hj hi).1 z)), va_up_ne _ _ e]; exact a1
theorem RdW.n {T : Nat → ClassId} {h : Nat → Option va_E} {ad : Nat → Nat → Nat} {rf : Nat → Int32} {xf nf : Nat → Nat → Int32} {fo : Nat → Option Nat} (q : RdW T h ad rf xf nf fo) {i : Nat} (hi : i < 120) (g : Nat → Int32) : RdW T (va_up h (ad 4 i) (some (.inl (T 0, 3, .inl g)))) ad rf xf (va_up nf i g) fo := by
  obtain ⟨q1, ⟨f, q2, q3⟩, q4, q5, q6⟩ := q
  obtain ⟨-, b1, -⟩ := q5 i hi
  refine ⟨g_up _ b1 q1 (by simp), ⟨f, g_up _ b1 q2 (by simp), q3⟩, g_up _ b1 q4 (by simp), fun j hj => ?_, q6⟩
  obtain ⟨a1, a2, pf, a3⟩ := q5 j hj
  refine ⟨g_up _ b1 a1 (by simp), ?_, pf, g_up _ b1 a3 (by simp)⟩
  by_cases e : j = i
  · subst e; rw [va_up_self, va_up_self]
  · rw [va_up_ne _ _ (fun z => e ((q6 j i hj hi).2.1 z)), va_up_ne _ _ e]; exact a2
theorem RdW.p {T : Nat → ClassId} {h : Nat → Option va_E} {ad : Nat → Nat → Nat} {rf : Nat → Int32} {xf nf : Nat → Nat → Int32} {fo : Nat → Option Nat} (q : RdW T h ad rf xf nf fo) {i : Nat} (hi : i < 120) (g : Nat → Option Nat) : RdW T (va_up h (ad 5 i) (some (.inl (T 5, 4, vQ g)))) ad rf xf nf fo := by
  obtain ⟨q1, ⟨f, q2, q3⟩, q4, q5, q6⟩ := q
  obtain ⟨-, -, pb, b1⟩ := q5 i hi
  refine ⟨g_up _ b1 q1 (by simp), ⟨f, g_up _ b1 q2 (by simp), q3⟩, g_up _ b1 q4 (by simp), fun j hj => ?_, q6⟩
  obtain ⟨a1, a2, pf, a3⟩ := q5 j hj
  refine ⟨g_up _ b1 a1 (by simp), g_up _ b1 a2 (by simp), ?_⟩
  by_cases e : j = i
  · subst e; exact ⟨g, va_up_self _ _ _⟩
  · exact ⟨pf, by rw [va_up_ne _ _ (fun z => e ((q6 j i hj hi).2.2 z))]; exact a3⟩
theorem RdW.o {T : Nat → ClassId} {h : Nat → Option va_E} {ad : Nat → Nat → Nat} {rf : Nat → Int32} {xf nf : Nat → Nat → Int32} {fo : Nat → Option Nat} (q : RdW T h ad rf xf nf fo) (g : Nat → Option Nat) : RdW T (va_up h (ad 2 0) (some (.inl (T 5, 12, vQ g)))) ad rf xf nf g := by
  obtain ⟨q1, ⟨f, q2, q3⟩, q4, q5, q6⟩ := q
  refine ⟨g_up _ q4 q1 (by simp), ⟨f, g_up _ q4 q2 (by simp), q3⟩, va_up_self _ _ _, fun j hj => ?_, q6⟩
  obtain ⟨a1, a2, pf, a3⟩ := q5 j hj
  exact ⟨g_up _ q4 a1 (by simp), g_up _ q4 a2 (by simp), pf, g_up _ q4 a3 (by simp)⟩
def RW (D : va_G) (T : Nat → ClassId) (A : Nat → Prop) (h0 : Nat → Option va_E) (ad : Nat → Nat → Nat) (rf : Nat → Int32) (xf nf : Nat → Nat → Int32) (fo : Nat → Option Nat) (H : Heap) : Prop := ∃ h, gw D classes A h H ∧ RdW T h ad rf xf nf fo ∧ keep h0 h
theorem RW.kept {D : va_G} {T : Nat → ClassId} {A : Nat → Prop} {h0 : Nat → Option va_E} {ad : Nat → Nat → Nat} {rf : Nat → Int32} {xf nf : Nat → Nat → Int32} {fo : Nat → Option Nat} {H H1 : Heap} (q : RW D T A h0 ad rf xf nf fo H) (hk : ∀ q : Nat, q < H.size → ¬ False → H1[q]? = H[q]?) : RW D T A h0 ad rf xf nf fo H1 := by
  obtain ⟨h, q1, q2, q3⟩ := q
  exact ⟨h, gw.kept q1 (A2 := fun _ => False) hk (fun _ _ z => z), q2, q3⟩
/-- what stands around a walk of a method of class 'own' -/
def cK (D : va_G) (T : Nat → ClassId) (own : String) (s : State) (m : MethodId) (args : Array Value) : Prop := (∀ w ∈ lw_g, w.before args s = true) ∧ s.vm.findClass own = some m.cls ∧ va_K D classes (tyl T) s
section RROWS
variable {p : Program} {l : Launch} {e : Env} {R : Room} {s : State} {m : MethodId} {args : Array Value} {below : List Frame} {meth : Method} {c : Code} {H : Heap} {locs : List Loc} {cells slots : Nat} {Q : State → Prop} {cc : ByteArray} {pc : Nat} {ls : Array Slot} {rest : List Value} {D : va_G} {T : Nat → ClassId} {A : Nat → Prop} {H0 : Heap} {h0 : Nat → Option va_E} {ad : Nat → Nat → Nat} {rf : Nat → Int32} {xf nf : Nat → Nat → Int32} {fo : Nat → Option Nat} {own : String}
theorem R_get (hx : p.tables.exec = Jvm.exec) (hb : c.code = cc) (K : cK D T own s m args) (hM : RW D T A h0 ad rf xf nf fo H) (k : Nat) {v : Value} (hv : (rdF ad rf)[k]? = some v) {idx : Nat} (hl : Cond.fieldLink own idx "ContinuationCore$Reader" (T_Reader k).2.1 (T_Reader k).2.2.1 ∈ lw_g) (hdg : decode cc pc = .ok (.getfield idx, 3)) (hk : k < 6 := by decide) (hT : (T_Reader k).1 = "ContinuationCore$Reader" := by rfl)
    (kk : W p l e R s m args below meth c H locs cells slots Q (F0 m (pc + 3) ls (v :: rest))) : W p l e R s m args below meth c H locs cells slots Q (F0 m pc ls (.ref (ad 0 0) :: rest)) := by
  obtain ⟨h, q1, q2, q3⟩ := hM
  exact g_get hx hb K.1 in_Reader K.2.1 K.2.2 q1 q2.1 rfl k hk (K.1 _ hl) (fun _ h9 => by rw [hT] at h9; exact h9) hv hdg kk
theorem R_put (hx : p.tables.exec = Jvm.exec) (hb : c.code = cc) (K : cK D T own s m args) (hM : RW D T A h0 ad rf xf nf fo H) (hS : va_S A H0 H locs) (k : Nat) {v : Int32} {idx : Nat} (hl : Cond.fieldLink own idx "ContinuationCore$Reader" (T_Reader k).2.1 (T_Reader k).2.2.1 ∈ lw_g) (hdg : decode cc pc = .ok (.putfield idx, 3)) (hs : (rdF ad rf).set k (.int v) = rdF ad (va_up rf k v) := by rfl) (hk : k < 6 := by decide) (hT : (T_Reader k).1 = "ContinuationCore$Reader" := by rfl) (hf : (T_Reader k).2.2.2 = false := by rfl) (hd : parseFieldDescriptor (T_Reader k).2.2.1 = some .int := by decide +kernel)
    (kk : ∀ (H1 : Heap) (locs1 : List Loc), RW D T A h0 ad (va_up rf k v) xf nf fo H1 → va_S A H0 H1 locs1 → W p l e R s m args below meth c H1 locs1 cells slots Q (F0 m (pc + 3) ls rest)) : W p l e R s m args below meth c H locs cells slots Q (F0 m pc ls (.int v :: .ref (ad 0 0) :: rest)) := by
  obtain ⟨h, q1, q2, q3⟩ := hM
  refine g_put hx hb K.1 in_Reader ty_Reader ty_Reader_ok nm_Reader K.2.1 K.2.2 q1 hS q2.1 rfl k hk (K.1 _ hl) (fun _ h9 => by rw [hT] at h9; exact h9) hf hd rfl rfl (by show k < 6; exact hk) hdg (fun H1 locs1 g1 s1 => kk H1 locs1 ⟨_, g1, ?_, q3.up _ q2.1 rfl⟩ s1)
  rw [hs]
  exact q2.r _
theorem R_ex (hx : p.tables.exec = Jvm.exec) (hb : c.code = cc) (K : cK D T own s m args) (hM : RW D T A h0 ad rf xf nf fo H) {i : Nat} (hi : i < 120) (hdg : decode cc pc = .ok (.aaload, 1))
    (kk : W p l e R s m args below meth c H locs cells slots Q (F0 m (pc + 1) ls (.ref (ad 3 i) :: rest))) : W p l e R s m args below meth c H locs cells slots Q (F0 m pc ls (.int (nI i) :: .ref (ad 1 0) :: rest)) := by
  obtain ⟨h, q1, ⟨q2, ⟨f, q3, q4⟩, -⟩, -⟩ := hM
  refine g_aldq hx hb K.2.2 q1 5 (C := R_Expression) q3 rfl (vp_in_nI hi (by decide)) hdg ?_
  rw [nI_clamp (by omega), q4 i hi]; exact kk
theorem R_op (hx : p.tables.exec = Jvm.exec) (hb : c.code = cc) (K : cK D T own s m args) (hM : RW D T A h0 ad rf xf nf fo H) {j q : Nat} (hj : j < 12) (hq : fo j = some q) (hdg : decode cc pc = .ok (.aaload, 1))
    (kk : W p l e R s m args below meth c H locs cells slots Q (F0 m (pc + 1) ls (.ref q :: rest))) : W p l e R s m args below meth c H locs cells slots Q (F0 m pc ls (.int (nI j) :: .ref (ad 2 0) :: rest)) := by
  obtain ⟨h, q1, ⟨q2, -, q3, -⟩, -⟩ := hM
  refine g_aldq hx hb K.2.2 q1 5 (C := R_Expression) q3 rfl (vp_in_nI hj (by decide)) hdg ?_
  rw [nI_clamp (by omega), hq]; exact kk
theorem g_astq {h : Nat → Option va_E} {tys : List (ClassId × FieldType)} {cl : List vw_C} {a : Nat} (hexec : p.tables.exec = Jvm.exec) (hb : c.code = cc) (hK : va_K D cl tys s) (hg : gw D cl A h H) (hS : va_S A H0 H locs) (t0 ci : Nat) {cA : ClassId} {r : vw_C} {n v : Nat} {vs : List Value} {f : Nat → Option Nat} (ha : h a = some (.inl (cA, n, vQ f))) (ht : tys[t0]? = some (cA, .object r.1)) (hv : h v = some (.inr (ci, vs))) (hc : cl[ci]? = some r) {i : Int32} (hin : vp_in i n) (hdg : decode cc pc = .ok (.aastore, 1))
    (kk : ∀ (H1 : Heap) (locs1 : List Loc), gw D cl A (va_up h a (some (.inl (cA, n, vQ (va_up f i.toNatClampNeg (some v)))))) H1 → va_S A H0 H1 locs1 → W p l e R s m args below meth c H1 locs1 cells slots Q (F0 m (pc + 1) ls rest)) : W p l e R s m args below meth c H locs cells slots Q (F0 m pc ls (.ref v :: .int i :: .ref a :: rest)) := by
  obtain ⟨q0, hq⟩ := gl_in ha (hg.lt ha)
  obtain ⟨q1, hq1⟩ := gl_in hv (hg.lt hv)
  obtain ⟨q2, hq2⟩ := gl_in (n := H.size) hv (hg.lt hv)
  exact va_astq hexec hb hK (hg.P H.size) (hg.Dd H.size) hS q0 t0 q2 ci hq ht hq2 hc hin hdg (fun H1 locs1 p1 _ s1 => kk H1 locs1 (hg.set (Nat.le_refl _) hq p1) s1)
theorem R_opst (hx : p.tables.exec = Jvm.exec) (hb : c.code = cc) (K : cK D T own s m args) (hM : RW D T A h0 ad rf xf nf fo H) (hS : va_S A H0 H locs) {j i : Nat} (hj : j < 12) (hi : i < 120) (hdg : decode cc pc = .ok (.aastore, 1))
    (kk : ∀ (H1 : Heap) (locs1 : List Loc), RW D T A h0 ad rf xf nf (va_up fo j (some (ad 3 i))) H1 → va_S A H0 H1 locs1 → W p l e R s m args below meth c H1 locs1 cells slots Q (F0 m (pc + 1) ls rest)) : W p l e R s m args below meth c H locs cells slots Q (F0 m pc ls (.ref (ad 3 i) :: .int (nI j) :: .ref (ad 2 0) :: rest)) := by
  obtain ⟨h, q1, q2, q3⟩ := hM
  refine g_astq hx hb K.2.2 q1 hS 5 3 (r := (R_Expression, T_Expression, 6)) q2.2.2.1 rfl (q2.2.2.2.1 i hi).1 rfl (vp_in_nI hj (by decide)) hdg (fun H1 locs1 g1 s1 => kk H1 locs1 ⟨_, g1, ?_, q3.up _ q2.2.2.1 rfl⟩ s1)
  rw [nI_clamp (by omega)]
  exact q2.o _
theorem X_get (hx : p.tables.exec = Jvm.exec) (hb : c.code = cc) (K : cK D T own s m args) (hM : RW D T A h0 ad rf xf nf fo H) {i : Nat} (hi : i < 120) (k : Nat) {v : Value} (hv : (xpF ad i (xf i))[k]? = some v) {idx : Nat} (hl : Cond.fieldLink own idx "ContinuationCore$Expression" (T_Expression k).2.1 (T_Expression k).2.2.1 ∈ lw_g) (hdg : decode cc pc = .ok (.getfield idx, 3)) (hk : k < 6 := by decide) (hT : (T_Expression k).1 = "ContinuationCore$Expression" := by rfl)
    (kk : W p l e R s m args below meth c H locs cells slots Q (F0 m (pc + 3) ls (v :: rest))) : W p l e R s m args below meth c H locs cells slots Q (F0 m pc ls (.ref (ad 3 i) :: rest)) := by
  obtain ⟨h, q1, q2, q3⟩ := hM
  exact g_get hx hb K.1 in_Expression K.2.1 K.2.2 q1 (q2.2.2.2.1 i hi).1 rfl k hk (K.1 _ hl) (fun _ h9 => by rw [hT] at h9; exact h9) hv hdg kk
theorem X_put (hx : p.tables.exec = Jvm.exec) (hb : c.code = cc) (K : cK D T own s m args) (hM : RW D T A h0 ad rf xf nf fo H) (hS : va_S A H0 H locs) {i : Nat} (hi : i < 120) (k : Nat) {v : Int32} {ty : FieldType} (hd : parseFieldDescriptor (T_Expression k).2.2.1 = some ty) (hn : narrow ty (.int v) = .int v) (hfit : fits ty (.int v) = true) {idx : Nat} (hl : Cond.fieldLink own idx "ContinuationCore$Expression" (T_Expression k).2.1 (T_Expression k).2.2.1 ∈ lw_g) (hdg : decode cc pc = .ok (.putfield idx, 3)) (hs : (xpF ad i (xf i)).set k (.int v) = xpF ad i (va_up (xf i) k v) := by rfl) (hk : k < 6 := by decide) (hT : (T_Expression k).1 = "ContinuationCore$Expression" := by rfl) (hf : (T_Expression k).2.2.2 = false := by rfl)
    (kk : ∀ (H1 : Heap) (locs1 : List Loc), RW D T A h0 ad rf (va_up xf i (va_up (xf i) k v)) nf fo H1 → va_S A H0 H1 locs1 → W p l e R s m args below meth c H1 locs1 cells slots Q (F0 m (pc + 3) ls rest)) : W p l e R s m args below meth c H locs cells slots Q (F0 m pc ls (.int v :: .ref (ad 3 i) :: rest)) := by
  obtain ⟨h, q1, q2, q3⟩ := hM
  refine g_put hx hb K.1 in_Expression ty_Expression ty_Expression_ok nm_Expression K.2.1 K.2.2 q1 hS (q2.2.2.2.1 i hi).1 rfl k hk (K.1 _ hl) (fun _ h9 => by rw [hT] at h9; exact h9) hf hd hn hfit (by show k < 6; exact hk) hdg (fun H1 locs1 g1 s1 => kk H1 locs1 ⟨_, g1, ?_, q3.up _ (q2.2.2.2.1 i hi).1 rfl⟩ s1)
  rw [hs]
  exact q2.x hi _
theorem N_ald (hx : p.tables.exec = Jvm.exec) (hb : c.code = cc) (K : cK D T own s m args) (hM : RW D T A h0 ad rf xf nf fo H) {i j : Nat} (hi : i < 120) (hj : j < 3) {v : Int32} (hv : nf i j = v) (hdg : decode cc pc = .ok (.iaload, 1))
    (kk : W p l e R s m args below meth c H locs cells slots Q (F0 m (pc + 1) ls (.int v :: rest))) : W p l e R s m args below meth c H locs cells slots Q (F0 m pc ls (.int (nI j) :: .ref (ad 4 i) :: rest)) := by
  obtain ⟨h, q1, q2, -⟩ := hM
  refine g_iald hx hb K.2.2 q1 0 (q2.2.2.2.1 i hi).2.1 rfl (vp_in_nI hj (by decide)) hdg ?_
  rw [nI_clamp (by omega), hv]; exact kk
theorem N_ast (hx : p.tables.exec = Jvm.exec) (hb : c.code = cc) (K : cK D T own s m args) (hM : RW D T A h0 ad rf xf nf fo H) (hS : va_S A H0 H locs) {i j : Nat} (hi : i < 120) (hj : j < 3) {v : Int32} (hdg : decode cc pc = .ok (.iastore, 1))
    (kk : ∀ (H1 : Heap) (locs1 : List Loc), RW D T A h0 ad rf xf (va_up nf i (upd (nf i) j v)) fo H1 → va_S A H0 H1 locs1 → W p l e R s m args below meth c H1 locs1 cells slots Q (F0 m (pc + 1) ls rest)) : W p l e R s m args below meth c H locs cells slots Q (F0 m pc ls (.int v :: .int (nI j) :: .ref (ad 4 i) :: rest)) := by
  obtain ⟨h, q1, q2, q3⟩ := hM
  refine g_iast hx hb K.2.2 q1 hS 0 (q2.2.2.2.1 i hi).2.1 rfl (vp_in_nI hj (by decide)) hdg (fun H1 locs1 g1 s1 => kk H1 locs1 ⟨_, g1, ?_, q3.up _ (q2.2.2.2.1 i hi).2.1 rfl⟩ s1)
  rw [nI_clamp (by omega)]
  exact q2.n hi _
theorem P_ast (hx : p.tables.exec = Jvm.exec) (hb : c.code = cc) (K : cK D T own s m args) (hM : RW D T A h0 ad rf xf nf fo H) (hS : va_S A H0 H locs) {i j i2 : Nat} (hi : i < 120) (hj : j < 4) (hi2 : i2 < 120) (hdg : decode cc pc = .ok (.aastore, 1))
    (kk : ∀ (H1 : Heap) (locs1 : List Loc), RW D T A h0 ad rf xf nf fo H1 → va_S A H0 H1 locs1 → W p l e R s m args below meth c H1 locs1 cells slots Q (F0 m (pc + 1) ls rest)) : W p l e R s m args below meth c H locs cells slots Q (F0 m pc ls (.ref (ad 3 i2) :: .int (nI j) :: .ref (ad 5 i) :: rest)) := by
  obtain ⟨h, q1, q2, q3⟩ := hM
  obtain ⟨-, -, pf, q4⟩ := q2.2.2.2.1 i hi
  exact g_astq hx hb K.2.2 q1 hS 5 3 (r := (R_Expression, T_Expression, 6)) q4 rfl (q2.2.2.2.1 i2 hi2).1 rfl (vp_in_nI hj (by decide)) hdg (fun H1 locs1 g1 s1 => kk H1 locs1 ⟨_, g1, q2.p hi _, q3.up _ q4 rfl⟩ s1)
end RROWS
/-- a method of the reader: its start, its end -/
abbrev SS : Type := (Nat → Int32) × (Nat → Nat → Int32) × (Nat → Nat → Int32) × (Nat → Option Nat)
def rP (s0 : State) (D : va_G) (T : Nat → ClassId) (A : Nat → Prop) (h0 : Nat → Option va_E) (ad : Nat → Nat → Nat) (rf : Nat → Int32) (xf nf : Nat → Nat → Int32) (fo : Nat → Option Nat) : State → Prop := fun U => xB s0 U ∧ RW D T A h0 ad rf xf nf fo U.heap ∧ va_K D classes (tyl T) U
def rB (D : va_G) (T : Nat → ClassId) (A : Nat → Prop) (h0 : Nat → Option va_E) (ad : Nat → Nat → Nat) : SS → State → Prop := fun S t => RW D T A h0 ad S.1 S.2.1 S.2.2.1 S.2.2.2 t.heap
theorem rP.blind {s0 : State} {D : va_G} {T : Nat → ClassId} {A : Nat → Prop} {h0 : Nat → Option va_E} {ad : Nat → Nat → Nat} {rf : Nat → Int32} {xf nf : Nat → Nat → Int32} {fo : Nat → Option Nat} {av : List Value} : FrameBlind (va_Pc av (rP s0 D T A h0 ad rf xf nf fo)) := fun a U g mk q => by
  obtain ⟨q0, q1, q2, q3⟩ := q
  exact ⟨q0, q1, q2, va_K.moved (u := U) (U := U.calling g mk a) (Vm.Alike.refl U.vm) q3⟩
section RCALLS
variable {p : Program} {l : Launch} {e : Env} {R : Room} {s : State} {m : MethodId} {args : Array Value} {below : List Frame} {meth : Method} {c : Code} {H : Heap} {locs : List Loc} {cells slots : Nat} {Q : State → Prop} {cc : ByteArray} {pc : Nat} {ls : Array Slot} {rest : List Value} {D : va_G} {T : Nat → ClassId} {A : Nat → Prop} {H0 : Heap} {h0 : Nat → Option va_E} {ad : Nat → Nat → Nat} {rf : Nat → Int32} {xf nf : Nat → Nat → Int32} {fo : Nat → Option Nat} {own : String} {s0 : State}
theorem R_run {y : MethodName} {bytes : ByteArray} {maxL idx n nL b ci N mc ms : Nat} {C : String} {Tt : u_T} {fs : List Value} {ret : Option FieldType} {rm : Room} {Qc : Array Value → State → Outcome → State → Prop} {As : List Value} (hx : p.tables.exec = Jvm.exec) (hb : c.code = cc) (hml : c.maxLocals = nL) (K : cK D T own s m args) (hM : RW D T A h0 ad rf xf nf fo H) (hxB : xB s0 s) (hA : ∀ q, A q → s0.heap.size ≤ q) (hS : va_S A s.heap H locs)
    (hrec : ∀ h, RdW T h ad rf xf nf fo → h b = some (.inr (ci, fs))) (hci : classes[ci]? = some (C, Tt, N))
    (hC : Met l y (.code y bytes maxL ret :: lw_g) rm (va_Pc (.ref b :: As) (rP s0 D T A h0 ad rf xf nf fo)) Qc mc ms A)
    (hcode : Cond.code y bytes maxL ret ∈ lw_g) (hlink : Cond.methodLink own idx y ∈ lw_g) (hins : Cond.instanceMethod y ∈ lw_g) (hsel : Cond.selects C y y ∈ lw_g) (hini : Cond.initialized y.cls ∈ lw_g) (hrc : rm.cells = mc) (hrs : rm.slots = ms) (hd : y.cls ≠ "java/lang/invoke/MethodHandle" ∧ y.cls ≠ "java/lang/invoke/VarHandle" ∧ (parseMethodDescriptor y.desc).map (fun d => d.parameters.length) = some n) (hR : rm.frames + 1 ≤ R.frames ∧ 8 + (maxL + 11) + rm.locals ≤ R.locals)
    (hn : As.length = n) (hsize : ls.size = nL) {st : List Value} (hst : st = As.reverse ++ .ref b :: rest) (hW : 2 * (F0 m pc ls st).monitorRoom + (rest.map fun v => v.category).sum ≤ 8) (hdg : decode cc pc = .ok (.invokevirtual idx, 3)) (hf : cells + mc ≤ R.cells ∧ slots + ms ≤ R.slots) :
    va_Run p l e R s m args below meth c H locs cells slots mc ms (F0 m pc ls st) rest (Qc (Value.ref b :: As).toArray) A := by
  obtain ⟨hts, hown, hK⟩ := K
  have hw : ∀ w ∈ (Cond.code y bytes maxL ret :: lw_g), w.before args s = true := fun w h => by
    rcases List.mem_cons.mp h with e | e
    · rw [e]; exact hts _ hcode
    · exact hts w e
  obtain ⟨h, q1, q2, q3⟩ := id hM
  refine va_runV (Ts := .code y bytes maxL ret :: lw_g) (own := own) (C := C) (nL := nL) (bytes := bytes) (maxL := maxL) (ret := ret) (n := n) ⟨hx, hb, hml, hown, hw⟩ hC ⟨callB_of n (Ts := .code y bytes maxL ret :: lw_g) hw (lw_goodIn _ hcode) rfl hrc hrs (hts _ hini) (hts _ hlink) hd hR, hts _ hins, hts _ hsel⟩ ⟨rP.blind, va_recv hK (q1.one (hrec h q2)) hci (q0 := 0) rfl, fun U hU hW9 => ⟨rfl, xB.later hxB hA (by rw [hU]; exact hS) hW9, by rw [hU]; exact hM, va_K.moved hW9.alike hK⟩⟩ rfl hn hsize hst hW hdg hf
/-- a static method that looks at nothing -/
theorem S_run {y : MethodName} {bytes : ByteArray} {maxL idx n nL : Nat} {ret : Option FieldType} {rm : Room} {Qc : Array Value → State → Outcome → State → Prop} {As : List Value} (hx : p.tables.exec = Jvm.exec) (hb : c.code = cc) (hml : c.maxLocals = nL) (K : cK D T own s m args)
    (hC : Met l y (.code y bytes maxL ret :: lw_g) rm (va_Pc As (fun _ => True)) Qc 0 0 (fun _ => False))
    (hcode : Cond.code y bytes maxL ret ∈ lw_g) (hlink : Cond.methodLink own idx y ∈ lw_g) (hins : Cond.static y ∈ lw_g) (hini : Cond.initialized y.cls ∈ lw_g) (hrc : rm.cells = 0) (hrs : rm.slots = 0) (hd : y.cls ≠ "java/lang/invoke/MethodHandle" ∧ y.cls ≠ "java/lang/invoke/VarHandle" ∧ (parseMethodDescriptor y.desc).map (fun d => d.parameters.length) = some n) (hR : rm.frames + 1 ≤ R.frames ∧ 8 + (maxL + 11) + rm.locals ≤ R.locals)
    (hn : As.length = n) (hsize : ls.size = nL) {st : List Value} (hst : st = As.reverse ++ rest) (hW : 2 * (F0 m pc ls st).monitorRoom + (rest.map fun v => v.category).sum ≤ 8) (hdg : decode cc pc = .ok (.invokestatic idx, 3)) (hf : cells + 0 ≤ R.cells ∧ slots + 0 ≤ R.slots) :
    va_Run p l e R s m args below meth c H locs cells slots 0 0 (F0 m pc ls st) rest (Qc As.toArray) (fun _ => False) := by
  obtain ⟨hts, hown, hK⟩ := K
  have hw : ∀ w ∈ (Cond.code y bytes maxL ret :: lw_g), w.before args s = true := fun w h => by
    rcases List.mem_cons.mp h with e | e
    · rw [e]; exact hts _ hcode
    · exact hts w e
  exact va_runS (Ts := .code y bytes maxL ret :: lw_g) (own := own) (nL := nL) (bytes := bytes) (maxL := maxL) (ret := ret) (n := n) ⟨hx, hb, hml, hown, hw⟩ hC ⟨callB_of n (Ts := .code y bytes maxL ret :: lw_g) hw (lw_goodIn _ hcode) rfl hrc hrs (hts _ hini) (hts _ hlink) hd hR, hts _ hins⟩ ⟨fun a U g mk q => q, fun U hU hW9 => ⟨rfl, trivial⟩⟩ rfl hn hsize hst hW hdg hf
end RCALLS
theorem r_endi {s : State} {H : Heap} {locs : List Loc} {args : Array Value} {D : va_G} {T : Nat → ClassId} {A : Nat → Prop} {h0 : Nat → Option va_E} {ad : Nat → Nat → Nat} {rf : Nat → Int32} {xf nf : Nat → Nat → Int32} {fo : Nat → Option Nat} {post : Int32 → SS → Prop} {v : Int32} (hM : RW D T A h0 ad rf xf nf fo H) (hS : va_S A s.heap H locs) (hp : post v (rf, xf, nf, fo)) : ∀ t : State, t.heap = H → s.WarmedH t.vm → va_Qi post (rB D T A h0 ad) A args s (.returned (some (.int v))) t := fun t ht _ => ⟨⟨v, (rf, xf, nf, fo), rfl, hp, by show RW D T A h0 ad rf xf nf fo t.heap; rw [ht]; exact hM⟩, hS.F ht⟩
theorem r_endv {s : State} {H : Heap} {locs : List Loc} {args : Array Value} {D : va_G} {T : Nat → ClassId} {A : Nat → Prop} {h0 : Nat → Option va_E} {ad : Nat → Nat → Nat} {rf : Nat → Int32} {xf nf : Nat → Nat → Int32} {fo : Nat → Option Nat} {post : SS → Prop} (hM : RW D T A h0 ad rf xf nf fo H) (hS : va_S A s.heap H locs) (hp : post (rf, xf, nf, fo)) : ∀ t : State, t.heap = H → s.WarmedH t.vm → va_Qv post (rB D T A h0 ad) A args s (.returned none) t := fun t ht _ => ⟨⟨(rf, xf, nf, fo), rfl, hp, by show RW D T A h0 ad rf xf nf fo t.heap; rw [ht]; exact hM⟩, hS.F ht⟩
