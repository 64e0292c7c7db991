-- field 0: int failed 
-- field 1: int[] text 120
-- field 2: int length 
-- field 3: int[] open 13
-- field 4: int[] parts 13
-- field 5: int[] fewest 13
-- field 6: int[] most 13
-- field 7: int depth 
-- field 8: int mode 
-- field 9: int[] kind 120
-- field 10: int[] number 120
-- field 11: int[] names 120
-- field 12: int[] part 480
-- field 13: int nodes 
-- field 14: int[] givenValue 26
-- field 15: boolean[] isGiven 26
-- field 16: int[] bKind 147
-- field 17: int[] bValue 147
-- field 18: int[] bName 147
-- field 19: int[] bNext 147
-- field 20: int bindings 
-- field 21: int[] pairKind 122
-- field 22: int[] pairValue 122
-- field 23: int pairs 
-- field 24: int[] rec 5200
-- field 25: int[] recValue 5200
-- field 26: int[] recMore 5200
-- field 27: int records 
-- field 28: int status 
-- field 29: int steps 
-- field 30: int fault 
-- field 31: int closures 
-- field 32: boolean begins 
-- field 33: int node 
-- field 34: int scope 
-- field 35: int chain 
-- field 36: int vKind 
-- field 37: int v 
-- field 38: int[] showKind 260
-- field 39: int[] showValue 260
def mdF (ad : Nat → Nat) (fi : Nat → Int32) : List Value := [.int (fi 0), .ref (ad 1), .int (fi 2), .ref (ad 3), .ref (ad 4), .ref (ad 5), .ref (ad 6), .int (fi 7), .int (fi 8), .ref (ad 9), .ref (ad 10), .ref (ad 11), .ref (ad 12), .int (fi 13), .ref (ad 14), .ref (ad 15), .ref (ad 16), .ref (ad 17), .ref (ad 18), .ref (ad 19), .int (fi 20), .ref (ad 21), .ref (ad 22), .int (fi 23), .ref (ad 24), .ref (ad 25), .ref (ad 26), .int (fi 27), .int (fi 28), .int (fi 29), .int (fi 30), .int (fi 31), .int (fi 32), .int (fi 33), .int (fi 34), .int (fi 35), .int (fi 36), .int (fi 37), .ref (ad 38), .ref (ad 39)]
def mdN : Nat → Bool := fun k => [0, 2, 7, 8, 13, 20, 23, 27, 28, 29, 30, 31, 33, 34, 35, 36, 37].contains k
def mdR : Nat → Bool := fun k => [1, 3, 4, 5, 6, 9, 10, 11, 12, 14, 15, 16, 17, 18, 19, 21, 22, 24, 25, 26, 38, 39].contains k
def mdI : Nat → Bool := fun k => [1, 3, 4, 5, 6, 9, 10, 11, 12, 14, 16, 17, 18, 19, 21, 22, 24, 25, 26, 38, 39].contains k
def mdZ : Nat → Nat := fun k => match k with
  | 1 => 120
  | 3 => 13
  | 4 => 13
  | 5 => 13
  | 6 => 13
  | 9 => 120
  | 10 => 120
  | 11 => 120
  | 12 => 480
  | 14 => 26
  | 15 => 26
  | 16 => 147
  | 17 => 147
  | 18 => 147
  | 19 => 147
  | 21 => 122
  | 22 => 122
  | 24 => 5200
  | 25 => 5200
  | 26 => 5200
  | 38 => 260
  | 39 => 260
  | _ => 0
def mdO : Nat → Nat := fun k => match k with
  | 1 => 1
  | 3 => 2
  | 4 => 3
  | 5 => 4
  | 6 => 5
  | 9 => 6
  | 10 => 7
  | 11 => 8
  | 12 => 9
  | 14 => 10
  | 15 => 11
  | 16 => 12
  | 17 => 13
  | 18 => 14
  | 19 => 15
  | 21 => 16
  | 22 => 17
  | 24 => 18
  | 25 => 19
  | 26 => 20
  | 38 => 21
  | 39 => 22
  | _ => 0
def mdL (ci : Nat) (cI cZ : ClassId) (o : Nat) (ad : Nat → Nat) (fi : Nat → Int32) (fa : Nat → Nat → Int32) : va_W := [(o, .inr (ci, mdF ad fi)), (ad 1, .inl (cI, 120, .inl (fa 1))), (ad 3, .inl (cI, 13, .inl (fa 3))), (ad 4, .inl (cI, 13, .inl (fa 4))), (ad 5, .inl (cI, 13, .inl (fa 5))), (ad 6, .inl (cI, 13, .inl (fa 6))), (ad 9, .inl (cI, 120, .inl (fa 9))), (ad 10, .inl (cI, 120, .inl (fa 10))), (ad 11, .inl (cI, 120, .inl (fa 11))), (ad 12, .inl (cI, 480, .inl (fa 12))), (ad 14, .inl (cI, 26, .inl (fa 14))), (ad 15, .inl (cZ, 26, .inl (fa 15))), (ad 16, .inl (cI, 147, .inl (fa 16))), (ad 17, .inl (cI, 147, .inl (fa 17))), (ad 18, .inl (cI, 147, .inl (fa 18))), (ad 19, .inl (cI, 147, .inl (fa 19))), (ad 21, .inl (cI, 122, .inl (fa 21))), (ad 22, .inl (cI, 122, .inl (fa 22))), (ad 24, .inl (cI, 5200, .inl (fa 24))), (ad 25, .inl (cI, 5200, .inl (fa 25))), (ad 26, .inl (cI, 5200, .inl (fa 26))), (ad 38, .inl (cI, 260, .inl (fa 38))), (ad 39, .inl (cI, 260, .inl (fa 39)))]
theorem mdF_N {ad : Nat → Nat} {fi : Nat → Int32} : ∀ (k : Nat), mdN k = true → (mdF ad fi)[k]? = some (.int (fi k))
  | 0, _ => rfl
  | 2, _ => rfl
  | 7, _ => rfl
  | 8, _ => rfl
  | 13, _ => rfl
  | 20, _ => rfl
  | 23, _ => rfl
  | 27, _ => rfl
  | 28, _ => rfl
  | 29, _ => rfl
  | 30, _ => rfl
  | 31, _ => rfl
  | 33, _ => rfl
  | 34, _ => rfl
  | 35, _ => rfl
  | 36, _ => rfl
  | 37, _ => rfl
  | 1, h => by simp [mdN] at h
  | 3, h => by simp [mdN] at h
  | 4, h => by simp [mdN] at h
  | 5, h => by simp [mdN] at h
  | 6, h => by simp [mdN] at h
  | 9, h => by simp [mdN] at h
  | 10, h => by simp [mdN] at h
  | 11, h => by simp [mdN] at h
  | 12, h => by simp [mdN] at h
  | 14, h => by simp [mdN] at h
  | 15, h => by simp [mdN] at h
  | 16, h => by simp [mdN] at h
  | 17, h => by simp [mdN] at h
  | 18, h => by simp [mdN] at h
  | 19, h => by simp [mdN] at h
  | 21, h => by simp [mdN] at h
  | 22, h => by simp [mdN] at h
  | 24, h => by simp [mdN] at h
  | 25, h => by simp [mdN] at h
  | 26, h => by simp [mdN] at h
  | 32, h => by simp [mdN] at h
  | 38, h => by simp [mdN] at h
  | 39, h => by simp [mdN] at h
  | k + 40, h => by simp [mdN] at h
theorem mdF_R {ad : Nat → Nat} {fi : Nat → Int32} : ∀ (k : Nat), mdR k = true → (mdF ad fi)[k]? = some (.ref (ad k))
  | 1, _ => rfl
  | 3, _ => rfl
  | 4, _ => rfl
  | 5, _ => rfl
  | 6, _ => rfl
  | 9, _ => rfl
  | 10, _ => rfl
  | 11, _ => rfl
  | 12, _ => rfl
  | 14, _ => rfl
  | 15, _ => rfl
  | 16, _ => rfl
  | 17, _ => rfl
  | 18, _ => rfl
  | 19, _ => rfl
  | 21, _ => rfl
  | 22, _ => rfl
  | 24, _ => rfl
  | 25, _ => rfl
  | 26, _ => rfl
  | 38, _ => rfl
  | 39, _ => rfl
  | 0, h => by simp [mdR] at h
  | 2, h => by simp [mdR] at h
  | 7, h => by simp [mdR] at h
  | 8, h => by simp [mdR] at h
  | 13, h => by simp [mdR] at h
  | 20, h => by simp [mdR] at h
  | 23, h => by simp [mdR] at h
  | 27, h => by simp [mdR] at h
  | 28, h => by simp [mdR] at h
  | 29, h => by simp [mdR] at h
  | 30, h => by simp [mdR] at h
  | 31, h => by simp [mdR] at h
  | 32, h => by simp [mdR] at h
  | 33, h => by simp [mdR] at h
  | 34, h => by simp [mdR] at h
  | 35, h => by simp [mdR] at h
  | 36, h => by simp [mdR] at h
  | 37, h => by simp [mdR] at h
  | k + 40, h => by simp [mdR] at h
theorem mdF_set {ad : Nat → Nat} {fi : Nat → Int32} {v : Int32} : ∀ (k : Nat), mdN k = true → (mdF ad fi).set k (.int v) = mdF ad (va_up fi k v)
  | 0, _ => rfl
  | 2, _ => rfl
  | 7, _ => rfl
  | 8, _ => rfl
  | 13, _ => rfl
  | 20, _ => rfl
  | 23, _ => rfl
  | 27, _ => rfl
  | 28, _ => rfl
  | 29, _ => rfl
  | 30, _ => rfl
  | 31, _ => rfl
  | 33, _ => rfl
  | 34, _ => rfl
  | 35, _ => rfl
  | 36, _ => rfl
  | 37, _ => rfl
  | 1, h => by simp [mdN] at h
  | 3, h => by simp [mdN] at h
  | 4, h => by simp [mdN] at h
  | 5, h => by simp [mdN] at h
  | 6, h => by simp [mdN] at h
  | 9, h => by simp [mdN] at h
  | 10, h => by simp [mdN] at h
  | 11, h => by simp [mdN] at h
  | 12, h => by simp [mdN] at h
  | 14, h => by simp [mdN] at h
  | 15, h => by simp [mdN] at h
  | 16, h => by simp [mdN] at h
  | 17, h => by simp [mdN] at h
  | 18, h => by simp [mdN] at h
  | 19, h => by simp [mdN] at h
  | 21, h => by simp [mdN] at h
  | 22, h => by simp [mdN] at h
  | 24, h => by simp [mdN] at h
  | 25, h => by simp [mdN] at h
  | 26, h => by simp [mdN] at h
  | 32, h => by simp [mdN] at h
  | 38, h => by simp [mdN] at h
  | 39, h => by simp [mdN] at h
  | k + 40, h => by simp [mdN] at h
theorem mdL_I {ci : Nat} {cI cZ : ClassId} {o : Nat} {ad : Nat → Nat} {fi : Nat → Int32} {fa : Nat → Nat → Int32} : ∀ (k : Nat), mdI k = true → (mdL ci cI cZ o ad fi fa)[mdO k]? = some (ad k, .inl (cI, mdZ k, .inl (fa k)))
  | 1, _ => rfl
  | 3, _ => rfl
  | 4, _ => rfl
  | 5, _ => rfl
  | 6, _ => rfl
  | 9, _ => rfl
  | 10, _ => rfl
  | 11, _ => rfl
  | 12, _ => rfl
  | 14, _ => rfl
  | 16, _ => rfl
  | 17, _ => rfl
  | 18, _ => rfl
  | 19, _ => rfl
  | 21, _ => rfl
  | 22, _ => rfl
  | 24, _ => rfl
  | 25, _ => rfl
  | 26, _ => rfl
  | 38, _ => rfl
  | 39, _ => rfl
  | 0, h => by simp [mdI] at h
  | 2, h => by simp [mdI] at h
  | 7, h => by simp [mdI] at h
  | 8, h => by simp [mdI] at h
  | 13, h => by simp [mdI] at h
  | 15, h => by simp [mdI] at h
  | 20, h => by simp [mdI] at h
  | 23, h => by simp [mdI] at h
  | 27, h => by simp [mdI] at h
  | 28, h => by simp [mdI] at h
  | 29, h => by simp [mdI] at h
  | 30, h => by simp [mdI] at h
  | 31, h => by simp [mdI] at h
  | 32, h => by simp [mdI] at h
  | 33, h => by simp [mdI] at h
  | 34, h => by simp [mdI] at h
  | 35, h => by simp [mdI] at h
  | 36, h => by simp [mdI] at h
  | 37, h => by simp [mdI] at h
  | k + 40, h => by simp [mdI] at h
theorem mdL_set {ci : Nat} {cI cZ : ClassId} {o : Nat} {ad : Nat → Nat} {fi : Nat → Int32} {fa : Nat → Nat → Int32} {g : Nat → Int32} : ∀ (k : Nat), mdI k = true → (mdL ci cI cZ o ad fi fa).set (mdO k) (ad k, .inl (cI, mdZ k, .inl g)) = mdL ci cI cZ o ad fi (va_up fa k g)
  | 1, _ => rfl
  | 3, _ => rfl
  | 4, _ => rfl
  | 5, _ => rfl
  | 6, _ => rfl
  | 9, _ => rfl
  | 10, _ => rfl
  | 11, _ => rfl
  | 12, _ => rfl
  | 14, _ => rfl
  | 16, _ => rfl
  | 17, _ => rfl
  | 18, _ => rfl
  | 19, _ => rfl
  | 21, _ => rfl
  | 22, _ => rfl
  | 24, _ => rfl
  | 25, _ => rfl
  | 26, _ => rfl
  | 38, _ => rfl
  | 39, _ => rfl
  | 0, h => by simp [mdI] at h
  | 2, h => by simp [mdI] at h
  | 7, h => by simp [mdI] at h
  | 8, h => by simp [mdI] at h
  | 13, h => by simp [mdI] at h
  | 15, h => by simp [mdI] at h
  | 20, h => by simp [mdI] at h
  | 23, h => by simp [mdI] at h
  | 27, h => by simp [mdI] at h
  | 28, h => by simp [mdI] at h
  | 29, h => by simp [mdI] at h
  | 30, h => by simp [mdI] at h
  | 31, h => by simp [mdI] at h
  | 32, h => by simp [mdI] at h
  | 33, h => by simp [mdI] at h
  | 34, h => by simp [mdI] at h
  | 35, h => by simp [mdI] at h
  | 36, h => by simp [mdI] at h
  | 37, h => by simp [mdI] at h
  | k + 40, h => by simp [mdI] at h
/-- the reference's world -/
def mdW (D : va_G) (cl : List vw_C) (A : Nat → Prop) (ci : Nat) (cI cZ : ClassId) (o : Nat) (ad : Nat → Nat) (fi : Nat → Int32) (fa : Nat → Nat → Int32) (H : Heap) : Prop := va_P D cl (mdL ci cI cZ o ad fi fa) H ∧ va_D A (mdL ci cI cZ o ad fi fa)
/-- what stands around a walk of a method of the reference -/
def mdC (D : va_G) (cl : List vw_C) (tys : List (ClassId × FieldType)) (ci tI tZ : Nat) (cI cZ : ClassId) (s : State) (m : MethodId) (args : Array Value) : Prop :=
  (∀ w ∈ lw_g, w.before args s = true) ∧ s.vm.findClass RM = some m.cls ∧ va_K D cl tys s ∧ cl[ci]? = some (RM, TM, 40) ∧ tys[tI]? = some (cI, .int) ∧ tys[tZ]? = some (cZ, .boolean)
section MROWS
variable {p : Program} {l : Launch} {e : Env} {R : Room} {s : State} {m : MethodId} {args : Array Value} {below : List Frame} {meth : Method} {c : Code} {H : Heap} {locs : List Loc} {cells slots : Nat} {Q : State → Prop}
variable {cc : ByteArray} {pc : Nat} {ls : Array Slot} {rest : List Value} {D : va_G} {cl : List vw_C} {A : Nat → Prop} {tys : List (ClassId × FieldType)} {H0 : Heap} {ci tI tZ : Nat} {cI cZ : ClassId} {o : Nat} {ad : Nat → Nat} {fi : Nat → Int32} {fa : Nat → Nat → Int32}
theorem M_geti (hx : p.tables.exec = Jvm.exec) (hb : c.code = cc) (K : mdC D cl tys ci tI tZ cI cZ s m args) (hM : mdW D cl A ci cI cZ o ad fi fa H) (k : Nat) {idx : Nat} (hl : Cond.fieldLink RM idx "ContinuationCoreModel" (TM k).2.1 (TM k).2.2.1 ∈ lw_g) (hdg : decode cc pc = .ok (.getfield idx, 3)) (hk : mdN k = true := by rfl) (h40 : k < 40 := by decide) (hT : (TM k).1 = "ContinuationCoreModel" := by rfl)
    (kk : W p l e R s m args below meth c H locs cells slots Q (F0 m (pc + 3) ls (.int (fi k) :: rest))) : W p l e R s m args below meth c H locs cells slots Q (F0 m pc ls (.ref o :: rest)) :=
  va_get (q0 := 0) hx hb K.1 inM K.2.1 K.2.2.1 hM.1 rfl K.2.2.2.1 k h40 (K.1 _ hl) (fun _ h => by rw [hT] at h; exact h) (mdF_N k hk) hdg kk
theorem M_geta (hx : p.tables.exec = Jvm.exec) (hb : c.code = cc) (K : mdC D cl tys ci tI tZ cI cZ s m args) (hM : mdW D cl A ci cI cZ o ad fi fa H) (k : Nat) {idx : Nat} (hl : Cond.fieldLink RM idx "ContinuationCoreModel" (TM k).2.1 (TM k).2.2.1 ∈ lw_g) (hdg : decode cc pc = .ok (.getfield idx, 3)) (hk : mdR k = true := by rfl) (h40 : k < 40 := by decide) (hT : (TM k).1 = "ContinuationCoreModel" := by rfl)
    (kk : W p l e R s m args below meth c H locs cells slots Q (F0 m (pc + 3) ls (.ref (ad k) :: rest))) : W p l e R s m args below meth c H locs cells slots Q (F0 m pc ls (.ref o :: rest)) :=
  va_get (q0 := 0) hx hb K.1 inM K.2.1 K.2.2.1 hM.1 rfl K.2.2.2.1 k h40 (K.1 _ hl) (fun _ h => by rw [hT] at h; exact h) (mdF_R k hk) hdg kk
theorem M_puti (hx : p.tables.exec = Jvm.exec) (hb : c.code = cc) (K : mdC D cl tys ci tI tZ cI cZ s m args) (hM : mdW D cl A ci cI cZ o ad fi fa H) (hS : va_S A H0 H locs) (k : Nat) {idx : Nat} {v : Int32} (hl : Cond.fieldLink RM idx "ContinuationCoreModel" (TM k).2.1 (TM k).2.2.1 ∈ lw_g) (hdg : decode cc pc = .ok (.putfield idx, 3)) (hk : mdN k = true := by rfl) (h40 : k < 40 := by decide) (hT : (TM k).1 = "ContinuationCoreModel" := by rfl) (hf : (TM k).2.2.2 = false := by rfl) (hd : parseFieldDescriptor (TM k).2.2.1 = some .int := by decide +kernel)
    (kk : ∀ (H1 : Heap) (locs1 : List Loc), mdW D cl A ci cI cZ o ad (va_up fi k v) fa H1 → va_S A H0 H1 locs1 → W p l e R s m args below meth c H1 locs1 cells slots Q (F0 m (pc + 3) ls rest)) : W p l e R s m args below meth c H locs cells slots Q (F0 m pc ls (.int v :: .ref o :: rest)) := by
  refine va_put (q0 := 0) hx hb K.1 inM tyM tyM_ok nmM K.2.1 K.2.2.1 hM.1 hM.2 hS rfl K.2.2.2.1 k h40 (K.1 _ hl) (fun _ h => by rw [hT] at h; exact h) hf hd rfl rfl (by show k < 40; exact h40) hdg (fun H1 locs1 p1 d1 s1 => kk H1 locs1 ⟨?_, ?_⟩ s1)
  · rw [mdF_set k hk] at p1; exact p1
  · rw [mdF_set k hk] at d1; exact d1
theorem M_ald (hx : p.tables.exec = Jvm.exec) (hb : c.code = cc) (K : mdC D cl tys ci tI tZ cI cZ s m args) (hM : mdW D cl A ci cI cZ o ad fi fa H) (k : Nat) {i : Int32} (hin : vp_in i (mdZ k)) (hdg : decode cc pc = .ok (.iaload, 1)) (hk : mdI k = true := by rfl)
    (kk : W p l e R s m args below meth c H locs cells slots Q (F0 m (pc + 1) ls (.int (fa k i.toNatClampNeg) :: rest))) : W p l e R s m args below meth c H locs cells slots Q (F0 m pc ls (.int i :: .ref (ad k) :: rest)) :=
  va_iald hx hb K.2.2.1 hM.1 (mdO k) tI (mdL_I k hk) K.2.2.2.2.1 hin hdg kk
theorem M_ast (hx : p.tables.exec = Jvm.exec) (hb : c.code = cc) (K : mdC D cl tys ci tI tZ cI cZ s m args) (hM : mdW D cl A ci cI cZ o ad fi fa H) (hS : va_S A H0 H locs) (k : Nat) {i x : Int32} (hin : vp_in i (mdZ k)) (hdg : decode cc pc = .ok (.iastore, 1)) (hk : mdI k = true := by rfl)
    (kk : ∀ (H1 : Heap) (locs1 : List Loc), mdW D cl A ci cI cZ o ad fi (va_up fa k (upd (fa k) i.toNatClampNeg x)) H1 → va_S A H0 H1 locs1 → W p l e R s m args below meth c H1 locs1 cells slots Q (F0 m (pc + 1) ls rest)) : W p l e R s m args below meth c H locs cells slots Q (F0 m pc ls (.int x :: .int i :: .ref (ad k) :: rest)) :=
  va_iast hx hb K.2.2.1 hM.1 hM.2 hS (mdO k) tI (mdL_I k hk) K.2.2.2.2.1 hin hdg (fun H1 locs1 p1 d1 s1 => kk H1 locs1 ⟨by rw [mdL_set k hk] at p1; exact p1, by rw [mdL_set k hk] at d1; exact d1⟩ s1)
end MROWS
/-- a method of the reference: its start, its end -/
def mdPre (D : va_G) (cl : List vw_C) (tys : List (ClassId × FieldType)) (A : Nat → Prop) (ci tI tZ : Nat) (cI cZ : ClassId) (o : Nat) (ad : Nat → Nat) (fi : Nat → Int32) (fa : Nat → Nat → Int32) : State → Prop := fun U => mdW D cl A ci cI cZ o ad fi fa U.heap ∧ va_K D cl tys U ∧ cl[ci]? = some (RM, TM, 40) ∧ tys[tI]? = some (cI, .int) ∧ tys[tZ]? = some (cZ, .boolean)
def mdB (D : va_G) (cl : List vw_C) (tys : List (ClassId × FieldType)) (A : Nat → Prop) (ci : Nat) (cI cZ : ClassId) (o : Nat) (ad : Nat → Nat) : (Nat → Int32) × (Nat → Nat → Int32) → State → Prop := fun S t => mdW D cl A ci cI cZ o ad S.1 S.2 t.heap ∧ va_K D cl tys t
theorem lw_goodIn (c0 : Cond) {c1 : Cond} (h : c1 ∈ lw_g) : GoodIn (c0 :: lw_g) (c1 :: lw_g) := fun w hw => by
  have hm : w ∈ lw_g := by
    rcases List.mem_cons.mp hw with e | e
    · rw [e]; exact h
    · exact e
  exact ⟨List.mem_cons_of_mem _ hm, good_of_word (lw_good hm)⟩
theorem mdPre.blind {D : va_G} {cl : List vw_C} {tys : List (ClassId × FieldType)} {A : Nat → Prop} {ci tI tZ : Nat} {cI cZ : ClassId} {o : Nat} {ad : Nat → Nat} {fi : Nat → Int32} {fa : Nat → Nat → Int32} {av : List Value} : FrameBlind (va_Pc av (mdPre D cl tys A ci tI tZ cI cZ o ad fi fa)) := fun a U g mk q => by
  obtain ⟨q0, q1, q2, q3⟩ := q
  exact ⟨q0, q1, va_K.moved (u := U) (U := U.calling g mk a) (Vm.Alike.refl U.vm) q2, q3⟩
section MCALLS
variable {p : Program} {l : Launch} {e : Env} {R : Room} {s : State} {m : MethodId} {args : Array Value} {below : List Frame} {meth : Method} {c : Code} {H : Heap} {locs : List Loc} {cells slots : Nat} {Q : State → Prop}
variable {cc : ByteArray} {pc : Nat} {ls : Array Slot} {rest : List Value} {D : va_G} {cl : List vw_C} {A : Nat → Prop} {tys : List (ClassId × FieldType)} {H0 : Heap} {ci tI tZ : Nat} {cI cZ : ClassId} {o : Nat} {ad : Nat → Nat} {fi : Nat → Int32} {fa : Nat → Nat → Int32}
/-- a call of a method of the reference's own, by itself -/
theorem M_run {y : MethodName} {bytes : ByteArray} {maxL idx n nL mc ms : Nat} {ret : Option FieldType} {rm : Room} {Qc : Array Value → State → Outcome → State → Prop} {As : List Value} (hx : p.tables.exec = Jvm.exec) (hb : c.code = cc) (hml : c.maxLocals = nL) (K : mdC D cl tys ci tI tZ cI cZ s m args) (hM : mdW D cl A ci cI cZ o ad fi fa H)
    (hC : Met l y (.code y bytes maxL ret :: lw_g) rm (va_Pc (.ref o :: As) (mdPre D cl tys A ci tI tZ cI cZ o ad fi fa)) Qc mc ms A)
    (hcode : Cond.code y bytes maxL ret ∈ lw_g) (hlink : Cond.methodLink RM idx y ∈ lw_g) (hins : Cond.instanceMethod y ∈ lw_g) (hsel : Cond.selects RM y y ∈ lw_g) (hrc : rm.cells = mc) (hrs : rm.slots = ms) (hd : y.cls = RM ∧ (parseMethodDescriptor y.desc).map (fun d => d.parameters.length) = some n) (hR : rm.frames + 1 ≤ R.frames ∧ 8 + (maxL + 11) + rm.locals ≤ R.locals)
    (hn : As.length = n) (hsize : ls.size = nL) {st : List Value} (hst : st = As.reverse ++ .ref o :: rest) (hW : 2 * (F0 m pc ls st).monitorRoom + (rest.map fun v => v.category).sum ≤ 8) (hdg : decode cc pc = .ok (.invokevirtual idx, 3)) (hf : cells + mc ≤ R.cells ∧ slots + ms ≤ R.slots) :
    va_Run p l e R s m args below meth c H locs cells slots mc ms (F0 m pc ls st) rest (Qc (Value.ref o :: As).toArray) A := by
  obtain ⟨hts, hown, hK, hc, hI, hZ⟩ := K
  have hmh : y.cls ≠ "java/lang/invoke/MethodHandle" ∧ y.cls ≠ "java/lang/invoke/VarHandle" := by rw [hd.1]; decide
  refine va_runV (Ts := .code y bytes maxL ret :: lw_g) (own := RM) (C := RM) (nL := nL) (bytes := bytes) (maxL := maxL) (ret := ret) (n := n) ⟨hx, hb, hml, hown, fun w h => ?_⟩ hC ⟨callB_of n (Ts := .code y bytes maxL ret :: lw_g) (fun w h => ?_) (lw_goodIn _ hcode) rfl hrc hrs ?_ (hts _ hlink) ⟨hmh.1, hmh.2, hd.2⟩ hR, hts _ hins, hts _ hsel⟩ ⟨mdPre.blind, va_recv hK hM.1 hc (q0 := 0) rfl, fun U hU hW => ⟨rfl, by rw [hU]; exact hM, va_K.moved hW.alike hK, hc, hI, hZ⟩⟩ rfl hn hsize hst hW hdg hf
  · rcases List.mem_cons.mp h with e | e
    · rw [e]; exact hts _ hcode
    · exact hts w e
  · rcases List.mem_cons.mp h with e | e
    · rw [e]; exact hts _ hcode
    · exact hts w e
  · rw [hd.1]; exact hts _ kM_ini
end MCALLS
