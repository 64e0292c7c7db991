/-- the classes whose objects the worlds hold (those of the class come in when its contracts do) -/
abbrev classes : List vw_C := [(RM, TM, 40), (R_C, T_C, 6)]
theorem x_arr {s : State} {args : Array Value} {ty : FieldType} (h : (Cond.arrayClass ty).before args s = true) (hp : ∀ C, ty ≠ .object C) : ∃ cA : ClassId, ArrOfT s cA ty ∧ va_RA s cA ty := by
  obtain ⟨c, k, comp, h1, h2, h3⟩ := Cond.arrayClass_spec h
  refine ⟨c, fun n z => ⟨fun k h => (by cases h), k, h2, comp, h3⟩, ?_⟩
  cases ty with
  | object C => exact absurd rfl (hp C)
  | _ => exact h1
/-- WANTING: the class's contracts -/
theorem cls_ok (l : Launch) (s : State) (D : va_G) (tys : List (ClassId × FieldType)) : ∃ (CFr : Nat → (Nat → Prop) → State → Prop) (mI sI : Nat), mI ≤ 500000 ∧ sI ≤ 5000000 ∧ ClsOK l s D classes tys 1 CFr mI sI := sorry
set_option maxHeartbeats 4000000 in
set_option maxRecDepth 100000 in
theorem whole_start {p : Program} {e : Env} {s : State} {m : MethodId} {below : List Frame} {meth : Method} {c : Code} (l : Launch) {b L : Nat} {xs : Nat → Int32} (hL : L ≤ 3) (C0 : lw_At p s m meth c b L xs) : W p l e room_1 s m #[Value.ref b] below meth c s.heap [] 0 0 (lw_Z below #[Value.ref b] s) (entryFrame m ([Value.ref b] : List Value).toArray 7) := by
  obtain ⟨hx, hb, hr, hml, hown, hts, hX, hbl, hlocks, hgv⟩ := id C0
  have hgt : ∀ w ∈ lw_g, w.before #[Value.ref b] s = true := fun w h => hts w (lw_out h)
  obtain ⟨c0, iS0, hKn0⟩ := u_known (C := RM) (T := TM) (N := 40) (n := 40) hgt inM (hgt _ kM_inst)
  obtain ⟨c1, iS1, hKn1⟩ := u_known (C := R_C) (T := T_C) (N := 6) (n := 6) hgt in_C (hgt _ k_C_inst)
  obtain ⟨dC, dI, hKc⟩ : ∃ (dC : Nat → ClassId) (dI : Nat → Nat → Nat), ∀ (k : Nat) (q : vw_C), classes[k]? = some q → u_Kn s q.1 q.2.1 q.2.2 (dC k) (dI k) := by
    refine ⟨fun k => if k = 0 then c0 else c1, fun k => if k = 0 then iS0 else iS1, ?_⟩
    intro k q hq
    match k, hq with
    | 0, hq => cases hq; exact hKn0
    | 1, hq => cases hq; exact hKn1
    | k + 2, hq => simp [classes] at hq
  obtain ⟨cI, hI1, hI2⟩ := x_arr (hgt _ kA_int) (fun _ h => nomatch h)
  obtain ⟨cZ, hZ1, hZ2⟩ := x_arr (hgt _ kA_boolean) (fun _ h => nomatch h)
  obtain ⟨cJ, hJ1, hJ2⟩ := x_arr (hgt _ kA_long) (fun _ h => nomatch h)
  have hK : va_K (dC, dI) classes [(cI, .int), (cZ, .boolean), (cJ, .long)] s := ⟨hKc, fun k q h => by
    match k, h with
    | 0, h => cases h; exact ⟨hI1, hI2⟩
    | 1, h => cases h; exact ⟨hZ1, hZ2⟩
    | 2, h => cases h; exact ⟨hJ1, hJ2⟩
    | k + 3, h => simp at h⟩
  obtain ⟨CFr, mI, sI, h1, h2, OK⟩ := cls_ok l s (dC, dI) [(cI, .int), (cZ, .boolean), (cJ, .long)]
  have hfl := flat_of_before _ hgv
  exact law_open (ci := 0) (cx := 1) (tI := 0) (tZ := 1) (tJ := 2) OK hL C0 h1 h2 (hfl _ (by decide +kernel)) (hfl _ (by decide +kernel)) hK rfl rfl rfl rfl rfl
