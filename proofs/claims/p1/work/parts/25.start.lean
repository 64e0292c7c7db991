theorem x_arr {s : State} {args : Array Value} {ty : FieldType} (h : (Cond.arrayClass ty).before args s = true) (hp : ∀ C, ty ≠ .object C) : ∃ cA : ClassId, ArrOfT s cA ty ∧ va_RA s cA ty := by
  obtain ⟨c, k, comp, h1, h2, h3⟩ := Cond.arrayClass_spec h
  refine ⟨c, fun n z => ⟨fun k h => (by cases h), k, h2, comp, h3⟩, ?_⟩
  cases ty with
  | object C => exact absurd rfl (hp C)
  | _ => exact h1
theorem x_arrO {s : State} {args : Array Value} {C : String} (h : (Cond.arrayOver (.object C)).before args s = true) : ∃ cA : ClassId, ArrOfT s cA (.object C) ∧ va_RA s cA (.object C) := by
  obtain ⟨comp, c, k, h1, h2, h3, h4, h5⟩ := Cond.arrayOver_spec h
  exact ⟨c, fun n z => ⟨fun k h => (by cases h), k, h3, comp, h4⟩, k, comp, h3, h4, h1, h5⟩
theorem k_cs : Cond.laysStatic "java/lang/String" "COMPACT_STRINGS" "Z" ∈ lw_tbl := List.mem_append_right _ (List.mem_of_getElem? (i := 119) (by decide +kernel))
set_option maxHeartbeats 8000000 in
set_option maxRecDepth 100000 in
theorem g0_start {l : Launch} {s : State} {b : Nat} (hfl : l.stackTraces = false) (hts : ∀ w ∈ lw_tbl, w.before #[Value.ref b] s = true) (hgv : (Jvm.Cond.and given_1 narrow_1).before #[Value.ref b] s = true) : G0 l #[Value.ref b] s := by
  have hfa := flat_of_before _ hgv
  refine ⟨hfl, hts, ⟨hfa _ (by decide +kernel), hfa _ (by decide +kernel)⟩, ?_, ?_⟩
  · have hel : ∀ i : Nat, i < 1 → ∀ j : Nat, j < ([17] : List Nat).getD i 0 → (Cond.eq (.elem (.field ((fun _ : Nat => Term.string "ContinuationCore$Reader" 63) i) "java/lang/String" "value" "[B") (.int (Int32.ofNat j))) (.int (([fsB].getD i []).getD j 0))).before #[Value.ref b] s = true := by
      intro i hi j hj
      obtain rfl : i = 0 := by omega
      have hj : j < 17 := hj
      rcases (show j = 0 ∨ j = 1 ∨ j = 2 ∨ j = 3 ∨ j = 4 ∨ j = 5 ∨ j = 6 ∨ j = 7 ∨ j = 8 ∨ j = 9 ∨ j = 10 ∨ j = 11 ∨ j = 12 ∨ j = 13 ∨ j = 14 ∨ j = 15 ∨ j = 16 by omega) with rfl | rfl | rfl | rfl | rfl | rfl | rfl | rfl | rfl | rfl | rfl | rfl | rfl | rfl | rfl | rfl | rfl
      · exact hfa _ (by decide +kernel)
      · exact hfa _ (by decide +kernel)
      · exact hfa _ (by decide +kernel)
      · exact hfa _ (by decide +kernel)
      · exact hfa _ (by decide +kernel)
      · exact hfa _ (by decide +kernel)
      · exact hfa _ (by decide +kernel)
      · exact hfa _ (by decide +kernel)
      · exact hfa _ (by decide +kernel)
      · exact hfa _ (by decide +kernel)
      · exact hfa _ (by decide +kernel)
      · exact hfa _ (by decide +kernel)
      · exact hfa _ (by decide +kernel)
      · exact hfa _ (by decide +kernel)
      · exact hfa _ (by decide +kernel)
      · exact hfa _ (by decide +kernel)
      · exact hfa _ (by decide +kernel)
    obtain ⟨adK, adV, hS, hE⟩ := vk_Sof (args := #[Value.ref b]) (s := s) (N := 1) (tm := fun _ => .string "ContinuationCore$Reader" 63) (len := [17]) (byt := [fsB]) (A := noA) (fun i hi => by rw [show i = 0 by omega]; decide) (fun i _ => hfa _ (by decide +kernel)) (fun i _ => hfa _ (by decide +kernel)) (fun i _ => hfa _ (by decide +kernel)) (fun i hi => by rw [show i = 0 by omega]; exact hfa _ (by decide +kernel)) hel (fun i j hi hj hij => absurd (show i = j by omega) hij) (fun _ _ z => z)
    refine ⟨adK 0, adV 0, ⟨?_, (hS.1 0 (by decide)).1, (hS.1 0 (by decide)).2.1, (hS.1 0 (by decide)).2.2.1, (hS.1 0 (by decide)).2.2.2⟩, vk_R.of (hts _ k_Reader_s63) (hE 0 (by decide))⟩
    exact va_Zof (hts _ k_cs) (hts _ (lw_out k_St_ini)) (va_eqi (hfa _ (by decide +kernel))) (fun _ _ z => z)
  · intro q hq
    have ex : ∀ (k : Nat) (tx : String), Cond.stringRef R_C k tx ∈ lw_tbl → (Cond.exactly (.string "ContinuationCore" k) "java/lang/String").before #[Value.ref b] s = true → ∃ sa, vk_R R_C k tx sa s := fun k tx h1 h2 => by
      obtain ⟨a, c, cA, kA, q1, -⟩ := Cond.exactly_spec (args := #[Value.ref b]) (first := s) (o := none) (s := s) (idx := []) (t := .string "ContinuationCore" k) (cls := "java/lang/String") h2
      exact ⟨a, vk_R.of (hts _ h1) q1⟩
    simp only [strs, List.mem_cons, List.not_mem_nil, or_false] at hq
    rcases hq with rfl | rfl | rfl | rfl | rfl | rfl | rfl | rfl | rfl | rfl
    · exact ex _ _ k_C_s51 (hfa _ (by decide +kernel))
    · exact ex _ _ k_C_s61 (hfa _ (by decide +kernel))
    · exact ex _ _ k_C_s71 (hfa _ (by decide +kernel))
    · exact ex _ _ k_C_s84 (hfa _ (by decide +kernel))
    · exact ex _ _ k_C_s97 (hfa _ (by decide +kernel))
    · exact ex _ _ k_C_s99 (hfa _ (by decide +kernel))
    · exact ex _ _ k_C_s124 (hfa _ (by decide +kernel))
    · exact ex _ _ k_C_s126 (hfa _ (by decide +kernel))
    · exact ex _ _ k_C_s128 (hfa _ (by decide +kernel))
    · exact ex _ _ k_C_s154 (hfa _ (by decide +kernel))
set_option maxHeartbeats 8000000 in
set_option maxRecDepth 100000 in
theorem whole_start {p : Program} {e : Env} {s : State} {m : MethodId} {below : List Frame} {meth : Method} {c : Code} (l : Launch) (hfl : l.stackTraces = false) {b L : Nat} {xs : Nat → Int32} (hL : L ≤ 3) (C0 : lw_At p s m meth c b L xs) : W p l e room_1 s m #[Value.ref b] below meth c s.heap [] 0 0 (lw_Z below #[Value.ref b] s) (entryFrame m ([Value.ref b] : List Value).toArray 7) := by
  obtain ⟨hx, hb, hr, hml, hown, hts, hX, hbl, hlocks, hgv⟩ := id C0
  have hgt : ∀ w ∈ lw_g, w.before #[Value.ref b] s = true := fun w h => hts w (lw_out h)
  obtain ⟨c0, iS0, hKn0⟩ := u_known (C := RM) (T := TM) (N := 40) (n := 40) hgt inM (hgt _ kM_inst)
  obtain ⟨c1, iS1, hKn1⟩ := u_known (C := R_C) (T := T_C) (N := 6) (n := 6) hgt in_C (hgt _ k_C_inst)
  obtain ⟨c2, iS2, hKn2⟩ := u_known (C := R_Reader) (T := T_Reader) (N := 6) (n := 6) hgt in_Reader (hgt _ k_Reader_inst)
  obtain ⟨c3, iS3, hKn3⟩ := u_known (C := R_Expression) (T := T_Expression) (N := 6) (n := 6) hgt in_Expression (hgt _ k_Expression_inst)
  obtain ⟨c4, iS4, hKn4⟩ := u_known (C := R_Machine) (T := T_Machine) (N := 16) (n := 16) hgt in_Machine (hgt _ k_Machine_inst)
  obtain ⟨c5, iS5, hKn5⟩ := u_known (C := R_Binding) (T := T_Binding) (N := 3) (n := 3) hgt in_Binding (hgt _ k_Binding_inst)
  obtain ⟨c6, iS6, hKn6⟩ := u_known (C := R_Place) (T := T_Place) (N := 5) (n := 5) hgt in_Place (hgt _ k_Place_inst)
  obtain ⟨c7, iS7, hKn7⟩ := u_known (C := R_Pair) (T := T_Pair) (N := 2) (n := 2) hgt in_Pair (hgt _ k_Pair_inst)
  obtain ⟨c8, iS8, hKn8⟩ := u_known (C := R_SB) (T := T_SB) (N := 4) (n := 4) hgt in_SB (hgt _ k_SB_inst)
  obtain ⟨dC, dI, hKc⟩ : ∃ (dC : Nat → ClassId) (dI : Nat → Nat → Nat), ∀ (k : Nat) (q : vw_C), classes[k]? = some q → u_Kn s q.1 q.2.1 q.2.2 (dC k) (dI k) := by
    refine ⟨fun k => if k = 0 then c0 else if k = 1 then c1 else if k = 2 then c2 else if k = 3 then c3 else if k = 4 then c4 else if k = 5 then c5 else if k = 6 then c6 else if k = 7 then c7 else c8, fun k => if k = 0 then iS0 else if k = 1 then iS1 else if k = 2 then iS2 else if k = 3 then iS3 else if k = 4 then iS4 else if k = 5 then iS5 else if k = 6 then iS6 else if k = 7 then iS7 else iS8, ?_⟩
    intro k q hq
    match k, hq with
    | 0, hq => cases hq; exact hKn0
    | 1, hq => cases hq; exact hKn1
    | 2, hq => cases hq; exact hKn2
    | 3, hq => cases hq; exact hKn3
    | 4, hq => cases hq; exact hKn4
    | 5, hq => cases hq; exact hKn5
    | 6, hq => cases hq; exact hKn6
    | 7, hq => cases hq; exact hKn7
    | 8, hq => cases hq; exact hKn8
    | k + 9, hq => simp [classes] at hq
  obtain ⟨t0, hT0⟩ := x_arr (hgt _ kA_int) (fun _ h => nomatch h)
  obtain ⟨t1, hT1⟩ := x_arr (hgt _ kA_boolean) (fun _ h => nomatch h)
  obtain ⟨t2, hT2⟩ := x_arr (hgt _ kA_long) (fun _ h => nomatch h)
  obtain ⟨t3, hT3⟩ := x_arr (hgt _ kA_char) (fun _ h => nomatch h)
  obtain ⟨t4, hT4⟩ := x_arr (hgt _ kA_byte) (fun _ h => nomatch h)
  obtain ⟨t5, hT5⟩ := x_arrO (hts _ k_ao_Expression)
  obtain ⟨t6, hT6⟩ := x_arrO (hts _ k_ao_Binding)
  obtain ⟨t7, hT7⟩ := x_arrO (hts _ k_ao_Place)
  obtain ⟨t8, hT8⟩ := x_arrO (hts _ k_ao_Pair)
  obtain ⟨T, eT0, eT1, eT2, eT3, eT4, eT5, eT6, eT7, eT8⟩ : ∃ T : Nat → ClassId, T 0 = t0 ∧ T 1 = t1 ∧ T 2 = t2 ∧ T 3 = t3 ∧ T 4 = t4 ∧ T 5 = t5 ∧ T 6 = t6 ∧ T 7 = t7 ∧ T 8 = t8 := ⟨fun k => if k = 0 then t0 else if k = 1 then t1 else if k = 2 then t2 else if k = 3 then t3 else if k = 4 then t4 else if k = 5 then t5 else if k = 6 then t6 else if k = 7 then t7 else t8, rfl, rfl, rfl, rfl, rfl, rfl, rfl, rfl, rfl⟩
  have hK : va_K (dC, dI) classes (tyl T) s := ⟨hKc, fun k q h => by
    match k, h with
    | 0, h => cases h; rw [show T 0 = t0 from eT0]; exact hT0
    | 1, h => cases h; rw [show T 1 = t1 from eT1]; exact hT1
    | 2, h => cases h; rw [show T 2 = t2 from eT2]; exact hT2
    | 3, h => cases h; rw [show T 3 = t3 from eT3]; exact hT3
    | 4, h => cases h; rw [show T 4 = t4 from eT4]; exact hT4
    | 5, h => cases h; rw [show T 5 = t5 from eT5]; exact hT5
    | 6, h => cases h; rw [show T 6 = t6 from eT6]; exact hT6
    | 7, h => cases h; rw [show T 7 = t7 from eT7]; exact hT7
    | 8, h => cases h; rw [show T 8 = t8 from eT8]; exact hT8
    | k + 9, h => simp [tyl] at h⟩
  have hfa := flat_of_before _ hgv
  exact law_open (ci := 0) (cx := 1) (tI := 0) (tZ := 1) (tJ := 2) (cls_ok l #[Value.ref b] s (g0_start hfl hts hgv) (dC, dI) T) hL C0 (by decide) (by decide) (hfa _ (by decide +kernel)) (hfa _ (by decide +kernel)) hK rfl rfl rfl rfl rfl
