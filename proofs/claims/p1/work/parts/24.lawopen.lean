theorem kM_i_init : Cond.instanceMethod yM_init ∈ lw_g := lw_in (List.mem_append_right _ (List.mem_of_getElem? (i := 1065) (by decide +kernel))) rfl
set_option maxHeartbeats 16000000 in
set_option maxRecDepth 100000 in
theorem law_open {p : Program} {l : Launch} {e : Env} {s : State} {m : MethodId} {below : List Frame} {meth : Method} {c : Code} {D : va_G} {cl : List vw_C} {tys : List (ClassId × FieldType)} {ci cx tI tZ tJ : Nat} {cI cZ cJ : ClassId} {b L mI sI : Nat} {CFr : Nat → (Nat → Prop) → State → Prop} {xs : Nat → Int32}
    (OK : ClsOK l s D cl tys cx CFr mI sI) (hL : L ≤ 3) (C0 : lw_At p s m meth c b L xs) (hmI : mI ≤ 500000) (hsI : sI ≤ 5000000)
    (hn1 : (Cond.not (.castable "java/lang/IllegalArgumentException" "java/lang/IllegalStateException")).before #[Value.ref b] s = true) (hn2 : (Cond.not (.castable "java/util/NoSuchElementException" "java/lang/IllegalArgumentException")).before #[Value.ref b] s = true)
    (hK : va_K D cl tys s) (hc : cl[ci]? = some (RM, TM, 40)) (hcx : cl[cx]? = some (R_C, T_C, 6)) (hI : tys[tI]? = some (cI, .int)) (hZ : tys[tZ]? = some (cZ, .boolean)) (hJ : tys[tJ]? = some (cJ, .long)) :
    W p l e room_1 s m #[Value.ref b] below meth c s.heap [] 0 0 (lw_Z below #[Value.ref b] s) (entryFrame m ([Value.ref b] : List Value).toArray 7) := by
  obtain ⟨hx, hb, hr, hml, hown, htb, hX, hbl, hlocks, hgv⟩ := C0
  have hgt : ∀ w ∈ lw_g, w.before #[Value.ref b] s = true := fun w h => htb w (lw_out h)
  have hbA : ¬ (fun q : Nat => s.heap.size ≤ q) b := Nat.not_le.mpr hbl
  have hA : ∀ q : Nat, s.heap.size ≤ q → (fun q : Nat => s.heap.size ≤ q) q := fun _ h => h
  have hS : va_S (fun q : Nat => s.heap.size ≤ q) s.heap s.heap [] := va_S.rf
  have hl := lv_entry ([.ref b]) (n := 7) (Nat.le_of_ble_eq_true rfl)
  rw [lg_entry_eq]
  generalize (lg_sl ([.ref b]) ++ List.replicate (7 - (lg_sl ([.ref b])).length) Slot.unset).toArray = ls at hl ⊢
  have hl : lv_has ls 7 [(0, .ref b)] := hl
  -- the end, from the loop's head with i = 3, or where the script is shorter
  have fin : ∀ (H : Heap) (locs : List Loc) (ls : Array Slot) (cells slots : Nat), cells ≤ 600002 → slots ≤ 7302231 → va_S (fun q : Nat => s.heap.size ≤ q) s.heap H locs → W p l e room_1 s m #[Value.ref b] below meth c H locs cells slots (lw_Z below #[Value.ref b] s) (F0 m 623 ls []) := by
    intro H locs ls cells slots h1 h2 hS
    refine lv_iconst (v := 1) hx hb d_Law_law_623 (by decide) ?_
    refine va_forget (fun q hq => hS.2.2 q hq) ?_
    refine W.widen (k := 600002) (n := 7302231) h1 h2 ?_
    exact lw_ret hx hb hr hlocks d_Law_law_624
  -- the object of the class
  refine x_new (ci := cx) (fs := [.null, .null, .null, .null, .int 0, .int 0]) (C := R_C) (T := T_C) (N := 6) hx hb hgt in_C ty_C ty_C_ok hown k_Law_c8 k_C_inst k_C_ini hK hcx (fun j hj => by rcases (show j = 0 ∨ j = 1 ∨ j = 2 ∨ j = 3 ∨ j = 4 ∨ j = 5 by omega) with rfl | rfl | rfl | rfl | rfl | rfl <;> rfl) (Nat.le_of_ble_eq_true rfl) (Nat.le_of_ble_eq_true rfl) d_Law_law_0 (fun H1 hP1 hz1 hk1 => ?_)
  generalize hxo : s.heap.size = xo at hP1 ⊢
  have hS1 : va_S (fun q : Nat => s.heap.size ≤ q) s.heap H1 [] := ⟨by omega, fun q h1 h2 => hk1 q h1, fun _ h => nomatch h⟩
  have hD1 : va_D (fun q : Nat => s.heap.size ≤ q) [(xo, .inr (cx, [.null, .null, .null, .null, .int 0, .int 0]))] := ⟨fun i j x y hi hj _ => by have h1 : i < 1 := (List.getElem?_eq_some_iff.mp hi).1; have h2 : j < 1 := (List.getElem?_eq_some_iff.mp hj).1; omega, fun k q hk => by have h1 : k < 1 := (List.getElem?_eq_some_iff.mp hk).1; rw [show k = 0 by omega] at hk; cases hk; exact Nat.le_of_eq hxo⟩
  refine lv_dup hx hb d_Law_law_3 rfl ?_
  refine va_callv (va_runI (As := []) (rest := [.ref xo]) ⟨hx, hb, hml, hown, hgt⟩ (OK.2.2.2.1 xo) ⟨callB_of 0 (Ts := lw_g) hgt (fun w h => ⟨(List.mem_cons.mp h).elim (fun q => by rw [q]; exact kc_C_init) id, good_of_word (lw_good ((List.mem_cons.mp h).elim (fun q => by rw [q]; exact kc_C_init) id))⟩) rfl rfl rfl (hgt _ k_C_ini) (hgt _ k_Law_m50) (by decide +kernel) ⟨Nat.le_of_ble_eq_true rfl, Nat.le_of_ble_eq_true rfl⟩, rfl, hgt _ ki_C_init⟩ ⟨fun _ U _ _ q => ⟨q.1, q.2.1, q.2.2.1, q.2.2.2.1, va_K.moved (u := U) (Vm.Alike.refl U.vm) q.2.2.2.2⟩, fun U hU hW => ⟨rfl, (xB.rf s).later (A := fun q : Nat => s.heap.size ≤ q) (fun _ h => h) (by rw [hU]; exact hS1) hW, by rw [hU]; exact hP1, hD1, va_K.moved hW.alike hK⟩⟩ rfl rfl hl.1 rfl (lv_room (Nat.le_of_ble_eq_true rfl)) d_Law_law_4 ⟨by show 0 + 1 + mI ≤ 600002; omega, by show 0 + 6 + sI ≤ 7302231; omega⟩) hS1 (fun q _ h => h) (fun q h => h) (fun u t2 H2 locs2 ht2 hvm2 hw2 hB2 hz2 hk2 hS2 => ?_)
  have hB2 : CFr xo (fun q => s.heap.size ≤ q) t2 := hB2
  have hC2 : CFr xo (fun q => s.heap.size ≤ q ∧ q < H2.size) t2 := OK.2.2.1 xo _ _ t2 hB2 (fun q h1 h2 => ⟨h1, by rw [← ht2]; exact h2⟩) (fun q h => h.1)
  refine lv_astore_n (lv' := [(1, .ref xo), (0, .ref b)]) hx hb d_Law_law_7 rfl hl (by decide) rfl (fun ls hl => ?_)
  -- the reference
  refine x_new (ci := ci) (fs := mcF (fun _ => .null)) (C := RM) (T := TM) (N := 40) hx hb hgt inM tyM tyM_ok hown k_Law_c51 kM_inst kM_ini hK hc (fun j hj => by rcases (show j = 0 ∨ j = 1 ∨ j = 2 ∨ j = 3 ∨ j = 4 ∨ j = 5 ∨ j = 6 ∨ j = 7 ∨ j = 8 ∨ j = 9 ∨ j = 10 ∨ j = 11 ∨ j = 12 ∨ j = 13 ∨ j = 14 ∨ j = 15 ∨ j = 16 ∨ j = 17 ∨ j = 18 ∨ j = 19 ∨ j = 20 ∨ j = 21 ∨ j = 22 ∨ j = 23 ∨ j = 24 ∨ j = 25 ∨ j = 26 ∨ j = 27 ∨ j = 28 ∨ j = 29 ∨ j = 30 ∨ j = 31 ∨ j = 32 ∨ j = 33 ∨ j = 34 ∨ j = 35 ∨ j = 36 ∨ j = 37 ∨ j = 38 ∨ j = 39 by omega) with rfl | rfl | rfl | rfl | rfl | rfl | rfl | rfl | rfl | rfl | rfl | rfl | rfl | rfl | rfl | rfl | rfl | rfl | rfl | rfl | rfl | rfl | rfl | rfl | rfl | rfl | rfl | rfl | rfl | rfl | rfl | rfl | rfl | rfl | rfl | rfl | rfl | rfl | rfl | rfl <;> rfl) (by show 0 + 1 + mI + 1 ≤ 600002; omega) (by show 0 + 6 + sI + 40 ≤ 7302231; omega) d_Law_law_8 (fun H3 hP3 hz3 hk3 => ?_)
  generalize hoo : H2.size = o at hP3 ⊢
  have hsz2 : s.heap.size ≤ H2.size := hS2.1
  have hS3 : va_S (fun q : Nat => s.heap.size ≤ q) s.heap H3 locs2 := ⟨by omega, fun q h1 h2 => (hk3 q (by omega)).trans (hS2.2.1 q h1 h2), hS2.2.2⟩
  have hD3 : va_D (fun q : Nat => H2.size ≤ q) [(o, .inr (ci, mcF (fun _ => .null)))] := ⟨fun i j x y hi hj _ => by have h1 : i < 1 := (List.getElem?_eq_some_iff.mp hi).1; have h2 : j < 1 := (List.getElem?_eq_some_iff.mp hj).1; omega, fun k q hk => by have h1 : k < 1 := (List.getElem?_eq_some_iff.mp hk).1; rw [show k = 0 by omega] at hk; cases hk; exact Nat.le_of_eq hoo⟩
  refine lv_dup hx hb d_Law_law_11 rfl ?_
  refine va_callv (va_runI (As := []) (rest := [.ref o]) ⟨hx, hb, hml, hown, hgt⟩ (c_init l D cl tys (fun q => H2.size ≤ q) ci tI tZ cI cZ o) ⟨callB_of 0 (Ts := lw_g) hgt (fun w h => ⟨(List.mem_cons.mp h).elim (fun q => by rw [q]; exact kM_c_init) id, good_of_word (lw_good ((List.mem_cons.mp h).elim (fun q => by rw [q]; exact kM_c_init) id))⟩) rfl rfl rfl (hgt _ kM_ini) (hgt _ k_Law_m53) (by decide +kernel) ⟨Nat.le_of_ble_eq_true rfl, Nat.le_of_ble_eq_true rfl⟩, rfl, hgt _ kM_i_init⟩ ⟨fun _ U _ _ q => ⟨q.1, q.2.1, q.2.2.1, q.2.2.2.1, va_K.moved (u := U) (Vm.Alike.refl U.vm) q.2.2.2.2.1, q.2.2.2.2.2⟩, fun U hU hW => ⟨rfl, fun q h => by rw [hU] at h; show H2.size ≤ q; omega, by rw [hU]; exact hP3, hD3, va_K.moved hW.alike hK, hc, hI, hZ⟩⟩ rfl rfl hl.1 rfl (lv_room (Nat.le_of_ble_eq_true rfl)) d_Law_law_12 ⟨by show 0 + 1 + mI + 1 + 22 ≤ 600002; omega, by show 0 + 6 + sI + 40 + 18016 ≤ 7302231; omega⟩) hS3 (fun q _ h => Nat.le_trans hsz2 h) (fun q h => Nat.le_trans hsz2 h) (fun ad t4 H4 locs4 ht4 hvm4 hw4 hB4 hz4 hk4 hS4 => ?_)
  obtain ⟨hM, -⟩ := hB4
  rw [ht4] at hM
  refine lv_astore_n (lv' := [(2, .ref o), (1, .ref xo), (0, .ref b)]) hx hb d_Law_law_15 rfl hl (by decide) rfl (fun ls hl => ?_)
  -- the answers' row
  refine lv_iconst (v := 1) hx hb d_Law_law_16 (by decide) ?_
  refine va_newaK (atype := .long) hx hb (hgt _ kA_long) rfl d_Law_law_17 rfl (by decide) (N := 1) (by decide) (by decide) (by show 0 + 1 + mI + 1 + 22 + 1 ≤ 600002; omega) (by show 0 + 6 + sI + 40 + 18016 + 1 ≤ 7302231; omega) rfl (fun H5 cA e5 z5 k5 hAr hNm => ?_)
  obtain rfl : cA = cJ := va_sameJ hK hJ hNm
  generalize hoa : H4.size = oa at e5 ⊢
  have hO : va_P D cl [(oa, .inl (cA, 1, .inr (.inl (fun _ => 0))))] H5 := fun k q hk => by have h1 : k < 1 := (List.getElem?_eq_some_iff.mp hk).1; rw [show k = 0 by omega] at hk; cases hk; exact e5
  have hsz4 : H3.size ≤ H4.size := hz4
  have hS5 : va_S (fun q : Nat => s.heap.size ≤ q) s.heap H5 locs4 := ⟨by omega, fun q h1 h2 => (k5 q (by omega)).trans (hS4.2.1 q h1 h2), hS4.2.2⟩
  have hM5 : mdW D cl (fun q => H2.size ≤ q ∧ q < H4.size) ci cI cZ o ad (fun _ => 0) (fun _ _ => 0) H5 := ⟨hM.1.kept (fun k9 q9 h9 => k5 q9.1 ((hM.1 k9 q9 h9).lt)), hM.2.weaken (fun k9 q9 h9 h => ⟨h, (hM.1 k9 q9 h9).lt⟩)⟩
  refine W.eq (g2 := F0 m 19 ls [.ref oa]) rfl ?_
  refine lv_astore_n (lv' := [(3, .ref oa), (2, .ref o), (1, .ref xo), (0, .ref b)]) hx hb d_Law_law_19 rfl hl (by decide) rfl (fun ls hl => ?_)
  refine lv_iconst (v := 0) hx hb d_Law_law_20 (by decide) ?_
  refine lv_istore (lv' := [(4, .int 0), (3, .ref oa), (2, .ref o), (1, .ref xo), (0, .ref b)]) hx hb d_Law_law_21 hl (by decide) rfl (fun ls hl => ?_)
  refine lv_iload hx hb d_Law_law_23 (lv_at hl 0 rfl) ?_
  refine lv_aload_n hx hb d_Law_law_25 rfl (lv_at hl 4 rfl) ?_
  refine va_slen hx hb hX hbl hbA hS5 d_Law_law_26 ?_
  refine lv_iconst (v := 3) hx hb d_Law_law_27 (by decide) ?_
  refine lv_isub hx hb d_Law_law_28 ?_
  refine lv_icmp_gt (tgt := 623) hx hb d_Law_law_29 (by decide) (fun _ => fin _ _ _ _ _ (by omega) (by omega) hS5) (fun c29 => ?_)
  obtain rfl : L = 3 := by
    rcases (show L = 0 ∨ L = 1 ∨ L = 2 ∨ L = 3 by omega) with rfl | rfl | rfl | rfl
    · exact absurd (by decide) c29
    · exact absurd (by decide) c29
    · exact absurd (by decide) c29
    · rfl
  refine law_body (Am := fun q => H2.size ≤ q ∧ q < H4.size) (B := fun q => (s.heap.size ≤ q ∧ q < H2.size) ∨ H5.size ≤ q) OK hx hb hr hml hown htb hX hbl hlocks hn1 hn2 hK hc hI hZ hJ (fun q h => Nat.le_trans hsz2 h.1) (fun q h => by rcases h with h | h; exact h.1; omega) (by omega) (fun q h z => by omega) (fun z => by omega) (fun U hU hW => ⟨?_, fun q h => Or.inr (by rw [hU] at h; exact h)⟩) hM5 hO hS5 hl (by omega) (by omega) (fun H6 locs6 ls6 hS6 hl6 => ?_)
  · refine OK.2.2.1 xo (fun q => s.heap.size ≤ q ∧ q < H2.size) _ U (OK.2.1 xo _ t2 U hC2 (fun q h1 h2 => ?_) (Alike.via hvm2 hW) (by rw [ht2, hU]; omega)) (fun q h1 h2 => Or.inl h1) (fun q h => by rcases h with h | h; exact h.1; omega)
    rw [hU, ht2, k5 q (by omega), hk4 q (by omega) (fun z => by have : H2.size ≤ q := z; omega), hk3 q (by omega)]
  · refine lv_iinc (v := 3) (lv' := [(4, .int 3), (0, .ref b)]) hx hb d_Law_law_617 hl6 (k := 0) rfl (by decide) (by decide) rfl (fun ls hl => ?_)
    refine lv_goto (tgt := 23) hx hb d_Law_law_620 (by decide) ?_
    refine lv_iload hx hb d_Law_law_23 (lv_at hl 0 rfl) ?_
    refine lv_aload_n hx hb d_Law_law_25 rfl (lv_at hl 1 rfl) ?_
    refine va_slen hx hb hX hbl hbA hS6 d_Law_law_26 ?_
    refine lv_iconst (v := 3) hx hb d_Law_law_27 (by decide) ?_
    refine lv_isub hx hb d_Law_law_28 ?_
    exact lv_icmp_gt (tgt := 623) hx hb d_Law_law_29 (by decide) (fun _ => fin _ _ _ _ _ (by omega) (by omega) hS6) (fun c29 => absurd (by decide) c29)
