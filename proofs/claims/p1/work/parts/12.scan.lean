theorem c_signOne (l : Launch) (D : va_G) (cl : List vw_C) (tys : List (ClassId × FieldType)) (A : Nat → Prop) (ci tI tZ : Nat) (cI cZ : ClassId) (o : Nat) (ad : Nat → Nat) (fi : Nat → Int32) (fa : Nat → Nat → Int32) (k : Int32) (op : Nat → Nat) (d md n : Nat) (pt fw mo : Nat → Nat) (nm : List Nat) (dg : Nat) (hQ : mdQ fi fa op d md n pt fw mo nm dg) (hn : n < 120) :
    Met l yM_signOne (.code yM_signOne bM_signOne 3 (some .boolean) :: lw_g) ({ frames := 2, cells := 0, slots := 0, locals := 44 }) (va_Pc [.ref o, .int k] (mdPre D cl tys A ci tI tZ cI cZ o ad fi fa)) (va_Qi (md_rez (md_sign k (d, md, n, pt, fw, mo, nm, dg)) fi fa) (mdB D cl tys A ci cI cZ o ad) A) 0 0 A := by
  have hm := hQ.2.1.2.2
  have hz := hQ.2.2.2.2.2.2.1
  rcases (show md = 0 ∨ md = 1 ∨ md = 2 ∨ md = 3 ∨ md = 4 ∨ md = 6 by omega) with rfl | rfl | rfl | rfl | rfl | rfl
  · cases d with
    | zero => exact c_sign00 l D cl tys A ci tI tZ cI cZ o ad fi fa k op n pt fw mo nm dg hQ hn
    | succ d => exact c_sign0S l D cl tys A ci tI tZ cI cZ o ad fi fa k op d n pt fw mo nm dg hQ hn
  · obtain ⟨d2, rfl⟩ : ∃ z, d = z + 1 := ⟨d - 1, by have := hz (Or.inl rfl); omega⟩
    exact c_sign1S l D cl tys A ci tI tZ cI cZ o ad fi fa k op d2 n pt fw mo nm dg hQ hn
  · obtain ⟨d2, rfl⟩ : ∃ z, d = z + 1 := ⟨d - 1, by have := hz (Or.inr (Or.inl rfl)); omega⟩
    exact c_sign2S l D cl tys A ci tI tZ cI cZ o ad fi fa k op d2 n pt fw mo nm dg hQ hn
  · obtain ⟨d2, rfl⟩ : ∃ z, d = z + 1 := ⟨d - 1, by have := hz (Or.inr (Or.inr rfl)); omega⟩
    exact c_sign3S l D cl tys A ci tI tZ cI cZ o ad fi fa k op d2 n pt fw mo nm dg hQ hn
  · cases d with
    | zero => exact c_sign40 l D cl tys A ci tI tZ cI cZ o ad fi fa k op n pt fw mo nm dg hQ hn
    | succ d => exact c_sign4S l D cl tys A ci tI tZ cI cZ o ad fi fa k op d n pt fw mo nm dg hQ hn
  · exact c_sign6A l D cl tys A ci tI tZ cI cZ o ad fi fa k op d n pt fw mo nm dg hQ hn
theorem md_begin_n {c : Int32} {t t2 : MT} (h : md_begin c t = some t2) : t2.2.2.1 = t.2.2.1 + 1 := by
  obtain ⟨d, md, n, pt, fw, mo, nm, dg⟩ := t
  simp only [md_begin] at h
  split at h
  · cases h
  · split at h
    · cases h; rfl
    · split at h
      · cases h; rfl
      · split at h
        · cases h
        · cases h; rfl
theorem md_sign_n {c : Int32} {t t2 : MT} (h : md_sign c t = some t2) : t2.2.2.1 ≤ t.2.2.1 + 1 := by
  obtain ⟨d, md, n, pt, fw, mo, nm, dg⟩ := t
  simp only [md_sign] at h
  split at h
  · cases h
  split at h
  · split at h
    · cases h; exact Nat.le_succ _
    · cases h
  split at h
  · simp only [md_clos] at h
    split at h
    · cases h; exact Nat.le_succ _
    split at h
    · cases h
    split at h
    · cases h
    · cases h; exact Nat.le_succ _
  split at h
  · split at h
    · cases h; exact Nat.le_succ _
    · cases h
  split at h
  · split at h
    · exact Nat.le_of_eq (md_begin_n h)
    · cases h
  split at h
  · simp only [md_oper] at h
    split at h
    · cases h
    · cases h; exact Nat.le_succ _
  split at h
  · split at h
    · cases h
    · cases h; exact Nat.le_succ _
  split at h
  · cases h; exact Nat.le_succ _
  · exact Nat.le_of_eq (md_begin_n h)
def md_t0 : MT := (0, 0, 0, fun _ => 0, fun _ => 0, fun _ => 0, [], 0)
/-- the first i signs of a text -/
def md_scan (tx : Nat → Int32) : Nat → Option MT
  | 0 => some md_t0
  | i + 1 => (md_scan tx i).bind (md_sign (tx i))
theorem md_scan_none {tx : Nat → Int32} {i : Nat} (h : md_scan tx i = none) : ∀ j, md_scan tx (i + j) = none
  | 0 => h
  | j + 1 => by
    show (md_scan tx (i + j)).bind (md_sign (tx (i + j))) = none
    rw [md_scan_none h j]; rfl
theorem mdQ_0 {fi : Nat → Int32} {fa : Nat → Nat → Int32} (h7 : fi 7 = nI 0) (h8 : fi 8 = nI 0) (h13 : fi 13 = nI 0) : mdQt fi fa md_t0 :=
  ⟨fun _ => 0, ⟨h7, h8, h13⟩, ⟨by decide, by decide, by decide, by decide⟩, fun j hj => absurd hj (Nat.not_lt_zero j), fun j hj => absurd hj (Nat.not_lt_zero _), fun e => by omega, fun e => by omega, fun e => by omega, fun e => by omega⟩
theorem mdFr.trans {fi fi2 : Nat → Int32} {fa fa2 : Nat → Nat → Int32} {S : (Nat → Int32) × (Nat → Nat → Int32)} (h : mdFr fi fa (fi2, fa2)) (h2 : mdFr fi2 fa2 S) : mdFr fi fa S := ⟨fun k h7 h8 h13 => (h2.1 k h7 h8 h13).trans (h.1 k h7 h8 h13), h2.2.trans h.2⟩
set_option maxHeartbeats 4000000 in
set_option maxRecDepth 100000 in
theorem c_scan (l : Launch) (D : va_G) (cl : List vw_C) (tys : List (ClassId × FieldType)) (A : Nat → Prop) (ci tI tZ : Nat) (cI cZ : ClassId) (o : Nat) (ad : Nat → Nat) (fi : Nat → Int32) (fa : Nat → Nat → Int32) (L : Nat) (hL : L ≤ 120) :
    Met l yM_scan (.code yM_scan bM_scan 3 (some .boolean) :: lw_g) ({ frames := 3, cells := 0, slots := 0, locals := 66 }) (va_Pc [.ref o, .int (nI L)] (mdPre D cl tys A ci tI tZ cI cZ o ad fi fa)) (va_Qi (md_rez (md_scan (fa 1) L) fi fa) (mdB D cl tys A ci cI cZ o ad) A) 0 0 A := by
  refine Met.ofW (cc := bM_scan) (maxL := 3) (ret := (some .boolean)) (by decide) rfl ?_
  intro p e s m args below meth c s₁ B hml hv
  obtain ⟨rfl, hM, hK, hc, hI, hZ⟩ := hv
  have hx := B.exec
  have hb := B.bytes
  have hr := B.returns
  have hts := atoms_spec (ws := (.code yM_scan bM_scan 3 (some .boolean) :: lw_g)) B.pre
  have hown : s.vm.findClass RM = some m.cls := findClass_of_methodNamed B.named
  have K : mdC D cl tys ci tI tZ cI cZ s m _ := ⟨fun w h => hts w (List.mem_cons_of_mem _ h), hown, hK, hc, hI, hZ⟩
  have hlocks := B.notSynchronized
  have hS : va_S A s.heap s.heap [] := va_S.rf
  have hl := lv_entry ([.ref o, .int (nI L)]) (n := 3) (Nat.le_of_ble_eq_true rfl)
  rw [lg_entry_eq]
  generalize (lg_sl ([.ref o, .int (nI L)]) ++ List.replicate (3 - (lg_sl ([.ref o, .int (nI L)])).length) Slot.unset).toArray = ls at hl ⊢
  have hl : lv_has ls 3 [(0, .ref o), (1, .int (nI L))] := hl
  have loop : ∀ (z i : Nat) (fi2 : Nat → Int32) (fa2 : Nat → Nat → Int32) (t : MT) (H : Heap) (locs : List Loc) (ls : Array Slot), i + z = L → md_scan (fa 1) i = some t → mdQt fi2 fa2 t → t.2.2.1 ≤ i → mdFr fi fa (fi2, fa2) → mdW D cl A ci cI cZ o ad fi2 fa2 H → va_S A s.heap H locs → lv_has ls 3 [(2, .int (nI i)), (0, .ref o), (1, .int (nI L))] → W p l e (headSpec (.code yM_scan bM_scan 3 (some .boolean) :: lw_g) ({ frames := 3, cells := 0, slots := 0, locals := 66 })).room s m #[Value.ref o, Value.int (nI L)] below meth c H locs 0 0 (MQ below (va_Qi (md_rez (md_scan (fa 1) L) fi fa) (mdB D cl tys A ci cI cZ o ad) A) #[Value.ref o, Value.int (nI L)] s 0 0 A) (F0 m 17 ls []) := by
    intro z
    induction z with
    | zero =>
      intro i fi2 fa2 t H locs ls hi hsc hq hn hFr hM hS hl
      obtain rfl : i = L := by omega
      refine lv_iload_n hx hb dM_scan_17 rfl (lv_at hl 0 rfl) ?_
      refine lv_iload_n hx hb dM_scan_18 rfl (lv_at hl 2 rfl) ?_
      refine lv_icmp_ge (tgt := 43) hx hb dM_scan_19 (by decide) (fun c_19 => ?_) (fun c_19 => absurd (nI_le (Nat.le_refl i) (by omega)) c_19)
      refine lv_iconst (v := 1) hx hb dM_scan_43 (by decide) ?_
      refine W.zret (v := (1)) hx hb hr rfl (M_endi hM hK hS ?_) hS.2.2 dM_scan_44
      exact ⟨hFr, Or.inr ⟨rfl, t, hsc, hq⟩⟩
    | succ z ih =>
      intro i fi2 fa2 t H locs ls hi hsc hq hn hFr hM hS hl
      obtain ⟨d, md, n, pt, fw, mo, nm, dg⟩ := t
      obtain ⟨op, hQ⟩ := hq
      have hn : n ≤ i := hn
      refine lv_iload_n hx hb dM_scan_17 rfl (lv_at hl 0 rfl) ?_
      refine lv_iload_n hx hb dM_scan_18 rfl (lv_at hl 2 rfl) ?_
      refine lv_icmp_ge (tgt := 43) hx hb dM_scan_19 (by decide) (fun c_19 => absurd c_19 (nI_ge (show i < L by omega) (by omega))) (fun c_19 => ?_)
      refine lv_aload_n hx hb dM_scan_22 rfl (lv_at hl 1 rfl) ?_
      refine lv_aload_n hx hb dM_scan_23 rfl (lv_at hl 1 rfl) ?_
      refine M_geta hx hb K hM 1 kM_f7 dM_scan_24 (kk := ?_)
      refine lv_iload_n hx hb dM_scan_27 rfl (lv_at hl 0 rfl) ?_
      refine M_aldn hx hb K hM 1 (j := i) (show i < 120 by omega) (v := fa 1 i) (congrFun hFr.2 i) dM_scan_28 (kk := ?_)
      refine va_calli (M_run (As := [.int (fa 1 i)]) (rest := []) (n := 1) hx hb hml K hM (c_signOne l D cl tys A ci tI tZ cI cZ o ad _ _ (fa 1 i) op d md n pt fw mo nm dg hQ (by omega)) kM_c_signOne kM_m112 kM_i_signOne kM_s_signOne rfl rfl ⟨rfl, by decide +kernel⟩ ⟨Nat.le_of_ble_eq_true rfl, Nat.le_of_ble_eq_true rfl⟩ rfl hl.1 rfl (lv_room (Nat.le_of_ble_eq_true rfl)) dM_scan_29 ⟨Nat.le_of_ble_eq_true rfl, Nat.le_of_ble_eq_true rfl⟩) hS (fun q _ h => h) (fun q h => h) (fun r u t H1 locs1 ht hvm hw hB hz hk hS => ?_)
      obtain ⟨hM, -⟩ := hB
      rw [ht] at hM
      obtain ⟨hF2, ⟨rfl, hv⟩ | ⟨rfl, t9, hv, hq9⟩⟩ := hw
      · skip
        refine lv_if_ne (tgt := 37) hx hb dM_scan_32 (by decide) (fun c_32 => absurd rfl c_32) (fun c_32 => ?_)
        refine lv_iconst (v := 0) hx hb dM_scan_35 (by decide) ?_
        refine W.zret (v := (0)) hx hb hr rfl (M_endi hM hK hS ?_) hS.2.2 dM_scan_36
        exact ⟨hFr.trans hF2, Or.inl ⟨rfl, by have := md_scan_none (i := i + 1) (show md_scan (fa 1) (i + 1) = none by show (md_scan (fa 1) i).bind _ = none; rw [hsc]; exact hv) z; rw [← hi, show i + (z + 1) = i + 1 + z by omega]; exact this⟩⟩
      · skip
        refine lv_if_ne (tgt := 37) hx hb dM_scan_32 (by decide) (fun c_32 => ?_) (fun c_32 => absurd c_32 (by decide))
        refine lv_iinc (v := nI (i + 1)) (lv' := [(2, .int (nI (i + 1))), (0, .ref o), (1, .int (nI L))]) hx hb dM_scan_37 hl (k := 0) rfl (nI_1 i) (by decide) rfl (fun ls hl => ?_)
        exact lv_goto (tgt := 17) hx hb dM_scan_40 (by decide) (ih (i + 1) u.1 u.2 t9 _ _ ls (by omega) (by show (md_scan (fa 1) i).bind _ = some t9; rw [hsc]; exact hv) hq9 (by have := md_sign_n hv; simp only at this; omega) (hFr.trans hF2) hM hS hl)
  refine lv_aload_n hx hb dM_scan_0 rfl (lv_at hl 0 rfl) ?_
  refine lv_iconst (v := 0) hx hb dM_scan_1 (by decide) ?_
  refine lv_as (v := nI 0) nI_0.symm ?_
  refine M_puti hx hb K hM hS 7 kM_f84 dM_scan_2 (kk := fun H locs hM hS => ?_)
  refine lv_aload_n hx hb dM_scan_5 rfl (lv_at hl 0 rfl) ?_
  refine lv_iconst (v := 0) hx hb dM_scan_6 (by decide) ?_
  refine lv_as (v := nI 0) nI_0.symm ?_
  refine M_puti hx hb K hM hS 8 kM_f87 dM_scan_7 (kk := fun H locs hM hS => ?_)
  refine lv_aload_n hx hb dM_scan_10 rfl (lv_at hl 0 rfl) ?_
  refine lv_iconst (v := 0) hx hb dM_scan_11 (by decide) ?_
  refine lv_as (v := nI 0) nI_0.symm ?_
  refine M_puti hx hb K hM hS 13 kM_f81 dM_scan_12 (kk := fun H locs hM hS => ?_)
  refine lv_iconst (v := 0) hx hb dM_scan_15 (by decide) ?_
  refine lv_as (v := nI 0) nI_0.symm ?_
  refine lv_istore_n (lv' := [(2, .int (nI 0)), (0, .ref o), (1, .int (nI L))]) hx hb dM_scan_16 rfl hl (by decide) rfl (fun ls hl => ?_)
  exact loop L 0 _ _ md_t0 _ _ ls (by omega) rfl (mdQ_0 rfl rfl rfl) (Nat.le_refl 0) ⟨fun j h1 h2 h3 => by simp only [up_n h1, up_n h2, up_n h3], rfl⟩ hM hS hl
