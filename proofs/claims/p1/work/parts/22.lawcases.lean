theorem k_Law_L54 : Cond.constantLong R_Law 54 4294967295 ∈ lw_g := lw_in (List.mem_append_right _ (List.mem_of_getElem? (i := 1353) (by decide +kernel))) rfl
theorem k_Law_ini : Cond.initialized R_Law ∈ lw_g := lw_in (List.mem_append_right _ (List.mem_of_getElem? (i := 0) (by decide +kernel))) rfl
theorem Met.imp {l : Launch} {y : MethodName} {ws : List Cond} {rm : Room} {Pc : Array Value → State → Prop} {Qc Qd : Array Value → State → Outcome → State → Prop} {mc ms : Nat} {free : Addr → Prop} (hM : Met l y ws rm Pc Qc mc ms free) (h : ∀ a st o t, Qc a st o t → Qd a st o t) : Met l y ws rm Pc Qd mc ms free := by
  intro p e ha hc hk s m args below hf happ hP hK
  obtain ⟨n, o, h1, h2, h3, h4, h5⟩ := hM p e ha hc hk s m args below hf happ hP hK
  exact ⟨n, o, h1, h2, h3, h _ _ _ _ h4, h5⟩
/-- what text gets out of the script -/
def law_p (xs : Nat → Int32) : Int64 := ((xs 1).toInt64 <<< ((32 : Int32).toInt64 &&& 63)) ||| ((xs 2).toInt64 &&& 4294967295)
section LAWC
variable {p : Program} {l : Launch} {e : Env} {R : Room} {s : State} {m : MethodId} {args : Array Value} {below : List Frame} {meth : Method} {c : Code} {H : Heap} {locs : List Loc} {cells slots : Nat} {Q : State → Prop}
variable {cc : ByteArray} {pc : Nat} {ls : Array Slot} {rest : List Value} {D : va_G} {cl : List vw_C} {Am Ah : Nat → Prop} {tys : List (ClassId × FieldType)} {ci tI tZ tJ : Nat} {cI cZ cJ : ClassId} {o xo oa b : Nat} {ad : Nat → Nat} {fi : Nat → Int32} {fa : Nat → Nat → Int32} {g : Nat → Int64} {CF : State → Prop} {xs : Nat → Int32}
/-- the law calls the reference -/
theorem M_runL {y : MethodName} {bytes : ByteArray} {maxL idx n nL mc ms : Nat} {ret : Option FieldType} {rm : Room} {Qc : Array Value → State → Outcome → State → Prop} {As st : List Value} (hx : p.tables.exec = Jvm.exec) (hb : c.code = cc) (hml : c.maxLocals = nL) (hts : ∀ w ∈ lw_g, w.before args s = true) (hown : s.vm.findClass R_Law = some m.cls) (hK : va_K D cl tys s) (hc : cl[ci]? = some (RM, TM, 40)) (hI : tys[tI]? = some (cI, .int)) (hZ : tys[tZ]? = some (cZ, .boolean)) (hM : mdW D cl Am ci cI cZ o ad fi fa H)
    (hC : Met l y (.code y bytes maxL ret :: lw_g) rm (va_Pc (.ref o :: As) (mdPre D cl tys Am ci tI tZ cI cZ o ad fi fa)) Qc mc ms Am)
    (hcode : Cond.code y bytes maxL ret ∈ lw_g) (hlink : Cond.methodLink R_Law idx y ∈ lw_g) (hins : Cond.instanceMethod y ∈ lw_g) (hsel : Cond.selects RM y y ∈ lw_g) (hrc : rm.cells = mc) (hrs : rm.slots = ms) (hd : y.cls = RM ∧ (parseMethodDescriptor y.desc).map (fun d => d.parameters.length) = some n) (hR : rm.frames + 1 ≤ R.frames ∧ 8 + (maxL + 11) + rm.locals ≤ R.locals)
    (hn : As.length = n) (hsize : ls.size = nL) (hst : st = As.reverse ++ .ref o :: rest) (hW : 2 * (F0 m pc ls st).monitorRoom + (rest.map fun v => v.category).sum ≤ 8) (hdg : decode cc pc = .ok (.invokevirtual idx, 3)) (hf : cells + mc ≤ R.cells ∧ slots + ms ≤ R.slots) :
    va_Run p l e R s m args below meth c H locs cells slots mc ms (F0 m pc ls st) rest (Qc (Value.ref o :: As).toArray) Am := by
  have hmh : y.cls ≠ "java/lang/invoke/MethodHandle" ∧ y.cls ≠ "java/lang/invoke/VarHandle" := by rw [hd.1]; decide
  have hG : GoodIn lw_g (.code y bytes maxL ret :: lw_g) := fun w h => by
    have hm : w ∈ lw_g := (List.mem_cons.mp h).elim (fun q => by rw [q]; exact hcode) id
    exact ⟨hm, good_of_word (lw_good hm)⟩
  exact va_runV (Ts := lw_g) (own := R_Law) (C := RM) (nL := nL) (bytes := bytes) (maxL := maxL) (ret := ret) (n := n) ⟨hx, hb, hml, hown, hts⟩ hC ⟨callB_of n hts hG rfl hrc hrs (by rw [hd.1]; exact hts _ kM_ini) (hts _ hlink) ⟨hmh.1, hmh.2, hd.2⟩ hR, hts _ hins, hts _ hsel⟩ ⟨mdPre.blind, va_recv hK hM.1 hc (q0 := 0) rfl, fun U hU hW => ⟨rfl, by rw [hU]; exact hM, va_K.moved hW.alike hK, hc, hI, hZ⟩⟩ rfl hn hsize hst hW hdg hf
/-- a helper's start, from the law -/
theorem hPre.S {av : List Value} {locs : List Loc} (hS : va_S (fun q : Nat => s.heap.size ≤ q) s.heap H locs) (hCF : cOk CF xo) (hcf : ∀ U : State, U.heap = H → s.WarmedH U.vm → CF U) (hO : va_P D cl [(oa, .inl (cJ, 1, .inr (.inl g)))] H) (hOD : va_D Ah [(oa, .inl (cJ, 1, .inr (.inl g)))]) (hK : va_K D cl tys s) (hJ : tys[tJ]? = some (cJ, .long)) : PreS s H (va_Pc av (hPre s CF D cl tys tJ cJ Ah oa g)) av :=
  ⟨fun _ U _ _ q => ⟨q.1, q.2.1, hCF.1 U _ rfl (State.WarmedH.refl U) q.2.2.1, q.2.2.2.1, q.2.2.2.2.1, va_K.moved (u := U) (Vm.Alike.refl U.vm) q.2.2.2.2.2.1, q.2.2.2.2.2.2⟩,
   fun U hU hW => ⟨rfl, (xB.rf s).later (A := fun q : Nat => s.heap.size ≤ q) (fun _ h => h) (by rw [hU]; exact hS) hW, hcf U hU hW, by rw [hU]; exact hO, hOD, va_K.moved hW.alike hK, hJ⟩⟩
set_option maxHeartbeats 8000000 in
set_option maxRecDepth 100000 in
theorem law_text (hx : p.tables.exec = Jvm.exec) (hb : c.code = code) (hr : meth.sig.returnType = ret) (hml : c.maxLocals = 7) (hown : s.vm.findClass R_Law = some m.cls) (hgt : ∀ w ∈ lw_g, w.before #[Value.ref b] s = true) (hX : va_X b 3 xs s s.heap) (hbl : b < s.heap.size) (hlocks : meth.locks = false)
    (hK : va_K D cl tys s) (hc : cl[ci]? = some (RM, TM, 40)) (hI : tys[tI]? = some (cI, .int)) (hZ : tys[tZ]? = some (cZ, .boolean)) (hJ : tys[tJ]? = some (cJ, .long)) (hAm : ∀ q, Am q → s.heap.size ≤ q) (hAh : ∀ q, Ah q → s.heap.size ≤ q) (hdis : ∀ q, Am q → ¬ Ah q) (hCF : cOk CF xo) (k bb : Int32) (v : Int64) (hag : k = 0 → v = bb.toInt64) (fr lo mc ms : Nat) (hfr : fr + 1 ≤ 2048) (hlo : 8 + (5 + 11) + lo ≤ 84000)
    (hH : Met l y_Law_text (.codeWith y_Law_text b_Law_text 5 (some .int) [(0, 9, 12, 13), (0, 9, 16, 15)] :: lw_g) ({ frames := fr, cells := mc, slots := ms, locals := lo }) (va_Pc [.ref xo, .long (law_p xs), .ref oa] (hPre s CF D cl tys tJ cJ Ah oa g)) (va_Qi (fun r g2 => r = k ∧ (k = 0 → g2 0 = v)) (hB D cl tys Ah cJ oa) Ah) mc ms Ah)
    (fm lm : Nat) (hfm : fm + 1 ≤ 2048) (hlm : 8 + (6 + 11) + lm ≤ 84000) (hMd : Met l yM_text (.code yM_text bM_text 6 (some .int) :: lw_g) ({ frames := fm, cells := 0, slots := 0, locals := lm }) (va_Pc (.ref o :: [.long (law_p xs)]) (mdPre D cl tys Am ci tI tZ cI cZ o ad fi fa)) (va_Qi (fun r S => r = bb ∧ S.1 0 = k) (mdB D cl tys Am ci cI cZ o ad) Am) 0 0 Am)
    (hcf : ∀ U : State, U.heap = H → s.WarmedH U.vm → CF U) (hM : mdW D cl Am ci cI cZ o ad fi fa H) (hO : va_P D cl [(oa, .inl (cJ, 1, .inr (.inl g)))] H) (hOD : va_D Ah [(oa, .inl (cJ, 1, .inr (.inl g)))]) (hS : va_S (fun q : Nat => s.heap.size ≤ q) s.heap H locs) (hl : lv_has ls 7 [(4, .int 0), (3, .ref oa), (2, .ref o), (1, .ref xo), (0, .ref b)]) (hrc : cells + mc ≤ 600002) (hrs : slots + ms ≤ 7302231)
    (kk : ∀ (H : Heap) (locs : List Loc) (ls : Array Slot), va_S (fun q : Nat => s.heap.size ≤ q) s.heap H locs → lv_has ls 7 [(4, .int 0), (0, .ref b)] → W p l e room_1 s m #[Value.ref b] below meth c H locs (cells + mc) (slots + ms) Q (F0 m 617 ls [])) : W p l e room_1 s m #[Value.ref b] below meth c H locs cells slots Q (F0 m 92 ls []) := by
  have hbA : ¬ (fun q : Nat => s.heap.size ≤ q) b := Nat.not_le.mpr hbl
  refine lv_aload_n hx hb d_Law_law_92 rfl (lv_at hl 3 rfl) ?_
  refine lv_aload_n hx hb d_Law_law_93 rfl (lv_at hl 4 rfl) ?_
  refine lv_iload hx hb d_Law_law_94 (lv_at hl 0 rfl) ?_
  refine lv_iconst (v := 1) hx hb d_Law_law_96 (by decide) ?_
  refine lv_iadd hx hb d_Law_law_97 ?_
  refine lv_as (v := nI 1) (by decide) ?_
  refine va_sld hx hb hX hbl hbA hS (vp_in_nI (n := 1) (N := 3) (by decide) (by decide)) d_Law_law_98 ?_
  refine lv_as (v := xs 1) (by rw [show (nI 1).toNatClampNeg = 1 by decide]) ?_
  refine lv_i2l (v := (xs 1).toInt64) hx hb d_Law_law_99 rfl ?_
  refine lv_bipush (v := 32) hx hb d_Law_law_100 (by decide) ?_
  refine lv_lshl (v := (xs 1).toInt64 <<< ((32 : Int32).toInt64 &&& 63)) hx hb d_Law_law_102 rfl ?_
  refine lv_aload_n hx hb d_Law_law_103 rfl (lv_at hl 4 rfl) ?_
  refine lv_iload hx hb d_Law_law_104 (lv_at hl 0 rfl) ?_
  refine lv_iconst (v := 2) hx hb d_Law_law_106 (by decide) ?_
  refine lv_iadd hx hb d_Law_law_107 ?_
  refine lv_as (v := nI 2) (by decide) ?_
  refine va_sld hx hb hX hbl hbA hS (vp_in_nI (n := 2) (N := 3) (by decide) (by decide)) d_Law_law_108 ?_
  refine lv_as (v := xs 2) (by rw [show (nI 2).toNatClampNeg = 2 by decide]) ?_
  refine lv_i2l (v := (xs 2).toInt64) hx hb d_Law_law_109 rfl ?_
  refine lv_ldc2 (v := 4294967295) hx hb hown (hgt _ k_Law_L54) d_Law_law_110 ?_
  refine lv_land hx hb d_Law_law_113 ?_
  refine lv_lor hx hb d_Law_law_114 ?_
  refine lv_topl (fun pv epv => ?_)
  obtain rfl : pv = law_p xs := epv
  refine lv_aload_n hx hb d_Law_law_115 rfl (lv_at hl 1 rfl) ?_
  refine va_calli (x_runSW (As := [.ref xo, .long (law_p xs), .ref oa]) (rest := []) (n := 3) hx hb hml hown hgt hH kc_Law_text k_Law_m56 ks_Law_text k_Law_ini rfl rfl ⟨by decide, by decide +kernel⟩ ⟨hfr, hlo⟩ (hPre.S hS hCF hcf hO hOD hK hJ) rfl hl.1 rfl (lv_room (Nat.le_of_ble_eq_true rfl)) d_Law_law_116 ⟨hrc, hrs⟩) hS (fun q _ h => hAh q h) (fun q h => hAh q h) (fun r g2 t H1 locs1 ht hvm hw hB1 hz hk hS => ?_)
  obtain ⟨rfl, hg2⟩ := hw
  obtain ⟨hO, hOD, -⟩ := hB1
  rw [ht] at hO
  have hM : mdW D cl Am ci cI cZ o ad fi fa H1 := ⟨hM.1.kept (fun k9 q9 h9 => hk q9.1 ((hM.1 k9 q9 h9).lt) (hdis _ (hM.2.2 k9 q9 h9))), hM.2⟩
  refine lv_istore (lv' := [(5, .int r), (4, .int 0), (3, .ref oa), (2, .ref o), (1, .ref xo), (0, .ref b)]) hx hb d_Law_law_119 hl (by decide) rfl (fun ls hl => ?_)
  refine lv_aload_n hx hb d_Law_law_121 rfl (lv_at hl 3 rfl) ?_
  refine lv_aload_n hx hb d_Law_law_122 rfl (lv_at hl 5 rfl) ?_
  refine lv_iload hx hb d_Law_law_123 (lv_at hl 1 rfl) ?_
  refine lv_iconst (v := 1) hx hb d_Law_law_125 (by decide) ?_
  refine lv_iadd hx hb d_Law_law_126 ?_
  refine lv_as (v := nI 1) (by decide) ?_
  refine va_sld hx hb hX hbl hbA hS (vp_in_nI (n := 1) (N := 3) (by decide) (by decide)) d_Law_law_127 ?_
  refine lv_as (v := xs 1) (by rw [show (nI 1).toNatClampNeg = 1 by decide]) ?_
  refine lv_i2l (v := (xs 1).toInt64) hx hb d_Law_law_128 rfl ?_
  refine lv_bipush (v := 32) hx hb d_Law_law_129 (by decide) ?_
  refine lv_lshl (v := (xs 1).toInt64 <<< ((32 : Int32).toInt64 &&& 63)) hx hb d_Law_law_131 rfl ?_
  refine lv_aload_n hx hb d_Law_law_132 rfl (lv_at hl 5 rfl) ?_
  refine lv_iload hx hb d_Law_law_133 (lv_at hl 1 rfl) ?_
  refine lv_iconst (v := 2) hx hb d_Law_law_135 (by decide) ?_
  refine lv_iadd hx hb d_Law_law_136 ?_
  refine lv_as (v := nI 2) (by decide) ?_
  refine va_sld hx hb hX hbl hbA hS (vp_in_nI (n := 2) (N := 3) (by decide) (by decide)) d_Law_law_137 ?_
  refine lv_as (v := xs 2) (by rw [show (nI 2).toNatClampNeg = 2 by decide]) ?_
  refine lv_i2l (v := (xs 2).toInt64) hx hb d_Law_law_138 rfl ?_
  refine lv_ldc2 (v := 4294967295) hx hb hown (hgt _ k_Law_L54) d_Law_law_139 ?_
  refine lv_land hx hb d_Law_law_142 ?_
  refine lv_lor hx hb d_Law_law_143 ?_
  refine lv_topl (fun pv epv => ?_)
  obtain rfl : pv = law_p xs := epv
  refine va_calli (M_runL (As := [.long (law_p xs)]) (rest := []) (n := 1) hx hb hml hgt hown hK hc hI hZ hM hMd kM_c_text k_Law_m61 kM_i_text kM_s_text rfl rfl ⟨rfl, by decide +kernel⟩ ⟨hfm, hlm⟩ rfl hl.1 rfl (lv_room (Nat.le_of_ble_eq_true rfl)) d_Law_law_144 ⟨hrc, hrs⟩) hS (fun q _ h => hAm q h) (fun q h => hAm q h) (fun rb S t2 H2 locs2 ht2 hvm2 hw2 hB2 hz2 hk2 hS => ?_)
  obtain ⟨rfl, hf0⟩ := hw2
  obtain ⟨hM, -⟩ := hB2
  rw [ht2] at hM
  have hO : va_P D cl [(oa, .inl (cJ, 1, .inr (.inl g2)))] H2 := hO.kept (fun k9 q9 h9 => hk2 q9.1 ((hO k9 q9 h9).lt) (fun z => hdis _ z (hOD.2 k9 q9 h9)))
  refine lv_istore (lv' := [(6, .int rb), (5, .int r), (4, .int 0), (3, .ref oa), (2, .ref o), (1, .ref xo), (0, .ref b)]) hx hb d_Law_law_147 hl (by decide) rfl (fun ls hl => ?_)
  refine lv_aload_n hx hb d_Law_law_149 rfl (lv_at hl 4 rfl) ?_
  refine va_calli (M_runL (As := []) (rest := []) (n := 0) hx hb hml hgt hown hK hc hI hZ hM (c_thrown l D cl tys Am ci tI tZ cI cZ o ad _ _) kM_c_thrown k_Law_m62 kM_i_thrown kM_s_thrown rfl rfl ⟨rfl, by decide +kernel⟩ ⟨Nat.le_of_ble_eq_true rfl, Nat.le_of_ble_eq_true rfl⟩ rfl hl.1 rfl (lv_room (Nat.le_of_ble_eq_true rfl)) d_Law_law_150 ⟨hrc, hrs⟩) hS (fun q _ h => hAm q h) (fun q h => hAm q h) (fun r3 S3 t3 H3 locs3 ht3 hvm3 hw3 hB3 hz3 hk3 hS => ?_)
  obtain ⟨rfl, rfl⟩ := hw3
  have hO : va_P D cl [(oa, .inl (cJ, 1, .inr (.inl g2)))] H3 := hO.kept (fun k9 q9 h9 => hk3 q9.1 ((hO k9 q9 h9).lt) (fun z => hdis _ z (hOD.2 k9 q9 h9)))
  refine lv_iload hx hb d_Law_law_153 (lv_at hl 1 rfl) ?_
  refine lv_icmp_eq (tgt := 160) hx hb d_Law_law_155 (by decide) (fun _ => ?_) (fun q => absurd hf0 q)
  refine lv_iload hx hb d_Law_law_160 (lv_at hl 1 rfl) ?_
  refine lv_if_ne (tgt := 177) hx hb d_Law_law_162 (by decide) (fun _ => ?_) (fun h0 => ?_)
  · refine lv_goto (tgt := 617) hx hb d_Law_law_177 (by decide) ?_
    exact kk _ _ ls hS (lv_sub hl [2, 6] rfl)
  refine lv_aload_n hx hb d_Law_law_165 rfl (lv_at hl 3 rfl) ?_
  refine lv_iconst (v := 0) hx hb d_Law_law_166 (by decide) ?_
  refine va_lald hx hb hK hO 0 tJ rfl hJ (vp_in_nI (n := 0) (N := 1) (by decide) (by decide)) d_Law_law_167 ?_
  refine lv_iload hx hb d_Law_law_168 (lv_at hl 0 rfl) ?_
  refine lv_i2l (v := (rb).toInt64) hx hb d_Law_law_170 rfl ?_
  refine W.lcmp hx hb d_Law_law_171 ?_
  refine lv_as (v := 0) ?_ ?_
  · show lg_cmp (g2 (nI 0).toNatClampNeg) rb.toInt64 = 0
    rw [show (nI 0).toNatClampNeg = 0 by decide, hg2 h0, hag h0]
    simp [lg_cmp]
  refine lv_if_eq (tgt := 177) hx hb d_Law_law_172 (by decide) (fun _ => ?_) (fun q => absurd rfl q)
  refine lv_goto (tgt := 617) hx hb d_Law_law_177 (by decide) ?_
  exact kk _ _ ls hS (lv_sub hl [2, 6] rfl)
set_option maxHeartbeats 8000000 in
set_option maxRecDepth 100000 in
theorem law_clear (hx : p.tables.exec = Jvm.exec) (hb : c.code = code) (hr : meth.sig.returnType = ret) (hml : c.maxLocals = 7) (hown : s.vm.findClass R_Law = some m.cls) (hgt : ∀ w ∈ lw_g, w.before #[Value.ref b] s = true) (hX : va_X b 3 xs s s.heap) (hbl : b < s.heap.size) (hlocks : meth.locks = false)
    (hK : va_K D cl tys s) (hc : cl[ci]? = some (RM, TM, 40)) (hI : tys[tI]? = some (cI, .int)) (hZ : tys[tZ]? = some (cZ, .boolean)) (hJ : tys[tJ]? = some (cJ, .long)) (hAm : ∀ q, Am q → s.heap.size ≤ q) (hAh : ∀ q, Ah q → s.heap.size ≤ q) (hdis : ∀ q, Am q → ¬ Ah q) (hCF : cOk CF xo) (k bb : Int32) (v : Int64) (hag : k = 0 → v = bb.toInt64) (fr lo mc ms : Nat) (hfr : fr + 1 ≤ 2048) (hlo : 8 + (3 + 11) + lo ≤ 84000)
    (hH : Met l y_Law_clear (.codeWith y_Law_clear b_Law_clear 3 (some .int) [(0, 8, 11, 13)] :: lw_g) ({ frames := fr, cells := mc, slots := ms, locals := lo }) (va_Pc [.ref xo, .ref oa] (hPre s CF D cl tys tJ cJ Ah oa g)) (va_Qi (fun r g2 => r = k ∧ (k = 0 → g2 0 = v)) (hB D cl tys Ah cJ oa) Ah) mc ms Ah)
    (fm lm : Nat) (hfm : fm + 1 ≤ 2048) (hlm : 8 + (2 + 11) + lm ≤ 84000) (hMd : Met l yM_clear (.code yM_clear bM_clear 2 (some .int) :: lw_g) ({ frames := fm, cells := 0, slots := 0, locals := lm }) (va_Pc (.ref o :: []) (mdPre D cl tys Am ci tI tZ cI cZ o ad fi fa)) (va_Qi (fun r S => r = bb ∧ S.1 0 = k) (mdB D cl tys Am ci cI cZ o ad) Am) 0 0 Am)
    (hcf : ∀ U : State, U.heap = H → s.WarmedH U.vm → CF U) (hM : mdW D cl Am ci cI cZ o ad fi fa H) (hO : va_P D cl [(oa, .inl (cJ, 1, .inr (.inl g)))] H) (hOD : va_D Ah [(oa, .inl (cJ, 1, .inr (.inl g)))]) (hS : va_S (fun q : Nat => s.heap.size ≤ q) s.heap H locs) (hl : lv_has ls 7 [(4, .int 0), (3, .ref oa), (2, .ref o), (1, .ref xo), (0, .ref b)]) (hrc : cells + mc ≤ 600002) (hrs : slots + ms ≤ 7302231)
    (kk : ∀ (H : Heap) (locs : List Loc) (ls : Array Slot), va_S (fun q : Nat => s.heap.size ≤ q) s.heap H locs → lv_has ls 7 [(4, .int 0), (0, .ref b)] → W p l e room_1 s m #[Value.ref b] below meth c H locs (cells + mc) (slots + ms) Q (F0 m 617 ls [])) : W p l e room_1 s m #[Value.ref b] below meth c H locs cells slots Q (F0 m 180 ls []) := by
  have hbA : ¬ (fun q : Nat => s.heap.size ≤ q) b := Nat.not_le.mpr hbl
  refine lv_aload_n hx hb d_Law_law_180 rfl (lv_at hl 3 rfl) ?_
  refine lv_aload_n hx hb d_Law_law_181 rfl (lv_at hl 1 rfl) ?_
  refine va_calli (x_runSW (As := [.ref xo, .ref oa]) (rest := []) (n := 2) hx hb hml hown hgt hH kc_Law_clear k_Law_m65 ks_Law_clear k_Law_ini rfl rfl ⟨by decide, by decide +kernel⟩ ⟨hfr, hlo⟩ (hPre.S hS hCF hcf hO hOD hK hJ) rfl hl.1 rfl (lv_room (Nat.le_of_ble_eq_true rfl)) d_Law_law_182 ⟨hrc, hrs⟩) hS (fun q _ h => hAh q h) (fun q h => hAh q h) (fun r g2 t H1 locs1 ht hvm hw hB1 hz hk hS => ?_)
  obtain ⟨rfl, hg2⟩ := hw
  obtain ⟨hO, hOD, -⟩ := hB1
  rw [ht] at hO
  have hM : mdW D cl Am ci cI cZ o ad fi fa H1 := ⟨hM.1.kept (fun k9 q9 h9 => hk q9.1 ((hM.1 k9 q9 h9).lt) (hdis _ (hM.2.2 k9 q9 h9))), hM.2⟩
  refine lv_istore (lv' := [(5, .int r), (4, .int 0), (3, .ref oa), (2, .ref o), (1, .ref xo), (0, .ref b)]) hx hb d_Law_law_185 hl (by decide) rfl (fun ls hl => ?_)
  refine lv_aload_n hx hb d_Law_law_187 rfl (lv_at hl 3 rfl) ?_
  refine va_calli (M_runL (As := []) (rest := []) (n := 0) hx hb hml hgt hown hK hc hI hZ hM hMd kM_c_clear k_Law_m68 kM_i_clear kM_s_clear rfl rfl ⟨rfl, by decide +kernel⟩ ⟨hfm, hlm⟩ rfl hl.1 rfl (lv_room (Nat.le_of_ble_eq_true rfl)) d_Law_law_188 ⟨hrc, hrs⟩) hS (fun q _ h => hAm q h) (fun q h => hAm q h) (fun rb S t2 H2 locs2 ht2 hvm2 hw2 hB2 hz2 hk2 hS => ?_)
  obtain ⟨rfl, hf0⟩ := hw2
  obtain ⟨hM, -⟩ := hB2
  rw [ht2] at hM
  have hO : va_P D cl [(oa, .inl (cJ, 1, .inr (.inl g2)))] H2 := hO.kept (fun k9 q9 h9 => hk2 q9.1 ((hO k9 q9 h9).lt) (fun z => hdis _ z (hOD.2 k9 q9 h9)))
  refine lv_istore (lv' := [(6, .int rb), (5, .int r), (4, .int 0), (3, .ref oa), (2, .ref o), (1, .ref xo), (0, .ref b)]) hx hb d_Law_law_191 hl (by decide) rfl (fun ls hl => ?_)
  refine lv_aload_n hx hb d_Law_law_193 rfl (lv_at hl 4 rfl) ?_
  refine va_calli (M_runL (As := []) (rest := []) (n := 0) hx hb hml hgt hown hK hc hI hZ hM (c_thrown l D cl tys Am ci tI tZ cI cZ o ad _ _) kM_c_thrown k_Law_m62 kM_i_thrown kM_s_thrown rfl rfl ⟨rfl, by decide +kernel⟩ ⟨Nat.le_of_ble_eq_true rfl, Nat.le_of_ble_eq_true rfl⟩ rfl hl.1 rfl (lv_room (Nat.le_of_ble_eq_true rfl)) d_Law_law_194 ⟨hrc, hrs⟩) hS (fun q _ h => hAm q h) (fun q h => hAm q h) (fun r3 S3 t3 H3 locs3 ht3 hvm3 hw3 hB3 hz3 hk3 hS => ?_)
  obtain ⟨rfl, rfl⟩ := hw3
  have hO : va_P D cl [(oa, .inl (cJ, 1, .inr (.inl g2)))] H3 := hO.kept (fun k9 q9 h9 => hk3 q9.1 ((hO k9 q9 h9).lt) (fun z => hdis _ z (hOD.2 k9 q9 h9)))
  refine lv_iload hx hb d_Law_law_197 (lv_at hl 1 rfl) ?_
  refine lv_icmp_eq (tgt := 204) hx hb d_Law_law_199 (by decide) (fun _ => ?_) (fun q => absurd hf0 q)
  refine lv_iload hx hb d_Law_law_204 (lv_at hl 1 rfl) ?_
  refine lv_if_ne (tgt := 221) hx hb d_Law_law_206 (by decide) (fun _ => ?_) (fun h0 => ?_)
  · refine lv_goto (tgt := 617) hx hb d_Law_law_221 (by decide) ?_
    exact kk _ _ ls hS (lv_sub hl [2, 6] rfl)
  refine lv_aload_n hx hb d_Law_law_209 rfl (lv_at hl 3 rfl) ?_
  refine lv_iconst (v := 0) hx hb d_Law_law_210 (by decide) ?_
  refine va_lald hx hb hK hO 0 tJ rfl hJ (vp_in_nI (n := 0) (N := 1) (by decide) (by decide)) d_Law_law_211 ?_
  refine lv_iload hx hb d_Law_law_212 (lv_at hl 0 rfl) ?_
  refine lv_i2l (v := (rb).toInt64) hx hb d_Law_law_214 rfl ?_
  refine W.lcmp hx hb d_Law_law_215 ?_
  refine lv_as (v := 0) ?_ ?_
  · show lg_cmp (g2 (nI 0).toNatClampNeg) rb.toInt64 = 0
    rw [show (nI 0).toNatClampNeg = 0 by decide, hg2 h0, hag h0]
    simp [lg_cmp]
  refine lv_if_eq (tgt := 221) hx hb d_Law_law_216 (by decide) (fun _ => ?_) (fun q => absurd rfl q)
  refine lv_goto (tgt := 617) hx hb d_Law_law_221 (by decide) ?_
  exact kk _ _ ls hS (lv_sub hl [2, 6] rfl)
set_option maxHeartbeats 8000000 in
set_option maxRecDepth 100000 in
theorem law_given (hx : p.tables.exec = Jvm.exec) (hb : c.code = code) (hr : meth.sig.returnType = ret) (hml : c.maxLocals = 7) (hown : s.vm.findClass R_Law = some m.cls) (hgt : ∀ w ∈ lw_g, w.before #[Value.ref b] s = true) (hX : va_X b 3 xs s s.heap) (hbl : b < s.heap.size) (hlocks : meth.locks = false)
    (hK : va_K D cl tys s) (hc : cl[ci]? = some (RM, TM, 40)) (hI : tys[tI]? = some (cI, .int)) (hZ : tys[tZ]? = some (cZ, .boolean)) (hJ : tys[tJ]? = some (cJ, .long)) (hAm : ∀ q, Am q → s.heap.size ≤ q) (hAh : ∀ q, Ah q → s.heap.size ≤ q) (hdis : ∀ q, Am q → ¬ Ah q) (hCF : cOk CF xo) (k bb : Int32) (v : Int64) (hag : k = 0 → v = bb.toInt64) (fr lo mc ms : Nat) (hfr : fr + 1 ≤ 2048) (hlo : 8 + (5 + 11) + lo ≤ 84000)
    (hH : Met l y_Law_given (.codeWith y_Law_given b_Law_given 5 (some .int) [(0, 10, 13, 13), (0, 10, 17, 15)] :: lw_g) ({ frames := fr, cells := mc, slots := ms, locals := lo }) (va_Pc [.ref xo, .int (xs 1), .int (xs 2), .ref oa] (hPre s CF D cl tys tJ cJ Ah oa g)) (va_Qi (fun r g2 => r = k ∧ (k = 0 → g2 0 = v)) (hB D cl tys Ah cJ oa) Ah) mc ms Ah)
    (fm lm : Nat) (hfm : fm + 1 ≤ 2048) (hlm : 8 + (5 + 11) + lm ≤ 84000) (hMd : Met l yM_given (.code yM_given bM_given 5 (some .int) :: lw_g) ({ frames := fm, cells := 0, slots := 0, locals := lm }) (va_Pc (.ref o :: [.int (xs 1), .int (xs 2)]) (mdPre D cl tys Am ci tI tZ cI cZ o ad fi fa)) (va_Qi (fun r S => r = bb ∧ S.1 0 = k) (mdB D cl tys Am ci cI cZ o ad) Am) 0 0 Am)
    (hcf : ∀ U : State, U.heap = H → s.WarmedH U.vm → CF U) (hM : mdW D cl Am ci cI cZ o ad fi fa H) (hO : va_P D cl [(oa, .inl (cJ, 1, .inr (.inl g)))] H) (hOD : va_D Ah [(oa, .inl (cJ, 1, .inr (.inl g)))]) (hS : va_S (fun q : Nat => s.heap.size ≤ q) s.heap H locs) (hl : lv_has ls 7 [(4, .int 0), (3, .ref oa), (2, .ref o), (1, .ref xo), (0, .ref b)]) (hrc : cells + mc ≤ 600002) (hrs : slots + ms ≤ 7302231)
    (kk : ∀ (H : Heap) (locs : List Loc) (ls : Array Slot), va_S (fun q : Nat => s.heap.size ≤ q) s.heap H locs → lv_has ls 7 [(4, .int 0), (0, .ref b)] → W p l e room_1 s m #[Value.ref b] below meth c H locs (cells + mc) (slots + ms) Q (F0 m 617 ls [])) : W p l e room_1 s m #[Value.ref b] below meth c H locs cells slots Q (F0 m 237 ls []) := by
  have hbA : ¬ (fun q : Nat => s.heap.size ≤ q) b := Nat.not_le.mpr hbl
  refine lv_aload_n hx hb d_Law_law_237 rfl (lv_at hl 3 rfl) ?_
  refine lv_aload_n hx hb d_Law_law_238 rfl (lv_at hl 4 rfl) ?_
  refine lv_iload hx hb d_Law_law_239 (lv_at hl 0 rfl) ?_
  refine lv_iconst (v := 1) hx hb d_Law_law_241 (by decide) ?_
  refine lv_iadd hx hb d_Law_law_242 ?_
  refine lv_as (v := nI 1) (by decide) ?_
  refine va_sld hx hb hX hbl hbA hS (vp_in_nI (n := 1) (N := 3) (by decide) (by decide)) d_Law_law_243 ?_
  refine lv_as (v := xs 1) (by rw [show (nI 1).toNatClampNeg = 1 by decide]) ?_
  refine lv_aload_n hx hb d_Law_law_244 rfl (lv_at hl 4 rfl) ?_
  refine lv_iload hx hb d_Law_law_245 (lv_at hl 0 rfl) ?_
  refine lv_iconst (v := 2) hx hb d_Law_law_247 (by decide) ?_
  refine lv_iadd hx hb d_Law_law_248 ?_
  refine lv_as (v := nI 2) (by decide) ?_
  refine va_sld hx hb hX hbl hbA hS (vp_in_nI (n := 2) (N := 3) (by decide) (by decide)) d_Law_law_249 ?_
  refine lv_as (v := xs 2) (by rw [show (nI 2).toNatClampNeg = 2 by decide]) ?_
  refine lv_aload_n hx hb d_Law_law_250 rfl (lv_at hl 1 rfl) ?_
  refine va_calli (x_runSW (As := [.ref xo, .int (xs 1), .int (xs 2), .ref oa]) (rest := []) (n := 4) hx hb hml hown hgt hH kc_Law_given k_Law_m73 ks_Law_given k_Law_ini rfl rfl ⟨by decide, by decide +kernel⟩ ⟨hfr, hlo⟩ (hPre.S hS hCF hcf hO hOD hK hJ) rfl hl.1 rfl (lv_room (Nat.le_of_ble_eq_true rfl)) d_Law_law_251 ⟨hrc, hrs⟩) hS (fun q _ h => hAh q h) (fun q h => hAh q h) (fun r g2 t H1 locs1 ht hvm hw hB1 hz hk hS => ?_)
  obtain ⟨rfl, hg2⟩ := hw
  obtain ⟨hO, hOD, -⟩ := hB1
  rw [ht] at hO
  have hM : mdW D cl Am ci cI cZ o ad fi fa H1 := ⟨hM.1.kept (fun k9 q9 h9 => hk q9.1 ((hM.1 k9 q9 h9).lt) (hdis _ (hM.2.2 k9 q9 h9))), hM.2⟩
  refine lv_istore (lv' := [(5, .int r), (4, .int 0), (3, .ref oa), (2, .ref o), (1, .ref xo), (0, .ref b)]) hx hb d_Law_law_254 hl (by decide) rfl (fun ls hl => ?_)
  refine lv_aload_n hx hb d_Law_law_256 rfl (lv_at hl 3 rfl) ?_
  refine lv_aload_n hx hb d_Law_law_257 rfl (lv_at hl 5 rfl) ?_
  refine lv_iload hx hb d_Law_law_258 (lv_at hl 1 rfl) ?_
  refine lv_iconst (v := 1) hx hb d_Law_law_260 (by decide) ?_
  refine lv_iadd hx hb d_Law_law_261 ?_
  refine lv_as (v := nI 1) (by decide) ?_
  refine va_sld hx hb hX hbl hbA hS (vp_in_nI (n := 1) (N := 3) (by decide) (by decide)) d_Law_law_262 ?_
  refine lv_as (v := xs 1) (by rw [show (nI 1).toNatClampNeg = 1 by decide]) ?_
  refine lv_aload_n hx hb d_Law_law_263 rfl (lv_at hl 5 rfl) ?_
  refine lv_iload hx hb d_Law_law_264 (lv_at hl 1 rfl) ?_
  refine lv_iconst (v := 2) hx hb d_Law_law_266 (by decide) ?_
  refine lv_iadd hx hb d_Law_law_267 ?_
  refine lv_as (v := nI 2) (by decide) ?_
  refine va_sld hx hb hX hbl hbA hS (vp_in_nI (n := 2) (N := 3) (by decide) (by decide)) d_Law_law_268 ?_
  refine lv_as (v := xs 2) (by rw [show (nI 2).toNatClampNeg = 2 by decide]) ?_
  refine va_calli (M_runL (As := [.int (xs 1), .int (xs 2)]) (rest := []) (n := 2) hx hb hml hgt hown hK hc hI hZ hM hMd kM_c_given k_Law_m76 kM_i_given kM_s_given rfl rfl ⟨rfl, by decide +kernel⟩ ⟨hfm, hlm⟩ rfl hl.1 rfl (lv_room (Nat.le_of_ble_eq_true rfl)) d_Law_law_269 ⟨hrc, hrs⟩) hS (fun q _ h => hAm q h) (fun q h => hAm q h) (fun rb S t2 H2 locs2 ht2 hvm2 hw2 hB2 hz2 hk2 hS => ?_)
  obtain ⟨rfl, hf0⟩ := hw2
  obtain ⟨hM, -⟩ := hB2
  rw [ht2] at hM
  have hO : va_P D cl [(oa, .inl (cJ, 1, .inr (.inl g2)))] H2 := hO.kept (fun k9 q9 h9 => hk2 q9.1 ((hO k9 q9 h9).lt) (fun z => hdis _ z (hOD.2 k9 q9 h9)))
  refine lv_istore (lv' := [(6, .int rb), (5, .int r), (4, .int 0), (3, .ref oa), (2, .ref o), (1, .ref xo), (0, .ref b)]) hx hb d_Law_law_272 hl (by decide) rfl (fun ls hl => ?_)
  refine lv_aload_n hx hb d_Law_law_274 rfl (lv_at hl 4 rfl) ?_
  refine va_calli (M_runL (As := []) (rest := []) (n := 0) hx hb hml hgt hown hK hc hI hZ hM (c_thrown l D cl tys Am ci tI tZ cI cZ o ad _ _) kM_c_thrown k_Law_m62 kM_i_thrown kM_s_thrown rfl rfl ⟨rfl, by decide +kernel⟩ ⟨Nat.le_of_ble_eq_true rfl, Nat.le_of_ble_eq_true rfl⟩ rfl hl.1 rfl (lv_room (Nat.le_of_ble_eq_true rfl)) d_Law_law_275 ⟨hrc, hrs⟩) hS (fun q _ h => hAm q h) (fun q h => hAm q h) (fun r3 S3 t3 H3 locs3 ht3 hvm3 hw3 hB3 hz3 hk3 hS => ?_)
  obtain ⟨rfl, rfl⟩ := hw3
  have hO : va_P D cl [(oa, .inl (cJ, 1, .inr (.inl g2)))] H3 := hO.kept (fun k9 q9 h9 => hk3 q9.1 ((hO k9 q9 h9).lt) (fun z => hdis _ z (hOD.2 k9 q9 h9)))
  refine lv_iload hx hb d_Law_law_278 (lv_at hl 1 rfl) ?_
  refine lv_icmp_eq (tgt := 285) hx hb d_Law_law_280 (by decide) (fun _ => ?_) (fun q => absurd hf0 q)
  refine lv_iload hx hb d_Law_law_285 (lv_at hl 1 rfl) ?_
  refine lv_if_ne (tgt := 302) hx hb d_Law_law_287 (by decide) (fun _ => ?_) (fun h0 => ?_)
  · refine lv_goto (tgt := 617) hx hb d_Law_law_302 (by decide) ?_
    exact kk _ _ ls hS (lv_sub hl [2, 6] rfl)
  refine lv_aload_n hx hb d_Law_law_290 rfl (lv_at hl 3 rfl) ?_
  refine lv_iconst (v := 0) hx hb d_Law_law_291 (by decide) ?_
  refine va_lald hx hb hK hO 0 tJ rfl hJ (vp_in_nI (n := 0) (N := 1) (by decide) (by decide)) d_Law_law_292 ?_
  refine lv_iload hx hb d_Law_law_293 (lv_at hl 0 rfl) ?_
  refine lv_i2l (v := (rb).toInt64) hx hb d_Law_law_295 rfl ?_
  refine W.lcmp hx hb d_Law_law_296 ?_
  refine lv_as (v := 0) ?_ ?_
  · show lg_cmp (g2 (nI 0).toNatClampNeg) rb.toInt64 = 0
    rw [show (nI 0).toNatClampNeg = 0 by decide, hg2 h0, hag h0]
    simp [lg_cmp]
  refine lv_if_eq (tgt := 302) hx hb d_Law_law_297 (by decide) (fun _ => ?_) (fun q => absurd rfl q)
  refine lv_goto (tgt := 617) hx hb d_Law_law_302 (by decide) ?_
  exact kk _ _ ls hS (lv_sub hl [2, 6] rfl)
set_option maxHeartbeats 8000000 in
set_option maxRecDepth 100000 in
theorem law_start (hx : p.tables.exec = Jvm.exec) (hb : c.code = code) (hr : meth.sig.returnType = ret) (hml : c.maxLocals = 7) (hown : s.vm.findClass R_Law = some m.cls) (hgt : ∀ w ∈ lw_g, w.before #[Value.ref b] s = true) (hX : va_X b 3 xs s s.heap) (hbl : b < s.heap.size) (hlocks : meth.locks = false)
    (hK : va_K D cl tys s) (hc : cl[ci]? = some (RM, TM, 40)) (hI : tys[tI]? = some (cI, .int)) (hZ : tys[tZ]? = some (cZ, .boolean)) (hJ : tys[tJ]? = some (cJ, .long)) (hAm : ∀ q, Am q → s.heap.size ≤ q) (hAh : ∀ q, Ah q → s.heap.size ≤ q) (hdis : ∀ q, Am q → ¬ Ah q) (hCF : cOk CF xo) (k bb : Int32) (v : Int64) (hag : k = 0 → v = bb.toInt64) (fr lo mc ms : Nat) (hfr : fr + 1 ≤ 2048) (hlo : 8 + (3 + 11) + lo ≤ 84000)
    (hH : Met l y_Law_start (.codeWith y_Law_start b_Law_start 3 (some .int) [(0, 8, 11, 13)] :: lw_g) ({ frames := fr, cells := mc, slots := ms, locals := lo }) (va_Pc [.ref xo, .ref oa] (hPre s CF D cl tys tJ cJ Ah oa g)) (va_Qi (fun r g2 => r = k ∧ (k = 0 → g2 0 = v)) (hB D cl tys Ah cJ oa) Ah) mc ms Ah)
    (fm lm : Nat) (hfm : fm + 1 ≤ 2048) (hlm : 8 + (2 + 11) + lm ≤ 84000) (hMd : Met l yM_start (.code yM_start bM_start 2 (some .int) :: lw_g) ({ frames := fm, cells := 0, slots := 0, locals := lm }) (va_Pc (.ref o :: []) (mdPre D cl tys Am ci tI tZ cI cZ o ad fi fa)) (va_Qi (fun r S => r = bb ∧ S.1 0 = k) (mdB D cl tys Am ci cI cZ o ad) Am) 0 0 Am)
    (hcf : ∀ U : State, U.heap = H → s.WarmedH U.vm → CF U) (hM : mdW D cl Am ci cI cZ o ad fi fa H) (hO : va_P D cl [(oa, .inl (cJ, 1, .inr (.inl g)))] H) (hOD : va_D Ah [(oa, .inl (cJ, 1, .inr (.inl g)))]) (hS : va_S (fun q : Nat => s.heap.size ≤ q) s.heap H locs) (hl : lv_has ls 7 [(4, .int 0), (3, .ref oa), (2, .ref o), (1, .ref xo), (0, .ref b)]) (hrc : cells + mc ≤ 600002) (hrs : slots + ms ≤ 7302231)
    (kk : ∀ (H : Heap) (locs : List Loc) (ls : Array Slot), va_S (fun q : Nat => s.heap.size ≤ q) s.heap H locs → lv_has ls 7 [(4, .int 0), (0, .ref b)] → W p l e room_1 s m #[Value.ref b] below meth c H locs (cells + mc) (slots + ms) Q (F0 m 617 ls [])) : W p l e room_1 s m #[Value.ref b] below meth c H locs cells slots Q (F0 m 305 ls []) := by
  have hbA : ¬ (fun q : Nat => s.heap.size ≤ q) b := Nat.not_le.mpr hbl
  refine lv_aload_n hx hb d_Law_law_305 rfl (lv_at hl 3 rfl) ?_
  refine lv_aload_n hx hb d_Law_law_306 rfl (lv_at hl 1 rfl) ?_
  refine va_calli (x_runSW (As := [.ref xo, .ref oa]) (rest := []) (n := 2) hx hb hml hown hgt hH kc_Law_start k_Law_m77 ks_Law_start k_Law_ini rfl rfl ⟨by decide, by decide +kernel⟩ ⟨hfr, hlo⟩ (hPre.S hS hCF hcf hO hOD hK hJ) rfl hl.1 rfl (lv_room (Nat.le_of_ble_eq_true rfl)) d_Law_law_307 ⟨hrc, hrs⟩) hS (fun q _ h => hAh q h) (fun q h => hAh q h) (fun r g2 t H1 locs1 ht hvm hw hB1 hz hk hS => ?_)
  obtain ⟨rfl, hg2⟩ := hw
  obtain ⟨hO, hOD, -⟩ := hB1
  rw [ht] at hO
  have hM : mdW D cl Am ci cI cZ o ad fi fa H1 := ⟨hM.1.kept (fun k9 q9 h9 => hk q9.1 ((hM.1 k9 q9 h9).lt) (hdis _ (hM.2.2 k9 q9 h9))), hM.2⟩
  refine lv_istore (lv' := [(5, .int r), (4, .int 0), (3, .ref oa), (2, .ref o), (1, .ref xo), (0, .ref b)]) hx hb d_Law_law_310 hl (by decide) rfl (fun ls hl => ?_)
  refine lv_aload_n hx hb d_Law_law_312 rfl (lv_at hl 3 rfl) ?_
  refine va_calli (M_runL (As := []) (rest := []) (n := 0) hx hb hml hgt hown hK hc hI hZ hM hMd kM_c_start k_Law_m79 kM_i_start kM_s_start rfl rfl ⟨rfl, by decide +kernel⟩ ⟨hfm, hlm⟩ rfl hl.1 rfl (lv_room (Nat.le_of_ble_eq_true rfl)) d_Law_law_313 ⟨hrc, hrs⟩) hS (fun q _ h => hAm q h) (fun q h => hAm q h) (fun rb S t2 H2 locs2 ht2 hvm2 hw2 hB2 hz2 hk2 hS => ?_)
  obtain ⟨rfl, hf0⟩ := hw2
  obtain ⟨hM, -⟩ := hB2
  rw [ht2] at hM
  have hO : va_P D cl [(oa, .inl (cJ, 1, .inr (.inl g2)))] H2 := hO.kept (fun k9 q9 h9 => hk2 q9.1 ((hO k9 q9 h9).lt) (fun z => hdis _ z (hOD.2 k9 q9 h9)))
  refine lv_istore (lv' := [(6, .int rb), (5, .int r), (4, .int 0), (3, .ref oa), (2, .ref o), (1, .ref xo), (0, .ref b)]) hx hb d_Law_law_316 hl (by decide) rfl (fun ls hl => ?_)
  refine lv_aload_n hx hb d_Law_law_318 rfl (lv_at hl 4 rfl) ?_
  refine va_calli (M_runL (As := []) (rest := []) (n := 0) hx hb hml hgt hown hK hc hI hZ hM (c_thrown l D cl tys Am ci tI tZ cI cZ o ad _ _) kM_c_thrown k_Law_m62 kM_i_thrown kM_s_thrown rfl rfl ⟨rfl, by decide +kernel⟩ ⟨Nat.le_of_ble_eq_true rfl, Nat.le_of_ble_eq_true rfl⟩ rfl hl.1 rfl (lv_room (Nat.le_of_ble_eq_true rfl)) d_Law_law_319 ⟨hrc, hrs⟩) hS (fun q _ h => hAm q h) (fun q h => hAm q h) (fun r3 S3 t3 H3 locs3 ht3 hvm3 hw3 hB3 hz3 hk3 hS => ?_)
  obtain ⟨rfl, rfl⟩ := hw3
  have hO : va_P D cl [(oa, .inl (cJ, 1, .inr (.inl g2)))] H3 := hO.kept (fun k9 q9 h9 => hk3 q9.1 ((hO k9 q9 h9).lt) (fun z => hdis _ z (hOD.2 k9 q9 h9)))
  refine lv_iload hx hb d_Law_law_322 (lv_at hl 1 rfl) ?_
  refine lv_icmp_eq (tgt := 329) hx hb d_Law_law_324 (by decide) (fun _ => ?_) (fun q => absurd hf0 q)
  refine lv_iload hx hb d_Law_law_329 (lv_at hl 1 rfl) ?_
  refine lv_if_ne (tgt := 346) hx hb d_Law_law_331 (by decide) (fun _ => ?_) (fun h0 => ?_)
  · refine lv_goto (tgt := 617) hx hb d_Law_law_346 (by decide) ?_
    exact kk _ _ ls hS (lv_sub hl [2, 6] rfl)
  refine lv_aload_n hx hb d_Law_law_334 rfl (lv_at hl 3 rfl) ?_
  refine lv_iconst (v := 0) hx hb d_Law_law_335 (by decide) ?_
  refine va_lald hx hb hK hO 0 tJ rfl hJ (vp_in_nI (n := 0) (N := 1) (by decide) (by decide)) d_Law_law_336 ?_
  refine lv_iload hx hb d_Law_law_337 (lv_at hl 0 rfl) ?_
  refine lv_i2l (v := (rb).toInt64) hx hb d_Law_law_339 rfl ?_
  refine W.lcmp hx hb d_Law_law_340 ?_
  refine lv_as (v := 0) ?_ ?_
  · show lg_cmp (g2 (nI 0).toNatClampNeg) rb.toInt64 = 0
    rw [show (nI 0).toNatClampNeg = 0 by decide, hg2 h0, hag h0]
    simp [lg_cmp]
  refine lv_if_eq (tgt := 346) hx hb d_Law_law_341 (by decide) (fun _ => ?_) (fun q => absurd rfl q)
  refine lv_goto (tgt := 617) hx hb d_Law_law_346 (by decide) ?_
  exact kk _ _ ls hS (lv_sub hl [2, 6] rfl)
set_option maxHeartbeats 8000000 in
set_option maxRecDepth 100000 in
theorem law_run (hx : p.tables.exec = Jvm.exec) (hb : c.code = code) (hr : meth.sig.returnType = ret) (hml : c.maxLocals = 7) (hown : s.vm.findClass R_Law = some m.cls) (hgt : ∀ w ∈ lw_g, w.before #[Value.ref b] s = true) (hX : va_X b 3 xs s s.heap) (hbl : b < s.heap.size) (hlocks : meth.locks = false)
    (hK : va_K D cl tys s) (hc : cl[ci]? = some (RM, TM, 40)) (hI : tys[tI]? = some (cI, .int)) (hZ : tys[tZ]? = some (cZ, .boolean)) (hJ : tys[tJ]? = some (cJ, .long)) (hAm : ∀ q, Am q → s.heap.size ≤ q) (hAh : ∀ q, Ah q → s.heap.size ≤ q) (hdis : ∀ q, Am q → ¬ Ah q) (hCF : cOk CF xo) (k bb : Int32) (v : Int64) (hag : k = 0 → v = bb.toInt64) (fr lo mc ms : Nat) (hfr : fr + 1 ≤ 2048) (hlo : 8 + (4 + 11) + lo ≤ 84000)
    (hH : Met l y_Law_run (.codeWith y_Law_run b_Law_run 4 (some .int) [(0, 9, 12, 13), (0, 9, 15, 15), (0, 9, 18, 32), (0, 9, 21, 34)] :: lw_g) ({ frames := fr, cells := mc, slots := ms, locals := lo }) (va_Pc [.ref xo, .int (xs 1), .ref oa] (hPre s CF D cl tys tJ cJ Ah oa g)) (va_Qi (fun r g2 => r = k ∧ (k = 0 → g2 0 = v)) (hB D cl tys Ah cJ oa) Ah) mc ms Ah)
    (fm lm : Nat) (hfm : fm + 1 ≤ 2048) (hlm : 8 + (4 + 11) + lm ≤ 84000) (hMd : Met l yM_run (.code yM_run bM_run 4 (some .int) :: lw_g) ({ frames := fm, cells := 0, slots := 0, locals := lm }) (va_Pc (.ref o :: [.int (xs 1)]) (mdPre D cl tys Am ci tI tZ cI cZ o ad fi fa)) (va_Qi (fun r S => r = bb ∧ S.1 0 = k) (mdB D cl tys Am ci cI cZ o ad) Am) 0 0 Am)
    (hcf : ∀ U : State, U.heap = H → s.WarmedH U.vm → CF U) (hM : mdW D cl Am ci cI cZ o ad fi fa H) (hO : va_P D cl [(oa, .inl (cJ, 1, .inr (.inl g)))] H) (hOD : va_D Ah [(oa, .inl (cJ, 1, .inr (.inl g)))]) (hS : va_S (fun q : Nat => s.heap.size ≤ q) s.heap H locs) (hl : lv_has ls 7 [(4, .int 0), (3, .ref oa), (2, .ref o), (1, .ref xo), (0, .ref b)]) (hrc : cells + mc ≤ 600002) (hrs : slots + ms ≤ 7302231)
    (kk : ∀ (H : Heap) (locs : List Loc) (ls : Array Slot), va_S (fun q : Nat => s.heap.size ≤ q) s.heap H locs → lv_has ls 7 [(4, .int 0), (0, .ref b)] → W p l e room_1 s m #[Value.ref b] below meth c H locs (cells + mc) (slots + ms) Q (F0 m 617 ls [])) : W p l e room_1 s m #[Value.ref b] below meth c H locs cells slots Q (F0 m 349 ls []) := by
  have hbA : ¬ (fun q : Nat => s.heap.size ≤ q) b := Nat.not_le.mpr hbl
  refine lv_aload_n hx hb d_Law_law_349 rfl (lv_at hl 3 rfl) ?_
  refine lv_aload_n hx hb d_Law_law_350 rfl (lv_at hl 4 rfl) ?_
  refine lv_iload hx hb d_Law_law_351 (lv_at hl 0 rfl) ?_
  refine lv_iconst (v := 1) hx hb d_Law_law_353 (by decide) ?_
  refine lv_iadd hx hb d_Law_law_354 ?_
  refine lv_as (v := nI 1) (by decide) ?_
  refine va_sld hx hb hX hbl hbA hS (vp_in_nI (n := 1) (N := 3) (by decide) (by decide)) d_Law_law_355 ?_
  refine lv_as (v := xs 1) (by rw [show (nI 1).toNatClampNeg = 1 by decide]) ?_
  refine lv_aload_n hx hb d_Law_law_356 rfl (lv_at hl 1 rfl) ?_
  refine va_calli (x_runSW (As := [.ref xo, .int (xs 1), .ref oa]) (rest := []) (n := 3) hx hb hml hown hgt hH kc_Law_run k_Law_m80 ks_Law_run k_Law_ini rfl rfl ⟨by decide, by decide +kernel⟩ ⟨hfr, hlo⟩ (hPre.S hS hCF hcf hO hOD hK hJ) rfl hl.1 rfl (lv_room (Nat.le_of_ble_eq_true rfl)) d_Law_law_357 ⟨hrc, hrs⟩) hS (fun q _ h => hAh q h) (fun q h => hAh q h) (fun r g2 t H1 locs1 ht hvm hw hB1 hz hk hS => ?_)
  obtain ⟨rfl, hg2⟩ := hw
  obtain ⟨hO, hOD, -⟩ := hB1
  rw [ht] at hO
  have hM : mdW D cl Am ci cI cZ o ad fi fa H1 := ⟨hM.1.kept (fun k9 q9 h9 => hk q9.1 ((hM.1 k9 q9 h9).lt) (hdis _ (hM.2.2 k9 q9 h9))), hM.2⟩
  refine lv_istore (lv' := [(5, .int r), (4, .int 0), (3, .ref oa), (2, .ref o), (1, .ref xo), (0, .ref b)]) hx hb d_Law_law_360 hl (by decide) rfl (fun ls hl => ?_)
  refine lv_aload_n hx hb d_Law_law_362 rfl (lv_at hl 3 rfl) ?_
  refine lv_aload_n hx hb d_Law_law_363 rfl (lv_at hl 5 rfl) ?_
  refine lv_iload hx hb d_Law_law_364 (lv_at hl 1 rfl) ?_
  refine lv_iconst (v := 1) hx hb d_Law_law_366 (by decide) ?_
  refine lv_iadd hx hb d_Law_law_367 ?_
  refine lv_as (v := nI 1) (by decide) ?_
  refine va_sld hx hb hX hbl hbA hS (vp_in_nI (n := 1) (N := 3) (by decide) (by decide)) d_Law_law_368 ?_
  refine lv_as (v := xs 1) (by rw [show (nI 1).toNatClampNeg = 1 by decide]) ?_
  refine va_calli (M_runL (As := [.int (xs 1)]) (rest := []) (n := 1) hx hb hml hgt hown hK hc hI hZ hM hMd kM_c_run k_Law_m83 kM_i_run kM_s_run rfl rfl ⟨rfl, by decide +kernel⟩ ⟨hfm, hlm⟩ rfl hl.1 rfl (lv_room (Nat.le_of_ble_eq_true rfl)) d_Law_law_369 ⟨hrc, hrs⟩) hS (fun q _ h => hAm q h) (fun q h => hAm q h) (fun rb S t2 H2 locs2 ht2 hvm2 hw2 hB2 hz2 hk2 hS => ?_)
  obtain ⟨rfl, hf0⟩ := hw2
  obtain ⟨hM, -⟩ := hB2
  rw [ht2] at hM
  have hO : va_P D cl [(oa, .inl (cJ, 1, .inr (.inl g2)))] H2 := hO.kept (fun k9 q9 h9 => hk2 q9.1 ((hO k9 q9 h9).lt) (fun z => hdis _ z (hOD.2 k9 q9 h9)))
  refine lv_istore (lv' := [(6, .int rb), (5, .int r), (4, .int 0), (3, .ref oa), (2, .ref o), (1, .ref xo), (0, .ref b)]) hx hb d_Law_law_372 hl (by decide) rfl (fun ls hl => ?_)
  refine lv_aload_n hx hb d_Law_law_374 rfl (lv_at hl 4 rfl) ?_
  refine va_calli (M_runL (As := []) (rest := []) (n := 0) hx hb hml hgt hown hK hc hI hZ hM (c_thrown l D cl tys Am ci tI tZ cI cZ o ad _ _) kM_c_thrown k_Law_m62 kM_i_thrown kM_s_thrown rfl rfl ⟨rfl, by decide +kernel⟩ ⟨Nat.le_of_ble_eq_true rfl, Nat.le_of_ble_eq_true rfl⟩ rfl hl.1 rfl (lv_room (Nat.le_of_ble_eq_true rfl)) d_Law_law_375 ⟨hrc, hrs⟩) hS (fun q _ h => hAm q h) (fun q h => hAm q h) (fun r3 S3 t3 H3 locs3 ht3 hvm3 hw3 hB3 hz3 hk3 hS => ?_)
  obtain ⟨rfl, rfl⟩ := hw3
  have hO : va_P D cl [(oa, .inl (cJ, 1, .inr (.inl g2)))] H3 := hO.kept (fun k9 q9 h9 => hk3 q9.1 ((hO k9 q9 h9).lt) (fun z => hdis _ z (hOD.2 k9 q9 h9)))
  refine lv_iload hx hb d_Law_law_378 (lv_at hl 1 rfl) ?_
  refine lv_icmp_eq (tgt := 385) hx hb d_Law_law_380 (by decide) (fun _ => ?_) (fun q => absurd hf0 q)
  refine lv_iload hx hb d_Law_law_385 (lv_at hl 1 rfl) ?_
  refine lv_if_ne (tgt := 402) hx hb d_Law_law_387 (by decide) (fun _ => ?_) (fun h0 => ?_)
  · refine lv_goto (tgt := 617) hx hb d_Law_law_402 (by decide) ?_
    exact kk _ _ ls hS (lv_sub hl [2, 6] rfl)
  refine lv_aload_n hx hb d_Law_law_390 rfl (lv_at hl 3 rfl) ?_
  refine lv_iconst (v := 0) hx hb d_Law_law_391 (by decide) ?_
  refine va_lald hx hb hK hO 0 tJ rfl hJ (vp_in_nI (n := 0) (N := 1) (by decide) (by decide)) d_Law_law_392 ?_
  refine lv_iload hx hb d_Law_law_393 (lv_at hl 0 rfl) ?_
  refine lv_i2l (v := (rb).toInt64) hx hb d_Law_law_395 rfl ?_
  refine W.lcmp hx hb d_Law_law_396 ?_
  refine lv_as (v := 0) ?_ ?_
  · show lg_cmp (g2 (nI 0).toNatClampNeg) rb.toInt64 = 0
    rw [show (nI 0).toNatClampNeg = 0 by decide, hg2 h0, hag h0]
    simp [lg_cmp]
  refine lv_if_eq (tgt := 402) hx hb d_Law_law_397 (by decide) (fun _ => ?_) (fun q => absurd rfl q)
  refine lv_goto (tgt := 617) hx hb d_Law_law_402 (by decide) ?_
  exact kk _ _ ls hS (lv_sub hl [2, 6] rfl)
set_option maxHeartbeats 8000000 in
set_option maxRecDepth 100000 in
theorem law_stop (hx : p.tables.exec = Jvm.exec) (hb : c.code = code) (hr : meth.sig.returnType = ret) (hml : c.maxLocals = 7) (hown : s.vm.findClass R_Law = some m.cls) (hgt : ∀ w ∈ lw_g, w.before #[Value.ref b] s = true) (hX : va_X b 3 xs s s.heap) (hbl : b < s.heap.size) (hlocks : meth.locks = false)
    (hK : va_K D cl tys s) (hc : cl[ci]? = some (RM, TM, 40)) (hI : tys[tI]? = some (cI, .int)) (hZ : tys[tZ]? = some (cZ, .boolean)) (hJ : tys[tJ]? = some (cJ, .long)) (hAm : ∀ q, Am q → s.heap.size ≤ q) (hAh : ∀ q, Ah q → s.heap.size ≤ q) (hdis : ∀ q, Am q → ¬ Ah q) (hCF : cOk CF xo) (k bb : Int32) (v : Int64) (hag : k = 0 → v = bb.toInt64) (fr lo mc ms : Nat) (hfr : fr + 1 ≤ 2048) (hlo : 8 + (3 + 11) + lo ≤ 84000)
    (hH : Met l y_Law_stop (.codeWith y_Law_stop b_Law_stop 3 (some .int) [(0, 8, 11, 13)] :: lw_g) ({ frames := fr, cells := mc, slots := ms, locals := lo }) (va_Pc [.ref xo, .ref oa] (hPre s CF D cl tys tJ cJ Ah oa g)) (va_Qi (fun r g2 => r = k ∧ (k = 0 → g2 0 = v)) (hB D cl tys Ah cJ oa) Ah) mc ms Ah)
    (fm lm : Nat) (hfm : fm + 1 ≤ 2048) (hlm : 8 + (1 + 11) + lm ≤ 84000) (hMd : Met l yM_stop (.code yM_stop bM_stop 1 (some .int) :: lw_g) ({ frames := fm, cells := 0, slots := 0, locals := lm }) (va_Pc (.ref o :: []) (mdPre D cl tys Am ci tI tZ cI cZ o ad fi fa)) (va_Qi (fun r S => r = bb ∧ S.1 0 = k) (mdB D cl tys Am ci cI cZ o ad) Am) 0 0 Am)
    (hcf : ∀ U : State, U.heap = H → s.WarmedH U.vm → CF U) (hM : mdW D cl Am ci cI cZ o ad fi fa H) (hO : va_P D cl [(oa, .inl (cJ, 1, .inr (.inl g)))] H) (hOD : va_D Ah [(oa, .inl (cJ, 1, .inr (.inl g)))]) (hS : va_S (fun q : Nat => s.heap.size ≤ q) s.heap H locs) (hl : lv_has ls 7 [(4, .int 0), (3, .ref oa), (2, .ref o), (1, .ref xo), (0, .ref b)]) (hrc : cells + mc ≤ 600002) (hrs : slots + ms ≤ 7302231)
    (kk : ∀ (H : Heap) (locs : List Loc) (ls : Array Slot), va_S (fun q : Nat => s.heap.size ≤ q) s.heap H locs → lv_has ls 7 [(4, .int 0), (0, .ref b)] → W p l e room_1 s m #[Value.ref b] below meth c H locs (cells + mc) (slots + ms) Q (F0 m 617 ls [])) : W p l e room_1 s m #[Value.ref b] below meth c H locs cells slots Q (F0 m 405 ls []) := by
  have hbA : ¬ (fun q : Nat => s.heap.size ≤ q) b := Nat.not_le.mpr hbl
  refine lv_aload_n hx hb d_Law_law_405 rfl (lv_at hl 3 rfl) ?_
  refine lv_aload_n hx hb d_Law_law_406 rfl (lv_at hl 1 rfl) ?_
  refine va_calli (x_runSW (As := [.ref xo, .ref oa]) (rest := []) (n := 2) hx hb hml hown hgt hH kc_Law_stop k_Law_m84 ks_Law_stop k_Law_ini rfl rfl ⟨by decide, by decide +kernel⟩ ⟨hfr, hlo⟩ (hPre.S hS hCF hcf hO hOD hK hJ) rfl hl.1 rfl (lv_room (Nat.le_of_ble_eq_true rfl)) d_Law_law_407 ⟨hrc, hrs⟩) hS (fun q _ h => hAh q h) (fun q h => hAh q h) (fun r g2 t H1 locs1 ht hvm hw hB1 hz hk hS => ?_)
  obtain ⟨rfl, hg2⟩ := hw
  obtain ⟨hO, hOD, -⟩ := hB1
  rw [ht] at hO
  have hM : mdW D cl Am ci cI cZ o ad fi fa H1 := ⟨hM.1.kept (fun k9 q9 h9 => hk q9.1 ((hM.1 k9 q9 h9).lt) (hdis _ (hM.2.2 k9 q9 h9))), hM.2⟩
  refine lv_istore (lv' := [(5, .int r), (4, .int 0), (3, .ref oa), (2, .ref o), (1, .ref xo), (0, .ref b)]) hx hb d_Law_law_410 hl (by decide) rfl (fun ls hl => ?_)
  refine lv_aload_n hx hb d_Law_law_412 rfl (lv_at hl 3 rfl) ?_
  refine va_calli (M_runL (As := []) (rest := []) (n := 0) hx hb hml hgt hown hK hc hI hZ hM hMd kM_c_stop k_Law_m86 kM_i_stop kM_s_stop rfl rfl ⟨rfl, by decide +kernel⟩ ⟨hfm, hlm⟩ rfl hl.1 rfl (lv_room (Nat.le_of_ble_eq_true rfl)) d_Law_law_413 ⟨hrc, hrs⟩) hS (fun q _ h => hAm q h) (fun q h => hAm q h) (fun rb S t2 H2 locs2 ht2 hvm2 hw2 hB2 hz2 hk2 hS => ?_)
  obtain ⟨rfl, hf0⟩ := hw2
  obtain ⟨hM, -⟩ := hB2
  rw [ht2] at hM
  have hO : va_P D cl [(oa, .inl (cJ, 1, .inr (.inl g2)))] H2 := hO.kept (fun k9 q9 h9 => hk2 q9.1 ((hO k9 q9 h9).lt) (fun z => hdis _ z (hOD.2 k9 q9 h9)))
  refine lv_istore (lv' := [(6, .int rb), (5, .int r), (4, .int 0), (3, .ref oa), (2, .ref o), (1, .ref xo), (0, .ref b)]) hx hb d_Law_law_416 hl (by decide) rfl (fun ls hl => ?_)
  refine lv_aload_n hx hb d_Law_law_418 rfl (lv_at hl 4 rfl) ?_
  refine va_calli (M_runL (As := []) (rest := []) (n := 0) hx hb hml hgt hown hK hc hI hZ hM (c_thrown l D cl tys Am ci tI tZ cI cZ o ad _ _) kM_c_thrown k_Law_m62 kM_i_thrown kM_s_thrown rfl rfl ⟨rfl, by decide +kernel⟩ ⟨Nat.le_of_ble_eq_true rfl, Nat.le_of_ble_eq_true rfl⟩ rfl hl.1 rfl (lv_room (Nat.le_of_ble_eq_true rfl)) d_Law_law_419 ⟨hrc, hrs⟩) hS (fun q _ h => hAm q h) (fun q h => hAm q h) (fun r3 S3 t3 H3 locs3 ht3 hvm3 hw3 hB3 hz3 hk3 hS => ?_)
  obtain ⟨rfl, rfl⟩ := hw3
  have hO : va_P D cl [(oa, .inl (cJ, 1, .inr (.inl g2)))] H3 := hO.kept (fun k9 q9 h9 => hk3 q9.1 ((hO k9 q9 h9).lt) (fun z => hdis _ z (hOD.2 k9 q9 h9)))
  refine lv_iload hx hb d_Law_law_422 (lv_at hl 1 rfl) ?_
  refine lv_icmp_eq (tgt := 429) hx hb d_Law_law_424 (by decide) (fun _ => ?_) (fun q => absurd hf0 q)
  refine lv_iload hx hb d_Law_law_429 (lv_at hl 1 rfl) ?_
  refine lv_if_ne (tgt := 446) hx hb d_Law_law_431 (by decide) (fun _ => ?_) (fun h0 => ?_)
  · refine lv_goto (tgt := 617) hx hb d_Law_law_446 (by decide) ?_
    exact kk _ _ ls hS (lv_sub hl [2, 6] rfl)
  refine lv_aload_n hx hb d_Law_law_434 rfl (lv_at hl 3 rfl) ?_
  refine lv_iconst (v := 0) hx hb d_Law_law_435 (by decide) ?_
  refine va_lald hx hb hK hO 0 tJ rfl hJ (vp_in_nI (n := 0) (N := 1) (by decide) (by decide)) d_Law_law_436 ?_
  refine lv_iload hx hb d_Law_law_437 (lv_at hl 0 rfl) ?_
  refine lv_i2l (v := (rb).toInt64) hx hb d_Law_law_439 rfl ?_
  refine W.lcmp hx hb d_Law_law_440 ?_
  refine lv_as (v := 0) ?_ ?_
  · show lg_cmp (g2 (nI 0).toNatClampNeg) rb.toInt64 = 0
    rw [show (nI 0).toNatClampNeg = 0 by decide, hg2 h0, hag h0]
    simp [lg_cmp]
  refine lv_if_eq (tgt := 446) hx hb d_Law_law_441 (by decide) (fun _ => ?_) (fun q => absurd rfl q)
  refine lv_goto (tgt := 617) hx hb d_Law_law_446 (by decide) ?_
  exact kk _ _ ls hS (lv_sub hl [2, 6] rfl)
set_option maxHeartbeats 8000000 in
set_option maxRecDepth 100000 in
theorem law_state (hx : p.tables.exec = Jvm.exec) (hb : c.code = code) (hr : meth.sig.returnType = ret) (hml : c.maxLocals = 7) (hown : s.vm.findClass R_Law = some m.cls) (hgt : ∀ w ∈ lw_g, w.before #[Value.ref b] s = true) (hX : va_X b 3 xs s s.heap) (hbl : b < s.heap.size) (hlocks : meth.locks = false)
    (hK : va_K D cl tys s) (hc : cl[ci]? = some (RM, TM, 40)) (hI : tys[tI]? = some (cI, .int)) (hZ : tys[tZ]? = some (cZ, .boolean)) (hJ : tys[tJ]? = some (cJ, .long)) (hAm : ∀ q, Am q → s.heap.size ≤ q) (hAh : ∀ q, Ah q → s.heap.size ≤ q) (hdis : ∀ q, Am q → ¬ Ah q) (hCF : cOk CF xo) (k bb : Int32) (v : Int64) (hag : k = 0 → v = bb.toInt64) (fr lo mc ms : Nat) (hfr : fr + 1 ≤ 2048) (hlo : 8 + (4 + 11) + lo ≤ 84000)
    (hH : Met l y_Law_state (.codeWith y_Law_state b_Law_state 4 (some .int) [(0, 9, 12, 15)] :: lw_g) ({ frames := fr, cells := mc, slots := ms, locals := lo }) (va_Pc [.ref xo, .int (xs 1), .ref oa] (hPre s CF D cl tys tJ cJ Ah oa g)) (va_Qi (fun r g2 => r = k ∧ (k = 0 → g2 0 = v)) (hB D cl tys Ah cJ oa) Ah) mc ms Ah)
    (fm lm : Nat) (hfm : fm + 1 ≤ 2048) (hlm : 8 + (2 + 11) + lm ≤ 84000) (hMd : Met l yM_state (.code yM_state bM_state 2 (some .int) :: lw_g) ({ frames := fm, cells := 0, slots := 0, locals := lm }) (va_Pc (.ref o :: [.int (xs 1)]) (mdPre D cl tys Am ci tI tZ cI cZ o ad fi fa)) (va_Qi (fun r S => r = bb ∧ S.1 0 = k) (mdB D cl tys Am ci cI cZ o ad) Am) 0 0 Am)
    (hcf : ∀ U : State, U.heap = H → s.WarmedH U.vm → CF U) (hM : mdW D cl Am ci cI cZ o ad fi fa H) (hO : va_P D cl [(oa, .inl (cJ, 1, .inr (.inl g)))] H) (hOD : va_D Ah [(oa, .inl (cJ, 1, .inr (.inl g)))]) (hS : va_S (fun q : Nat => s.heap.size ≤ q) s.heap H locs) (hl : lv_has ls 7 [(4, .int 0), (3, .ref oa), (2, .ref o), (1, .ref xo), (0, .ref b)]) (hrc : cells + mc ≤ 600002) (hrs : slots + ms ≤ 7302231)
    (kk : ∀ (H : Heap) (locs : List Loc) (ls : Array Slot), va_S (fun q : Nat => s.heap.size ≤ q) s.heap H locs → lv_has ls 7 [(4, .int 0), (0, .ref b)] → W p l e room_1 s m #[Value.ref b] below meth c H locs (cells + mc) (slots + ms) Q (F0 m 617 ls [])) : W p l e room_1 s m #[Value.ref b] below meth c H locs cells slots Q (F0 m 449 ls []) := by
  have hbA : ¬ (fun q : Nat => s.heap.size ≤ q) b := Nat.not_le.mpr hbl
  refine lv_aload_n hx hb d_Law_law_449 rfl (lv_at hl 3 rfl) ?_
  refine lv_aload_n hx hb d_Law_law_450 rfl (lv_at hl 4 rfl) ?_
  refine lv_iload hx hb d_Law_law_451 (lv_at hl 0 rfl) ?_
  refine lv_iconst (v := 1) hx hb d_Law_law_453 (by decide) ?_
  refine lv_iadd hx hb d_Law_law_454 ?_
  refine lv_as (v := nI 1) (by decide) ?_
  refine va_sld hx hb hX hbl hbA hS (vp_in_nI (n := 1) (N := 3) (by decide) (by decide)) d_Law_law_455 ?_
  refine lv_as (v := xs 1) (by rw [show (nI 1).toNatClampNeg = 1 by decide]) ?_
  refine lv_aload_n hx hb d_Law_law_456 rfl (lv_at hl 1 rfl) ?_
  refine va_calli (x_runSW (As := [.ref xo, .int (xs 1), .ref oa]) (rest := []) (n := 3) hx hb hml hown hgt hH kc_Law_state k_Law_m87 ks_Law_state k_Law_ini rfl rfl ⟨by decide, by decide +kernel⟩ ⟨hfr, hlo⟩ (hPre.S hS hCF hcf hO hOD hK hJ) rfl hl.1 rfl (lv_room (Nat.le_of_ble_eq_true rfl)) d_Law_law_457 ⟨hrc, hrs⟩) hS (fun q _ h => hAh q h) (fun q h => hAh q h) (fun r g2 t H1 locs1 ht hvm hw hB1 hz hk hS => ?_)
  obtain ⟨rfl, hg2⟩ := hw
  obtain ⟨hO, hOD, -⟩ := hB1
  rw [ht] at hO
  have hM : mdW D cl Am ci cI cZ o ad fi fa H1 := ⟨hM.1.kept (fun k9 q9 h9 => hk q9.1 ((hM.1 k9 q9 h9).lt) (hdis _ (hM.2.2 k9 q9 h9))), hM.2⟩
  refine lv_istore (lv' := [(5, .int r), (4, .int 0), (3, .ref oa), (2, .ref o), (1, .ref xo), (0, .ref b)]) hx hb d_Law_law_460 hl (by decide) rfl (fun ls hl => ?_)
  refine lv_aload_n hx hb d_Law_law_462 rfl (lv_at hl 3 rfl) ?_
  refine lv_aload_n hx hb d_Law_law_463 rfl (lv_at hl 5 rfl) ?_
  refine lv_iload hx hb d_Law_law_464 (lv_at hl 1 rfl) ?_
  refine lv_iconst (v := 1) hx hb d_Law_law_466 (by decide) ?_
  refine lv_iadd hx hb d_Law_law_467 ?_
  refine lv_as (v := nI 1) (by decide) ?_
  refine va_sld hx hb hX hbl hbA hS (vp_in_nI (n := 1) (N := 3) (by decide) (by decide)) d_Law_law_468 ?_
  refine lv_as (v := xs 1) (by rw [show (nI 1).toNatClampNeg = 1 by decide]) ?_
  refine va_calli (M_runL (As := [.int (xs 1)]) (rest := []) (n := 1) hx hb hml hgt hown hK hc hI hZ hM hMd kM_c_state k_Law_m89 kM_i_state kM_s_state rfl rfl ⟨rfl, by decide +kernel⟩ ⟨hfm, hlm⟩ rfl hl.1 rfl (lv_room (Nat.le_of_ble_eq_true rfl)) d_Law_law_469 ⟨hrc, hrs⟩) hS (fun q _ h => hAm q h) (fun q h => hAm q h) (fun rb S t2 H2 locs2 ht2 hvm2 hw2 hB2 hz2 hk2 hS => ?_)
  obtain ⟨rfl, hf0⟩ := hw2
  obtain ⟨hM, -⟩ := hB2
  rw [ht2] at hM
  have hO : va_P D cl [(oa, .inl (cJ, 1, .inr (.inl g2)))] H2 := hO.kept (fun k9 q9 h9 => hk2 q9.1 ((hO k9 q9 h9).lt) (fun z => hdis _ z (hOD.2 k9 q9 h9)))
  refine lv_istore (lv' := [(6, .int rb), (5, .int r), (4, .int 0), (3, .ref oa), (2, .ref o), (1, .ref xo), (0, .ref b)]) hx hb d_Law_law_472 hl (by decide) rfl (fun ls hl => ?_)
  refine lv_aload_n hx hb d_Law_law_474 rfl (lv_at hl 4 rfl) ?_
  refine va_calli (M_runL (As := []) (rest := []) (n := 0) hx hb hml hgt hown hK hc hI hZ hM (c_thrown l D cl tys Am ci tI tZ cI cZ o ad _ _) kM_c_thrown k_Law_m62 kM_i_thrown kM_s_thrown rfl rfl ⟨rfl, by decide +kernel⟩ ⟨Nat.le_of_ble_eq_true rfl, Nat.le_of_ble_eq_true rfl⟩ rfl hl.1 rfl (lv_room (Nat.le_of_ble_eq_true rfl)) d_Law_law_475 ⟨hrc, hrs⟩) hS (fun q _ h => hAm q h) (fun q h => hAm q h) (fun r3 S3 t3 H3 locs3 ht3 hvm3 hw3 hB3 hz3 hk3 hS => ?_)
  obtain ⟨rfl, rfl⟩ := hw3
  have hO : va_P D cl [(oa, .inl (cJ, 1, .inr (.inl g2)))] H3 := hO.kept (fun k9 q9 h9 => hk3 q9.1 ((hO k9 q9 h9).lt) (fun z => hdis _ z (hOD.2 k9 q9 h9)))
  refine lv_iload hx hb d_Law_law_478 (lv_at hl 1 rfl) ?_
  refine lv_icmp_eq (tgt := 485) hx hb d_Law_law_480 (by decide) (fun _ => ?_) (fun q => absurd hf0 q)
  refine lv_iload hx hb d_Law_law_485 (lv_at hl 1 rfl) ?_
  refine lv_if_ne (tgt := 502) hx hb d_Law_law_487 (by decide) (fun _ => ?_) (fun h0 => ?_)
  · refine lv_goto (tgt := 617) hx hb d_Law_law_502 (by decide) ?_
    exact kk _ _ ls hS (lv_sub hl [2, 6] rfl)
  refine lv_aload_n hx hb d_Law_law_490 rfl (lv_at hl 3 rfl) ?_
  refine lv_iconst (v := 0) hx hb d_Law_law_491 (by decide) ?_
  refine va_lald hx hb hK hO 0 tJ rfl hJ (vp_in_nI (n := 0) (N := 1) (by decide) (by decide)) d_Law_law_492 ?_
  refine lv_iload hx hb d_Law_law_493 (lv_at hl 0 rfl) ?_
  refine lv_i2l (v := (rb).toInt64) hx hb d_Law_law_495 rfl ?_
  refine W.lcmp hx hb d_Law_law_496 ?_
  refine lv_as (v := 0) ?_ ?_
  · show lg_cmp (g2 (nI 0).toNatClampNeg) rb.toInt64 = 0
    rw [show (nI 0).toNatClampNeg = 0 by decide, hg2 h0, hag h0]
    simp [lg_cmp]
  refine lv_if_eq (tgt := 502) hx hb d_Law_law_497 (by decide) (fun _ => ?_) (fun q => absurd rfl q)
  refine lv_goto (tgt := 617) hx hb d_Law_law_502 (by decide) ?_
  exact kk _ _ ls hS (lv_sub hl [2, 6] rfl)
set_option maxHeartbeats 8000000 in
set_option maxRecDepth 100000 in
theorem law_sign (hx : p.tables.exec = Jvm.exec) (hb : c.code = code) (hr : meth.sig.returnType = ret) (hml : c.maxLocals = 7) (hown : s.vm.findClass R_Law = some m.cls) (hgt : ∀ w ∈ lw_g, w.before #[Value.ref b] s = true) (hX : va_X b 3 xs s s.heap) (hbl : b < s.heap.size) (hlocks : meth.locks = false)
    (hK : va_K D cl tys s) (hc : cl[ci]? = some (RM, TM, 40)) (hI : tys[tI]? = some (cI, .int)) (hZ : tys[tZ]? = some (cZ, .boolean)) (hJ : tys[tJ]? = some (cJ, .long)) (hAm : ∀ q, Am q → s.heap.size ≤ q) (hAh : ∀ q, Ah q → s.heap.size ≤ q) (hdis : ∀ q, Am q → ¬ Ah q) (hCF : cOk CF xo) (k bb : Int32) (v : Int64) (hag : k = 0 → v = bb.toInt64) (fr lo mc ms : Nat) (hfr : fr + 1 ≤ 2048) (hlo : 8 + (4 + 11) + lo ≤ 84000)
    (hH : Met l y_Law_sign (.codeWith y_Law_sign b_Law_sign 4 (some .int) [(0, 9, 12, 13), (0, 9, 15, 15)] :: lw_g) ({ frames := fr, cells := mc, slots := ms, locals := lo }) (va_Pc [.ref xo, .int (xs 1), .ref oa] (hPre s CF D cl tys tJ cJ Ah oa g)) (va_Qi (fun r g2 => r = k ∧ (k = 0 → g2 0 = v)) (hB D cl tys Ah cJ oa) Ah) mc ms Ah)
    (fm lm : Nat) (hfm : fm + 1 ≤ 2048) (hlm : 8 + (8 + 11) + lm ≤ 84000) (hMd : Met l yM_sign (.code yM_sign bM_sign 8 (some .int) :: lw_g) ({ frames := fm, cells := 0, slots := 0, locals := lm }) (va_Pc (.ref o :: [.int (xs 1)]) (mdPre D cl tys Am ci tI tZ cI cZ o ad fi fa)) (va_Qi (fun r S => r = bb ∧ S.1 0 = k) (mdB D cl tys Am ci cI cZ o ad) Am) 0 0 Am)
    (hcf : ∀ U : State, U.heap = H → s.WarmedH U.vm → CF U) (hM : mdW D cl Am ci cI cZ o ad fi fa H) (hO : va_P D cl [(oa, .inl (cJ, 1, .inr (.inl g)))] H) (hOD : va_D Ah [(oa, .inl (cJ, 1, .inr (.inl g)))]) (hS : va_S (fun q : Nat => s.heap.size ≤ q) s.heap H locs) (hl : lv_has ls 7 [(4, .int 0), (3, .ref oa), (2, .ref o), (1, .ref xo), (0, .ref b)]) (hrc : cells + mc ≤ 600002) (hrs : slots + ms ≤ 7302231)
    (kk : ∀ (H : Heap) (locs : List Loc) (ls : Array Slot), va_S (fun q : Nat => s.heap.size ≤ q) s.heap H locs → lv_has ls 7 [(4, .int 0), (0, .ref b)] → W p l e room_1 s m #[Value.ref b] below meth c H locs (cells + mc) (slots + ms) Q (F0 m 617 ls [])) : W p l e room_1 s m #[Value.ref b] below meth c H locs cells slots Q (F0 m 505 ls []) := by
  have hbA : ¬ (fun q : Nat => s.heap.size ≤ q) b := Nat.not_le.mpr hbl
  refine lv_aload_n hx hb d_Law_law_505 rfl (lv_at hl 3 rfl) ?_
  refine lv_aload_n hx hb d_Law_law_506 rfl (lv_at hl 4 rfl) ?_
  refine lv_iload hx hb d_Law_law_507 (lv_at hl 0 rfl) ?_
  refine lv_iconst (v := 1) hx hb d_Law_law_509 (by decide) ?_
  refine lv_iadd hx hb d_Law_law_510 ?_
  refine lv_as (v := nI 1) (by decide) ?_
  refine va_sld hx hb hX hbl hbA hS (vp_in_nI (n := 1) (N := 3) (by decide) (by decide)) d_Law_law_511 ?_
  refine lv_as (v := xs 1) (by rw [show (nI 1).toNatClampNeg = 1 by decide]) ?_
  refine lv_aload_n hx hb d_Law_law_512 rfl (lv_at hl 1 rfl) ?_
  refine va_calli (x_runSW (As := [.ref xo, .int (xs 1), .ref oa]) (rest := []) (n := 3) hx hb hml hown hgt hH kc_Law_sign k_Law_m90 ks_Law_sign k_Law_ini rfl rfl ⟨by decide, by decide +kernel⟩ ⟨hfr, hlo⟩ (hPre.S hS hCF hcf hO hOD hK hJ) rfl hl.1 rfl (lv_room (Nat.le_of_ble_eq_true rfl)) d_Law_law_513 ⟨hrc, hrs⟩) hS (fun q _ h => hAh q h) (fun q h => hAh q h) (fun r g2 t H1 locs1 ht hvm hw hB1 hz hk hS => ?_)
  obtain ⟨rfl, hg2⟩ := hw
  obtain ⟨hO, hOD, -⟩ := hB1
  rw [ht] at hO
  have hM : mdW D cl Am ci cI cZ o ad fi fa H1 := ⟨hM.1.kept (fun k9 q9 h9 => hk q9.1 ((hM.1 k9 q9 h9).lt) (hdis _ (hM.2.2 k9 q9 h9))), hM.2⟩
  refine lv_istore (lv' := [(5, .int r), (4, .int 0), (3, .ref oa), (2, .ref o), (1, .ref xo), (0, .ref b)]) hx hb d_Law_law_516 hl (by decide) rfl (fun ls hl => ?_)
  refine lv_aload_n hx hb d_Law_law_518 rfl (lv_at hl 3 rfl) ?_
  refine lv_aload_n hx hb d_Law_law_519 rfl (lv_at hl 5 rfl) ?_
  refine lv_iload hx hb d_Law_law_520 (lv_at hl 1 rfl) ?_
  refine lv_iconst (v := 1) hx hb d_Law_law_522 (by decide) ?_
  refine lv_iadd hx hb d_Law_law_523 ?_
  refine lv_as (v := nI 1) (by decide) ?_
  refine va_sld hx hb hX hbl hbA hS (vp_in_nI (n := 1) (N := 3) (by decide) (by decide)) d_Law_law_524 ?_
  refine lv_as (v := xs 1) (by rw [show (nI 1).toNatClampNeg = 1 by decide]) ?_
  refine va_calli (M_runL (As := [.int (xs 1)]) (rest := []) (n := 1) hx hb hml hgt hown hK hc hI hZ hM hMd kM_c_sign k_Law_m92 kM_i_sign kM_s_sign rfl rfl ⟨rfl, by decide +kernel⟩ ⟨hfm, hlm⟩ rfl hl.1 rfl (lv_room (Nat.le_of_ble_eq_true rfl)) d_Law_law_525 ⟨hrc, hrs⟩) hS (fun q _ h => hAm q h) (fun q h => hAm q h) (fun rb S t2 H2 locs2 ht2 hvm2 hw2 hB2 hz2 hk2 hS => ?_)
  obtain ⟨rfl, hf0⟩ := hw2
  obtain ⟨hM, -⟩ := hB2
  rw [ht2] at hM
  have hO : va_P D cl [(oa, .inl (cJ, 1, .inr (.inl g2)))] H2 := hO.kept (fun k9 q9 h9 => hk2 q9.1 ((hO k9 q9 h9).lt) (fun z => hdis _ z (hOD.2 k9 q9 h9)))
  refine lv_istore (lv' := [(6, .int rb), (5, .int r), (4, .int 0), (3, .ref oa), (2, .ref o), (1, .ref xo), (0, .ref b)]) hx hb d_Law_law_528 hl (by decide) rfl (fun ls hl => ?_)
  refine lv_aload_n hx hb d_Law_law_530 rfl (lv_at hl 4 rfl) ?_
  refine va_calli (M_runL (As := []) (rest := []) (n := 0) hx hb hml hgt hown hK hc hI hZ hM (c_thrown l D cl tys Am ci tI tZ cI cZ o ad _ _) kM_c_thrown k_Law_m62 kM_i_thrown kM_s_thrown rfl rfl ⟨rfl, by decide +kernel⟩ ⟨Nat.le_of_ble_eq_true rfl, Nat.le_of_ble_eq_true rfl⟩ rfl hl.1 rfl (lv_room (Nat.le_of_ble_eq_true rfl)) d_Law_law_531 ⟨hrc, hrs⟩) hS (fun q _ h => hAm q h) (fun q h => hAm q h) (fun r3 S3 t3 H3 locs3 ht3 hvm3 hw3 hB3 hz3 hk3 hS => ?_)
  obtain ⟨rfl, rfl⟩ := hw3
  have hO : va_P D cl [(oa, .inl (cJ, 1, .inr (.inl g2)))] H3 := hO.kept (fun k9 q9 h9 => hk3 q9.1 ((hO k9 q9 h9).lt) (fun z => hdis _ z (hOD.2 k9 q9 h9)))
  refine lv_iload hx hb d_Law_law_534 (lv_at hl 1 rfl) ?_
  refine lv_icmp_eq (tgt := 541) hx hb d_Law_law_536 (by decide) (fun _ => ?_) (fun q => absurd hf0 q)
  refine lv_iload hx hb d_Law_law_541 (lv_at hl 1 rfl) ?_
  refine lv_if_ne (tgt := 558) hx hb d_Law_law_543 (by decide) (fun _ => ?_) (fun h0 => ?_)
  · refine lv_goto (tgt := 617) hx hb d_Law_law_558 (by decide) ?_
    exact kk _ _ ls hS (lv_sub hl [2, 6] rfl)
  refine lv_aload_n hx hb d_Law_law_546 rfl (lv_at hl 3 rfl) ?_
  refine lv_iconst (v := 0) hx hb d_Law_law_547 (by decide) ?_
  refine va_lald hx hb hK hO 0 tJ rfl hJ (vp_in_nI (n := 0) (N := 1) (by decide) (by decide)) d_Law_law_548 ?_
  refine lv_iload hx hb d_Law_law_549 (lv_at hl 0 rfl) ?_
  refine lv_i2l (v := (rb).toInt64) hx hb d_Law_law_551 rfl ?_
  refine W.lcmp hx hb d_Law_law_552 ?_
  refine lv_as (v := 0) ?_ ?_
  · show lg_cmp (g2 (nI 0).toNatClampNeg) rb.toInt64 = 0
    rw [show (nI 0).toNatClampNeg = 0 by decide, hg2 h0, hag h0]
    simp [lg_cmp]
  refine lv_if_eq (tgt := 558) hx hb d_Law_law_553 (by decide) (fun _ => ?_) (fun q => absurd rfl q)
  refine lv_goto (tgt := 617) hx hb d_Law_law_558 (by decide) ?_
  exact kk _ _ ls hS (lv_sub hl [2, 6] rfl)
set_option maxHeartbeats 8000000 in
set_option maxRecDepth 100000 in
theorem law_global (hx : p.tables.exec = Jvm.exec) (hb : c.code = code) (hr : meth.sig.returnType = ret) (hml : c.maxLocals = 7) (hown : s.vm.findClass R_Law = some m.cls) (hgt : ∀ w ∈ lw_g, w.before #[Value.ref b] s = true) (hX : va_X b 3 xs s s.heap) (hbl : b < s.heap.size) (hlocks : meth.locks = false)
    (hK : va_K D cl tys s) (hc : cl[ci]? = some (RM, TM, 40)) (hI : tys[tI]? = some (cI, .int)) (hZ : tys[tZ]? = some (cZ, .boolean)) (hJ : tys[tJ]? = some (cJ, .long)) (hAm : ∀ q, Am q → s.heap.size ≤ q) (hAh : ∀ q, Ah q → s.heap.size ≤ q) (hdis : ∀ q, Am q → ¬ Ah q) (hCF : cOk CF xo) (k bb : Int32) (v : Int64) (hag : k = 0 → v = bb.toInt64) (fr lo mc ms : Nat) (hfr : fr + 1 ≤ 2048) (hlo : 8 + (4 + 11) + lo ≤ 84000)
    (hH : Met l y_Law_global (.codeWith y_Law_global b_Law_global 4 (some .int) [(0, 9, 12, 15), (0, 9, 15, 48)] :: lw_g) ({ frames := fr, cells := mc, slots := ms, locals := lo }) (va_Pc [.ref xo, .int (xs 1), .ref oa] (hPre s CF D cl tys tJ cJ Ah oa g)) (va_Qi (fun r g2 => r = k ∧ (k = 0 → g2 0 = v)) (hB D cl tys Ah cJ oa) Ah) mc ms Ah)
    (fm lm : Nat) (hfm : fm + 1 ≤ 2048) (hlm : 8 + (2 + 11) + lm ≤ 84000) (hMd : Met l yM_global (.code yM_global bM_global 2 (some .int) :: lw_g) ({ frames := fm, cells := 0, slots := 0, locals := lm }) (va_Pc (.ref o :: [.int (xs 1)]) (mdPre D cl tys Am ci tI tZ cI cZ o ad fi fa)) (va_Qi (fun r S => r = bb ∧ S.1 0 = k) (mdB D cl tys Am ci cI cZ o ad) Am) 0 0 Am)
    (hcf : ∀ U : State, U.heap = H → s.WarmedH U.vm → CF U) (hM : mdW D cl Am ci cI cZ o ad fi fa H) (hO : va_P D cl [(oa, .inl (cJ, 1, .inr (.inl g)))] H) (hOD : va_D Ah [(oa, .inl (cJ, 1, .inr (.inl g)))]) (hS : va_S (fun q : Nat => s.heap.size ≤ q) s.heap H locs) (hl : lv_has ls 7 [(4, .int 0), (3, .ref oa), (2, .ref o), (1, .ref xo), (0, .ref b)]) (hrc : cells + mc ≤ 600002) (hrs : slots + ms ≤ 7302231)
    (kk : ∀ (H : Heap) (locs : List Loc) (ls : Array Slot), va_S (fun q : Nat => s.heap.size ≤ q) s.heap H locs → lv_has ls 7 [(4, .int 0), (0, .ref b)] → W p l e room_1 s m #[Value.ref b] below meth c H locs (cells + mc) (slots + ms) Q (F0 m 617 ls [])) : W p l e room_1 s m #[Value.ref b] below meth c H locs cells slots Q (F0 m 561 ls []) := by
  have hbA : ¬ (fun q : Nat => s.heap.size ≤ q) b := Nat.not_le.mpr hbl
  refine lv_aload_n hx hb d_Law_law_561 rfl (lv_at hl 3 rfl) ?_
  refine lv_aload_n hx hb d_Law_law_562 rfl (lv_at hl 4 rfl) ?_
  refine lv_iload hx hb d_Law_law_563 (lv_at hl 0 rfl) ?_
  refine lv_iconst (v := 1) hx hb d_Law_law_565 (by decide) ?_
  refine lv_iadd hx hb d_Law_law_566 ?_
  refine lv_as (v := nI 1) (by decide) ?_
  refine va_sld hx hb hX hbl hbA hS (vp_in_nI (n := 1) (N := 3) (by decide) (by decide)) d_Law_law_567 ?_
  refine lv_as (v := xs 1) (by rw [show (nI 1).toNatClampNeg = 1 by decide]) ?_
  refine lv_aload_n hx hb d_Law_law_568 rfl (lv_at hl 1 rfl) ?_
  refine va_calli (x_runSW (As := [.ref xo, .int (xs 1), .ref oa]) (rest := []) (n := 3) hx hb hml hown hgt hH kc_Law_global k_Law_m93 ks_Law_global k_Law_ini rfl rfl ⟨by decide, by decide +kernel⟩ ⟨hfr, hlo⟩ (hPre.S hS hCF hcf hO hOD hK hJ) rfl hl.1 rfl (lv_room (Nat.le_of_ble_eq_true rfl)) d_Law_law_569 ⟨hrc, hrs⟩) hS (fun q _ h => hAh q h) (fun q h => hAh q h) (fun r g2 t H1 locs1 ht hvm hw hB1 hz hk hS => ?_)
  obtain ⟨rfl, hg2⟩ := hw
  obtain ⟨hO, hOD, -⟩ := hB1
  rw [ht] at hO
  have hM : mdW D cl Am ci cI cZ o ad fi fa H1 := ⟨hM.1.kept (fun k9 q9 h9 => hk q9.1 ((hM.1 k9 q9 h9).lt) (hdis _ (hM.2.2 k9 q9 h9))), hM.2⟩
  refine lv_istore (lv' := [(5, .int r), (4, .int 0), (3, .ref oa), (2, .ref o), (1, .ref xo), (0, .ref b)]) hx hb d_Law_law_572 hl (by decide) rfl (fun ls hl => ?_)
  refine lv_aload_n hx hb d_Law_law_574 rfl (lv_at hl 3 rfl) ?_
  refine lv_aload_n hx hb d_Law_law_575 rfl (lv_at hl 5 rfl) ?_
  refine lv_iload hx hb d_Law_law_576 (lv_at hl 1 rfl) ?_
  refine lv_iconst (v := 1) hx hb d_Law_law_578 (by decide) ?_
  refine lv_iadd hx hb d_Law_law_579 ?_
  refine lv_as (v := nI 1) (by decide) ?_
  refine va_sld hx hb hX hbl hbA hS (vp_in_nI (n := 1) (N := 3) (by decide) (by decide)) d_Law_law_580 ?_
  refine lv_as (v := xs 1) (by rw [show (nI 1).toNatClampNeg = 1 by decide]) ?_
  refine va_calli (M_runL (As := [.int (xs 1)]) (rest := []) (n := 1) hx hb hml hgt hown hK hc hI hZ hM hMd kM_c_global k_Law_m95 kM_i_global kM_s_global rfl rfl ⟨rfl, by decide +kernel⟩ ⟨hfm, hlm⟩ rfl hl.1 rfl (lv_room (Nat.le_of_ble_eq_true rfl)) d_Law_law_581 ⟨hrc, hrs⟩) hS (fun q _ h => hAm q h) (fun q h => hAm q h) (fun rb S t2 H2 locs2 ht2 hvm2 hw2 hB2 hz2 hk2 hS => ?_)
  obtain ⟨rfl, hf0⟩ := hw2
  obtain ⟨hM, -⟩ := hB2
  rw [ht2] at hM
  have hO : va_P D cl [(oa, .inl (cJ, 1, .inr (.inl g2)))] H2 := hO.kept (fun k9 q9 h9 => hk2 q9.1 ((hO k9 q9 h9).lt) (fun z => hdis _ z (hOD.2 k9 q9 h9)))
  refine lv_istore (lv' := [(6, .int rb), (5, .int r), (4, .int 0), (3, .ref oa), (2, .ref o), (1, .ref xo), (0, .ref b)]) hx hb d_Law_law_584 hl (by decide) rfl (fun ls hl => ?_)
  refine lv_aload_n hx hb d_Law_law_586 rfl (lv_at hl 4 rfl) ?_
  refine va_calli (M_runL (As := []) (rest := []) (n := 0) hx hb hml hgt hown hK hc hI hZ hM (c_thrown l D cl tys Am ci tI tZ cI cZ o ad _ _) kM_c_thrown k_Law_m62 kM_i_thrown kM_s_thrown rfl rfl ⟨rfl, by decide +kernel⟩ ⟨Nat.le_of_ble_eq_true rfl, Nat.le_of_ble_eq_true rfl⟩ rfl hl.1 rfl (lv_room (Nat.le_of_ble_eq_true rfl)) d_Law_law_587 ⟨hrc, hrs⟩) hS (fun q _ h => hAm q h) (fun q h => hAm q h) (fun r3 S3 t3 H3 locs3 ht3 hvm3 hw3 hB3 hz3 hk3 hS => ?_)
  obtain ⟨rfl, rfl⟩ := hw3
  have hO : va_P D cl [(oa, .inl (cJ, 1, .inr (.inl g2)))] H3 := hO.kept (fun k9 q9 h9 => hk3 q9.1 ((hO k9 q9 h9).lt) (fun z => hdis _ z (hOD.2 k9 q9 h9)))
  refine lv_iload hx hb d_Law_law_590 (lv_at hl 1 rfl) ?_
  refine lv_icmp_eq (tgt := 597) hx hb d_Law_law_592 (by decide) (fun _ => ?_) (fun q => absurd hf0 q)
  refine lv_iload hx hb d_Law_law_597 (lv_at hl 1 rfl) ?_
  refine lv_if_ne (tgt := 614) hx hb d_Law_law_599 (by decide) (fun _ => ?_) (fun h0 => ?_)
  · refine lv_goto (tgt := 617) hx hb d_Law_law_614 (by decide) ?_
    exact kk _ _ ls hS (lv_sub hl [2, 6] rfl)
  refine lv_aload_n hx hb d_Law_law_602 rfl (lv_at hl 3 rfl) ?_
  refine lv_iconst (v := 0) hx hb d_Law_law_603 (by decide) ?_
  refine va_lald hx hb hK hO 0 tJ rfl hJ (vp_in_nI (n := 0) (N := 1) (by decide) (by decide)) d_Law_law_604 ?_
  refine lv_iload hx hb d_Law_law_605 (lv_at hl 0 rfl) ?_
  refine lv_i2l (v := (rb).toInt64) hx hb d_Law_law_607 rfl ?_
  refine W.lcmp hx hb d_Law_law_608 ?_
  refine lv_as (v := 0) ?_ ?_
  · show lg_cmp (g2 (nI 0).toNatClampNeg) rb.toInt64 = 0
    rw [show (nI 0).toNatClampNeg = 0 by decide, hg2 h0, hag h0]
    simp [lg_cmp]
  refine lv_if_eq (tgt := 614) hx hb d_Law_law_609 (by decide) (fun _ => ?_) (fun q => absurd rfl q)
  refine lv_goto (tgt := 617) hx hb d_Law_law_614 (by decide) ?_
  exact kk _ _ ls hS (lv_sub hl [2, 6] rfl)
end LAWC
