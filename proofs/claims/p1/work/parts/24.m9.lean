section XTX
variable {p : Program} {l : Launch} {e : Env} {R : Room} {s : State} {m : MethodId} {args : Array Value} {below : List Frame} {meth : Method} {c : Code} {H : Heap} {locs : List Loc} {cells slots : Nat} {cc : ByteArray} {pc : Nat} {ls : Array Slot} {Q : State → Prop}
theorem x_throwX {rest : List Value} {XC : State → State → Prop} {free : Addr → Prop} (hexec : p.tables.exec = Jvm.exec) (hb : c.code = cc) (hl : l.stackTraces = false) {own cls text Y : String} {r : List String} {ik is ic ix mc ms sa : Nat} {rx : ByteArray} (x0 : decode rx 0 = .ok (.aload_n 0, 1)) (x1 : decode rx 1 = .ok (.aload_n 1, 1)) (x2 : decode rx 2 = .ok (.invokespecial ix, 3)) (x5 : decode rx 5 = .ok (.return_, 1))
    (hown : s.vm.findClass own = some m.cls) (hcls : Bundle.fit cls = true) (hY : Bundle.fit Y = true) (hnames : ∀ n ∈ r, Bundle.fit n = true)
    (hk : (Cond.classLink own ik cls).before args s = true) (hini : (Cond.initialized cls).before args s = true) (hstr : vk_R own is text sa s)
    (hat : ∀ s' : State, s'.vm = s.vm → s'.heap = H → ∀ w ∈ ownX own ic cls Y ix rx r, w.before args s' = true) (hsize : ls.size = c.maxLocals)
    (d0 : decode cc pc = .ok (.new ik, 3)) (d3 : decode cc (pc + 3) = .ok (.dup, 1)) (d4 : decode cc (pc + 4) = .ok (.ldc is, 2)) (d6 : decode cc (pc + 6) = .ok (.invokespecial ic, 3)) (d9 : decode cc (pc + 9) = .ok (.athrow, 1))
    (hout : ∀ x ∈ c.exceptionTable.toList, covers x (pc + 9) = false)
    (hRframes : r.length + 4 < R.frames) (hRlocals : (rest.map fun v => v.category).sum + (13 * (r.length + 2) + 43) ≤ R.locals) (hRcells : cells + 1 ≤ R.cells) (hRslots : slots + 6 ≤ R.slots) (hlocks : meth.locks = false)
    (hx : ∀ t : State, s.vm.Alike t.vm → H.size ≤ t.heap.size → (∀ q : Nat, q < H.size → t.heap[q]? = H[q]?) → XC s t)
    (hf : ∀ z ∈ locs, free z.base) (hc : cells + 1 ≤ mc) (hs : slots + 6 ≤ ms) :
    W p l e R s m args below meth c H locs cells slots (xMQ below cls XC args s mc ms free) (F0 m pc ls rest) := by
  intro T hT X
  have htr : e.platform.stackTraces = false := (show e.platform.stackTraces = l.stackTraces by rw [X.admits.platform]).trans hl
  have Yx := x_here X (R' := { frames := R.frames, locals := R.locals, cells := 1, slots := 6 }) (Nat.le_refl _) (Nat.le_refl _) hRcells hRslots
  obtain ⟨s', hA⟩ : ∃ z, z = (T.setVm s.vm).setFrames (.invoking m args :: below) := ⟨_, rfl⟩
  rw [← hA] at Yx
  have hvm : s'.vm = s.vm := by rw [hA]; rfl
  have hhp : s'.heap = H := by rw [hA]; exact hT
  have hW0 : s.WarmedH s'.vm := by rw [hvm]; exact State.WarmedH.refl s
  have hk' : (Cond.classLink own ik cls).before args s' = true := va_tabs rfl hvm.symm hk
  have hini' : (Cond.initialized cls).before args s' = true := va_tabs rfl hvm.symm hini
  have h := hat s' hvm hhp
  have hown' : s'.vm.findClass own = some m.cls := by rw [hvm]; exact hown
  have hins : (Cond.instantiable cls 6).before args s' = true := h _ (by simp [ownX])
  obtain ⟨vm₁, cX, kX, hfX, hkX, -, -, X₁, st1⟩ := Yx.newCold hexec (own := own) (C := cls) (index := ik) (n := 6) hown' hk' hins hini'
    (g := F0 m pc ls rest) rfl (by rw [hb]; exact d0) (Nat.le_refl _) (Nat.le_refl _)
  generalize hT1 : (T.setVm vm₁).pushCell { cls := cX, slots := kX.instanceTypes.map defaultValue, vm := .none } = T1 at X₁ st1
  have hcat : (Value.ref T.heap.size).category = 1 := rfl
  have hcellA : T1.heap[T.heap.size]? = some (freshCell cX kX) := by rw [← hT1]; exact State.heap_pushCell_size _ _
  have d3' : decode c.code (pc + 3) = .ok (.dup, 1) := by rw [hb]; exact d3
  have d4' : decode c.code (pc + 4) = .ok (.ldc is, 2) := by rw [hb]; exact d4
  have hstr' : vk_R own is text sa s' := vk_R.warm hW0 hstr
  obtain ⟨U, hsteps, hrun, hend, hW, hsame, ce, hce, hcv, hcl0⟩ := x_ctorX X₁ hexec htr (own := own) (cls := cls) (ic := ic) x0 x1 x2 x5 hown' hcls hY hnames h (fun x hx => nomatch hx) hfX hkX hcellA (by rw [hhp, hT]; exact Nat.le_refl _) (msg := .ref sa) rfl
    (g := { method := m, pc := pc + 6, locals := ls, stack := .ref sa :: .ref T.heap.size :: .ref T.heap.size :: rest, locked := none }) rfl hsize rfl rfl (rest := rest) rfl
    (by rw [hb]; exact d6) (by rw [hb]; exact d9) hout hRframes (by simp only [List.map_cons, List.sum_cons, hcat]; omega) hlocks
  obtain ⟨f1, f2⟩ := x_old hsame
  rw [hhp] at f1 f2
  have hWs : s.WarmedH U.vm := State.WarmedH.trans hW0 hW
  have hcl : s.vm.findClass cls = some ce.cls := by
    rw [hvm] at hcl0
    exact hcl0
  have hall : s.sameButNew ({ U with vm := s.vm } : State) locs mc ms := by
    subst hA
    obtain ⟨e1, e2⟩ := hsame
    rw [State.setFrames_setFrames] at e1
    have h2 : (T.setVm s.vm).sameButNew ({ U with vm := s.vm } : State) [] (0 + 1) (0 + 6) := ⟨e1, e2⟩
    have h3 := X.same.trans h2
    rw [List.append_nil] at h3
    exact h3.mono hc hs
  refine ⟨U, ?_, .threw T.heap.size, hrun, hend, T.heap.size, ce, locs, rfl, hx U hWs.alike f1 f2, hce, hcv, hcl, hWs, hall, hf⟩
  refine st1 _ ?_
  show Steps p.tables e below (T1.setTop { method := m, pc := pc + 3, locals := ls, stack := .ref T.heap.size :: rest, locked := none }) _
  jvm_step X₁.here [X₁.here.top, hexec, d3', Value.category]
  exact X₁.ldcString hexec (own := own) (text := text) (index := is) (a := sa) hown' hstr'.1 hstr'.2
    (g := { method := m, pc := pc + 4, locals := ls, stack := .ref T.heap.size :: .ref T.heap.size :: rest, locked := none }) rfl d4' _ hsteps
end XTX
theorem x_empty {c : Code} (h : c.exceptionTable.isEmpty = true) (pc : Nat) : ∀ x ∈ c.exceptionTable.toList, covers x pc = false := fun x hx => by
  have h1 : c.exceptionTable = #[] := Array.isEmpty_iff.mp h
  rw [h1] at hx
  cases hx
section CTHR
variable {p : Program} {l : Launch} {e : Env} {R : Room} {s : State} {m : MethodId} {args : Array Value} {below : List Frame} {meth : Method} {c : Code} {H : Heap} {locs : List Loc} {cells slots : Nat} {cc : ByteArray} {pc : Nat} {ls : Array Slot} {s0 : State} {a0 : Array Value} {B : Nat → Prop}
theorem C_ISE (hx : p.tables.exec = Jvm.exec) (hb : c.code = cc) (G : G0 l a0 s0) (hgt : ∀ w ∈ lw_g, w.before args s = true) (hown : s.vm.findClass R_C = some m.cls) (hxB : xB s0 s) (hBs : ∀ q, B q → s0.heap.size ≤ q) (hS : va_S B s.heap H locs) {is : Nat} {text : String} (hq : (is, text) ∈ strs) (hsize : ls.size = c.maxLocals) (ht0 : c.exceptionTable.isEmpty = true)
    (d0 : decode cc pc = .ok (.new 38, 3)) (d3 : decode cc (pc + 3) = .ok (.dup, 1)) (d4 : decode cc (pc + 4) = .ok (.ldc is, 2)) (d6 : decode cc (pc + 6) = .ok (.invokespecial 42, 3)) (d9 : decode cc (pc + 9) = .ok (.athrow, 1)) (hlocks : meth.locks = false) (hRf : 6 ≤ R.frames ∧ 100 ≤ R.locals) (hRc : cells + 1 ≤ R.cells ∧ slots + 6 ≤ R.slots) (hc : cells + 1 ≤ 8 ∧ slots + 6 ≤ 256) :
    W p l e R s m args below meth c H locs cells slots (xMQ below "java/lang/IllegalStateException" (fun st t => va_F B st t) args s 8 256 B) (F0 m pc ls []) := by
  obtain ⟨sa, hsa⟩ := G.2.2.2.2 _ hq
  refine x_throwS hx hb G.1 (names := n2) hown (by decide +kernel) (by decide +kernel) (hgt _ k_C_c38) (hgt _ k_C_iISE) (vk_R.warm hxB.1 hsa) (fun s' h1 h2 => G.own lISE_l lISE_k (xB.later (U := s') hxB hBs (by rw [h2]; exact hS) (by rw [h1]; exact State.WarmedH.refl s))) hsize d0 d3 d4 d6 d9 (x_empty ht0 _) (by show 5 < R.frames; omega) (by show 82 ≤ R.locals; omega) hRc.1 hRc.2 hlocks (fun t _ h2 h3 => ⟨Nat.le_trans hS.1 h2, fun q h4 h5 => (h3 q (Nat.lt_of_lt_of_le h4 hS.1)).trans (hS.2.1 q h4 h5)⟩) hS.2.2 hc.1 hc.2
theorem C_IAE (hx : p.tables.exec = Jvm.exec) (hb : c.code = cc) (G : G0 l a0 s0) (hgt : ∀ w ∈ lw_g, w.before args s = true) (hown : s.vm.findClass R_C = some m.cls) (hxB : xB s0 s) (hBs : ∀ q, B q → s0.heap.size ≤ q) (hS : va_S B s.heap H locs) {is : Nat} {text : String} (hq : (is, text) ∈ strs) (hsize : ls.size = c.maxLocals) (ht0 : c.exceptionTable.isEmpty = true)
    (d0 : decode cc pc = .ok (.new 49, 3)) (d3 : decode cc (pc + 3) = .ok (.dup, 1)) (d4 : decode cc (pc + 4) = .ok (.ldc is, 2)) (d6 : decode cc (pc + 6) = .ok (.invokespecial 53, 3)) (d9 : decode cc (pc + 9) = .ok (.athrow, 1)) (hlocks : meth.locks = false) (hRf : 6 ≤ R.frames ∧ 100 ≤ R.locals) (hRc : cells + 1 ≤ R.cells ∧ slots + 6 ≤ R.slots) (hc : cells + 1 ≤ 8 ∧ slots + 6 ≤ 256) :
    W p l e R s m args below meth c H locs cells slots (xMQ below "java/lang/IllegalArgumentException" (fun st t => va_F B st t) args s 8 256 B) (F0 m pc ls []) := by
  obtain ⟨sa, hsa⟩ := G.2.2.2.2 _ hq
  refine x_throwS hx hb G.1 (names := n2) hown (by decide +kernel) (by decide +kernel) (hgt _ k_C_c49) (hgt _ k_C_iIAE) (vk_R.warm hxB.1 hsa) (fun s' h1 h2 => G.own lIAE_l lIAE_k (xB.later (U := s') hxB hBs (by rw [h2]; exact hS) (by rw [h1]; exact State.WarmedH.refl s))) hsize d0 d3 d4 d6 d9 (x_empty ht0 _) (by show 5 < R.frames; omega) (by show 82 ≤ R.locals; omega) hRc.1 hRc.2 hlocks (fun t _ h2 h3 => ⟨Nat.le_trans hS.1 h2, fun q h4 h5 => (h3 q (Nat.lt_of_lt_of_le h4 hS.1)).trans (hS.2.1 q h4 h5)⟩) hS.2.2 hc.1 hc.2
theorem C_NSE (hx : p.tables.exec = Jvm.exec) (hb : c.code = cc) (G : G0 l a0 s0) (hgt : ∀ w ∈ lw_g, w.before args s = true) (hown : s.vm.findClass R_C = some m.cls) (hxB : xB s0 s) (hBs : ∀ q, B q → s0.heap.size ≤ q) (hS : va_S B s.heap H locs) {is : Nat} {text : String} (hq : (is, text) ∈ strs) (hsize : ls.size = c.maxLocals) (ht0 : c.exceptionTable.isEmpty = true)
    (d0 : decode cc pc = .ok (.new 152, 3)) (d3 : decode cc (pc + 3) = .ok (.dup, 1)) (d4 : decode cc (pc + 4) = .ok (.ldc is, 2)) (d6 : decode cc (pc + 6) = .ok (.invokespecial 156, 3)) (d9 : decode cc (pc + 9) = .ok (.athrow, 1)) (hlocks : meth.locks = false) (hRf : 6 ≤ R.frames ∧ 100 ≤ R.locals) (hRc : cells + 1 ≤ R.cells ∧ slots + 6 ≤ R.slots) (hc : cells + 1 ≤ 8 ∧ slots + 6 ≤ 256) :
    W p l e R s m args below meth c H locs cells slots (xMQ below "java/util/NoSuchElementException" (fun st t => va_F B st t) args s 8 256 B) (F0 m pc ls []) := by
  obtain ⟨sa, hsa⟩ := G.2.2.2.2 _ hq
  refine x_throwX hx hb G.1 (rx := rNSE) (ix := 13) (by decide +kernel) (by decide +kernel) (by decide +kernel) (by decide +kernel) (Y := "java/lang/RuntimeException") (r := ["java/lang/Exception"]) hown (by decide +kernel) (by decide +kernel) (by decide +kernel) (hgt _ k_C_c152) (hgt _ k_C_iNSE) (vk_R.warm hxB.1 hsa) (fun s' h1 h2 => G.own lNSE_l lNSE_k (xB.later (U := s') hxB hBs (by rw [h2]; exact hS) (by rw [h1]; exact State.WarmedH.refl s))) hsize d0 d3 d4 d6 d9 (x_empty ht0 _) (by show 5 < R.frames; omega) (by show 82 ≤ R.locals; omega) hRc.1 hRc.2 hlocks (fun t _ h2 h3 => ⟨Nat.le_trans hS.1 h2, fun q h4 h5 => (h3 q (Nat.lt_of_lt_of_le h4 hS.1)).trans (hS.2.1 q h4 h5)⟩) hS.2.2 hc.1 hc.2
end CTHR
/-- a fresh object -/
abbrev pl0 : List Value := [.int 32, .int 0, .null, .null, .null]
def FrF (T : Nat → ClassId) (h : Nat → Option va_E) (xo sr mc gv gl : Nat) (ad : Nat → Nat → Nat) (xf nf : Nat → Nat → Int32) (fo : Nat → Option Nat) (mf : List Value) (gf lf : Nat → Option Nat) : Prop :=
  (h xo = some (.inr (1, [.ref sr, .ref (ad 0 0), .ref mc, .ref gv, .int 0, .int 0])) ∧ h sr = some (.inl (T 3, 128, .inl (fun _ => 0))) ∧ RdW T h ad (fun _ => 0) xf nf fo) ∧
  (h mc = some (.inr (4, mf)) ∧ mf[0]? = some (.ref gl) ∧ mf[7]? = some (.int 0) ∧ mf[8]? = some (.int 0) ∧ mf[9]? = some (.int 0) ∧ mf[10]? = some (.int 0) ∧ mf[11]? = some (.int 0)) ∧
  (h gl = some (.inl (T 6, 26, vQ lf)) ∧ ∀ i, i < 26 → ∃ b q x y, lf i = some b ∧ h b = some (.inr (5, [.ref q, x, y])) ∧ h q = some (.inr (6, pl0))) ∧
  (h gv = some (.inl (T 7, 26, vQ gf)) ∧ ∀ i, i < 26 → ∃ q, gf i = some q ∧ h q = some (.inr (6, pl0)))
def CFrD (s0 : State) (D : va_G) (T : Nat → ClassId) (xo : Nat) (B : Nat → Prop) (U : State) : Prop := (∀ q, B q → s0.heap.size ≤ q) ∧ va_K D classes (tyl T) U ∧ ∃ h, gw D classes B h U.heap ∧ ∃ sr mc gv gl ad xf nf fo mf gf lf, FrF T h xo sr mc gv gl ad xf nf fo mf gf lf
theorem cf1 (s0 : State) (D : va_G) (T : Nat → ClassId) (xo : Nat) (B : Nat → Prop) : cOk (fun U => CFrD s0 D T xo B U ∧ ∀ q, U.heap.size ≤ q → B q) xo := by
  refine ⟨fun U U2 hh hW h => ?_, fun U h => ?_⟩
  · obtain ⟨⟨h1, h2, h3⟩, h4⟩ := h
    exact ⟨⟨h1, va_K.moved hW.alike h2, by rw [hh]; exact h3⟩, by rw [hh]; exact h4⟩
  · obtain ⟨⟨-, h2, h, hg, sr, mc, gv, gl, ad, xf, nf, fo, mf, gf, lf, hF⟩, -⟩ := h
    exact va_recv h2 (hg.one hF.1.1) (q0 := 0) (q := (R_C, T_C, 6)) rfl rfl
theorem cf2 (s0 : State) (D : va_G) (T : Nat → ClassId) (xo : Nat) (B : Nat → Prop) (U V : State) (h : CFrD s0 D T xo B U) (hk : ∀ q, B q → q < U.heap.size → V.heap[q]? = U.heap[q]?) (hA : U.vm.Alike V.vm) (_hz : U.heap.size ≤ V.heap.size) : CFrD s0 D T xo B V := by
  obtain ⟨h1, h2, h, hg, hF⟩ := h
  exact ⟨h1, va_K.moved hA h2, h, fun a e he => ⟨(hg a e he).1, (hg a e he).2.kept (hk a (hg a e he).1 (hg.lt he))⟩, hF⟩
theorem cf3 (s0 : State) (D : va_G) (T : Nat → ClassId) (xo : Nat) (B B2 : Nat → Prop) (U : State) (h : CFrD s0 D T xo B U) (hB : ∀ q, B q → q < U.heap.size → B2 q) (hB2 : ∀ q, B2 q → s0.heap.size ≤ q) : CFrD s0 D T xo B2 U := by
  obtain ⟨h1, h2, h, hg, hF⟩ := h
  exact ⟨hB2, h2, h, fun a e he => ⟨hB a (hg a e he).1 (hg.lt he), (hg a e he).2⟩, hF⟩
theorem i_lel {k a b : Int32} (h : b.toInt = a.toInt + 1) : k ≤ a ↔ k < b := by
  rw [Int32.le_iff_toInt_le, Int32.lt_iff_toInt_lt]; omega
theorem i_gel {k a b : Int32} (h : b.toInt = a.toInt + 1) : ¬ b ≤ k ↔ k ≤ a := by
  rw [Int32.not_le]; exact (i_lel h).symm
set_option maxHeartbeats 4000000 in
set_option maxRecDepth 100000 in
theorem f_C_whole (l : Launch) (a0 : Array Value) (s0 : State) (G : G0 l a0 s0) (D : va_G) (T : Nat → ClassId) (xo : Nat) (B : Nat → Prop) : Met l y_C_whole (.code y_C_whole b_C_whole 1 (some .int) :: lw_g) ({ frames := 60, cells := 8, slots := 256, locals := 3000 }) (va_Pc (.ref xo :: []) (cPre s0 (fun U => CFrD s0 D T xo B U ∧ ∀ q, U.heap.size ≤ q → B q))) (va_Qi (fun r (_ : Unit) => r = 0) (fun _ _ => True) B) 8 256 B := by
  refine Met.ofW (cc := b_C_whole) (maxL := 1) (ret := (some .int)) (by decide) rfl ?_
  intro p e s m args below meth c s₁ B9 hml hv
  obtain ⟨rfl, hxB, ⟨hBs, hK, h, hg, sr, mc, gv, gl, ad, xf, nf, fo, mf, gf, lf, ⟨hxo, hsr, hRd⟩, ⟨hmc, hm0, hm7, hm8, hm9, hm10, hm11⟩, ⟨hgl, hlf⟩, ⟨hgv, hgf⟩⟩, hge⟩ := hv
  have hx := B9.exec
  have hb := B9.bytes
  have hr := B9.returns
  have hlocks := B9.notSynchronized
  have hts := atoms_spec (ws := (.code y_C_whole b_C_whole 1 (some .int) :: lw_g)) B9.pre
  have hgt : ∀ w ∈ lw_g, w.before _ s = true := fun w h => hts w (List.mem_cons_of_mem _ h)
  have hown : s.vm.findClass R_C = some m.cls := findClass_of_methodNamed B9.named
  have K : cK D T R_C s m _ := ⟨hgt, hown, hK⟩
  have ht0 : c.exceptionTable.isEmpty = true := by
    obtain ⟨meth9, c9, hm, hc, -, -, -, -, ht, -⟩ := Cond.code_spec B9.named (hts _ List.mem_cons_self)
    cases B9.method.symm.trans hm
    cases (Stand.of_body B9).code.symm.trans hc
    exact ht
  have hS : va_S B s.heap s.heap [] := va_S.rf
  have hl := lv_entry ([.ref xo]) (n := 1) (Nat.le_of_ble_eq_true rfl)
  rw [lg_entry_eq]
  generalize (lg_sl ([.ref xo]) ++ List.replicate (1 - (lg_sl ([.ref xo])).length) Slot.unset).toArray = ls at hl ⊢
  have hl : lv_has ls 1 [(0, .ref xo)] := hl
  refine lv_aload_n hx hb d_C_whole_0 rfl (lv_at hl 0 rfl) ?_
  refine g_get hx hb hgt in_C hown hK hg hxo rfl 1 (by decide) (hgt _ k_C_f16) (fun _ h9 => h9) (v := .ref (ad 0 0)) rfl d_C_whole_1 ?_
  have hM : RW D T B h ad (fun _ => 0) xf nf fo s.heap := ⟨h, hg, hRd, keep.rf h⟩
  refine va_calli (R_run (As := []) (rest := []) (n := 0) hx hb hml K hM hxB hBs hS (fun _ q => q.1) (C := R_Reader) (ci := 2) rfl (e_Reader_isWhole l s0 D T B hBs h ad (fun _ => 0) xf nf fo rfl) kc_Reader_isWhole k_C_m63 ki_Reader_isWhole ke_Reader_isWhole k_Reader_ini rfl rfl (by decide +kernel) ⟨Nat.le_of_ble_eq_true rfl, Nat.le_of_ble_eq_true rfl⟩ rfl hl.1 rfl (lv_room (Nat.le_of_ble_eq_true rfl)) d_C_whole_4 ⟨Nat.le_of_ble_eq_true rfl, Nat.le_of_ble_eq_true rfl⟩) hS (fun q _ h => h) (fun q h => h) (fun r S t H1 locs1 ht hvm hw hB hz hk9 hS => ?_)
  obtain ⟨rfl, rfl⟩ := hw
  refine lv_if_eq (tgt := 14) hx hb d_C_whole_7 (by decide) (fun c_7 => ?_) (fun c_7 => absurd rfl c_7)
  refine lv_iconst (v := 0) hx hb d_C_whole_14 (by decide) ?_
  refine W.widen (k := 8) (n := 256) (Nat.le_of_ble_eq_true rfl) (Nat.le_of_ble_eq_true rfl) ?_
  exact W.iret (v := (0)) hx hb hr (fun t ht _ => ⟨⟨_, (), rfl, rfl, trivial⟩, hS.F ht⟩) hS.2.2 d_C_whole_15
set_option maxHeartbeats 4000000 in
set_option maxRecDepth 100000 in
theorem f_C_start (l : Launch) (a0 : Array Value) (s0 : State) (G : G0 l a0 s0) (D : va_G) (T : Nat → ClassId) (xo : Nat) (B : Nat → Prop) : Thr l y_C_start (.code y_C_start b_C_start 1 (some .int) :: lw_g) ({ frames := 60, cells := 8, slots := 256, locals := 3000 }) (va_Pc (.ref xo :: []) (cPre s0 (fun U => CFrD s0 D T xo B U ∧ ∀ q, U.heap.size ≤ q → B q))) "java/lang/IllegalStateException" (fun st t => va_F B st t) 8 256 B := by
  refine Thr.ofW (cc := b_C_start) (maxL := 1) (ret := (some .int)) (by decide) rfl ?_
  intro p e s m args below meth c s₁ B9 hml hv
  obtain ⟨rfl, hxB, ⟨hBs, hK, h, hg, sr, mc, gv, gl, ad, xf, nf, fo, mf, gf, lf, ⟨hxo, hsr, hRd⟩, ⟨hmc, hm0, hm7, hm8, hm9, hm10, hm11⟩, ⟨hgl, hlf⟩, ⟨hgv, hgf⟩⟩, hge⟩ := hv
  have hx := B9.exec
  have hb := B9.bytes
  have hr := B9.returns
  have hlocks := B9.notSynchronized
  have hts := atoms_spec (ws := (.code y_C_start b_C_start 1 (some .int) :: lw_g)) B9.pre
  have hgt : ∀ w ∈ lw_g, w.before _ s = true := fun w h => hts w (List.mem_cons_of_mem _ h)
  have hown : s.vm.findClass R_C = some m.cls := findClass_of_methodNamed B9.named
  have K : cK D T R_C s m _ := ⟨hgt, hown, hK⟩
  have ht0 : c.exceptionTable.isEmpty = true := by
    obtain ⟨meth9, c9, hm, hc, -, -, -, -, ht, -⟩ := Cond.code_spec B9.named (hts _ List.mem_cons_self)
    cases B9.method.symm.trans hm
    cases (Stand.of_body B9).code.symm.trans hc
    exact ht
  have hS : va_S B s.heap s.heap [] := va_S.rf
  have hl := lv_entry ([.ref xo]) (n := 1) (Nat.le_of_ble_eq_true rfl)
  rw [lg_entry_eq]
  generalize (lg_sl ([.ref xo]) ++ List.replicate (1 - (lg_sl ([.ref xo])).length) Slot.unset).toArray = ls at hl ⊢
  have hl : lv_has ls 1 [(0, .ref xo)] := hl
  refine lv_aload_n hx hb d_C_start_0 rfl (lv_at hl 0 rfl) ?_
  refine g_get hx hb hgt in_C hown hK hg hxo rfl 2 (by decide) (hgt _ k_C_f23) (fun _ h9 => h9) (v := .ref mc) rfl d_C_start_1 ?_
  refine g_get hx hb hgt in_Machine hown hK hg hmc rfl 7 (by decide) (hgt _ k_C_f34) (fun _ h9 => h9) (v := .int (0)) hm7 d_C_start_4 ?_
  refine lv_iconst (v := 1) hx hb d_C_start_7 (by decide) ?_
  refine lv_icmp_ne (tgt := 21) hx hb d_C_start_8 (by decide) (fun c_8 => ?_) (fun c_8 => absurd c_8 (by decide))
  refine lv_aload_n hx hb d_C_start_21 rfl (lv_at hl 0 rfl) ?_
  refine g_get hx hb hgt in_C hown hK hg hxo rfl 1 (by decide) (hgt _ k_C_f16) (fun _ h9 => h9) (v := .ref (ad 0 0)) rfl d_C_start_22 ?_
  have hM : RW D T B h ad (fun _ => 0) xf nf fo s.heap := ⟨h, hg, hRd, keep.rf h⟩
  refine va_calli (R_run (As := []) (rest := []) (n := 0) hx hb hml K hM hxB hBs hS (fun _ q => q.1) (C := R_Reader) (ci := 2) rfl (e_Reader_isWhole l s0 D T B hBs h ad (fun _ => 0) xf nf fo rfl) kc_Reader_isWhole k_C_m63 ki_Reader_isWhole ke_Reader_isWhole k_Reader_ini rfl rfl (by decide +kernel) ⟨Nat.le_of_ble_eq_true rfl, Nat.le_of_ble_eq_true rfl⟩ rfl hl.1 rfl (lv_room (Nat.le_of_ble_eq_true rfl)) d_C_start_25 ⟨Nat.le_of_ble_eq_true rfl, Nat.le_of_ble_eq_true rfl⟩) hS (fun q _ h => h) (fun q h => h) (fun r S t H1 locs1 ht hvm hw hB hz hk9 hS => ?_)
  obtain ⟨rfl, rfl⟩ := hw
  refine lv_if_ne (tgt := 41) hx hb d_C_start_28 (by decide) (fun c_28 => absurd rfl c_28) (fun c_28 => ?_)
  exact C_ISE hx hb G hgt hown hxB hBs hS (is := 84) (text := "the text is not whole") (by decide) (hl.1.trans hml.symm) ht0 d_C_start_31 d_C_start_34 d_C_start_35 d_C_start_37 d_C_start_40 hlocks ⟨Nat.le_of_ble_eq_true rfl, Nat.le_of_ble_eq_true rfl⟩ ⟨Nat.le_of_ble_eq_true rfl, Nat.le_of_ble_eq_true rfl⟩ ⟨Nat.le_of_ble_eq_true rfl, Nat.le_of_ble_eq_true rfl⟩
set_option maxHeartbeats 4000000 in
set_option maxRecDepth 100000 in
theorem f_C_stop (l : Launch) (a0 : Array Value) (s0 : State) (G : G0 l a0 s0) (D : va_G) (T : Nat → ClassId) (xo : Nat) (B : Nat → Prop) : Thr l y_C_stop (.code y_C_stop b_C_stop 1 (some .int) :: lw_g) ({ frames := 60, cells := 8, slots := 256, locals := 3000 }) (va_Pc (.ref xo :: []) (cPre s0 (fun U => CFrD s0 D T xo B U ∧ ∀ q, U.heap.size ≤ q → B q))) "java/lang/IllegalStateException" (fun st t => va_F B st t) 8 256 B := by
  refine Thr.ofW (cc := b_C_stop) (maxL := 1) (ret := (some .int)) (by decide) rfl ?_
  intro p e s m args below meth c s₁ B9 hml hv
  obtain ⟨rfl, hxB, ⟨hBs, hK, h, hg, sr, mc, gv, gl, ad, xf, nf, fo, mf, gf, lf, ⟨hxo, hsr, hRd⟩, ⟨hmc, hm0, hm7, hm8, hm9, hm10, hm11⟩, ⟨hgl, hlf⟩, ⟨hgv, hgf⟩⟩, hge⟩ := hv
  have hx := B9.exec
  have hb := B9.bytes
  have hr := B9.returns
  have hlocks := B9.notSynchronized
  have hts := atoms_spec (ws := (.code y_C_stop b_C_stop 1 (some .int) :: lw_g)) B9.pre
  have hgt : ∀ w ∈ lw_g, w.before _ s = true := fun w h => hts w (List.mem_cons_of_mem _ h)
  have hown : s.vm.findClass R_C = some m.cls := findClass_of_methodNamed B9.named
  have K : cK D T R_C s m _ := ⟨hgt, hown, hK⟩
  have ht0 : c.exceptionTable.isEmpty = true := by
    obtain ⟨meth9, c9, hm, hc, -, -, -, -, ht, -⟩ := Cond.code_spec B9.named (hts _ List.mem_cons_self)
    cases B9.method.symm.trans hm
    cases (Stand.of_body B9).code.symm.trans hc
    exact ht
  have hS : va_S B s.heap s.heap [] := va_S.rf
  have hl := lv_entry ([.ref xo]) (n := 1) (Nat.le_of_ble_eq_true rfl)
  rw [lg_entry_eq]
  generalize (lg_sl ([.ref xo]) ++ List.replicate (1 - (lg_sl ([.ref xo])).length) Slot.unset).toArray = ls at hl ⊢
  have hl : lv_has ls 1 [(0, .ref xo)] := hl
  refine lv_aload_n hx hb d_C_stop_0 rfl (lv_at hl 0 rfl) ?_
  refine g_get hx hb hgt in_C hown hK hg hxo rfl 2 (by decide) (hgt _ k_C_f23) (fun _ h9 => h9) (v := .ref mc) rfl d_C_stop_1 ?_
  refine g_get hx hb hgt in_Machine hown hK hg hmc rfl 7 (by decide) (hgt _ k_C_f34) (fun _ h9 => h9) (v := .int (0)) hm7 d_C_stop_4 ?_
  refine lv_iconst (v := 1) hx hb d_C_stop_7 (by decide) ?_
  refine lv_icmp_eq (tgt := 21) hx hb d_C_stop_8 (by decide) (fun c_8 => absurd c_8 (by decide)) (fun c_8 => ?_)
  exact C_ISE hx hb G hgt hown hxB hBs hS (is := 99) (text := "no run is going on") (by decide) (hl.1.trans hml.symm) ht0 d_C_stop_11 d_C_stop_14 d_C_stop_15 d_C_stop_17 d_C_stop_20 hlocks ⟨Nat.le_of_ble_eq_true rfl, Nat.le_of_ble_eq_true rfl⟩ ⟨Nat.le_of_ble_eq_true rfl, Nat.le_of_ble_eq_true rfl⟩ ⟨Nat.le_of_ble_eq_true rfl, Nat.le_of_ble_eq_true rfl⟩
set_option maxHeartbeats 4000000 in
set_option maxRecDepth 100000 in
theorem f_C_run_S (l : Launch) (a0 : Array Value) (s0 : State) (G : G0 l a0 s0) (D : va_G) (T : Nat → ClassId) (xo : Nat) (B : Nat → Prop) (k : Int32) (hk : ¬ (k < 1 ∨ ¬ k ≤ 10)) : Thr l y_C_run (.code y_C_run b_C_run 3 (some .int) :: lw_g) ({ frames := 60, cells := 8, slots := 256, locals := 3000 }) (va_Pc (.ref xo :: [.int k]) (cPre s0 (fun U => CFrD s0 D T xo B U ∧ ∀ q, U.heap.size ≤ q → B q))) "java/lang/IllegalStateException" (fun st t => va_F B st t) 8 256 B := by
  refine Thr.ofW (cc := b_C_run) (maxL := 3) (ret := (some .int)) (by decide) rfl ?_
  intro p e s m args below meth c s₁ B9 hml hv
  obtain ⟨rfl, hxB, ⟨hBs, hK, h, hg, sr, mc, gv, gl, ad, xf, nf, fo, mf, gf, lf, ⟨hxo, hsr, hRd⟩, ⟨hmc, hm0, hm7, hm8, hm9, hm10, hm11⟩, ⟨hgl, hlf⟩, ⟨hgv, hgf⟩⟩, hge⟩ := hv
  have hx := B9.exec
  have hb := B9.bytes
  have hr := B9.returns
  have hlocks := B9.notSynchronized
  have hts := atoms_spec (ws := (.code y_C_run b_C_run 3 (some .int) :: lw_g)) B9.pre
  have hgt : ∀ w ∈ lw_g, w.before _ s = true := fun w h => hts w (List.mem_cons_of_mem _ h)
  have hown : s.vm.findClass R_C = some m.cls := findClass_of_methodNamed B9.named
  have K : cK D T R_C s m _ := ⟨hgt, hown, hK⟩
  have ht0 : c.exceptionTable.isEmpty = true := by
    obtain ⟨meth9, c9, hm, hc, -, -, -, -, ht, -⟩ := Cond.code_spec B9.named (hts _ List.mem_cons_self)
    cases B9.method.symm.trans hm
    cases (Stand.of_body B9).code.symm.trans hc
    exact ht
  have hS : va_S B s.heap s.heap [] := va_S.rf
  have hl := lv_entry ([.ref xo, .int k]) (n := 3) (Nat.le_of_ble_eq_true rfl)
  rw [lg_entry_eq]
  generalize (lg_sl ([.ref xo, .int k]) ++ List.replicate (3 - (lg_sl ([.ref xo, .int k])).length) Slot.unset).toArray = ls at hl ⊢
  have hl : lv_has ls 3 [(0, .ref xo), (1, .int k)] := hl
  refine lv_iload_n hx hb d_C_run_0 rfl (lv_at hl 1 rfl) ?_
  refine lv_iconst (v := 1) hx hb d_C_run_1 (by decide) ?_
  refine lv_icmp_lt (tgt := 11) hx hb d_C_run_2 (by decide) (fun c_2 => absurd (Or.inl c_2) hk) (fun c_2 => ?_)
  refine lv_iload_n hx hb d_C_run_5 rfl (lv_at hl 1 rfl) ?_
  refine lv_bipush (v := 10) hx hb d_C_run_6 (by decide) ?_
  refine lv_icmp_le (tgt := 21) hx hb d_C_run_8 (by decide) (fun c_8 => ?_) (fun c_8 => absurd (Or.inr c_8) hk)
  refine lv_aload_n hx hb d_C_run_21 rfl (lv_at hl 0 rfl) ?_
  refine g_get hx hb hgt in_C hown hK hg hxo rfl 2 (by decide) (hgt _ k_C_f23) (fun _ h9 => h9) (v := .ref mc) rfl d_C_run_22 ?_
  refine g_get hx hb hgt in_Machine hown hK hg hmc rfl 7 (by decide) (hgt _ k_C_f34) (fun _ h9 => h9) (v := .int (0)) hm7 d_C_run_25 ?_
  refine lv_iconst (v := 1) hx hb d_C_run_28 (by decide) ?_
  refine lv_icmp_eq (tgt := 42) hx hb d_C_run_29 (by decide) (fun c_29 => absurd c_29 (by decide)) (fun c_29 => ?_)
  exact C_ISE hx hb G hgt hown hxB hBs hS (is := 99) (text := "no run is going on") (by decide) (hl.1.trans hml.symm) ht0 d_C_run_32 d_C_run_35 d_C_run_36 d_C_run_38 d_C_run_41 hlocks ⟨Nat.le_of_ble_eq_true rfl, Nat.le_of_ble_eq_true rfl⟩ ⟨Nat.le_of_ble_eq_true rfl, Nat.le_of_ble_eq_true rfl⟩ ⟨Nat.le_of_ble_eq_true rfl, Nat.le_of_ble_eq_true rfl⟩
set_option maxHeartbeats 4000000 in
set_option maxRecDepth 100000 in
theorem f_C_run_A (l : Launch) (a0 : Array Value) (s0 : State) (G : G0 l a0 s0) (D : va_G) (T : Nat → ClassId) (xo : Nat) (B : Nat → Prop) (k : Int32) (hk : k < 1 ∨ ¬ k ≤ 10) : Thr l y_C_run (.code y_C_run b_C_run 3 (some .int) :: lw_g) ({ frames := 60, cells := 8, slots := 256, locals := 3000 }) (va_Pc (.ref xo :: [.int k]) (cPre s0 (fun U => CFrD s0 D T xo B U ∧ ∀ q, U.heap.size ≤ q → B q))) "java/lang/IllegalArgumentException" (fun st t => va_F B st t) 8 256 B := by
  refine Thr.ofW (cc := b_C_run) (maxL := 3) (ret := (some .int)) (by decide) rfl ?_
  intro p e s m args below meth c s₁ B9 hml hv
  obtain ⟨rfl, hxB, ⟨hBs, hK, h, hg, sr, mc, gv, gl, ad, xf, nf, fo, mf, gf, lf, ⟨hxo, hsr, hRd⟩, ⟨hmc, hm0, hm7, hm8, hm9, hm10, hm11⟩, ⟨hgl, hlf⟩, ⟨hgv, hgf⟩⟩, hge⟩ := hv
  have hx := B9.exec
  have hb := B9.bytes
  have hr := B9.returns
  have hlocks := B9.notSynchronized
  have hts := atoms_spec (ws := (.code y_C_run b_C_run 3 (some .int) :: lw_g)) B9.pre
  have hgt : ∀ w ∈ lw_g, w.before _ s = true := fun w h => hts w (List.mem_cons_of_mem _ h)
  have hown : s.vm.findClass R_C = some m.cls := findClass_of_methodNamed B9.named
  have K : cK D T R_C s m _ := ⟨hgt, hown, hK⟩
  have ht0 : c.exceptionTable.isEmpty = true := by
    obtain ⟨meth9, c9, hm, hc, -, -, -, -, ht, -⟩ := Cond.code_spec B9.named (hts _ List.mem_cons_self)
    cases B9.method.symm.trans hm
    cases (Stand.of_body B9).code.symm.trans hc
    exact ht
  have hS : va_S B s.heap s.heap [] := va_S.rf
  have hl := lv_entry ([.ref xo, .int k]) (n := 3) (Nat.le_of_ble_eq_true rfl)
  rw [lg_entry_eq]
  generalize (lg_sl ([.ref xo, .int k]) ++ List.replicate (3 - (lg_sl ([.ref xo, .int k])).length) Slot.unset).toArray = ls at hl ⊢
  have hl : lv_has ls 3 [(0, .ref xo), (1, .int k)] := hl
  refine lv_iload_n hx hb d_C_run_0 rfl (lv_at hl 1 rfl) ?_
  refine lv_iconst (v := 1) hx hb d_C_run_1 (by decide) ?_
  refine lv_icmp_lt (tgt := 11) hx hb d_C_run_2 (by decide) (fun c_2 => ?_) (fun c_2 => ?_)
  · skip
    exact C_IAE hx hb G hgt hown hxB hBs hS (is := 97) (text := "the steps are not 1 .. 10") (by decide) (hl.1.trans hml.symm) ht0 d_C_run_11 d_C_run_14 d_C_run_15 d_C_run_17 d_C_run_20 hlocks ⟨Nat.le_of_ble_eq_true rfl, Nat.le_of_ble_eq_true rfl⟩ ⟨Nat.le_of_ble_eq_true rfl, Nat.le_of_ble_eq_true rfl⟩ ⟨Nat.le_of_ble_eq_true rfl, Nat.le_of_ble_eq_true rfl⟩
  · skip
    refine lv_iload_n hx hb d_C_run_5 rfl (lv_at hl 1 rfl) ?_
    refine lv_bipush (v := 10) hx hb d_C_run_6 (by decide) ?_
    refine lv_icmp_le (tgt := 21) hx hb d_C_run_8 (by decide) (fun c_8 => absurd hk (fun z => z.elim c_2 (fun w => w c_8))) (fun c_8 => ?_)
    exact C_IAE hx hb G hgt hown hxB hBs hS (is := 97) (text := "the steps are not 1 .. 10") (by decide) (hl.1.trans hml.symm) ht0 d_C_run_11 d_C_run_14 d_C_run_15 d_C_run_17 d_C_run_20 hlocks ⟨Nat.le_of_ble_eq_true rfl, Nat.le_of_ble_eq_true rfl⟩ ⟨Nat.le_of_ble_eq_true rfl, Nat.le_of_ble_eq_true rfl⟩ ⟨Nat.le_of_ble_eq_true rfl, Nat.le_of_ble_eq_true rfl⟩
set_option maxHeartbeats 4000000 in
set_option maxRecDepth 100000 in
theorem f_C_sign_S (l : Launch) (a0 : Array Value) (s0 : State) (G : G0 l a0 s0) (D : va_G) (T : Nat → ClassId) (xo : Nat) (B : Nat → Prop) (k : Int32) (hk : ¬ (k < 0 ∨ ¬ k ≤ 59)) : Thr l y_C_sign (.code y_C_sign b_C_sign 2 (some .int) :: lw_g) ({ frames := 60, cells := 8, slots := 256, locals := 3000 }) (va_Pc (.ref xo :: [.int k]) (cPre s0 (fun U => CFrD s0 D T xo B U ∧ ∀ q, U.heap.size ≤ q → B q))) "java/lang/IllegalStateException" (fun st t => va_F B st t) 8 256 B := by
  refine Thr.ofW (cc := b_C_sign) (maxL := 2) (ret := (some .int)) (by decide) rfl ?_
  intro p e s m args below meth c s₁ B9 hml hv
  obtain ⟨rfl, hxB, ⟨hBs, hK, h, hg, sr, mc, gv, gl, ad, xf, nf, fo, mf, gf, lf, ⟨hxo, hsr, hRd⟩, ⟨hmc, hm0, hm7, hm8, hm9, hm10, hm11⟩, ⟨hgl, hlf⟩, ⟨hgv, hgf⟩⟩, hge⟩ := hv
  have hx := B9.exec
  have hb := B9.bytes
  have hr := B9.returns
  have hlocks := B9.notSynchronized
  have hts := atoms_spec (ws := (.code y_C_sign b_C_sign 2 (some .int) :: lw_g)) B9.pre
  have hgt : ∀ w ∈ lw_g, w.before _ s = true := fun w h => hts w (List.mem_cons_of_mem _ h)
  have hown : s.vm.findClass R_C = some m.cls := findClass_of_methodNamed B9.named
  have K : cK D T R_C s m _ := ⟨hgt, hown, hK⟩
  have ht0 : c.exceptionTable.isEmpty = true := by
    obtain ⟨meth9, c9, hm, hc, -, -, -, -, ht, -⟩ := Cond.code_spec B9.named (hts _ List.mem_cons_self)
    cases B9.method.symm.trans hm
    cases (Stand.of_body B9).code.symm.trans hc
    exact ht
  have hS : va_S B s.heap s.heap [] := va_S.rf
  have hl := lv_entry ([.ref xo, .int k]) (n := 2) (Nat.le_of_ble_eq_true rfl)
  rw [lg_entry_eq]
  generalize (lg_sl ([.ref xo, .int k]) ++ List.replicate (2 - (lg_sl ([.ref xo, .int k])).length) Slot.unset).toArray = ls at hl ⊢
  have hl : lv_has ls 2 [(0, .ref xo), (1, .int k)] := hl
  refine lv_iload_n hx hb d_C_sign_0 rfl (lv_at hl 1 rfl) ?_
  refine lv_if_lt (tgt := 10) hx hb d_C_sign_1 (by decide) (fun c_1 => absurd (Or.inl c_1) hk) (fun c_1 => ?_)
  refine lv_iload_n hx hb d_C_sign_4 rfl (lv_at hl 1 rfl) ?_
  refine lv_bipush (v := 60) hx hb d_C_sign_5 (by decide) ?_
  refine lv_icmp_lt (tgt := 20) hx hb d_C_sign_7 (by decide) (fun c_7 => ?_) (fun c_7 => absurd (Or.inr (fun z => c_7 ((i_lel (a := 59) (b := 60) (by decide)).mp z))) hk)
  refine lv_aload_n hx hb d_C_sign_20 rfl (lv_at hl 0 rfl) ?_
  refine g_get hx hb hgt in_C hown hK hg hxo rfl 2 (by decide) (hgt _ k_C_f23) (fun _ h9 => h9) (v := .ref mc) rfl d_C_sign_21 ?_
  refine g_get hx hb hgt in_Machine hown hK hg hmc rfl 7 (by decide) (hgt _ k_C_f34) (fun _ h9 => h9) (v := .int (0)) hm7 d_C_sign_24 ?_
  refine lv_iconst (v := 2) hx hb d_C_sign_27 (by decide) ?_
  refine lv_icmp_eq (tgt := 41) hx hb d_C_sign_28 (by decide) (fun c_28 => absurd c_28 (by decide)) (fun c_28 => ?_)
  exact C_ISE hx hb G hgt hown hxB hBs hS (is := 128) (text := "the run has no value") (by decide) (hl.1.trans hml.symm) ht0 d_C_sign_31 d_C_sign_34 d_C_sign_35 d_C_sign_37 d_C_sign_40 hlocks ⟨Nat.le_of_ble_eq_true rfl, Nat.le_of_ble_eq_true rfl⟩ ⟨Nat.le_of_ble_eq_true rfl, Nat.le_of_ble_eq_true rfl⟩ ⟨Nat.le_of_ble_eq_true rfl, Nat.le_of_ble_eq_true rfl⟩
set_option maxHeartbeats 4000000 in
set_option maxRecDepth 100000 in
theorem f_C_sign_A (l : Launch) (a0 : Array Value) (s0 : State) (G : G0 l a0 s0) (D : va_G) (T : Nat → ClassId) (xo : Nat) (B : Nat → Prop) (k : Int32) (hk : k < 0 ∨ ¬ k ≤ 59) : Thr l y_C_sign (.code y_C_sign b_C_sign 2 (some .int) :: lw_g) ({ frames := 60, cells := 8, slots := 256, locals := 3000 }) (va_Pc (.ref xo :: [.int k]) (cPre s0 (fun U => CFrD s0 D T xo B U ∧ ∀ q, U.heap.size ≤ q → B q))) "java/lang/IllegalArgumentException" (fun st t => va_F B st t) 8 256 B := by
  refine Thr.ofW (cc := b_C_sign) (maxL := 2) (ret := (some .int)) (by decide) rfl ?_
  intro p e s m args below meth c s₁ B9 hml hv
  obtain ⟨rfl, hxB, ⟨hBs, hK, h, hg, sr, mc, gv, gl, ad, xf, nf, fo, mf, gf, lf, ⟨hxo, hsr, hRd⟩, ⟨hmc, hm0, hm7, hm8, hm9, hm10, hm11⟩, ⟨hgl, hlf⟩, ⟨hgv, hgf⟩⟩, hge⟩ := hv
  have hx := B9.exec
  have hb := B9.bytes
  have hr := B9.returns
  have hlocks := B9.notSynchronized
  have hts := atoms_spec (ws := (.code y_C_sign b_C_sign 2 (some .int) :: lw_g)) B9.pre
  have hgt : ∀ w ∈ lw_g, w.before _ s = true := fun w h => hts w (List.mem_cons_of_mem _ h)
  have hown : s.vm.findClass R_C = some m.cls := findClass_of_methodNamed B9.named
  have K : cK D T R_C s m _ := ⟨hgt, hown, hK⟩
  have ht0 : c.exceptionTable.isEmpty = true := by
    obtain ⟨meth9, c9, hm, hc, -, -, -, -, ht, -⟩ := Cond.code_spec B9.named (hts _ List.mem_cons_self)
    cases B9.method.symm.trans hm
    cases (Stand.of_body B9).code.symm.trans hc
    exact ht
  have hS : va_S B s.heap s.heap [] := va_S.rf
  have hl := lv_entry ([.ref xo, .int k]) (n := 2) (Nat.le_of_ble_eq_true rfl)
  rw [lg_entry_eq]
  generalize (lg_sl ([.ref xo, .int k]) ++ List.replicate (2 - (lg_sl ([.ref xo, .int k])).length) Slot.unset).toArray = ls at hl ⊢
  have hl : lv_has ls 2 [(0, .ref xo), (1, .int k)] := hl
  refine lv_iload_n hx hb d_C_sign_0 rfl (lv_at hl 1 rfl) ?_
  refine lv_if_lt (tgt := 10) hx hb d_C_sign_1 (by decide) (fun c_1 => ?_) (fun c_1 => ?_)
  · skip
    exact C_IAE hx hb G hgt hown hxB hBs hS (is := 126) (text := "the place is not 0 .. 59") (by decide) (hl.1.trans hml.symm) ht0 d_C_sign_10 d_C_sign_13 d_C_sign_14 d_C_sign_16 d_C_sign_19 hlocks ⟨Nat.le_of_ble_eq_true rfl, Nat.le_of_ble_eq_true rfl⟩ ⟨Nat.le_of_ble_eq_true rfl, Nat.le_of_ble_eq_true rfl⟩ ⟨Nat.le_of_ble_eq_true rfl, Nat.le_of_ble_eq_true rfl⟩
  · skip
    refine lv_iload_n hx hb d_C_sign_4 rfl (lv_at hl 1 rfl) ?_
    refine lv_bipush (v := 60) hx hb d_C_sign_5 (by decide) ?_
    refine lv_icmp_lt (tgt := 20) hx hb d_C_sign_7 (by decide) (fun c_7 => absurd hk (fun z => z.elim c_1 (fun w => w ((i_lel (a := 59) (b := 60) (by decide)).mpr c_7)))) (fun c_7 => ?_)
    exact C_IAE hx hb G hgt hown hxB hBs hS (is := 126) (text := "the place is not 0 .. 59") (by decide) (hl.1.trans hml.symm) ht0 d_C_sign_10 d_C_sign_13 d_C_sign_14 d_C_sign_16 d_C_sign_19 hlocks ⟨Nat.le_of_ble_eq_true rfl, Nat.le_of_ble_eq_true rfl⟩ ⟨Nat.le_of_ble_eq_true rfl, Nat.le_of_ble_eq_true rfl⟩ ⟨Nat.le_of_ble_eq_true rfl, Nat.le_of_ble_eq_true rfl⟩
set_option maxHeartbeats 4000000 in
theorem f_Machine_depth (l : Launch) (D : va_G) (T : Nat → ClassId) (B : Nat → Prop) (mc : Nat) : Met l y_Machine_depth (.code y_Machine_depth b_Machine_depth 1 (some .int) :: lw_g) ({ frames := 0, cells := 0, slots := 0, locals := 0 }) (va_Pc [.ref mc] (fun U => ∃ h mf, gw D classes B h U.heap ∧ va_K D classes (tyl T) U ∧ h mc = some (.inr (4, mf)) ∧ mf[7]? = some (.int 0))) (va_Qi (fun r (_ : Unit) => r = 0) (fun _ _ => True) noA) 0 0 noA := by
  refine Met.ofW (cc := b_Machine_depth) (maxL := 1) (ret := (some .int)) (by decide) rfl ?_
  intro p e s m args below meth c s₁ B9 hml hv
  obtain ⟨rfl, h, mf, hg, hK, hmc, hm7⟩ := hv
  have hx := B9.exec
  have hb := B9.bytes
  have hr := B9.returns
  have hts := atoms_spec (ws := (.code y_Machine_depth b_Machine_depth 1 (some .int) :: lw_g)) B9.pre
  have hgt : ∀ w ∈ lw_g, w.before _ s = true := fun w h => hts w (List.mem_cons_of_mem _ h)
  have hown : s.vm.findClass R_Machine = some m.cls := findClass_of_methodNamed B9.named
  have hS : va_S noA s.heap s.heap [] := va_S.rf
  have hl := lv_entry ([.ref mc]) (n := 1) (Nat.le_of_ble_eq_true rfl)
  rw [lg_entry_eq]
  generalize (lg_sl ([.ref mc]) ++ List.replicate (1 - (lg_sl ([.ref mc])).length) Slot.unset).toArray = ls at hl ⊢
  have hl : lv_has ls 1 [(0, .ref mc)] := hl
  refine lv_aload_n hx hb d_Machine_depth_0 rfl (lv_at hl 0 rfl) ?_
  refine g_get hx hb hgt in_Machine hown hK hg hmc rfl 7 (by decide) (hgt _ k_Machine_f62) (fun _ h9 => h9) (v := .int 0) hm7 d_Machine_depth_1 ?_
  -- [(0, 'aload_0', '', ''), (1, 'getfield', '#62', 'Field status:I'), (4, 'iconst_1', '', ''), (5, 'if_icmpne', '15', ''), (8, 'aload_0', '', ''), (9, 'getfield', '#81', 'Field chain:LContinuationCore$Waiting;'), (12, 'ifnonnull', '19', ''), (15, 'iconst_0', '', ''), (16, 'goto', '26', ''), (19, 'aload_0', '', ''), (20, 'getfield', '#81', 'Field chain:LContinuationCore$Waiting;'), (23, 'getfield', '#89', 'Field ContinuationCore$Waiting.depth:I'), (26, 'ireturn', '', '')]
  refine lv_iconst (v := 1) hx hb d_Machine_depth_4 (by decide) ?_
  refine lv_icmp_ne (tgt := 15) hx hb d_Machine_depth_5 (by decide) (fun c5 => ?_) (fun c5 => absurd c5 (by decide))
  refine lv_iconst (v := 0) hx hb d_Machine_depth_15 (by decide) ?_
  refine lv_goto (tgt := 26) hx hb d_Machine_depth_16 (by decide) ?_
  exact W.iret (v := 0) hx hb hr (fun t ht _ => ⟨⟨_, (), rfl, rfl, trivial⟩, hS.F ht⟩) hS.2.2 d_Machine_depth_26
set_option maxHeartbeats 4000000 in
set_option maxRecDepth 100000 in
theorem f_C_state_R (l : Launch) (a0 : Array Value) (s0 : State) (G : G0 l a0 s0) (D : va_G) (T : Nat → ClassId) (xo : Nat) (B : Nat → Prop) (k : Int32) (hk : ¬ (k < 0 ∨ ¬ k ≤ 5)) : Met l y_C_state (.code y_C_state b_C_state 2 (some .int) :: lw_g) ({ frames := 60, cells := 8, slots := 256, locals := 3000 }) (va_Pc (.ref xo :: [.int k]) (cPre s0 (fun U => CFrD s0 D T xo B U ∧ ∀ q, U.heap.size ≤ q → B q))) (va_Qi (fun r (_ : Unit) => r = 0) (fun _ _ => True) B) 8 256 B := by
  refine Met.ofW (cc := b_C_state) (maxL := 2) (ret := (some .int)) (by decide) rfl ?_
  intro p e s m args below meth c s₁ B9 hml hv
  obtain ⟨rfl, hxB, ⟨hBs, hK, h, hg, sr, mc, gv, gl, ad, xf, nf, fo, mf, gf, lf, ⟨hxo, hsr, hRd⟩, ⟨hmc, hm0, hm7, hm8, hm9, hm10, hm11⟩, ⟨hgl, hlf⟩, ⟨hgv, hgf⟩⟩, hge⟩ := hv
  have hx := B9.exec
  have hb := B9.bytes
  have hr := B9.returns
  have hlocks := B9.notSynchronized
  have hts := atoms_spec (ws := (.code y_C_state b_C_state 2 (some .int) :: lw_g)) B9.pre
  have hgt : ∀ w ∈ lw_g, w.before _ s = true := fun w h => hts w (List.mem_cons_of_mem _ h)
  have hown : s.vm.findClass R_C = some m.cls := findClass_of_methodNamed B9.named
  have K : cK D T R_C s m _ := ⟨hgt, hown, hK⟩
  have ht0 : c.exceptionTable.isEmpty = true := by
    obtain ⟨meth9, c9, hm, hc, -, -, -, -, ht, -⟩ := Cond.code_spec B9.named (hts _ List.mem_cons_self)
    cases B9.method.symm.trans hm
    cases (Stand.of_body B9).code.symm.trans hc
    exact ht
  have hS : va_S B s.heap s.heap [] := va_S.rf
  have hl := lv_entry ([.ref xo, .int k]) (n := 2) (Nat.le_of_ble_eq_true rfl)
  rw [lg_entry_eq]
  generalize (lg_sl ([.ref xo, .int k]) ++ List.replicate (2 - (lg_sl ([.ref xo, .int k])).length) Slot.unset).toArray = ls at hl ⊢
  have hl : lv_has ls 2 [(0, .ref xo), (1, .int k)] := hl
  refine lv_iload_n hx hb d_C_state_0 rfl (lv_at hl 1 rfl) ?_
  obtain ⟨j, hj, rfl⟩ := nI_of2 (x := k) (M := 5) (n := 5) (by decide) (fun z => hk (Or.inl z)) (Decidable.not_not.mp (fun z => hk (Or.inr z)))
  rcases (show j = 0 ∨ j = 1 ∨ j = 2 ∨ j = 3 ∨ j = 4 ∨ j = 5 by omega) with rfl | rfl | rfl | rfl | rfl | rfl
  · refine lv_tableIn (tgt := 40) (off := 39) hx hb d_C_state_1 (by decide) (by decide) (by decide) (by decide) ?_
    refine lv_aload_n hx hb d_C_state_40 rfl (lv_at hl 0 rfl) ?_
    refine g_get hx hb hgt in_C hown hK hg hxo rfl 2 (by decide) (hgt _ k_C_f23) (fun _ h9 => h9) (v := .ref mc) rfl d_C_state_41 ?_
    refine g_get hx hb hgt in_Machine hown hK hg hmc rfl 7 (by decide) (hgt _ k_C_f34) (fun _ h9 => h9) (v := .int (0)) hm7 d_C_state_44 ?_
    refine W.widen (k := 8) (n := 256) (Nat.le_of_ble_eq_true rfl) (Nat.le_of_ble_eq_true rfl) ?_
    exact W.iret (v := (0)) hx hb hr (fun t ht _ => ⟨⟨_, (), rfl, rfl, trivial⟩, hS.F ht⟩) hS.2.2 d_C_state_47
  · refine lv_tableIn (tgt := 48) (off := 47) hx hb d_C_state_1 (by decide) (by decide) (by decide) (by decide) ?_
    refine lv_aload_n hx hb d_C_state_48 rfl (lv_at hl 0 rfl) ?_
    refine g_get hx hb hgt in_C hown hK hg hxo rfl 2 (by decide) (hgt _ k_C_f23) (fun _ h9 => h9) (v := .ref mc) rfl d_C_state_49 ?_
    refine g_get hx hb hgt in_Machine hown hK hg hmc rfl 8 (by decide) (hgt _ k_C_f111) (fun _ h9 => h9) (v := .int (0)) hm8 d_C_state_52 ?_
    refine W.widen (k := 8) (n := 256) (Nat.le_of_ble_eq_true rfl) (Nat.le_of_ble_eq_true rfl) ?_
    exact W.iret (v := (0)) hx hb hr (fun t ht _ => ⟨⟨_, (), rfl, rfl, trivial⟩, hS.F ht⟩) hS.2.2 d_C_state_55
  · refine lv_tableIn (tgt := 56) (off := 55) hx hb d_C_state_1 (by decide) (by decide) (by decide) (by decide) ?_
    refine lv_aload_n hx hb d_C_state_56 rfl (lv_at hl 0 rfl) ?_
    refine g_get hx hb hgt in_C hown hK hg hxo rfl 2 (by decide) (hgt _ k_C_f23) (fun _ h9 => h9) (v := .ref mc) rfl d_C_state_57 ?_
    refine g_get hx hb hgt in_Machine hown hK hg hmc rfl 9 (by decide) (hgt _ k_C_f114) (fun _ h9 => h9) (v := .int (0)) hm9 d_C_state_60 ?_
    refine W.widen (k := 8) (n := 256) (Nat.le_of_ble_eq_true rfl) (Nat.le_of_ble_eq_true rfl) ?_
    exact W.iret (v := (0)) hx hb hr (fun t ht _ => ⟨⟨_, (), rfl, rfl, trivial⟩, hS.F ht⟩) hS.2.2 d_C_state_63
  · refine lv_tableIn (tgt := 64) (off := 63) hx hb d_C_state_1 (by decide) (by decide) (by decide) (by decide) ?_
    refine lv_aload_n hx hb d_C_state_64 rfl (lv_at hl 0 rfl) ?_
    refine g_get hx hb hgt in_C hown hK hg hxo rfl 2 (by decide) (hgt _ k_C_f23) (fun _ h9 => h9) (v := .ref mc) rfl d_C_state_65 ?_
    refine g_get hx hb hgt in_Machine hown hK hg hmc rfl 10 (by decide) (hgt _ k_C_f117) (fun _ h9 => h9) (v := .int (0)) hm10 d_C_state_68 ?_
    refine W.widen (k := 8) (n := 256) (Nat.le_of_ble_eq_true rfl) (Nat.le_of_ble_eq_true rfl) ?_
    exact W.iret (v := (0)) hx hb hr (fun t ht _ => ⟨⟨_, (), rfl, rfl, trivial⟩, hS.F ht⟩) hS.2.2 d_C_state_71
  · refine lv_tableIn (tgt := 72) (off := 71) hx hb d_C_state_1 (by decide) (by decide) (by decide) (by decide) ?_
    refine lv_aload_n hx hb d_C_state_72 rfl (lv_at hl 0 rfl) ?_
    refine g_get hx hb hgt in_C hown hK hg hxo rfl 2 (by decide) (hgt _ k_C_f23) (fun _ h9 => h9) (v := .ref mc) rfl d_C_state_73 ?_
    refine va_calli (V_run (C := R_Machine) (As := []) (rest := []) (n := 0) hx hb hml hgt hown (Wd := fun U => ∃ h mf, gw D classes B h U.heap ∧ va_K D classes (tyl T) U ∧ h mc = some (.inr (4, mf)) ∧ mf[7]? = some (.int 0)) (fun U U2 h1 h2 h3 => by obtain ⟨h, mf, z1, z2, z3, z4⟩ := h3; exact ⟨h, mf, by rw [h1]; exact z1, va_K.moved h2 z2, z3, z4⟩) (va_recv hK (hg.one hmc) (q0 := 0) (q := (R_Machine, T_Machine, 16)) rfl rfl) (fun U h1 h2 => ⟨h, mf, by rw [h1]; exact hg, va_K.moved h2.alike hK, hmc, hm7⟩) (f_Machine_depth l D T B mc) kc_Machine_depth k_C_m120 ki_Machine_depth ke_Machine_depth k_Machine_ini rfl rfl (by decide +kernel) ⟨Nat.le_of_ble_eq_true rfl, Nat.le_of_ble_eq_true rfl⟩ rfl hl.1 rfl (lv_room (Nat.le_of_ble_eq_true rfl)) d_C_state_76 ⟨Nat.le_of_ble_eq_true rfl, Nat.le_of_ble_eq_true rfl⟩) hS (fun q _ h => h.elim) (fun q h => h.elim) (fun r S t H1 locs1 ht hvm hw hB hz hk9 hS => ?_)
    obtain rfl := hw
    refine W.widen (k := 8) (n := 256) (Nat.le_of_ble_eq_true rfl) (Nat.le_of_ble_eq_true rfl) ?_
    exact W.iret (v := (0)) hx hb hr (fun t ht _ => ⟨⟨_, (), rfl, rfl, trivial⟩, hS.F ht⟩) hS.2.2 d_C_state_79
  · refine lv_tableIn (tgt := 80) (off := 79) hx hb d_C_state_1 (by decide) (by decide) (by decide) (by decide) ?_
    refine lv_aload_n hx hb d_C_state_80 rfl (lv_at hl 0 rfl) ?_
    refine g_get hx hb hgt in_C hown hK hg hxo rfl 2 (by decide) (hgt _ k_C_f23) (fun _ h9 => h9) (v := .ref mc) rfl d_C_state_81 ?_
    refine g_get hx hb hgt in_Machine hown hK hg hmc rfl 11 (by decide) (hgt _ k_C_f104) (fun _ h9 => h9) (v := .int (0)) hm11 d_C_state_84 ?_
    refine W.widen (k := 8) (n := 256) (Nat.le_of_ble_eq_true rfl) (Nat.le_of_ble_eq_true rfl) ?_
    exact W.iret (v := (0)) hx hb hr (fun t ht _ => ⟨⟨_, (), rfl, rfl, trivial⟩, hS.F ht⟩) hS.2.2 d_C_state_87
set_option maxHeartbeats 4000000 in
set_option maxRecDepth 100000 in
theorem f_C_state_A (l : Launch) (a0 : Array Value) (s0 : State) (G : G0 l a0 s0) (D : va_G) (T : Nat → ClassId) (xo : Nat) (B : Nat → Prop) (k : Int32) (hk : k < 0 ∨ ¬ k ≤ 5) : Thr l y_C_state (.code y_C_state b_C_state 2 (some .int) :: lw_g) ({ frames := 60, cells := 8, slots := 256, locals := 3000 }) (va_Pc (.ref xo :: [.int k]) (cPre s0 (fun U => CFrD s0 D T xo B U ∧ ∀ q, U.heap.size ≤ q → B q))) "java/lang/IllegalArgumentException" (fun st t => va_F B st t) 8 256 B := by
  refine Thr.ofW (cc := b_C_state) (maxL := 2) (ret := (some .int)) (by decide) rfl ?_
  intro p e s m args below meth c s₁ B9 hml hv
  obtain ⟨rfl, hxB, ⟨hBs, hK, h, hg, sr, mc, gv, gl, ad, xf, nf, fo, mf, gf, lf, ⟨hxo, hsr, hRd⟩, ⟨hmc, hm0, hm7, hm8, hm9, hm10, hm11⟩, ⟨hgl, hlf⟩, ⟨hgv, hgf⟩⟩, hge⟩ := hv
  have hx := B9.exec
  have hb := B9.bytes
  have hr := B9.returns
  have hlocks := B9.notSynchronized
  have hts := atoms_spec (ws := (.code y_C_state b_C_state 2 (some .int) :: lw_g)) B9.pre
  have hgt : ∀ w ∈ lw_g, w.before _ s = true := fun w h => hts w (List.mem_cons_of_mem _ h)
  have hown : s.vm.findClass R_C = some m.cls := findClass_of_methodNamed B9.named
  have K : cK D T R_C s m _ := ⟨hgt, hown, hK⟩
  have ht0 : c.exceptionTable.isEmpty = true := by
    obtain ⟨meth9, c9, hm, hc, -, -, -, -, ht, -⟩ := Cond.code_spec B9.named (hts _ List.mem_cons_self)
    cases B9.method.symm.trans hm
    cases (Stand.of_body B9).code.symm.trans hc
    exact ht
  have hS : va_S B s.heap s.heap [] := va_S.rf
  have hl := lv_entry ([.ref xo, .int k]) (n := 2) (Nat.le_of_ble_eq_true rfl)
  rw [lg_entry_eq]
  generalize (lg_sl ([.ref xo, .int k]) ++ List.replicate (2 - (lg_sl ([.ref xo, .int k])).length) Slot.unset).toArray = ls at hl ⊢
  have hl : lv_has ls 2 [(0, .ref xo), (1, .int k)] := hl
  refine lv_iload_n hx hb d_C_state_0 rfl (lv_at hl 1 rfl) ?_
  refine lv_tableOut (tgt := 88) hx hb d_C_state_1 (by rcases hk with z | z; exact Or.inl (Int32.lt_iff_toInt_lt.mp z); exact Or.inr (Int32.lt_iff_toInt_lt.mp (Int32.not_le.mp z))) (by decide) ?_
  exact C_IAE hx hb G hgt hown hxB hBs hS (is := 124) (text := "what is not 0 .. 5") (by decide) (hl.1.trans hml.symm) ht0 d_C_state_88 d_C_state_91 d_C_state_92 d_C_state_94 d_C_state_97 hlocks ⟨Nat.le_of_ble_eq_true rfl, Nat.le_of_ble_eq_true rfl⟩ ⟨Nat.le_of_ble_eq_true rfl, Nat.le_of_ble_eq_true rfl⟩ ⟨Nat.le_of_ble_eq_true rfl, Nat.le_of_ble_eq_true rfl⟩
set_option maxHeartbeats 4000000 in
set_option maxRecDepth 100000 in
theorem f_C_global_N (l : Launch) (a0 : Array Value) (s0 : State) (G : G0 l a0 s0) (D : va_G) (T : Nat → ClassId) (xo : Nat) (B : Nat → Prop) (k : Int32) (hk : ¬ (k < 0 ∨ ¬ k ≤ 25)) : Thr l y_C_global (.code y_C_global b_C_global 3 (some .int) :: lw_g) ({ frames := 60, cells := 8, slots := 256, locals := 3000 }) (va_Pc (.ref xo :: [.int k]) (cPre s0 (fun U => CFrD s0 D T xo B U ∧ ∀ q, U.heap.size ≤ q → B q))) "java/util/NoSuchElementException" (fun st t => va_F B st t) 8 256 B := by
  refine Thr.ofW (cc := b_C_global) (maxL := 3) (ret := (some .int)) (by decide) rfl ?_
  intro p e s m args below meth c s₁ B9 hml hv
  obtain ⟨rfl, hxB, ⟨hBs, hK, h, hg, sr, mc, gv, gl, ad, xf, nf, fo, mf, gf, lf, ⟨hxo, hsr, hRd⟩, ⟨hmc, hm0, hm7, hm8, hm9, hm10, hm11⟩, ⟨hgl, hlf⟩, ⟨hgv, hgf⟩⟩, hge⟩ := hv
  have hx := B9.exec
  have hb := B9.bytes
  have hr := B9.returns
  have hlocks := B9.notSynchronized
  have hts := atoms_spec (ws := (.code y_C_global b_C_global 3 (some .int) :: lw_g)) B9.pre
  have hgt : ∀ w ∈ lw_g, w.before _ s = true := fun w h => hts w (List.mem_cons_of_mem _ h)
  have hown : s.vm.findClass R_C = some m.cls := findClass_of_methodNamed B9.named
  have K : cK D T R_C s m _ := ⟨hgt, hown, hK⟩
  have ht0 : c.exceptionTable.isEmpty = true := by
    obtain ⟨meth9, c9, hm, hc, -, -, -, -, ht, -⟩ := Cond.code_spec B9.named (hts _ List.mem_cons_self)
    cases B9.method.symm.trans hm
    cases (Stand.of_body B9).code.symm.trans hc
    exact ht
  have hS : va_S B s.heap s.heap [] := va_S.rf
  have hl := lv_entry ([.ref xo, .int k]) (n := 3) (Nat.le_of_ble_eq_true rfl)
  rw [lg_entry_eq]
  generalize (lg_sl ([.ref xo, .int k]) ++ List.replicate (3 - (lg_sl ([.ref xo, .int k])).length) Slot.unset).toArray = ls at hl ⊢
  have hl : lv_has ls 3 [(0, .ref xo), (1, .int k)] := hl
  refine lv_iload_n hx hb d_C_global_0 rfl (lv_at hl 1 rfl) ?_
  refine va_calli (S_run (As := [.int k]) (rest := []) (n := 1) hx hb hml K (e_C_isLetter l k) kc_C_isLetter k_C_m67 ks_C_isLetter k_C_ini rfl rfl (by decide +kernel) ⟨Nat.le_of_ble_eq_true rfl, Nat.le_of_ble_eq_true rfl⟩ rfl hl.1 rfl (lv_room (Nat.le_of_ble_eq_true rfl)) d_C_global_1 ⟨Nat.le_of_ble_eq_true rfl, Nat.le_of_ble_eq_true rfl⟩) hS (fun q _ h => h.elim) (fun q h => h.elim) (fun r S t H1 locs1 ht hvm hw hB hz hk9 hS => ?_)
  replace hg := gw.kept hg (A2 := fun _ => False) hk9 (fun _ _ z => z)
  obtain rfl : r = 1 := hw.elim (fun z => z.1) (fun z => absurd (z.2.imp id (fun w => fun q => absurd w ((i_gel (a := 25) (b := 26) (by decide)).mpr q))) hk)
  refine lv_if_ne (tgt := 17) hx hb d_C_global_4 (by decide) (fun c_4 => ?_) (fun c_4 => absurd c_4 (by decide))
  refine lv_aload_n hx hb d_C_global_17 rfl (lv_at hl 0 rfl) ?_
  refine g_get hx hb hgt in_C hown hK hg hxo rfl 2 (by decide) (hgt _ k_C_f23) (fun _ h9 => h9) (v := .ref mc) rfl d_C_global_18 ?_
  refine g_get hx hb hgt in_Machine hown hK hg hmc rfl 0 (by decide) (hgt _ k_C_f142) (fun _ h9 => h9) (v := .ref gl) hm0 d_C_global_21 ?_
  refine lv_iload_n hx hb d_C_global_24 rfl (lv_at hl 1 rfl) ?_
  obtain ⟨j, hj, rfl⟩ := nI_of2 (x := k) (M := 25) (n := 25) (by decide) (fun z => hk (Or.inl z)) (Decidable.not_not.mp (fun z => hk (Or.inr z)))
  obtain ⟨bq, pq, xv, yv, e1, hbq, hpq⟩ := hlf j (by omega)
  refine g_aldq hx hb hK hg 6 (C := R_Binding) hgl rfl (vp_in_nI (by omega) (by decide)) d_C_global_25 ?_
  rw [nI_clamp (by omega), e1]
  show W p l e _ s m _ below meth c _ _ _ _ _ (F0 m 26 ls [.ref bq])
  refine g_get hx hb hgt in_Binding hown hK hg hbq rfl 0 (by decide) (hgt _ k_C_f146) (fun _ h9 => h9) (v := .ref pq) rfl d_C_global_26 ?_
  refine lv_astore_n (lv' := [(2, .ref pq), (0, .ref xo), (1, .int (nI j))]) hx hb d_C_global_29 rfl hl (by decide) rfl (fun ls hl => ?_)
  refine lv_aload_n hx hb d_C_global_30 rfl (lv_at hl 0 rfl) ?_
  refine g_get hx hb hgt in_Place hown hK hg hpq rfl 0 (by decide) (hgt _ k_C_f73) (fun _ h9 => h9) (v := .int 32) rfl d_C_global_31 ?_
  refine lv_bipush (v := 48) hx hb d_C_global_34 (by decide) ?_
  refine lv_icmp_eq (tgt := 49) hx hb d_C_global_36 (by decide) (fun c_36 => absurd c_36 (by decide)) (fun c_36 => ?_)
  exact C_NSE hx hb G hgt hown hxB hBs hS (is := 154) (text := "the name has no int") (by decide) (hl.1.trans hml.symm) ht0 d_C_global_39 d_C_global_42 d_C_global_43 d_C_global_45 d_C_global_48 hlocks ⟨Nat.le_of_ble_eq_true rfl, Nat.le_of_ble_eq_true rfl⟩ ⟨Nat.le_of_ble_eq_true rfl, Nat.le_of_ble_eq_true rfl⟩ ⟨Nat.le_of_ble_eq_true rfl, Nat.le_of_ble_eq_true rfl⟩
set_option maxHeartbeats 4000000 in
set_option maxRecDepth 100000 in
theorem f_C_global_A (l : Launch) (a0 : Array Value) (s0 : State) (G : G0 l a0 s0) (D : va_G) (T : Nat → ClassId) (xo : Nat) (B : Nat → Prop) (k : Int32) (hk : k < 0 ∨ ¬ k ≤ 25) : Thr l y_C_global (.code y_C_global b_C_global 3 (some .int) :: lw_g) ({ frames := 60, cells := 8, slots := 256, locals := 3000 }) (va_Pc (.ref xo :: [.int k]) (cPre s0 (fun U => CFrD s0 D T xo B U ∧ ∀ q, U.heap.size ≤ q → B q))) "java/lang/IllegalArgumentException" (fun st t => va_F B st t) 8 256 B := by
  refine Thr.ofW (cc := b_C_global) (maxL := 3) (ret := (some .int)) (by decide) rfl ?_
  intro p e s m args below meth c s₁ B9 hml hv
  obtain ⟨rfl, hxB, ⟨hBs, hK, h, hg, sr, mc, gv, gl, ad, xf, nf, fo, mf, gf, lf, ⟨hxo, hsr, hRd⟩, ⟨hmc, hm0, hm7, hm8, hm9, hm10, hm11⟩, ⟨hgl, hlf⟩, ⟨hgv, hgf⟩⟩, hge⟩ := hv
  have hx := B9.exec
  have hb := B9.bytes
  have hr := B9.returns
  have hlocks := B9.notSynchronized
  have hts := atoms_spec (ws := (.code y_C_global b_C_global 3 (some .int) :: lw_g)) B9.pre
  have hgt : ∀ w ∈ lw_g, w.before _ s = true := fun w h => hts w (List.mem_cons_of_mem _ h)
  have hown : s.vm.findClass R_C = some m.cls := findClass_of_methodNamed B9.named
  have K : cK D T R_C s m _ := ⟨hgt, hown, hK⟩
  have ht0 : c.exceptionTable.isEmpty = true := by
    obtain ⟨meth9, c9, hm, hc, -, -, -, -, ht, -⟩ := Cond.code_spec B9.named (hts _ List.mem_cons_self)
    cases B9.method.symm.trans hm
    cases (Stand.of_body B9).code.symm.trans hc
    exact ht
  have hS : va_S B s.heap s.heap [] := va_S.rf
  have hl := lv_entry ([.ref xo, .int k]) (n := 3) (Nat.le_of_ble_eq_true rfl)
  rw [lg_entry_eq]
  generalize (lg_sl ([.ref xo, .int k]) ++ List.replicate (3 - (lg_sl ([.ref xo, .int k])).length) Slot.unset).toArray = ls at hl ⊢
  have hl : lv_has ls 3 [(0, .ref xo), (1, .int k)] := hl
  refine lv_iload_n hx hb d_C_global_0 rfl (lv_at hl 1 rfl) ?_
  refine va_calli (S_run (As := [.int k]) (rest := []) (n := 1) hx hb hml K (e_C_isLetter l k) kc_C_isLetter k_C_m67 ks_C_isLetter k_C_ini rfl rfl (by decide +kernel) ⟨Nat.le_of_ble_eq_true rfl, Nat.le_of_ble_eq_true rfl⟩ rfl hl.1 rfl (lv_room (Nat.le_of_ble_eq_true rfl)) d_C_global_1 ⟨Nat.le_of_ble_eq_true rfl, Nat.le_of_ble_eq_true rfl⟩) hS (fun q _ h => h.elim) (fun q h => h.elim) (fun r S t H1 locs1 ht hvm hw hB hz hk9 hS => ?_)
  replace hg := gw.kept hg (A2 := fun _ => False) hk9 (fun _ _ z => z)
  obtain rfl : r = 0 := hw.elim (fun z => absurd hk (fun q => q.elim z.2.1 (fun w => w ((i_gel (a := 25) (b := 26) (by decide)).mp z.2.2)))) (fun z => z.1)
  refine lv_if_ne (tgt := 17) hx hb d_C_global_4 (by decide) (fun c_4 => absurd rfl c_4) (fun c_4 => ?_)
  exact C_IAE hx hb G hgt hown hxB hBs hS (is := 71) (text := "the name is not 0 .. 25") (by decide) (hl.1.trans hml.symm) ht0 d_C_global_7 d_C_global_10 d_C_global_11 d_C_global_13 d_C_global_16 hlocks ⟨Nat.le_of_ble_eq_true rfl, Nat.le_of_ble_eq_true rfl⟩ ⟨Nat.le_of_ble_eq_true rfl, Nat.le_of_ble_eq_true rfl⟩ ⟨Nat.le_of_ble_eq_true rfl, Nat.le_of_ble_eq_true rfl⟩
set_option maxHeartbeats 4000000 in
set_option maxRecDepth 100000 in
theorem f_C_given_A (l : Launch) (a0 : Array Value) (s0 : State) (G : G0 l a0 s0) (D : va_G) (T : Nat → ClassId) (xo : Nat) (B : Nat → Prop) (k : Int32) (v : Int32) (hk : k < 0 ∨ ¬ k ≤ 25) : Thr l y_C_given (.code y_C_given b_C_given 3 (some .int) :: lw_g) ({ frames := 60, cells := 8, slots := 256, locals := 3000 }) (va_Pc (.ref xo :: [.int k, .int v]) (cPre s0 (fun U => CFrD s0 D T xo B U ∧ ∀ q, U.heap.size ≤ q → B q))) "java/lang/IllegalArgumentException" (fun st t => va_F B st t) 8 256 B := by
  refine Thr.ofW (cc := b_C_given) (maxL := 3) (ret := (some .int)) (by decide) rfl ?_
  intro p e s m args below meth c s₁ B9 hml hv
  obtain ⟨rfl, hxB, ⟨hBs, hK, h, hg, sr, mc, gv, gl, ad, xf, nf, fo, mf, gf, lf, ⟨hxo, hsr, hRd⟩, ⟨hmc, hm0, hm7, hm8, hm9, hm10, hm11⟩, ⟨hgl, hlf⟩, ⟨hgv, hgf⟩⟩, hge⟩ := hv
  have hx := B9.exec
  have hb := B9.bytes
  have hr := B9.returns
  have hlocks := B9.notSynchronized
  have hts := atoms_spec (ws := (.code y_C_given b_C_given 3 (some .int) :: lw_g)) B9.pre
  have hgt : ∀ w ∈ lw_g, w.before _ s = true := fun w h => hts w (List.mem_cons_of_mem _ h)
  have hown : s.vm.findClass R_C = some m.cls := findClass_of_methodNamed B9.named
  have K : cK D T R_C s m _ := ⟨hgt, hown, hK⟩
  have ht0 : c.exceptionTable.isEmpty = true := by
    obtain ⟨meth9, c9, hm, hc, -, -, -, -, ht, -⟩ := Cond.code_spec B9.named (hts _ List.mem_cons_self)
    cases B9.method.symm.trans hm
    cases (Stand.of_body B9).code.symm.trans hc
    exact ht
  have hS : va_S B s.heap s.heap [] := va_S.rf
  have hl := lv_entry ([.ref xo, .int k, .int v]) (n := 3) (Nat.le_of_ble_eq_true rfl)
  rw [lg_entry_eq]
  generalize (lg_sl ([.ref xo, .int k, .int v]) ++ List.replicate (3 - (lg_sl ([.ref xo, .int k, .int v])).length) Slot.unset).toArray = ls at hl ⊢
  have hl : lv_has ls 3 [(0, .ref xo), (1, .int k), (2, .int v)] := hl
  refine lv_iload_n hx hb d_C_given_0 rfl (lv_at hl 1 rfl) ?_
  refine va_calli (S_run (As := [.int k]) (rest := []) (n := 1) hx hb hml K (e_C_isLetter l k) kc_C_isLetter k_C_m67 ks_C_isLetter k_C_ini rfl rfl (by decide +kernel) ⟨Nat.le_of_ble_eq_true rfl, Nat.le_of_ble_eq_true rfl⟩ rfl hl.1 rfl (lv_room (Nat.le_of_ble_eq_true rfl)) d_C_given_1 ⟨Nat.le_of_ble_eq_true rfl, Nat.le_of_ble_eq_true rfl⟩) hS (fun q _ h => h.elim) (fun q h => h.elim) (fun r S t H1 locs1 ht hvm hw hB hz hk9 hS => ?_)
  replace hg := gw.kept hg (A2 := fun _ => False) hk9 (fun _ _ z => z)
  obtain rfl : r = 0 := hw.elim (fun z => absurd hk (fun q => q.elim z.2.1 (fun w => w ((i_gel (a := 25) (b := 26) (by decide)).mp z.2.2)))) (fun z => z.1)
  refine lv_if_ne (tgt := 17) hx hb d_C_given_4 (by decide) (fun c_4 => absurd rfl c_4) (fun c_4 => ?_)
  exact C_IAE hx hb G hgt hown hxB hBs hS (is := 71) (text := "the name is not 0 .. 25") (by decide) (hl.1.trans hml.symm) ht0 d_C_given_7 d_C_given_10 d_C_given_11 d_C_given_13 d_C_given_16 hlocks ⟨Nat.le_of_ble_eq_true rfl, Nat.le_of_ble_eq_true rfl⟩ ⟨Nat.le_of_ble_eq_true rfl, Nat.le_of_ble_eq_true rfl⟩ ⟨Nat.le_of_ble_eq_true rfl, Nat.le_of_ble_eq_true rfl⟩
