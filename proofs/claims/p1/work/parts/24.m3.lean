def phN (md : Nat) : Nat := if md = 1 then 0 else if md = 2 then 1 else if md = 3 then 2 else 3
def pcN (d : Nat) (pt : Nat → Nat) (j : Nat) : Nat := if j + 1 < d then pt j + 1 else pt j
def cL (ad : Nat → Nat → Nat) (xf : Nat → Nat → Int32) (fo : Nat → Option Nat) (op kd : Nat → Nat) (n d : Nat) (pt fw mo : Nat → Nat) : Prop :=
  (∀ j, j < d → (fo j = some (ad 3 (op j)) ∧ op j < n) ∧ (xf (op j) 0 = nI (kd j) ∧ kd j ∈ formK) ∧ (mo j = mpN (kd j) ∧ fw j = fwN (kd j)) ∧ xf (op j) 3 = nI (pcN d pt j) ∧ pcN d pt j ≤ mo j) ∧ (∀ j k, j < k → k < d → op j < op k)
def cQ (ad : Nat → Nat → Nat) (S : SS) (op kd : Nat → Nat) (d md n : Nat) (pt fw mo : Nat → Nat) (nm : List Nat) (dg : Nat) : Prop :=
  (S.1 2 = nI d ∧ S.1 3 = nI (phN md) ∧ S.1 4 = nI (if md = 4 then dg else 0) ∧ S.1 5 = nI n) ∧ (d ≤ n ∧ md ≤ 6 ∧ md ≠ 5) ∧ cL ad S.2.1 S.2.2.2 op kd n d pt fw mo ∧
  (d = 0 → (md = 0 ∧ n = 0) ∨ ((md = 4 ∨ md = 6) ∧ 0 < n)) ∧ (md = 6 → d = 0) ∧ (md = 1 ∨ md = 2 ∨ md = 3 → 0 < d) ∧ (md = 1 → kd (d - 1) = 40 ∧ pt (d - 1) = 0) ∧
  (md = 3 → nm.length ≤ 3 ∧ (∀ a ∈ nm, a < 26) ∧ S.2.1 (op (d - 1)) 2 = nI nm.length ∧ ∀ j, j < nm.length → S.2.2.1 (op (d - 1)) j = nI (nm.getD j 0)) ∧ (md = 4 → 0 < n ∧ 1 ≤ dg ∧ dg ≤ 4)
def cQt (ad : Nat → Nat → Nat) (S : SS) : MT → Prop := fun (d, md, n, pt, fw, mo, nm, dg) => ∃ op kd, cQ ad S op kd d md n pt fw mo nm dg
def cRes (ad : Nat → Nat → Nat) (v : Option MT) (r : Int32) (S : SS) : Prop := (r = 0 ∧ v = none) ∨ (r = 1 ∧ ∃ t, v = some t ∧ cQt ad S t)
theorem md_add_lt {d j : Nat} {pt : Nat → Nat} (h : j + 1 < d) : md_add d pt j = pt j := by
  unfold md_add
  rw [if_neg (by omega), va_up_ne _ _ (by omega)]
theorem md_add_eq {d : Nat} {pt : Nat → Nat} : md_add (d + 1) pt d = pt d + 1 := by
  unfold md_add
  rw [if_neg (by omega), Nat.add_sub_cancel, va_up_self]
/-- a part is begun in the innermost form, and ended at once -/
theorem cL.leaf {ad : Nat → Nat → Nat} {xf xf' : Nat → Nat → Int32} {fo : Nat → Option Nat} {op kd : Nat → Nat} {n d : Nat} {pt fw mo : Nat → Nat} (h : cL ad xf fo op kd n d pt fw mo) (hp : 0 < d → pt (d - 1) < mo (d - 1)) (hx0 : ∀ j, j < d → xf' (op j) 0 = xf (op j) 0) (hx3 : ∀ j, j < d → xf' (op j) 3 = if j + 1 = d then nI (pt j + 1) else xf (op j) 3) : cL ad xf' fo op kd (n + 1) d (md_add d pt) fw mo := by
  obtain ⟨h1, h2⟩ := h
  refine ⟨fun j hj => ?_, h2⟩
  obtain ⟨⟨a1, a2⟩, ⟨a3, a4⟩, ⟨a5, a6⟩, a7, a8⟩ := h1 j hj
  have e : pcN d (md_add d pt) j = if j + 1 = d then pt j + 1 else pcN d pt j := by
    unfold pcN
    by_cases q : j + 1 < d
    · rw [if_pos q, md_add_lt q, if_neg (by omega), if_pos q]
    · have z : j + 1 = d := by omega
      subst z
      rw [if_neg q, md_add_eq, if_pos rfl]
  refine ⟨⟨a1, by omega⟩, ⟨by rw [hx0 j hj]; exact a3, a4⟩, ⟨a5, a6⟩, ?_, ?_⟩
  · rw [hx3 j hj, e]
    by_cases q : j + 1 = d
    · rw [if_pos q, if_pos q]
    · rw [if_neg q, if_neg q]; exact a7
  · rw [e]
    by_cases q : j + 1 = d
    · rw [if_pos q]
      have := hp (by omega)
      rw [show d - 1 = j by omega] at this
      omega
    · rw [if_neg q]; exact a8
theorem cQ.leaf {ad : Nat → Nat → Nat} {S S' : SS} {op kd : Nat → Nat} {n d : Nat} {pt fw mo : Nat → Nat} {nm : List Nat} {dg : Nat} (h : cQ ad S op kd d 0 n pt fw mo nm dg) (hp : 0 < d → pt (d - 1) < mo (d - 1)) (m' dg' : Nat) (hm : (m' = 4 ∧ dg' = 1) ∨ (m' = if d = 0 then 6 else 0)) (h2 : S'.1 2 = S.1 2) (h3 : S'.1 3 = S.1 3) (h4 : S'.1 4 = nI (if m' = 4 then dg' else 0)) (h5 : S'.1 5 = nI (n + 1)) (hfo : S'.2.2.2 = S.2.2.2) (hx0 : ∀ j, j < d → S'.2.1 (op j) 0 = S.2.1 (op j) 0) (hx3 : ∀ j, j < d → S'.2.1 (op j) 3 = if j + 1 = d then nI (pt j + 1) else S.2.1 (op j) 3) : cQ ad S' op kd d m' (n + 1) (md_add d pt) fw mo nm dg' := by
  obtain ⟨⟨q1, q2, q3, q4⟩, ⟨b1, b2, b3⟩, hL, z1, z2, z3, z4, z5, z6⟩ := h
  have hmc : m' = 0 ∨ m' = 4 ∨ m' = 6 := by
    rcases hm with ⟨e, -⟩ | e
    · omega
    · by_cases hd : d = 0
      · rw [if_pos hd] at e; omega
      · rw [if_neg hd] at e; omega
  have hp3 : nI (phN m') = nI (phN 0) := by rcases hmc with e | e | e <;> rw [e] <;> rfl
  refine ⟨⟨h2.trans q1, h3.trans (q2.trans hp3.symm), h4, h5⟩, ⟨by omega, by omega, by omega⟩, ?_, fun hd => ?_, fun e => ?_, fun e => by omega, fun e => by omega, fun e => by omega, fun e => ?_⟩
  · rw [hfo]; exact hL.leaf hp hx0 hx3
  · rcases hm with ⟨e, -⟩ | e
    · exact Or.inr ⟨Or.inl e, by omega⟩
    · rw [if_pos hd] at e; exact Or.inr ⟨Or.inr e, by omega⟩
  · rcases hm with ⟨e9, -⟩ | e9
    · omega
    · by_cases hd : d = 0
      · exact hd
      · rw [if_neg hd] at e9; omega
  · rcases hm with ⟨-, e9⟩ | e9
    · omega
    · by_cases hd : d = 0
      · rw [if_pos hd] at e9; omega
      · rw [if_neg hd] at e9; omega
theorem cQ.opn {ad : Nat → Nat → Nat} {S S' : SS} {op kd : Nat → Nat} {n d : Nat} {pt fw mo : Nat → Nat} {nm : List Nat} {dg : Nat} (h : cQ ad S op kd d 0 n pt fw mo nm dg) (hp : 0 < d → pt (d - 1) < mo (d - 1)) (h2 : S'.1 2 = nI (d + 1)) (h3 : S'.1 3 = 0) (h4 : S'.1 4 = 0) (h5 : S'.1 5 = nI (n + 1)) (hfo : S'.2.2.2 = va_up S.2.2.2 d (some (ad 3 n))) (hx0 : ∀ j, j < d → S'.2.1 (op j) 0 = S.2.1 (op j) 0) (hx3 : ∀ j, j < d → S'.2.1 (op j) 3 = if j + 1 = d then nI (pt j + 1) else S.2.1 (op j) 3) (hn0 : S'.2.1 n 0 = nI 40) (hn3 : S'.2.1 n 3 = 0) : cQ ad S' (va_up op d n) (va_up kd d 40) (d + 1) 1 (n + 1) (va_up pt d 0) (va_up fw d 1) (va_up mo d 4) nm dg := by
  obtain ⟨⟨q1, q2, q3, q4⟩, ⟨b1, b2, b3⟩, ⟨hL1, hL2⟩, z1, z2, z3, z4, z5, z6⟩ := h
  refine ⟨⟨h2, h3, h4, h5⟩, ⟨by omega, by decide, by decide⟩, ⟨fun j hj => ?_, fun j k hjk hk => ?_⟩, fun e => by omega, fun e => by omega, fun _ => by omega, fun _ => ?_, fun e => by omega, fun e => by omega⟩
  · rw [hfo]
    by_cases e : j = d
    · subst e
      rw [va_up_self, va_up_self, va_up_self, va_up_self, va_up_self]
      have : pcN (j + 1) (va_up pt j 0) j = 0 := by unfold pcN; rw [if_neg (by omega), va_up_self]
      rw [this]
      exact ⟨⟨rfl, by omega⟩, ⟨hn0, by decide⟩, ⟨by decide, by decide⟩, hn3, by omega⟩
    · have hjd : j < d := by omega
      obtain ⟨⟨a1, a2⟩, ⟨a3, a4⟩, ⟨a5, a6⟩, a7, a8⟩ := hL1 j hjd
      rw [va_up_ne _ _ e, va_up_ne _ _ e, va_up_ne _ _ e, va_up_ne _ _ e, va_up_ne _ _ e]
      have e2 : pcN (d + 1) (va_up pt d 0) j = pt j + 1 := by unfold pcN; rw [if_pos (by omega), va_up_ne _ _ e]
      refine ⟨⟨a1, by omega⟩, ⟨by rw [hx0 j hjd]; exact a3, a4⟩, ⟨a5, a6⟩, ?_, ?_⟩
      · rw [e2, hx3 j hjd]
        by_cases q : j + 1 = d
        · rw [if_pos q]
        · rw [if_neg q, a7]; unfold pcN; rw [if_pos (by omega)]
      · rw [e2]
        by_cases q : j + 1 = d
        · have := hp (by omega)
          rw [show d - 1 = j by omega] at this
          omega
        · unfold pcN at a8; rw [if_pos (by omega)] at a8; exact a8
  · by_cases e : k = d
    · subst e
      rw [va_up_self, va_up_ne _ _ (show j ≠ k by omega)]
      exact (hL1 j hjk).1.2
    · rw [va_up_ne _ _ e, va_up_ne _ _ (show j ≠ d by omega)]
      exact hL2 j k hjk (by omega)
  · rw [Nat.add_sub_cancel, va_up_self, va_up_self]; exact ⟨rfl, rfl⟩
theorem cQ.close {ad : Nat → Nat → Nat} {S S' : SS} {op kd : Nat → Nat} {n d : Nat} {pt fw mo : Nat → Nat} {nm : List Nat} {dg : Nat} (h : cQ ad S op kd (d + 1) 0 n pt fw mo nm dg) (h2 : S'.1 2 = nI d) (h3 : S'.1 3 = S.1 3) (h4 : S'.1 4 = S.1 4) (h5 : S'.1 5 = S.1 5) (hx : S'.2 = S.2) : cQ ad S' op kd d (if d = 0 then 6 else 0) n (md_add d pt) fw mo nm dg := by
  obtain ⟨⟨q1, q2, q3, q4⟩, ⟨b1, b2, b3⟩, ⟨hL1, hL2⟩, z1, z2, z3, z4, z5, z6⟩ := h
  have hmd : (if d = 0 then 6 else 0) = 6 ∧ d = 0 ∨ (if d = 0 then 6 else 0) = 0 ∧ 0 < d := by
    by_cases hd : d = 0
    · rw [if_pos hd]; exact Or.inl ⟨rfl, hd⟩
    · rw [if_neg hd]; exact Or.inr ⟨rfl, by omega⟩
  have hp3 : nI (phN (if d = 0 then 6 else 0)) = nI (phN 0) := by rcases hmd with ⟨e, -⟩ | ⟨e, -⟩ <;> rw [e] <;> rfl
  have h44 : (if (if d = 0 then 6 else 0) = 4 then dg else 0) = 0 := by rcases hmd with ⟨e, -⟩ | ⟨e, -⟩ <;> rw [e] <;> rfl
  refine ⟨⟨h2, h3.trans (q2.trans hp3.symm), by rw [h44]; exact h4.trans q3, h5.trans q4⟩, ⟨by omega, by omega, by omega⟩, ⟨fun j hj => ?_, fun j k hjk hk => hL2 j k hjk (by omega)⟩, fun hd => Or.inr ⟨Or.inr (by rw [if_pos hd]), by omega⟩, fun e => by omega, fun e => by omega, fun e => by omega, fun e => by omega, fun e => by omega⟩
  obtain ⟨⟨a1, a2⟩, ⟨a3, a4⟩, ⟨a5, a6⟩, a7, a8⟩ := hL1 j (by omega)
  have e2 : pcN (d + 1) pt j = pt j + 1 := by unfold pcN; rw [if_pos (by omega)]
  have e3 : pcN d (md_add d pt) j = pt j + 1 := by
    unfold pcN
    by_cases q : j + 1 < d
    · rw [if_pos q, md_add_lt q]
    · have z : j + 1 = d := by omega
      subst z
      rw [if_neg q, md_add_eq]
  rw [hx, e3, ← e2]
  exact ⟨⟨a1, a2⟩, ⟨a3, a4⟩, ⟨a5, a6⟩, a7, a8⟩
/-- the mode becomes 0, within a form -/
theorem cQ.to0 {ad : Nat → Nat → Nat} {S S' : SS} {op kd : Nat → Nat} {n d md : Nat} {pt fw mo : Nat → Nat} {nm : List Nat} {dg : Nat} (h : cQ ad S op kd (d + 1) md n pt fw mo nm dg) (h2 : S'.1 2 = S.1 2) (h3 : S'.1 3 = 3) (h4 : S'.1 4 = 0) (h5 : S'.1 5 = S.1 5) (hfo : S'.2.2.2 = S.2.2.2) (hx0 : ∀ j, S'.2.1 j 0 = S.2.1 j 0) (hx3 : ∀ j, S'.2.1 j 3 = S.2.1 j 3) : cQ ad S' op kd (d + 1) 0 n pt fw mo nm dg := by
  obtain ⟨⟨q1, q2, q3, q4⟩, ⟨b1, b2, b3⟩, ⟨hL1, hL2⟩, z1, z2, z3, z4, z5, z6⟩ := h
  refine ⟨⟨h2.trans q1, h3, h4, h5.trans q4⟩, ⟨by omega, by omega, by omega⟩, ⟨fun j hj => ?_, hL2⟩, fun hd => by omega, fun e => by omega, fun e => by omega, fun e => by omega, fun e => by omega, fun e => by omega⟩
  rw [hfo, hx0, hx3]
  exact hL1 j hj
theorem cQ.oper {ad : Nat → Nat → Nat} {S S' : SS} {op kd : Nat → Nat} {n d k m' : Nat} {pt fw mo : Nat → Nat} {nm : List Nat} {dg : Nat} (h : cQ ad S op kd (d + 1) 1 n pt fw mo nm dg) (hk : k ∈ formK) (hk40 : k ≠ 40) (hm : m' = 0 ∨ m' = 2 ∨ m' = 3) (h2 : S'.1 2 = S.1 2) (h3 : S'.1 3 = nI (phN m')) (h4 : S'.1 4 = 0) (h5 : S'.1 5 = S.1 5) (hfo : S'.2.2.2 = S.2.2.2) (ho : ∀ j, j ≠ op d → S'.2.1 j = S.2.1 j) (h0 : S'.2.1 (op d) 0 = nI k) (hc2 : S'.2.1 (op d) 2 = 0) (hc3 : S'.2.1 (op d) 3 = 0) : cQ ad S' op (va_up kd d k) (d + 1) m' n pt (va_up fw d (md_arN (nI k))) (va_up mo d (md_arN (nI k))) [] dg := by
  obtain ⟨⟨q1, q2, q3, q4⟩, ⟨b1, b2, b3⟩, ⟨hL1, hL2⟩, z1, z2, z3, z4, z5, z6⟩ := h
  obtain ⟨-, y2⟩ := z4 rfl
  have y2 : pt d = 0 := y2
  refine ⟨⟨h2.trans q1, h3, by rw [h4, if_neg (by omega)]; rfl, h5.trans q4⟩, ⟨by omega, by omega, by omega⟩, ⟨fun j hj => ?_, hL2⟩, fun hd => by omega, fun e => by omega, fun e => by omega, fun e => by omega, fun e => ⟨by simp, fun _ z => absurd z List.not_mem_nil, by rw [Nat.add_sub_cancel]; exact hc2, fun j hj => absurd hj (Nat.not_lt_zero j)⟩, fun e => by omega⟩
  obtain ⟨⟨a1, a2⟩, ⟨a3, a4⟩, ⟨a5, a6⟩, a7, a8⟩ := hL1 j hj
  rw [hfo]
  by_cases e : j = d
  · subst e
    have e3 : pcN (j + 1) pt j = 0 := by unfold pcN; rw [if_neg (by omega), y2]
    rw [va_up_self, va_up_self, va_up_self, e3]
    exact ⟨⟨a1, a2⟩, ⟨h0, hk⟩, ⟨by unfold mpN; rw [if_neg hk40], by unfold fwN; rw [if_neg hk40]⟩, hc3, by omega⟩
  · rw [va_up_ne _ _ e, va_up_ne _ _ e, va_up_ne _ _ e]
    have hne : op j ≠ op d := by have := hL2 j d (by omega) (by omega); omega
    rw [ho _ hne]
    exact ⟨⟨a1, a2⟩, ⟨a3, a4⟩, ⟨a5, a6⟩, a7, a8⟩
theorem cQ.name {ad : Nat → Nat → Nat} {S S' : SS} {op kd : Nat → Nat} {n d q : Nat} {pt fw mo : Nat → Nat} {nm : List Nat} {dg : Nat} (h : cQ ad S op kd (d + 1) 3 n pt fw mo nm dg) (hl : nm.length < 3) (hq : q < 26) (h1 : S'.1 = S.1) (hfo : S'.2.2.2 = S.2.2.2) (hx : S'.2.1 = va_up S.2.1 (op d) (va_up (S.2.1 (op d)) 2 (nI (nm.length + 1)))) (hn : S'.2.2.1 = va_up S.2.2.1 (op d) (upd (S.2.2.1 (op d)) nm.length (nI q))) : cQ ad S' op kd (d + 1) 3 n pt fw mo (nm ++ [q]) dg := by
  obtain ⟨⟨q1, q2, q3, q4⟩, ⟨b1, b2, b3⟩, ⟨hL1, hL2⟩, z1, z2, z3, z4, z5, z6⟩ := h
  obtain ⟨y1, y2, y3, y4⟩ := z5 rfl
  have h0 : ∀ j, S'.2.1 j 0 = S.2.1 j 0 := fun j => by rw [hx]; by_cases e : j = op d <;> simp [va_up, e]
  have h3 : ∀ j, S'.2.1 j 3 = S.2.1 j 3 := fun j => by rw [hx]; by_cases e : j = op d <;> simp [va_up, e]
  refine ⟨⟨by rw [h1]; exact q1, by rw [h1]; exact q2, by rw [h1]; exact q3, by rw [h1]; exact q4⟩, ⟨by omega, by omega, by omega⟩, ⟨fun j hj => ?_, hL2⟩, fun hd => by omega, fun e => by omega, fun e => by omega, fun e => by omega, fun _ => ⟨by simp; omega, fun a ha => ?_, ?_, fun j hj => ?_⟩, fun e => by omega⟩
  · rw [hfo, h0, h3]; exact hL1 j hj
  · rcases List.mem_append.mp ha with z | z
    · exact y2 a z
    · rw [List.mem_singleton.mp z]; exact hq
  · rw [Nat.add_sub_cancel, hx, List.length_append]; simp [va_up]
  · rw [Nat.add_sub_cancel] at y4 ⊢
    rw [hn, va_up_self]
    by_cases e : j = nm.length
    · subst e; rw [upd_s]; simp
    · have hj2 : j < nm.length := by rw [List.length_append] at hj; simp at hj; omega
      rw [upd_n e, y4 j hj2]
      simp [List.getElem?_append_left hj2]
theorem cQ.digit {ad : Nat → Nat → Nat} {S S' : SS} {op kd : Nat → Nat} {n d : Nat} {pt fw mo : Nat → Nat} {nm : List Nat} {dg : Nat} (h : cQ ad S op kd d 4 n pt fw mo nm dg) (hd4 : dg + 1 ≤ 4) (h2 : S'.1 2 = S.1 2) (h3 : S'.1 3 = S.1 3) (h4 : S'.1 4 = nI (dg + 1)) (h5 : S'.1 5 = S.1 5) (hfo : S'.2.2.2 = S.2.2.2) (hx0 : ∀ j, S'.2.1 j 0 = S.2.1 j 0) (hx3 : ∀ j, S'.2.1 j 3 = S.2.1 j 3) : cQ ad S' op kd d 4 n pt fw mo nm (dg + 1) := by
  obtain ⟨⟨q1, q2, q3, q4⟩, ⟨b1, b2, b3⟩, ⟨hL1, hL2⟩, z1, z2, z3, z4, z5, z6⟩ := h
  refine ⟨⟨h2.trans q1, h3.trans q2, h4, h5.trans q4⟩, ⟨by omega, by omega, by omega⟩, ⟨fun j hj => ?_, hL2⟩, z1, z2, z3, fun e => by omega, fun e => by omega, fun e => ⟨(z6 e).1, by omega, hd4⟩⟩
  rw [hfo, hx0, hx3]
  exact hL1 j hj
set_option maxHeartbeats 4000000 in
set_option maxRecDepth 100000 in
theorem e_Reader_openForm (l : Launch) (s0 : State) (D : va_G) (T : Nat → ClassId) (A : Nat → Prop) (hA : ∀ q, A q → s0.heap.size ≤ q) (h0 : Nat → Option va_E) (ad : Nat → Nat → Nat) (rf : Nat → Int32) (xf nf : Nat → Nat → Int32) (fo : Nat → Option Nat) (i : Nat) (hi : i < 120) (d : Nat) (hd : rf 2 = nI d) (hd12 : d < 12) :
    Met l y_Reader_openForm (.code y_Reader_openForm b_Reader_openForm 2 (some .boolean) :: lw_g) ({ frames := 0, cells := 0, slots := 0, locals := 0 }) (va_Pc [.ref (ad 0 0), .ref (ad 3 (i))] (rP s0 D T A h0 ad rf xf nf fo)) (va_Qi (fun r S => r = 1 ∧ S = (va_up (va_up rf 2 (nI (d + 1))) 3 0, xf, nf, va_up fo d (some (ad 3 i)))) (rB D T A h0 ad) A) 0 0 A := by
  refine Met.ofW (cc := b_Reader_openForm) (maxL := 2) (ret := (some .boolean)) (by decide) rfl ?_
  intro p e s m args below meth c s₁ B hml hv
  obtain ⟨rfl, hxB, hM, hK⟩ := hv
  have hx := B.exec
  have hb := B.bytes
  have hr := B.returns
  have hlocks := B.notSynchronized
  have hts := atoms_spec (ws := (.code y_Reader_openForm b_Reader_openForm 2 (some .boolean) :: lw_g)) B.pre
  have hown : s.vm.findClass R_Reader = some m.cls := findClass_of_methodNamed B.named
  have K : cK D T R_Reader s m _ := ⟨fun w h => hts w (List.mem_cons_of_mem _ h), hown, hK⟩
  have hS : va_S A s.heap s.heap [] := va_S.rf
  have hl := lv_entry ([.ref (ad 0 0), .ref (ad 3 (i))]) (n := 2) (Nat.le_of_ble_eq_true rfl)
  rw [lg_entry_eq]
  generalize (lg_sl ([.ref (ad 0 0), .ref (ad 3 (i))]) ++ List.replicate (2 - (lg_sl ([.ref (ad 0 0), .ref (ad 3 (i))])).length) Slot.unset).toArray = ls at hl ⊢
  have hl : lv_has ls 2 [(0, .ref (ad 0 0)), (1, .ref (ad 3 (i)))] := hl
  refine lv_aload_n hx hb d_Reader_openForm_0 rfl (lv_at hl 0 rfl) ?_
  refine R_get hx hb K hM 2 (v := .int (nI d)) (rd2 hd) k_Reader_f25 d_Reader_openForm_1 (kk := ?_)
  refine lv_bipush (v := 12) hx hb d_Reader_openForm_4 (by decide) ?_
  refine lv_icmp_lt (tgt := 11) hx hb d_Reader_openForm_6 (by decide) (fun c_6 => ?_) (fun c_6 => absurd (nI_lt hd12 (by decide)) c_6)
  refine lv_aload_n hx hb d_Reader_openForm_11 rfl (lv_at hl 0 rfl) ?_
  refine R_get hx hb K hM 1 (v := .ref (ad 2 0)) rfl k_Reader_f17 d_Reader_openForm_12 (kk := ?_)
  refine lv_aload_n hx hb d_Reader_openForm_15 rfl (lv_at hl 0 rfl) ?_
  refine R_get hx hb K hM 2 (v := .int (nI d)) (rd2 hd) k_Reader_f25 d_Reader_openForm_16 (kk := ?_)
  refine lv_aload_n hx hb d_Reader_openForm_19 rfl (lv_at hl 1 rfl) ?_
  refine R_opst hx hb K hM hS (j := d) (i := i) hd12 hi d_Reader_openForm_20 (fun H locs hM hS => ?_)
  refine lv_aload_n hx hb d_Reader_openForm_21 rfl (lv_at hl 0 rfl) ?_
  refine lv_dup hx hb d_Reader_openForm_22 rfl ?_
  refine R_get hx hb K hM 2 (v := .int (nI d)) (rd2 hd) k_Reader_f25 d_Reader_openForm_23 (kk := ?_)
  refine lv_iconst (v := 1) hx hb d_Reader_openForm_26 (by decide) ?_
  refine lv_iadd hx hb d_Reader_openForm_27 ?_
  refine lv_as (v := nI (d + 1)) (nI_1 d) ?_
  refine R_put hx hb K hM hS 2 k_Reader_f25 d_Reader_openForm_28 (kk := fun H locs hM hS => ?_)
  refine lv_aload_n hx hb d_Reader_openForm_31 rfl (lv_at hl 0 rfl) ?_
  refine lv_iconst (v := 0) hx hb d_Reader_openForm_32 (by decide) ?_
  refine R_put hx hb K hM hS 3 k_Reader_f28 d_Reader_openForm_33 (kk := fun H locs hM hS => ?_)
  refine lv_iconst (v := 1) hx hb d_Reader_openForm_36 (by decide) ?_
  refine W.zret (v := (1)) hx hb hr rfl (r_endi hM hS ?_) hS.2.2 d_Reader_openForm_37
  exact ⟨rfl, rfl⟩
def tE (ad : Nat → Nat → Nat) (c n d : Nat) (rf : Nat → Int32) (xf nf : Nat → Nat → Int32) (fo : Nat → Option Nat) (r : Int32) (S : SS) : Prop :=
  S.2.2.1 = nf ∧ (∀ j, j ≠ n → S.2.1 j = xf j) ∧ (
   (r = 1 ∧ (¬ nI c < 48 ∧ ¬ 57 < nI c) ∧ S.1 = va_up (va_up rf 5 (nI (n + 1))) 4 1 ∧ S.2.2.2 = fo) ∨
   (r = 1 ∧ (nI c < 48 ∨ 57 < nI c) ∧ ((¬ nI c < 97 ∧ ¬ 122 < nI c) ∨ nI c = 95) ∧ S.1 = va_up rf 5 (nI (n + 1)) ∧ S.2.2.2 = fo) ∨
   (r = 1 ∧ nI c = 40 ∧ S.1 = va_up (va_up (va_up rf 5 (nI (n + 1))) 2 (nI (d + 1))) 3 0 ∧ S.2.2.2 = va_up fo d (some (ad 3 n)) ∧ S.2.1 n 0 = nI 40 ∧ S.2.1 n 3 = 0) ∨
   (r = 0 ∧ (nI c < 48 ∨ 57 < nI c) ∧ (nI c < 97 ∨ 122 < nI c) ∧ ¬ nI c = 95 ∧ ¬ nI c = 40))
set_option maxHeartbeats 4000000 in
set_option maxRecDepth 100000 in
theorem e_Reader_takeExpression (l : Launch) (s0 : State) (D : va_G) (T : Nat → ClassId) (A : Nat → Prop) (hA : ∀ q, A q → s0.heap.size ≤ q) (h0 : Nat → Option va_E) (ad : Nat → Nat → Nat) (rf : Nat → Int32) (xf nf : Nat → Nat → Int32) (fo : Nat → Option Nat) (sg : Nat) (hsg : sg < 65536) (n : Nat) (hn : n < 120) (hu : rf 5 = nI n) (d : Nat) (hd : rf 2 = nI d) (hd12 : d < 12) :
    Met l y_Reader_takeExpression (.code y_Reader_takeExpression b_Reader_takeExpression 3 (some .boolean) :: lw_g) ({ frames := 1, cells := 0, slots := 0, locals := 22 }) (va_Pc [.ref (ad 0 0), .int (nI sg)] (rP s0 D T A h0 ad rf xf nf fo)) (va_Qi (tE ad sg n d rf xf nf fo) (rB D T A h0 ad) A) 0 0 A := by
  refine Met.ofW (cc := b_Reader_takeExpression) (maxL := 3) (ret := (some .boolean)) (by decide) rfl ?_
  intro p e s m args below meth c s₁ B hml hv
  obtain ⟨rfl, hxB, hM, hK⟩ := hv
  have hx := B.exec
  have hb := B.bytes
  have hr := B.returns
  have hlocks := B.notSynchronized
  have hts := atoms_spec (ws := (.code y_Reader_takeExpression b_Reader_takeExpression 3 (some .boolean) :: lw_g)) B.pre
  have hown : s.vm.findClass R_Reader = some m.cls := findClass_of_methodNamed B.named
  have K : cK D T R_Reader s m _ := ⟨fun w h => hts w (List.mem_cons_of_mem _ h), hown, hK⟩
  have hS : va_S A s.heap s.heap [] := va_S.rf
  have hl := lv_entry ([.ref (ad 0 0), .int (nI sg)]) (n := 3) (Nat.le_of_ble_eq_true rfl)
  rw [lg_entry_eq]
  generalize (lg_sl ([.ref (ad 0 0), .int (nI sg)]) ++ List.replicate (3 - (lg_sl ([.ref (ad 0 0), .int (nI sg)])).length) Slot.unset).toArray = ls at hl ⊢
  have hl : lv_has ls 3 [(0, .ref (ad 0 0)), (1, .int (nI sg))] := hl
  refine lv_aload_n hx hb d_Reader_takeExpression_0 rfl (lv_at hl 0 rfl) ?_
  refine R_get hx hb K hM 5 (v := .int (nI n)) (rd5 hu) k_Reader_f21 d_Reader_takeExpression_1 (kk := ?_)
  refine lv_bipush (v := 120) hx hb d_Reader_takeExpression_4 (by decide) ?_
  refine lv_icmp_lt (tgt := 11) hx hb d_Reader_takeExpression_6 (by decide) (fun c_6 => ?_) (fun c_6 => absurd (nI_lt hn (by decide)) c_6)
  refine lv_aload_n hx hb d_Reader_takeExpression_11 rfl (lv_at hl 0 rfl) ?_
  refine R_get hx hb K hM 0 (v := .ref (ad 1 0)) rfl k_Reader_f11 d_Reader_takeExpression_12 (kk := ?_)
  refine lv_aload_n hx hb d_Reader_takeExpression_15 rfl (lv_at hl 0 rfl) ?_
  refine R_get hx hb K hM 5 (v := .int (nI n)) (rd5 hu) k_Reader_f21 d_Reader_takeExpression_16 (kk := ?_)
  refine R_ex hx hb K hM (i := n) hn d_Reader_takeExpression_19 ?_
  refine lv_astore_n (lv' := [(2, .ref (ad 3 (n))), (0, .ref (ad 0 0)), (1, .int (nI sg))]) hx hb d_Reader_takeExpression_20 rfl hl (by decide) rfl (fun ls hl => ?_)
  refine lv_aload_n hx hb d_Reader_takeExpression_21 rfl (lv_at hl 1 rfl) ?_
  refine lv_dup hx hb d_Reader_takeExpression_22 rfl ?_
  refine R_get hx hb K hM 5 (v := .int (nI n)) (rd5 hu) k_Reader_f21 d_Reader_takeExpression_23 (kk := ?_)
  refine lv_iconst (v := 1) hx hb d_Reader_takeExpression_26 (by decide) ?_
  refine lv_iadd hx hb d_Reader_takeExpression_27 ?_
  refine lv_as (v := nI (n + 1)) (nI_1 n) ?_
  refine R_put hx hb K hM hS 5 k_Reader_f21 d_Reader_takeExpression_28 (kk := fun H locs hM hS => ?_)
  refine lv_iload_n hx hb d_Reader_takeExpression_31 rfl (lv_at hl 2 rfl) ?_
  refine va_calli (S_run (As := [.int (nI sg)]) (rest := []) (n := 1) hx hb hml K (e_Reader_isDigit l (nI sg)) kc_Reader_isDigit k_Reader_m38 ks_Reader_isDigit k_Reader_ini rfl rfl (by decide +kernel) ⟨Nat.le_of_ble_eq_true rfl, Nat.le_of_ble_eq_true rfl⟩ rfl hl.1 rfl (lv_room (Nat.le_of_ble_eq_true rfl)) d_Reader_takeExpression_32 ⟨Nat.le_of_ble_eq_true rfl, Nat.le_of_ble_eq_true rfl⟩) hS (fun q _ h => h.elim) (fun q h => h.elim) (fun r S t H1 locs1 ht hvm hw hB hz hk hS => ?_)
  replace hM := hM.kept hk
  rcases hw with ⟨rfl, g1, g2⟩ | ⟨rfl, g12⟩
  · skip
    refine lv_if_eq (tgt := 55) hx hb d_Reader_takeExpression_35 (by decide) (fun c_35 => absurd c_35 (by decide)) (fun c_35 => ?_)
    refine lv_aload_n hx hb d_Reader_takeExpression_38 rfl (lv_at hl 0 rfl) ?_
    refine lv_bipush (v := 48) hx hb d_Reader_takeExpression_39 (by decide) ?_
    refine lv_iload_n hx hb d_Reader_takeExpression_41 rfl (lv_at hl 2 rfl) ?_
    refine lv_bipush (v := 48) hx hb d_Reader_takeExpression_42 (by decide) ?_
    refine lv_isub hx hb d_Reader_takeExpression_44 ?_
    refine va_callv (R_run (As := [.int (48), .int ((nI sg) - (48))]) (rest := []) (n := 2) hx hb hml K hM hxB hA hS (fun _ q => (q.2.2.2.1 _ hn).1) (C := R_Expression) (ci := 3) rfl (e_Expression_become l s0 D T A hA h0 ad _ _ _ _ n hn 48 (by decide) (nI sg - 48)) kc_Expression_become k_Reader_m71 ki_Expression_become ke_Expression_become k_Expression_ini rfl rfl (by decide +kernel) ⟨Nat.le_of_ble_eq_true rfl, Nat.le_of_ble_eq_true rfl⟩ rfl hl.1 rfl (lv_room (Nat.le_of_ble_eq_true rfl)) d_Reader_takeExpression_45 ⟨Nat.le_of_ble_eq_true rfl, Nat.le_of_ble_eq_true rfl⟩) hS (fun q _ h => h) (fun q h => h) (fun S t H1 locs1 ht hvm hw hB hz hk hS => ?_)
    replace hM : RW D T A h0 ad S.1 S.2.1 S.2.2.1 S.2.2.2 H1 := by rw [← ht]; exact hB
    obtain ⟨hs1, hs2, ⟨hs3, hs4, hs5, hs6⟩, hs7⟩ := hw
    obtain ⟨rf2, xf2, nf2, fo2⟩ := S
    dsimp only at hM hs1 hs2 hs3 hs4 hs5 hs6 hs7
    obtain rfl := hs1
    obtain ⟨e1, e2⟩ := Prod.mk.inj hs2.symm
    obtain rfl := e1
    obtain rfl := e2
    refine lv_aload_n hx hb d_Reader_takeExpression_48 rfl (lv_at hl 1 rfl) ?_
    refine lv_iconst (v := 1) hx hb d_Reader_takeExpression_49 (by decide) ?_
    refine R_put hx hb K hM hS 4 k_Reader_f31 d_Reader_takeExpression_50 (kk := fun H locs hM hS => ?_)
    refine lv_iconst (v := 1) hx hb d_Reader_takeExpression_53 (by decide) ?_
    refine W.zret (v := (1)) hx hb hr rfl (r_endi hM hS ?_) hS.2.2 d_Reader_takeExpression_54
    exact ⟨rfl, hs7, Or.inl ⟨rfl, ⟨g1, g2⟩, rfl, rfl⟩⟩
  · skip
    refine lv_if_eq (tgt := 55) hx hb d_Reader_takeExpression_35 (by decide) (fun c_35 => ?_) (fun c_35 => absurd rfl c_35)
    refine lv_iload_n hx hb d_Reader_takeExpression_55 rfl (lv_at hl 2 rfl) ?_
    refine va_calli (S_run (As := [.int (nI sg)]) (rest := []) (n := 1) hx hb hml K (e_Reader_isName l (nI sg)) kc_Reader_isName k_Reader_m75 ks_Reader_isName k_Reader_ini rfl rfl (by decide +kernel) ⟨Nat.le_of_ble_eq_true rfl, Nat.le_of_ble_eq_true rfl⟩ rfl hl.1 rfl (lv_room (Nat.le_of_ble_eq_true rfl)) d_Reader_takeExpression_56 ⟨Nat.le_of_ble_eq_true rfl, Nat.le_of_ble_eq_true rfl⟩) hS (fun q _ h => h.elim) (fun q h => h.elim) (fun r S t H1 locs1 ht hvm hw hB hz hk hS => ?_)
    replace hM := hM.kept hk
    rcases hw with ⟨rfl, g3, g4⟩ | ⟨rfl, g34⟩
    · skip
      refine lv_if_eq (tgt := 74) hx hb d_Reader_takeExpression_59 (by decide) (fun c_59 => absurd c_59 (by decide)) (fun c_59 => ?_)
      refine lv_aload_n hx hb d_Reader_takeExpression_62 rfl (lv_at hl 0 rfl) ?_
      refine lv_bipush (v := 97) hx hb d_Reader_takeExpression_63 (by decide) ?_
      refine lv_iload_n hx hb d_Reader_takeExpression_65 rfl (lv_at hl 2 rfl) ?_
      refine lv_bipush (v := 97) hx hb d_Reader_takeExpression_66 (by decide) ?_
      refine lv_isub hx hb d_Reader_takeExpression_68 ?_
      refine va_callv (R_run (As := [.int (97), .int ((nI sg) - (97))]) (rest := []) (n := 2) hx hb hml K hM hxB hA hS (fun _ q => (q.2.2.2.1 _ hn).1) (C := R_Expression) (ci := 3) rfl (e_Expression_become l s0 D T A hA h0 ad _ _ _ _ n hn 97 (by decide) (nI sg - 97)) kc_Expression_become k_Reader_m71 ki_Expression_become ke_Expression_become k_Expression_ini rfl rfl (by decide +kernel) ⟨Nat.le_of_ble_eq_true rfl, Nat.le_of_ble_eq_true rfl⟩ rfl hl.1 rfl (lv_room (Nat.le_of_ble_eq_true rfl)) d_Reader_takeExpression_69 ⟨Nat.le_of_ble_eq_true rfl, Nat.le_of_ble_eq_true rfl⟩) hS (fun q _ h => h) (fun q h => h) (fun S t H1 locs1 ht hvm hw hB hz hk hS => ?_)
      replace hM : RW D T A h0 ad S.1 S.2.1 S.2.2.1 S.2.2.2 H1 := by rw [← ht]; exact hB
      obtain ⟨hs1, hs2, ⟨hs3, hs4, hs5, hs6⟩, hs7⟩ := hw
      obtain ⟨rf2, xf2, nf2, fo2⟩ := S
      dsimp only at hM hs1 hs2 hs3 hs4 hs5 hs6 hs7
      obtain rfl := hs1
      obtain ⟨e1, e2⟩ := Prod.mk.inj hs2.symm
      obtain rfl := e1
      obtain rfl := e2
      refine lv_iconst (v := 1) hx hb d_Reader_takeExpression_72 (by decide) ?_
      refine W.zret (v := (1)) hx hb hr rfl (r_endi hM hS ?_) hS.2.2 d_Reader_takeExpression_73
      exact ⟨rfl, hs7, Or.inr (Or.inl ⟨rfl, g12, Or.inl ⟨g3, g4⟩, rfl, rfl⟩)⟩
    · skip
      refine lv_if_eq (tgt := 74) hx hb d_Reader_takeExpression_59 (by decide) (fun c_59 => ?_) (fun c_59 => absurd rfl c_59)
      refine lv_aload_n hx hb d_Reader_takeExpression_74 rfl (lv_at hl 0 rfl) ?_
      refine lv_iload_n hx hb d_Reader_takeExpression_75 rfl (lv_at hl 2 rfl) ?_
      refine lv_iconst (v := 0) hx hb d_Reader_takeExpression_76 (by decide) ?_
      refine va_callv (R_run (As := [.int (nI sg), .int (0)]) (rest := []) (n := 2) hx hb hml K hM hxB hA hS (fun _ q => (q.2.2.2.1 _ hn).1) (C := R_Expression) (ci := 3) rfl (e_Expression_become l s0 D T A hA h0 ad _ _ _ _ n hn sg hsg (0)) kc_Expression_become k_Reader_m71 ki_Expression_become ke_Expression_become k_Expression_ini rfl rfl (by decide +kernel) ⟨Nat.le_of_ble_eq_true rfl, Nat.le_of_ble_eq_true rfl⟩ rfl hl.1 rfl (lv_room (Nat.le_of_ble_eq_true rfl)) d_Reader_takeExpression_77 ⟨Nat.le_of_ble_eq_true rfl, Nat.le_of_ble_eq_true rfl⟩) hS (fun q _ h => h) (fun q h => h) (fun S t H1 locs1 ht hvm hw hB hz hk hS => ?_)
      replace hM : RW D T A h0 ad S.1 S.2.1 S.2.2.1 S.2.2.2 H1 := by rw [← ht]; exact hB
      obtain ⟨hs1, hs2, ⟨hs3, hs4, hs5, hs6⟩, hs7⟩ := hw
      obtain ⟨rf2, xf2, nf2, fo2⟩ := S
      dsimp only at hM hs1 hs2 hs3 hs4 hs5 hs6 hs7
      obtain rfl := hs1
      obtain ⟨e1, e2⟩ := Prod.mk.inj hs2.symm
      obtain rfl := e1
      obtain rfl := e2
      refine lv_iload_n hx hb d_Reader_takeExpression_80 rfl (lv_at hl 2 rfl) ?_
      refine lv_bipush (v := 95) hx hb d_Reader_takeExpression_81 (by decide) ?_
      refine lv_icmp_eq (tgt := 100) hx hb d_Reader_takeExpression_83 (by decide) (fun c_83 => ?_) (fun c_83 => ?_)
      · skip
        refine lv_iconst (v := 1) hx hb d_Reader_takeExpression_100 (by decide) ?_
        refine lv_goto (tgt := 105) hx hb d_Reader_takeExpression_101 (by decide) ?_
        refine W.zret (v := (1)) hx hb hr rfl (r_endi hM hS ?_) hS.2.2 d_Reader_takeExpression_105
        exact ⟨rfl, hs7, Or.inr (Or.inl ⟨rfl, g12, Or.inr c_83, rfl, rfl⟩)⟩
      · skip
        refine lv_iload_n hx hb d_Reader_takeExpression_86 rfl (lv_at hl 2 rfl) ?_
        refine lv_bipush (v := 40) hx hb d_Reader_takeExpression_87 (by decide) ?_
        refine lv_icmp_ne (tgt := 104) hx hb d_Reader_takeExpression_89 (by decide) (fun c_89 => ?_) (fun c_89 => ?_)
        · skip
          refine lv_iconst (v := 0) hx hb d_Reader_takeExpression_104 (by decide) ?_
          refine W.zret (v := (0)) hx hb hr rfl (r_endi hM hS ?_) hS.2.2 d_Reader_takeExpression_105
          exact ⟨rfl, hs7, Or.inr (Or.inr (Or.inr ⟨rfl, g12, g34, c_83, c_89⟩))⟩
        · skip
          refine lv_aload_n hx hb d_Reader_takeExpression_92 rfl (lv_at hl 1 rfl) ?_
          refine lv_aload_n hx hb d_Reader_takeExpression_93 rfl (lv_at hl 0 rfl) ?_
          refine va_calli (R_run (As := [.ref (ad 3 (n))]) (rest := []) (n := 1) hx hb hml K hM hxB hA hS (fun _ q => q.1) (C := R_Reader) (ci := 2) rfl (e_Reader_openForm l s0 D T A hA h0 ad _ _ _ _ n hn d hd hd12) kc_Reader_openForm k_Reader_m90 ki_Reader_openForm ke_Reader_openForm k_Reader_ini rfl rfl (by decide +kernel) ⟨Nat.le_of_ble_eq_true rfl, Nat.le_of_ble_eq_true rfl⟩ rfl hl.1 rfl (lv_room (Nat.le_of_ble_eq_true rfl)) d_Reader_takeExpression_94 ⟨Nat.le_of_ble_eq_true rfl, Nat.le_of_ble_eq_true rfl⟩) hS (fun q _ h => h) (fun q h => h) (fun r S t H1 locs1 ht hvm hw hB hz hk hS => ?_)
          replace hM : RW D T A h0 ad S.1 S.2.1 S.2.2.1 S.2.2.2 H1 := by rw [← ht]; exact hB
          obtain ⟨rfl, rfl⟩ := hw
          dsimp only at hM
          refine lv_if_eq (tgt := 104) hx hb d_Reader_takeExpression_97 (by decide) (fun c_97 => absurd c_97 (by decide)) (fun c_97 => ?_)
          refine lv_iconst (v := 1) hx hb d_Reader_takeExpression_100 (by decide) ?_
          refine lv_goto (tgt := 105) hx hb d_Reader_takeExpression_101 (by decide) ?_
          refine W.zret (v := (1)) hx hb hr rfl (r_endi hM hS ?_) hS.2.2 d_Reader_takeExpression_105
          exact ⟨rfl, hs7, Or.inr (Or.inr (Or.inl ⟨rfl, c_89, rfl, rfl, hs3.trans c_89, hs6⟩))⟩
