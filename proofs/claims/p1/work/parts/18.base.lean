/-! THE START, seen from later: s0 is the law's entry; what lay there lies there still, and the tables have only been warmed -/
def xB (s0 U : State) : Prop := s0.WarmedH U.vm ∧ s0.heap.size ≤ U.heap.size ∧ ∀ q : Nat, q < s0.heap.size → U.heap[q]? = s0.heap[q]?
theorem xB.rf (s : State) : xB s s := ⟨State.WarmedH.refl s, Nat.le_refl _, fun _ _ => rfl⟩
/-- from a method's entry to a later heap of its walk -/
theorem xB.later {s0 s U : State} {A : Nat → Prop} {locs : List Loc} (h : xB s0 s) (hA : ∀ q, A q → s0.heap.size ≤ q) (hS : va_S A s.heap U.heap locs) (hW : s.WarmedH U.vm) : xB s0 U :=
  ⟨State.WarmedH.trans h.1 hW, Nat.le_trans h.2.1 hS.1, fun q hq => (hS.2.1 q (Nat.lt_of_lt_of_le hq h.2.1) (fun z => absurd (hA q z) (by omega))).trans (h.2.2 q hq)⟩
theorem xB.blind {s0 U : State} {g : JFrame} {mk : MethodId} {a : Array Value} (h : xB s0 U) : xB s0 (U.calling g mk a) := h
theorem xB.static {s0 U : State} {a0 a : Array Value} {C n d : String} (hl : (Cond.laysStatic C n d).before a0 s0 = true) (hr : (Cond.isRef (.static C n d)).before a0 s0 = true) (hB : xB s0 U) : (Cond.laysStatic C n d).before a U = true ∧ (Cond.isRef (.static C n d)).before a U = true := by
  obtain ⟨c, k, i, f, x, cell, h1, h2, h3, h4, h5, h6, h7, h8, h9⟩ := Cond.laysStatic_spec hl
  obtain ⟨k', hi', he⟩ := State.fieldFound?_setVm hB.1.alike h2
  have hi' : U.fieldFound? C n d = some (c, k', i, f) := hi'
  have hx : U.heap[x]? = some cell := by rw [hB.2.2 x (Array.getElem?_eq_some_iff.mp h5).1]; exact h5
  have hst : k'.statics = some x := by rw [he]; exact h4
  have hf2 : U.vm.findClass C = some c := by rw [hB.1.alike.findClass]; exact h1
  refine ⟨?_, ?_⟩
  · show (Cond.laysStatic C n d).holds a U none U [] = true
    exact Cond.laysStatic_of hf2 hi' h3 hst hx h6 h7 h8 (by rw [he]; exact h9)
  · have e0 : (Term.static C n d).eval a0 s0 none [] s0 = cell.slots[f.slot]? := by
      simp [Term.eval, State.fieldNamed?, h2, h3, h4, h5, h6]
    have e1 : (Term.static C n d).eval a U none [] U = cell.slots[f.slot]? := by
      simp [Term.eval, State.fieldNamed?, hi', h3, hst, hx, h6]
    simp only [Cond.before, Cond.holds, Cond.value, e0] at hr
    simp only [Cond.before, Cond.holds, Cond.value, e1]
    exact hr
theorem xB.castable {s0 U : State} {a0 a : Array Value} {C D : String} (h : (Cond.castable C D).before a0 s0 = true) (hB : xB s0 U) : (Cond.castable C D).before a U = true := by
  have h1 : va_Nw (.castable C D) s0 := va_Nw.of rfl h
  exact va_Nw.use rfl (va_Nw.warmC hB.1 h1)
theorem xB.good {s0 U : State} {a0 a : Array Value} {w : Cond} (hg : goodWord w = true) (h : w.before a0 s0 = true) (hB : xB s0 U) : w.before a U = true := word_at hB.1 (good_of_word hg) h
def xk : Cond → Bool
  | .castable _ _ => true
  | w => goodWord w || decide (w = .isRef (.static Bundle.tN "UNASSIGNED_STACK" Bundle.steD)) || decide (w = .isRef (.static Bundle.tN "SUPPRESSED_SENTINEL" Bundle.listD)) || decide (w = .laysStatic Bundle.tN "UNASSIGNED_STACK" Bundle.steD) || decide (w = .laysStatic Bundle.tN "SUPPRESSED_SENTINEL" Bundle.listD)
/-- the words of a throw, later -/
theorem x_own {s0 U : State} {a0 a : Array Value} {L : List Cond} (hk : L.all xk = true) (h : ∀ w ∈ L, w.before a0 s0 = true)
    (hU : (Cond.isRef (.static Bundle.tN "UNASSIGNED_STACK" Bundle.steD)).before a0 s0 = true) (hN : (Cond.isRef (.static Bundle.tN "SUPPRESSED_SENTINEL" Bundle.listD)).before a0 s0 = true)
    (lU : (Cond.laysStatic Bundle.tN "UNASSIGNED_STACK" Bundle.steD).before a0 s0 = true) (lN : (Cond.laysStatic Bundle.tN "SUPPRESSED_SENTINEL" Bundle.listD).before a0 s0 = true) (hB : xB s0 U) : ∀ w ∈ L, w.before a U = true := by
  intro w hw
  have h1 := List.all_eq_true.mp hk w hw
  have key : goodWord w = true ∨ (∃ C D, w = .castable C D) ∨ w = .isRef (.static Bundle.tN "UNASSIGNED_STACK" Bundle.steD) ∨ w = .isRef (.static Bundle.tN "SUPPRESSED_SENTINEL" Bundle.listD) ∨ w = .laysStatic Bundle.tN "UNASSIGNED_STACK" Bundle.steD ∨ w = .laysStatic Bundle.tN "SUPPRESSED_SENTINEL" Bundle.listD := by
    unfold xk at h1
    split at h1
    · exact Or.inr (Or.inl ⟨_, _, rfl⟩)
    · simp only [Bool.or_eq_true, decide_eq_true_eq] at h1
      rcases h1 with (((h1 | h1) | h1) | h1) | h1
      · exact Or.inl h1
      · exact Or.inr (Or.inr (Or.inl h1))
      · exact Or.inr (Or.inr (Or.inr (Or.inl h1)))
      · exact Or.inr (Or.inr (Or.inr (Or.inr (Or.inl h1))))
      · exact Or.inr (Or.inr (Or.inr (Or.inr (Or.inr h1))))
  rcases key with k | ⟨C, D, rfl⟩ | rfl | rfl | rfl | rfl
  · exact xB.good k (h w hw) hB
  · exact xB.castable (h _ hw) hB
  · exact (xB.static lU hU hB).2
  · exact (xB.static lN hN hB).2
  · exact (xB.static lU hU hB).1
  · exact (xB.static lN hN hB).1
