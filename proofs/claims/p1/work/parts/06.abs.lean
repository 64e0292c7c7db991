/-! THE REFERENCE'S SCANNER, as numbers: d brackets open, mode, n nodes, for each open level its parts, fewest, most; the names of the innermost closure, the digits of the number that the latest sign belongs to -/
def md_pk (nm : List Nat) : Nat := nm.length * 1048576 + nm.getD 0 0 + 32 * nm.getD 1 0 + 1024 * nm.getD 2 0
def mdQ (fi : Nat → Int32) (fa : Nat → Nat → Int32) (op : Nat → Nat) (d md n : Nat) (pt fw mo : Nat → Nat) (nm : List Nat) (dg : Nat) : Prop :=
  (fi 7 = nI d ∧ fi 8 = nI md ∧ fi 13 = nI n) ∧ (d ≤ 12 ∧ n ≤ 120 ∧ md ≤ 6 ∧ md ≠ 5) ∧
  (∀ j, j < d → (fa 3 j = nI (op j) ∧ op j < n) ∧ (fa 4 j = nI (pt j) ∧ fa 5 j = nI (fw j) ∧ fa 6 j = nI (mo j)) ∧ pt j ≤ mo j ∧ mo j ≤ 4 ∧ fw j ≤ 4) ∧
  (∀ j, j + 1 < d → pt j < mo j) ∧ (md = 3 → nm.length ≤ 3 ∧ (∀ a ∈ nm, a < 26) ∧ fa 11 (op (d - 1)) = nI (md_pk nm)) ∧ (md = 4 → 0 < n ∧ fa 11 (n - 1) = nI dg ∧ dg ≤ 4) ∧ (md = 1 ∨ md = 2 ∨ md = 3 → 0 < d) ∧ (md = 1 → fa 11 (op (d - 1)) = 0 ∧ pt (d - 1) = 0)
theorem upd_s {f : Nat → Int32} {k : Nat} {v : Int32} : upd f k v k = v := pk_us
theorem upd_n {f : Nat → Int32} {k j : Nat} {v : Int32} (h : j ≠ k) : upd f k v j = f j := pk_un h
theorem up_s {α : Type} (f : Nat → α) (k : Nat) (v : α) : va_up f k v k = v := va_up_self f k v
/-- a leaf at the outermost place -/
theorem mdQ_leaf0 {fi fi' : Nat → Int32} {fa fa' : Nat → Nat → Int32} {op : Nat → Nat} {md n : Nat} {pt fw mo : Nat → Nat} {nm : List Nat} {dg : Nat} (h : mdQ fi fa op 0 md n pt fw mo nm dg) (hn : n < 120) (m' dg' : Nat) (h7 : fi' 7 = fi 7) (h8 : fi' 8 = nI m') (h13 : fi' 13 = nI (n + 1)) (hm : m' = 6 ∨ (m' = 4 ∧ dg' ≤ 4 ∧ fa' 11 n = nI dg')) : mdQ fi' fa' op 0 m' (n + 1) pt fw mo nm dg' := by
  obtain ⟨⟨q1, q2, q3⟩, -⟩ := h
  refine ⟨⟨h7.trans q1, h8, h13⟩, ⟨by omega, by omega, by omega, by omega⟩, fun j hj => absurd hj (Nat.not_lt_zero j), fun j hj => absurd hj (Nat.not_lt_zero _), fun e => by omega, fun e => ?_, fun e => by omega, fun e => by omega⟩
  rcases hm with e2 | ⟨-, e2, e3⟩
  · omega
  · exact ⟨by omega, e3, e2⟩
/-- a leaf as a part of the innermost form -/
theorem mdQ_leafS {fi fi' : Nat → Int32} {fa fa' : Nat → Nat → Int32} {op : Nat → Nat} {d md n : Nat} {pt fw mo : Nat → Nat} {nm : List Nat} {dg : Nat} (h : mdQ fi fa op (d + 1) md n pt fw mo nm dg) (hn : n < 120) (hp : pt d < mo d) (m' dg' : Nat) (h7 : fi' 7 = fi 7) (h8 : fi' 8 = nI m') (h13 : fi' 13 = nI (n + 1))
    (h3 : fa' 3 = fa 3) (h4 : fa' 4 = upd (fa 4) d (nI (pt d + 1))) (h5 : fa' 5 = fa 5) (h6 : fa' 6 = fa 6) (hm : m' = 0 ∨ (m' = 4 ∧ dg' ≤ 4 ∧ fa' 11 n = nI dg')) : mdQ fi' fa' op (d + 1) m' (n + 1) (va_up pt d (pt d + 1)) fw mo nm dg' := by
  obtain ⟨⟨q1, q2, q3⟩, ⟨q4, q5, q6⟩, qL, qI, -⟩ := h
  refine ⟨⟨h7.trans q1, h8, h13⟩, ⟨q4, by omega, by omega, by omega⟩, fun j hj => ?_, fun j hj => ?_, fun e => by omega, fun e => ?_, fun e => by omega, fun e => by omega⟩
  · obtain ⟨⟨a1, a2⟩, ⟨a3, a4, a5⟩, a6, a7, a8⟩ := qL j hj
    rw [h3, h4, h5, h6]
    by_cases hj2 : j = d
    · subst hj2
      rw [up_s, upd_s]
      exact ⟨⟨a1, by omega⟩, ⟨rfl, a4, a5⟩, by omega, a7, a8⟩
    · rw [va_up_ne _ _ hj2, upd_n hj2]
      exact ⟨⟨a1, by omega⟩, ⟨a3, a4, a5⟩, a6, a7, a8⟩
  · have hj2 : j ≠ d := by omega
    rw [va_up_ne _ _ hj2]
    exact qI j hj
  · rcases hm with e2 | ⟨-, e2, e3⟩
    · omega
    · exact ⟨by omega, e3, e2⟩
/-- a form is opened -/
theorem mdQ_open {fi fi' : Nat → Int32} {fa fa' : Nat → Nat → Int32} {op : Nat → Nat} {d md n : Nat} {pt fw mo : Nat → Nat} {nm : List Nat} {dg : Nat} (h : mdQ fi fa op d md n pt fw mo nm dg) (hn : n < 120) (hd : d < 12) (hp : ∀ j, j + 1 = d → pt j < mo j) (h7 : fi' 7 = nI (d + 1)) (h8 : fi' 8 = nI 1) (h13 : fi' 13 = nI (n + 1))
    (h3 : fa' 3 = upd (fa 3) d (nI n)) (h4 : fa' 4 = upd (fa 4) d 0) (h5 : fa' 5 = upd (fa 5) d 1) (h6 : fa' 6 = upd (fa 6) d 4) (h11 : fa' 11 n = 0) : mdQ fi' fa' (va_up op d n) (d + 1) 1 (n + 1) (va_up pt d 0) (va_up fw d 1) (va_up mo d 4) nm dg := by
  obtain ⟨⟨q1, q2, q3⟩, ⟨q4, q5, q6⟩, qL, qI, -⟩ := h
  refine ⟨⟨h7, h8, h13⟩, ⟨by omega, by omega, by omega, by omega⟩, fun j hj => ?_, fun j hj => ?_, fun e => by omega, fun e => by omega, fun _ => by omega, fun _ => ?_⟩
  · rw [h3, h4, h5, h6]
    by_cases hj2 : j = d
    · subst hj2
      rw [up_s, up_s, up_s, up_s, upd_s, upd_s, upd_s, upd_s]
      exact ⟨⟨rfl, by omega⟩, ⟨rfl, rfl, rfl⟩, by omega, by omega, by omega⟩
    · obtain ⟨⟨a1, a2⟩, ⟨a3, a4, a5⟩, a6, a7, a8⟩ := qL j (by omega)
      rw [va_up_ne _ _ hj2, va_up_ne _ _ hj2, va_up_ne _ _ hj2, va_up_ne _ _ hj2, upd_n hj2, upd_n hj2, upd_n hj2, upd_n hj2]
      exact ⟨⟨a1, by omega⟩, ⟨a3, a4, a5⟩, a6, a7, a8⟩
  · have hj2 : j ≠ d := by omega
    rw [va_up_ne _ _ hj2, va_up_ne _ _ hj2]
    by_cases hj3 : j + 1 = d
    · exact hp j hj3
    · exact qI j (by omega)
  · show fa' 11 (va_up op d n (d + 1 - 1)) = 0 ∧ va_up pt d 0 (d + 1 - 1) = 0
    rw [Nat.add_sub_cancel, up_s, up_s]
    exact ⟨h11, rfl⟩
/-- the sign of a form -/
theorem mdQ_oper {fi fi' : Nat → Int32} {fa fa' : Nat → Nat → Int32} {op : Nat → Nat} {d n : Nat} {pt fw mo : Nat → Nat} {nm : List Nat} {dg : Nat} (h : mdQ fi fa op (d + 1) 1 n pt fw mo nm dg) (m' a : Nat) (hm : m' = 0 ∨ m' = 2 ∨ m' = 3) (ha : a ≤ 4) (h7 : fi' 7 = fi 7) (h8 : fi' 8 = nI m') (h13 : fi' 13 = fi 13)
    (h3 : fa' 3 = fa 3) (h4 : fa' 4 = fa 4) (h5 : fa' 5 = upd (fa 5) d (nI a)) (h6 : fa' 6 = upd (fa 6) d (nI a)) (h11 : fa' 11 = fa 11) : mdQ fi' fa' op (d + 1) m' n pt (va_up fw d a) (va_up mo d a) [] dg := by
  obtain ⟨⟨q1, q2, q3⟩, ⟨q4, q5, q6⟩, qL, qI, -, -, -, q1m⟩ := h
  obtain ⟨q11, q0⟩ := q1m rfl
  refine ⟨⟨h7.trans q1, h8, h13.trans q3⟩, ⟨q4, q5, by omega, by omega⟩, fun j hj => ?_, fun j hj => ?_, fun e => ⟨by simp, fun _ h => absurd h List.not_mem_nil, ?_⟩, fun e => by omega, fun e => by omega, fun e => by omega⟩
  · obtain ⟨⟨a1, a2⟩, ⟨a3, a4, a5⟩, a6, a7, a8⟩ := qL j hj
    rw [h3, h4, h5, h6]
    by_cases hj2 : j = d
    · subst hj2
      rw [up_s, up_s, upd_s, upd_s]
      have : pt j = 0 := q0
      exact ⟨⟨a1, a2⟩, ⟨a3, rfl, rfl⟩, by omega, by omega, by omega⟩
    · rw [va_up_ne _ _ hj2, va_up_ne _ _ hj2, upd_n hj2, upd_n hj2]
      exact ⟨⟨a1, a2⟩, ⟨a3, a4, a5⟩, a6, a7, a8⟩
  · rw [va_up_ne _ _ (show j ≠ d by omega)]
    exact qI j hj
  · rw [h11, q11]; rfl
/-- the mode alone becomes 0 -/
theorem mdQ_mode0 {fi fi' : Nat → Int32} {fa fa' : Nat → Nat → Int32} {op : Nat → Nat} {d md n : Nat} {pt fw mo : Nat → Nat} {nm : List Nat} {dg : Nat} (h : mdQ fi fa op d md n pt fw mo nm dg) (h7 : fi' 7 = fi 7) (h8 : fi' 8 = nI 0) (h13 : fi' 13 = fi 13) (h3 : fa' 3 = fa 3) (h4 : fa' 4 = fa 4) (h5 : fa' 5 = fa 5) (h6 : fa' 6 = fa 6) : mdQ fi' fa' op d 0 n pt fw mo nm dg := by
  obtain ⟨⟨q1, q2, q3⟩, ⟨q4, q5, q6⟩, qL, qI, -⟩ := h
  refine ⟨⟨h7.trans q1, h8, h13.trans q3⟩, ⟨q4, q5, by omega, by omega⟩, fun j hj => ?_, qI, fun e => by omega, fun e => by omega, fun e => by omega, fun e => by omega⟩
  rw [h3, h4, h5, h6]
  exact qL j hj
/-- one more name of the closure -/
theorem mdQ_name {fi fi' : Nat → Int32} {fa fa' : Nat → Nat → Int32} {op : Nat → Nat} {d n : Nat} {pt fw mo : Nat → Nat} {nm nm' : List Nat} {dg : Nat} (h : mdQ fi fa op (d + 1) 3 n pt fw mo nm dg) (hl : nm'.length ≤ 3) (ha : ∀ a ∈ nm', a < 26) (h7 : fi' 7 = fi 7) (h8 : fi' 8 = fi 8) (h13 : fi' 13 = fi 13) (h3 : fa' 3 = fa 3) (h4 : fa' 4 = fa 4) (h5 : fa' 5 = fa 5) (h6 : fa' 6 = fa 6) (h11 : fa' 11 (op d) = nI (md_pk nm')) : mdQ fi' fa' op (d + 1) 3 n pt fw mo nm' dg := by
  obtain ⟨⟨q1, q2, q3⟩, ⟨q4, q5, q6⟩, qL, qI, -⟩ := h
  refine ⟨⟨h7.trans q1, h8.trans q2, h13.trans q3⟩, ⟨q4, q5, by omega, by omega⟩, fun j hj => ?_, qI, fun _ => ⟨hl, ha, h11⟩, fun e => by omega, fun _ => by omega, fun e => by omega⟩
  rw [h3, h4, h5, h6]
  exact qL j hj
/-- one more digit -/
theorem mdQ_digit {fi fi' : Nat → Int32} {fa fa' : Nat → Nat → Int32} {op : Nat → Nat} {d n : Nat} {pt fw mo : Nat → Nat} {nm : List Nat} {dg : Nat} (h : mdQ fi fa op d 4 n pt fw mo nm dg) (hl : dg + 1 ≤ 4) (h7 : fi' 7 = fi 7) (h8 : fi' 8 = fi 8) (h13 : fi' 13 = fi 13) (h3 : fa' 3 = fa 3) (h4 : fa' 4 = fa 4) (h5 : fa' 5 = fa 5) (h6 : fa' 6 = fa 6) (h11 : fa' 11 (n - 1) = nI (dg + 1)) : mdQ fi' fa' op d 4 n pt fw mo nm (dg + 1) := by
  obtain ⟨⟨q1, q2, q3⟩, ⟨q4, q5, q6⟩, qL, qI, -, qd, -⟩ := h
  refine ⟨⟨h7.trans q1, h8.trans q2, h13.trans q3⟩, ⟨q4, q5, by omega, by omega⟩, fun j hj => ?_, qI, fun e => by omega, fun _ => ⟨(qd rfl).1, h11, hl⟩, fun e => by omega, fun e => by omega⟩
  rw [h3, h4, h5, h6]
  exact qL j hj
/-- the outermost form is closed -/
theorem mdQ_close0 {fi fi' : Nat → Int32} {fa fa' : Nat → Nat → Int32} {op : Nat → Nat} {md n : Nat} {pt fw mo : Nat → Nat} {nm : List Nat} {dg : Nat} (h : mdQ fi fa op 1 md n pt fw mo nm dg) (h7 : fi' 7 = nI 0) (h8 : fi' 8 = nI 6) (h13 : fi' 13 = fi 13) : mdQ fi' fa' op 0 6 n pt fw mo nm dg := by
  obtain ⟨⟨q1, q2, q3⟩, ⟨q4, q5, q6⟩, -⟩ := h
  exact ⟨⟨h7, h8, h13.trans q3⟩, ⟨by omega, q5, by omega, by omega⟩, fun j hj => absurd hj (Nat.not_lt_zero j), fun j hj => absurd hj (Nat.not_lt_zero _), fun e => by omega, fun e => by omega, fun e => by omega, fun e => by omega⟩
/-- a form within a form is closed -/
theorem mdQ_closeS {fi fi' : Nat → Int32} {fa fa' : Nat → Nat → Int32} {op : Nat → Nat} {d md n : Nat} {pt fw mo : Nat → Nat} {nm : List Nat} {dg : Nat} (h : mdQ fi fa op (d + 2) md n pt fw mo nm dg) (h7 : fi' 7 = nI (d + 1)) (h8 : fi' 8 = nI 0) (h13 : fi' 13 = fi 13) (h3 : fa' 3 = fa 3) (h4 : fa' 4 = upd (fa 4) d (nI (pt d + 1))) (h5 : fa' 5 = fa 5) (h6 : fa' 6 = fa 6) : mdQ fi' fa' op (d + 1) 0 n (va_up pt d (pt d + 1)) fw mo nm dg := by
  obtain ⟨⟨q1, q2, q3⟩, ⟨q4, q5, q6⟩, qL, qI, -⟩ := h
  have hp := qI d (by omega)
  refine ⟨⟨h7, h8, h13.trans q3⟩, ⟨by omega, q5, by omega, by omega⟩, fun j hj => ?_, fun j hj => ?_, fun e => by omega, fun e => by omega, fun e => by omega, fun e => by omega⟩
  · obtain ⟨⟨a1, a2⟩, ⟨a3, a4, a5⟩, a6, a7, a8⟩ := qL j (by omega)
    rw [h3, h4, h5, h6]
    by_cases hj2 : j = d
    · subst hj2
      rw [up_s, upd_s]
      exact ⟨⟨a1, a2⟩, ⟨rfl, a4, a5⟩, by omega, a7, a8⟩
    · rw [va_up_ne _ _ hj2, upd_n hj2]
      exact ⟨⟨a1, a2⟩, ⟨a3, a4, a5⟩, a6, a7, a8⟩
  · rw [va_up_ne _ _ (show j ≠ d by omega)]
    exact qI j (by omega)
