theorem rd2 {ad : Nat → Nat → Nat} {rf : Nat → Int32} {v : Int32} (h : rf 2 = v) : (rdF ad rf)[2]? = some (.int v) := by rw [← h]; rfl
theorem rd3 {ad : Nat → Nat → Nat} {rf : Nat → Int32} {v : Int32} (h : rf 3 = v) : (rdF ad rf)[3]? = some (.int v) := by rw [← h]; rfl
theorem rd4 {ad : Nat → Nat → Nat} {rf : Nat → Int32} {v : Int32} (h : rf 4 = v) : (rdF ad rf)[4]? = some (.int v) := by rw [← h]; rfl
theorem rd5 {ad : Nat → Nat → Nat} {rf : Nat → Int32} {v : Int32} (h : rf 5 = v) : (rdF ad rf)[5]? = some (.int v) := by rw [← h]; rfl
theorem xp0 {ad : Nat → Nat → Nat} {i : Nat} {x : Nat → Int32} {v : Int32} (h : x 0 = v) : (xpF ad i x)[0]? = some (.int v) := by rw [← h]; rfl
theorem xp1 {ad : Nat → Nat → Nat} {i : Nat} {x : Nat → Int32} {v : Int32} (h : x 1 = v) : (xpF ad i x)[1]? = some (.int v) := by rw [← h]; rfl
theorem xp2 {ad : Nat → Nat → Nat} {i : Nat} {x : Nat → Int32} {v : Int32} (h : x 2 = v) : (xpF ad i x)[2]? = some (.int v) := by rw [← h]; rfl
theorem xp3 {ad : Nat → Nat → Nat} {i : Nat} {x : Nat → Int32} {v : Int32} (h : x 3 = v) : (xpF ad i x)[3]? = some (.int v) := by rw [← h]; rfl
def formK : List Nat := [40, 43, 45, 42, 47, 60, 61, 58, 38, 64, 37, 65, 68, 80, 94, 33, 92, 63]
def mpN (k : Nat) : Nat := if k = 40 then 4 else md_arN (nI k)
def fwN (k : Nat) : Nat := if k = 40 then 1 else md_arN (nI k)
theorem formK_le {k : Nat} (h : k ∈ formK) : mpN k ≤ 4 ∧ 1 ≤ mpN k ∧ fwN k ≤ 4 ∧ 1 ≤ fwN k ∧ k < 128 := by
  have : ∀ k ∈ formK, mpN k ≤ 4 ∧ 1 ≤ mpN k ∧ fwN k ≤ 4 ∧ 1 ≤ fwN k ∧ k < 128 := by decide
  exact this k h
