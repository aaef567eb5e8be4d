/-! ===== texts: the reader of the pad, by places ===== -/
abbrev lenN (z : St) : Nat := cn (z 69 0)
/-- the pad: its length, its characters -/
def PO (z : St) : Prop := (∃ n, n ≤ 60 ∧ z 69 0 = nI n) ∧ ∀ i, i < 60 → ∃ c, c < 128 ∧ z 68 i = nI c
theorem pL {z : St} (h : PO z) : z 69 0 = nI (lenN z) ∧ lenN z ≤ 60 := of_ex2 (by decide) h.1
theorem pC {z : St} (h : PO z) {i : Nat} (hi : i < 60) : z 68 i = nI (cn (z 68 i)) ∧ cn (z 68 i) < 128 := of_ex (by decide) (h.2 i hi)
theorem PO_of {z y : St} (h : PO z) (e1 : y 68 = z 68) (e2 : y 69 = z 69) : PO y := by unfold PO; rw [e1, e2]; exact h
/-- the digit at a place, or -1 -/
def digP (z : St) (p : Nat) : Int32 := if p < lenN z ∧ 48 ≤ z 68 p ∧ z 68 p ≤ 57 then z 68 p - 48 else -1
abbrev sgnP (z : St) (s : Int32) (p : Nat) : Prop := p < lenN z ∧ z 68 p = s
def numL (z : St) (hi : Int32) : Nat → Int32 → Nat → Int32 × Nat
  | 0, v, p => (v, p)
  | f + 1, v, p => if 0 < v ∧ p < lenN z then (if digP z p = -1 then (v, p) else if hi < 10 * v + digP z p then (-1, p) else numL z hi f (10 * v + digP z p) (p + 1)) else (v, p)
def numP (z : St) (lo hi : Int32) (p : Nat) : Int32 × Nat := if digP z p = -1 ∨ digP z p < lo ∨ hi < digP z p then (-1, p) else numL z hi (61 - p) (digP z p) (p + 1)
theorem digP_lt {z : St} {p : Nat} (h : ¬ digP z p = -1) : p < lenN z := by
  unfold digP at h
  split at h
  · rename_i h1; exact h1.1
  · exact absurd rfl h
theorem numL_le (z : St) (hi : Int32) : ∀ (f : Nat) (v : Int32) (p : Nat), p ≤ lenN z → p ≤ (numL z hi f v p).2 ∧ (numL z hi f v p).2 ≤ lenN z := by
  intro f
  induction f with
  | zero => intro v p h; exact ⟨Nat.le_refl _, h⟩
  | succ f ih =>
    intro v p h
    unfold numL
    split
    · rename_i h1
      split
      · exact ⟨Nat.le_refl _, h⟩
      · split
        · exact ⟨Nat.le_refl _, h⟩
        · have := ih (10 * v + digP z p) (p + 1) (by omega)
          exact ⟨by omega, this.2⟩
    · exact ⟨Nat.le_refl _, h⟩
theorem numP_le (z : St) (lo hi : Int32) {p : Nat} (h : p ≤ lenN z) : p ≤ (numP z lo hi p).2 ∧ (numP z lo hi p).2 ≤ lenN z := by
  unfold numP
  split
  · exact ⟨Nat.le_refl _, h⟩
  · rename_i h1
    have h2 := digP_lt (z := z) (p := p) (fun e => h1 (Or.inl e))
    have := numL_le z hi (61 - p) (digP z p) (p + 1) (by omega)
    exact ⟨by omega, this.2⟩
