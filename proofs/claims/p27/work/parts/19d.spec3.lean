/-! ===== texts: the reader of the pad, by places ===== -/
abbrev lenN (z : St) : Nat := cn (z 69 0)
/-- the pad: its length, its characters -/
def PO (z : St) : Prop := (∃ n, n ≤ 60 ∧ z 69 0 = nI n) ∧ ∀ i, i < 60 → ∃ c, c < 128 ∧ z 68 i = nI c
theorem pL {z : St} (h : PO z) : z 69 0 = nI (lenN z) ∧ lenN z ≤ 60 := of_ex2 (by decide) h.1
theorem pC {z : St} (h : PO z) {i : Nat} (hi : i < 60) : z 68 i = nI (cn (z 68 i)) ∧ cn (z 68 i) < 128 := of_ex (by decide) (h.2 i hi)
theorem PO_of {z y : St} (h : PO z) (e1 : y 68 = z 68) (e2 : y 69 = z 69) : PO y := by unfold PO; rw [e1, e2]; exact h
/-- the digit at a place, or -1 -/
def digP (z : St) (p : Nat) : Int32 := if p < lenN z ∧ 48 ≤ z 68 p ∧ z 68 p ≤ 57 then z 68 p - 48 else -1
abbrev sgnP (z : St) (s : Int32) (p : Nat) : Prop := p < lenN z ∧ z 68 p = s
def numL (z : St) (hi : Int32) : Nat → Int32 → Nat → Int32 × Nat
  | 0, v, p => (v, p)
  | f + 1, v, p => if 0 < v ∧ p < lenN z then (if digP z p = -1 then (v, p) else if hi < 10 * v + digP z p then (-1, p) else numL z hi f (10 * v + digP z p) (p + 1)) else (v, p)
def numP (z : St) (lo hi : Int32) (p : Nat) : Int32 × Nat := if digP z p = -1 ∨ digP z p < lo ∨ hi < digP z p then (-1, p) else numL z hi (61 - p) (digP z p) (p + 1)
theorem digP_lt {z : St} {p : Nat} (h : ¬ digP z p = -1) : p < lenN z := by
  unfold digP at h
  split at h
  · rename_i h1; exact h1.1
  · exact absurd rfl h
theorem numL_le (z : St) (hi : Int32) : ∀ (f : Nat) (v : Int32) (p : Nat), p ≤ lenN z → p ≤ (numL z hi f v p).2 ∧ (numL z hi f v p).2 ≤ lenN z := by
  intro f
  induction f with
  | zero => intro v p h; exact ⟨Nat.le_refl _, h⟩
  | succ f ih =>
    intro v p h
    unfold numL
    split
    · rename_i h1
      split
      · exact ⟨Nat.le_refl _, h⟩
      · split
        · exact ⟨Nat.le_refl _, h⟩
        · have := ih (10 * v + digP z p) (p + 1) (by omega)
          exact ⟨by omega, this.2⟩
    · exact ⟨Nat.le_refl _, h⟩
theorem numP_le (z : St) (lo hi : Int32) {p : Nat} (h : p ≤ lenN z) : p ≤ (numP z lo hi p).2 ∧ (numP z lo hi p).2 ≤ lenN z := by
  unfold numP
  split
  · exact ⟨Nat.le_refl _, h⟩
  · rename_i h1
    have h2 := digP_lt (z := z) (p := p) (fun e => h1 (Or.inl e))
    have := numL_le z hi (61 - p) (digP z p) (p + 1) (by omega)
    exact ⟨by omega, this.2⟩
theorem u2_self {z : St} {f i : Nat} {v : Int32} (h : z f i = v) : u2 z f i v = z := by
  funext g j
  unfold u2
  split
  · rename_i h1
    rw [h1.1, h1.2, h]
  · rfl
theorem u2_u2 (z : St) (f i : Nat) (a b : Int32) : u2 (u2 z f i a) f i b = u2 z f i b := by
  funext g j
  unfold u2
  split <;> rfl
/-- the reader's own cells: place, climber, route, day, party -/
def PS (z : St) (p : Nat) (c r d x : Int32) : St := fun f i => if i = 0 ∧ f = 70 then nI p else if i = 0 ∧ f = 71 then c else if i = 0 ∧ f = 72 then r else if i = 0 ∧ f = 73 then d else if i = 0 ∧ f = 74 then x else z f i
theorem PS_lo (z : St) (p : Nat) (c r d x : Int32) {f : Nat} (h : f < 70 ∨ 74 < f) : PS z p c r d x f = z f := by
  funext i
  unfold PS
  rw [if_neg (by omega), if_neg (by omega), if_neg (by omega), if_neg (by omega), if_neg (by omega)]
theorem PS_70 (z : St) (p : Nat) (c r d x : Int32) : PS z p c r d x 70 0 = nI p := rfl
theorem PS_self {z : St} {p : Nat} (h : z 70 0 = nI p) : z = PS z p (z 71 0) (z 72 0) (z 73 0) (z 74 0) := by
  funext f i
  unfold PS
  (repeat' split) <;> first | rfl | (rename_i h1; obtain ⟨rfl, rfl⟩ := h1; first | exact h | rfl)
theorem PS_PS (z : St) (p q : Nat) (c r d x c2 r2 d2 x2 : Int32) : PS (PS z p c r d x) q c2 r2 d2 x2 = PS z q c2 r2 d2 x2 := by
  funext f i
  unfold PS
  (repeat' split) <;> first | rfl | simp_all
theorem PS_u70 (z : St) (p q : Nat) (c r d x : Int32) : u2 (PS z p c r d x) 70 0 (nI q) = PS z q c r d x := by
  funext f i
  unfold u2 PS
  (repeat' split) <;> first | rfl | simp_all
theorem PS_u71 (z : St) (p : Nat) (c r d x v : Int32) : u2 (PS z p c r d x) 71 0 v = PS z p v r d x := by
  funext f i
  unfold u2 PS
  (repeat' split) <;> first | rfl | simp_all
theorem PS_u72 (z : St) (p : Nat) (c r d x v : Int32) : u2 (PS z p c r d x) 72 0 v = PS z p c v d x := by
  funext f i
  unfold u2 PS
  (repeat' split) <;> first | rfl | simp_all
theorem PS_u73 (z : St) (p : Nat) (c r d x v : Int32) : u2 (PS z p c r d x) 73 0 v = PS z p c r v x := by
  funext f i
  unfold u2 PS
  (repeat' split) <;> first | rfl | simp_all
theorem PS_u74 (z : St) (p : Nat) (c r d x v : Int32) : u2 (PS z p c r d x) 74 0 v = PS z p c r d v := by
  funext f i
  unfold u2 PS
  (repeat' split) <;> first | rfl | simp_all
theorem digP_of {z y : St} (h1 : y 68 = z 68) (h2 : y 69 = z 69) (p : Nat) : digP y p = digP z p := by unfold digP lenN; rw [h1, h2]
theorem numL_of {z y : St} (h1 : y 68 = z 68) (h2 : y 69 = z 69) (hi : Int32) : ∀ (f : Nat) (v : Int32) (p : Nat), numL y hi f v p = numL z hi f v p := by
  intro f
  induction f with
  | zero => intro v p; rfl
  | succ f ih => intro v p; unfold numL; rw [digP_of h1 h2, ih]; unfold lenN; rw [h2]
theorem numP_of {z y : St} (h1 : y 68 = z 68) (h2 : y 69 = z 69) (lo hi : Int32) (p : Nat) : numP y lo hi p = numP z lo hi p := by
  unfold numP; rw [digP_of h1 h2, numL_of h1 h2]
theorem numP_PS (z : St) (q : Nat) (c r d x : Int32) (lo hi : Int32) (p : Nat) : numP (PS z q c r d x) lo hi p = numP z lo hi p := numP_of (PS_lo z q c r d x (by omega)) (PS_lo z q c r d x (by omega)) lo hi p
theorem sgn_PS (z : St) (q : Nat) (c r d x : Int32) (s : Int32) (p : Nat) : sgnP (PS z q c r d x) s p = sgnP z s p := by unfold sgnP lenN; rw [PS_lo z q c r d x (by omega), PS_lo z q c r d x (by omega)]
theorem PO_PS {z : St} (h : PO z) (q : Nat) (c r d x : Int32) : PO (PS z q c r d x) := PO_of h (PS_lo z q c r d x (by omega)) (PS_lo z q c r d x (by omega))
theorem len_PS (z : St) (q : Nat) (c r d x : Int32) : lenN (PS z q c r d x) = lenN z := by unfold lenN; rw [PS_lo z q c r d x (by omega)]
def q1 (z : St) (p : Nat) : Int32 × Nat := numP z 0 11 (p + 1)
def q2 (z : St) (p : Nat) : Int32 × Nat := numP z 0 5 ((q1 z p).2 + 1)
def q3 (z : St) (p : Nat) : Int32 × Nat := numP z 0 59 ((q2 z p).2 + 1)
def q4 (z : St) (p : Nat) : Int32 × Nat := numP z 1 4 ((q3 z p).2 + 1)
/-- an application is read from p on: whether it has no fault, and the cells behind it -/
def apR (z : St) (p : Nat) : Int32 × St :=
  if ¬ sgnP z 99 p then (0, PS z p (z 71 0) (z 72 0) (z 73 0) (z 74 0))
  else if (q1 z p).1 = -1 ∨ ¬ sgnP z 114 (q1 z p).2 then (0, PS z (q1 z p).2 (q1 z p).1 (z 72 0) (z 73 0) (z 74 0))
  else if (q2 z p).1 = -1 ∨ ¬ sgnP z 100 (q2 z p).2 then (0, PS z (q2 z p).2 (q1 z p).1 (q2 z p).1 (z 73 0) (z 74 0))
  else if (q3 z p).1 = -1 then (0, PS z (q3 z p).2 (q1 z p).1 (q2 z p).1 (q3 z p).1 (z 74 0))
  else if ¬ sgnP z 120 (q3 z p).2 then (1, PS z (q3 z p).2 (q1 z p).1 (q2 z p).1 (q3 z p).1 1)
  else if (q4 z p).1 = -1 then (0, PS z (q4 z p).2 (q1 z p).1 (q2 z p).1 (q3 z p).1 (q4 z p).1)
  else (1, PS z (q4 z p).2 (q1 z p).1 (q2 z p).1 (q3 z p).1 (q4 z p).1)
theorem apR_01 (z : St) (p : Nat) : (apR z p).1 = 0 ∨ (apR z p).1 = 1 := by
  unfold apR
  (repeat' split) <;> first | exact Or.inl rfl | exact Or.inr rfl
theorem nz_01 {v : Int32} (h : v = 0 ∨ v = 1) : narrow .boolean (.int v) = .int v := by rcases h with rfl | rfl <;> rfl
