/-! ===== the model's lotteries, its row aside, its slots, its reader's steps ===== -/
def enterM1 (y : St) (r d : Int32) (k : Nat) : St :=
  if onP y k r d ∧ z15a y k = 0 then (if d ≤ y 87 (cn (y 11 k)) then u2 (u2 (u2 y 82 k 0) 81 k 0) 15 k 2 else u2 (u2 y 82 k 1) 81 k (tkt y k)) else u2 (u2 y 82 k 0) 81 k 0
where z15a (y : St) (k : Nat) : Int32 := y 15 k
def enterM (z : St) (r d : Int32) : Nat → St
  | 0 => z
  | k + 1 => enterM1 (enterM z r d k) r d k
theorem enterM1_lo (y : St) (r d : Int32) (k : Nat) {f : Nat} (h : f ≠ 82 ∧ f ≠ 81 ∧ f ≠ 15) : enterM1 y r d k f = y f := by
  unfold enterM1
  split
  · split
    · rw [u2_f h.2.2, u2_f h.2.1, u2_f h.1]
    · rw [u2_f h.2.1, u2_f h.1]
  · rw [u2_f h.2.1, u2_f h.1]
theorem enterM_lo (z : St) (r d : Int32) (k : Nat) {f : Nat} (h : f ≠ 82 ∧ f ≠ 81 ∧ f ≠ 15) : enterM z r d k f = z f := by
  induction k with
  | zero => rfl
  | succ k ih => rw [enterM, enterM1_lo _ _ _ _ h]; exact ih
def remM1 (y : St) (n c : Nat) : St := if anyN (fun a => decide (¬ y 82 a = 0 ∧ y 11 a = nI c)) n = true then u2 y 8 c (if anyN (fun a => decide ((¬ y 82 a = 0 ∧ y 11 a = nI c) ∧ y 15 a = 1)) n = true then 0 else y 8 c + 1) else y
def remM (z : St) : Nat → St
  | 0 => z
  | k + 1 => remM1 (remM z k) (nA z) k
theorem remM1_lo (y : St) (n c : Nat) {f : Nat} (h : f ≠ 8) : remM1 y n c f = y f := by
  unfold remM1
  split
  · rw [u2_f h]
  · rfl
theorem remM_lo (z : St) (k : Nat) {f : Nat} (h : f ≠ 8) : remM z k f = z f := by
  induction k with
  | zero => rfl
  | succ k ih => rw [remM, remM1_lo _ _ _ h]; exact ih
abbrev tkS (z : St) (k : Nat) : Int32 := sm (fun a => z 81 a) k
def pickM (z : St) (x : Int32) (n : Nat) : Int32 := fstF (fun a => decide (¬ tkS z (a + 1) ≤ x)) n 0
abbrev drX (z : St) (all : Int32) : Int32 := seedN (z 4 5) - seedN (z 4 5) / all * all
/-- the row aside -/
def asK (z : St) (n : Nat) : St := fun f i => if f = 80 ∧ i < n then atF z 0 i else z f i
theorem atF_of {y z : St} {o : Nat} (ho : o < 3) (h : ∀ f, f < 20 ∨ (87 ≤ f ∧ f < 140) → y f = z f) (k : Nat) : atF y o k = atF z o k := by
  unfold atF; rw [h _ (gO_lt ho (fO_lt k))]
theorem asK_lo (z : St) (n : Nat) {f : Nat} (h : f ≠ 80) : asK z n f = z f := by funext i; simp [asK, h]
theorem asK_0 (z : St) : asK z 0 = z := by funext f i; simp [asK]
theorem asK_u2 (z : St) (k : Nat) : u2 (asK z k) 80 k (atF z 0 k) = asK z (k + 1) := by
  funext f i
  unfold u2 asK
  by_cases h : f = 80
  · subst h
    by_cases h2 : i = k
    · subst h2; simp
    · by_cases h3 : i < k
      · have : i < k + 1 := by omega
        simp [h2, h3, this]
      · have : ¬ i < k + 1 := by omega
        simp [h2, h3, this]
  · simp [h]
/-- where a field's cell lies in the row, and whether the first n cells hold it -/
def inK (o n f i : Nat) : Bool := (List.range n).any (fun k => gO o (fO k) == f && iO k == i)
theorem inK_0 (o f i : Nat) : inK o 0 f i = false := rfl
theorem inK_s (o n f i : Nat) : inK o (n + 1) f i = (inK o n f i || (gO o (fO n) == f && iO n == i)) := by
  unfold inK; rw [List.range_succ, List.any_append]; simp
/-- the first n cells of the row of office o come from f' -/
def cpK (z : St) (o n : Nat) (v : Nat → Int32) : St := fun f i => if inK o n f i = true then v (kOf o f i) else z f i
where kOf (o f i : Nat) : Nat := kO (if f < 87 then f else if f < 90 then 10 else f - (80 + 20 * o)) i
theorem kOf_g {o k : Nat} (ho : o < 3) : cpK.kOf o (gO o (fO k)) (iO k) = k := by
  have h := fO_lt k
  unfold cpK.kOf
  have e : (if gO o (fO k) < 87 then gO o (fO k) else if gO o (fO k) < 90 then 10 else gO o (fO k) - (80 + 20 * o)) = fO k := by unfold gO; (repeat' split) <;> omega
  rw [e, kO_k]
theorem cpK_0 (z : St) (o : Nat) (v : Nat → Int32) : cpK z o 0 v = z := by funext f i; simp [cpK, inK_0]
theorem cpK_u2 (z : St) {o : Nat} (ho : o < 3) (k : Nat) (v : Nat → Int32) : u2 (cpK z o k v) (gO o (fO k)) (iO k) (v k) = cpK z o (k + 1) v := by
  funext f i
  unfold u2
  by_cases h : f = gO o (fO k) ∧ i = iO k
  · obtain ⟨rfl, rfl⟩ := h
    rw [if_pos ⟨rfl, rfl⟩]
    unfold cpK
    rw [inK_s]
    simp [kOf_g ho]
  · rw [if_neg h]
    unfold cpK
    rw [inK_s]
    have : (gO o (fO k) == f && iO k == i) = false := by
      rw [Bool.and_eq_false_iff]
      by_cases h2 : f = gO o (fO k)
      · right; simp; intro h3; exact h ⟨h2, h3.symm⟩
      · left; simp; intro h3; exact h2 h3.symm
    simp [this]
theorem inK_f {o n f i : Nat} (ho : o < 3) (h : inK o n f i = true) : ∃ k, k < n ∧ gO o (fO k) = f ∧ iO k = i := by
  unfold inK at h
  simp only [List.any_eq_true, List.mem_range, Bool.and_eq_true, beq_iff_eq] at h
  obtain ⟨k, h1, h2, h3⟩ := h
  exact ⟨k, h1, h2, h3⟩
theorem cpK_hi (z : St) {o n : Nat} (ho : o < 3) (v : Nat → Int32) {f : Nat} (h : 60 ≤ f ∧ f < 87) : cpK z o n v f = z f := by
  funext i
  unfold cpK
  rw [if_neg]
  intro h2
  obtain ⟨k, -, h3, -⟩ := inK_f ho h2
  have := gO_lt (o := o) (f := fO k) ho (fO_lt k)
  omega
theorem cpK_at (z : St) {o o2 n : Nat} (ho : o < 3) (ho2 : o2 < 3) (h : o ≠ o2) (v : Nat → Int32) (k : Nat) : atF (cpK z o n v) o2 k = atF z o2 k := by
  unfold atF cpK
  rw [if_neg]
  intro h2
  obtain ⟨j, -, h3, -⟩ := inK_f ho h2
  exact h (gO_inj ho ho2 (fO_lt j) (fO_lt k) h3).1
theorem ix_sl (s k : Nat) : (478 : Int32) * nI s + nI k = nI (478 * s + k) := by
  show nI 478 * nI s + nI k = _
  rw [pk_mul, nI_add]
theorem sl_dm {s k : Nat} (h : k < 478) : (478 * s + k) / 478 = s ∧ (478 * s + k) % 478 = k := by omega
/-- the sign read next -/
def nxt (z : St) (p : Nat) : Int32 := if p < lenN z then z 68 p else 0
