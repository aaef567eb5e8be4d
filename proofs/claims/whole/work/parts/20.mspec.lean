/-! ===== places of the model's row ===== -/
theorem ix_a (a w : Nat) : (118 : Int32) + 9 * nI a + nI w = nI (118 + 9 * a + w) := by
  show nI 118 + nI 9 * nI a + nI w = _
  rw [pk_mul, nI_add, nI_add]
theorem ix_c (c w : Nat) : (82 : Int32) + 3 * nI c + nI w = nI (82 + 3 * c + w) := by
  show nI 82 + nI 3 * nI c + nI w = _
  rw [pk_mul, nI_add, nI_add]
theorem ix_r (r : Nat) : (10 : Int32) + 2 * nI r = nI (10 + 2 * r) := by
  show nI 10 + nI 2 * nI r = _
  rw [pk_mul, nI_add]
theorem ix_b (r : Nat) : (10 : Int32) + 2 * nI r + 1 = nI (11 + 2 * r) := by
  rw [ix_r, nI_1]; congr 1; omega
theorem gO_ne {f : Nat} (h : f ≠ 10) : gO 0 f = f := by simp [gO, h]
theorem at_s (z : St) {w : Nat} (h : w < 6) : atF z 0 (4 + w) = z 4 w := by
  unfold atF; rw [(fO_s h).1, (fO_s h).2]; rfl
theorem at_a (z : St) {a w : Nat} (h : w < 9) : atF z 0 (118 + 9 * a + w) = z (11 + w) a := by
  unfold atF; rw [(fO_a h).1, (fO_a h).2, gO_ne (by omega)]
theorem at_c (z : St) {c w : Nat} (h : c < 12) (hw : w < 3) : atF z 0 (82 + 3 * c + w) = z (gO 0 (8 + w)) c := by
  unfold atF; rw [(fO_c h hw).1, (fO_c h hw).2]
theorem at_d (z : St) {d : Nat} (h : d < 60) : atF z 0 (22 + d) = z 7 d := by
  unfold atF; rw [(fO_d h).1, (fO_d h).2]; rfl
theorem at_r (z : St) {r : Nat} (h : r < 6) : atF z 0 (10 + 2 * r) = z 5 r := by
  unfold atF; rw [(fO_r h).1, (fO_r h).2.1]; rfl
theorem at_b (z : St) {r : Nat} (h : r < 6) : atF z 0 (11 + 2 * r) = z 6 r := by
  unfold atF; rw [(fO_r h).2.2.1, (fO_r h).2.2.2]; rfl
theorem bi_cnt {x y : Int32} {n : Nat} (hn : n < 2 ^ 30) (h : ∃ k, k ≤ n ∧ y = nI k) : bi (0 ≤ x ∧ x ≤ y - 1) = bi (0 ≤ x ∧ x < y) := by
  obtain ⟨k, hk, rfl⟩ := h
  have e : x ≤ nI k - 1 ↔ x < nI k := by
    rw [Int32.le_iff_toInt_le, Int32.lt_iff_toInt_lt]
    have h1 : (nI k - 1).toInt = (k : Int) - 1 := pk_sub_toInt (a := k) (b := 1) (by omega) (by decide)
    rw [h1, nI_toInt (by omega)]
    omega
  simp only [bi, e]
theorem bi_day (x : Int32) : bi (0 ≤ x ∧ x ≤ 60 - 1) = bi (dayP x) := bi_cnt (n := 60) (by decide) ⟨60, Nat.le_refl _, rfl⟩
theorem st_alive {x : Int32} (h : ∃ s, s < 7 ∧ x = nI s) : (0 ≤ x ∧ x ≤ 2) ↔ (x = 0 ∨ x = 1 ∨ x = 2) := by
  obtain ⟨s, hs, rfl⟩ := h
  have : s = 0 ∨ s = 1 ∨ s = 2 ∨ s = 3 ∨ s = 4 ∨ s = 5 ∨ s = 6 := by omega
  rcases this with rfl | rfl | rfl | rfl | rfl | rfl | rfl <;> decide
