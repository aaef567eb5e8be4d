/-! ===== places of the model's row ===== -/
theorem ix_a (a w : Nat) : (118 : Int32) + 9 * nI a + nI w = nI (118 + 9 * a + w) := by
  show nI 118 + nI 9 * nI a + nI w = _
  rw [pk_mul, nI_add, nI_add]
theorem ix_c (c w : Nat) : (82 : Int32) + 3 * nI c + nI w = nI (82 + 3 * c + w) := by
  show nI 82 + nI 3 * nI c + nI w = _
  rw [pk_mul, nI_add, nI_add]
theorem ix_r (r : Nat) : (10 : Int32) + 2 * nI r = nI (10 + 2 * r) := by
  show nI 10 + nI 2 * nI r = _
  rw [pk_mul, nI_add]
theorem ix_b (r : Nat) : (10 : Int32) + 2 * nI r + 1 = nI (11 + 2 * r) := by
  rw [ix_r, nI_1]; congr 1; omega
theorem gO_ne {f : Nat} (h : f ≠ 10) : gO 0 f = f := by simp [gO, h]
theorem at_s (z : St) {w : Nat} (h : w < 6) : atF z 0 (4 + w) = z 4 w := by
  unfold atF; rw [(fO_s h).1, (fO_s h).2]; rfl
theorem at_a (z : St) {a w : Nat} (h : w < 9) : atF z 0 (118 + 9 * a + w) = z (11 + w) a := by
  unfold atF; rw [(fO_a h).1, (fO_a h).2, gO_ne (by omega)]
theorem at_c (z : St) {c w : Nat} (h : c < 12) (hw : w < 3) : atF z 0 (82 + 3 * c + w) = z (gO 0 (8 + w)) c := by
  unfold atF; rw [(fO_c h hw).1, (fO_c h hw).2]
theorem at_d (z : St) {d : Nat} (h : d < 60) : atF z 0 (22 + d) = z 7 d := by
  unfold atF; rw [(fO_d h).1, (fO_d h).2]; rfl
theorem at_r (z : St) {r : Nat} (h : r < 6) : atF z 0 (10 + 2 * r) = z 5 r := by
  unfold atF; rw [(fO_r h).1, (fO_r h).2.1]; rfl
theorem at_b (z : St) {r : Nat} (h : r < 6) : atF z 0 (11 + 2 * r) = z 6 r := by
  unfold atF; rw [(fO_r h).2.2.1, (fO_r h).2.2.2]; rfl
theorem bi_cnt {x y : Int32} {n : Nat} (hn : n < 2 ^ 30) (h : ∃ k, k ≤ n ∧ y = nI k) : bi (0 ≤ x ∧ x ≤ y - 1) = bi (0 ≤ x ∧ x < y) := by
  obtain ⟨k, hk, rfl⟩ := h
  have e : x ≤ nI k - 1 ↔ x < nI k := by
    rw [Int32.le_iff_toInt_le, Int32.lt_iff_toInt_lt]
    have h1 : (nI k - 1).toInt = (k : Int) - 1 := pk_sub_toInt (a := k) (b := 1) (by omega) (by decide)
    rw [h1, nI_toInt (by omega)]
    omega
  simp only [bi, e]
theorem bi_day (x : Int32) : bi (0 ≤ x ∧ x ≤ 60 - 1) = bi (dayP x) := bi_cnt (n := 60) (by decide) ⟨60, Nat.le_refl _, rfl⟩
theorem st_alive {x : Int32} (h : ∃ s, s < 7 ∧ x = nI s) : (0 ≤ x ∧ x ≤ 2) ↔ (x = 0 ∨ x = 1 ∨ x = 2) := by
  obtain ⟨s, hs, rfl⟩ := h
  have : s = 0 ∨ s = 1 ∨ s = 2 ∨ s = 3 ∨ s = 4 ∨ s = 5 ∨ s = 6 := by omega
  rcases this with rfl | rfl | rfl | rfl | rfl | rfl | rfl <;> decide
theorem ix_r2 {x : Int32} (h : x = nI (cn x)) : (10 : Int32) + 2 * x = nI (10 + 2 * cn x) := by
  conv => lhs; rw [h]
  exact ix_r _
theorem ix_b2 {x : Int32} (h : x = nI (cn x)) : (10 : Int32) + 2 * x + 1 = nI (11 + 2 * cn x) := by
  conv => lhs; rw [h]
  exact ix_b _
theorem full_iff {x : Int32} {n : Nat} (hn : n < 2 ^ 31) (h : ∃ k, k ≤ n ∧ x = nI k) : x = nI n ↔ ¬ x < nI n := by
  obtain ⟨k, hk, rfl⟩ := h
  rw [nI_eq (by omega) hn, nI_ltI (by omega) hn]
  omega
theorem cl_iff {x : Int32} (h : x = 0 ∨ x = 1) : x = 1 ↔ ¬ x = 0 := by rcases h with rfl | rfl <;> decide
def badSet (s v : Int32) : Prop := s < 0 ∨ 6 ≤ s ∨ v < fLOW (cn s) ∨ ¬ v ≤ fHIGH (cn s)
theorem set_out {w : Int32} (h : w.toInt < 0 ∨ 4 < w.toInt) (h5 : ¬ w = 5) : w < 0 ∨ 6 ≤ w := by
  rw [Int32.lt_iff_toInt_lt, Int32.le_iff_toInt_le]
  rw [← Int32.toInt_inj] at h5
  have e0 : (0 : Int32).toInt = 0 := by decide
  have e5 : (5 : Int32).toInt = 5 := by decide
  have e6 : (6 : Int32).toInt = 6 := by decide
  omega
/-- what the model's apply makes is what the class's makes, where the new row was fresh -/
theorem newApp_m {z : St} (c r d p : Int32) (h : z 15 (nA z) = 0 ∧ z 16 (nA z) = 0 ∧ z 17 (nA z) = 0 ∧ z 18 (nA z) = 0) : u2 (u2 (u2 (u2 (u2 (u2 (u2 (u2 (u2 (u2 z 3 0 (z 3 0 + 1)) 11 (nA z) c) 12 (nA z) r) 13 (nA z) d) 14 (nA z) p) 15 (nA z) 0) 16 (nA z) 0) 17 (nA z) 0) 18 (nA z) 0) 19 (nA z) d = newApp z c r d p := by
  funext f i
  unfold newApp
  generalize nA z = n at h
  by_cases hi : i = n
  · subst hi
    simp only [u2, and_true]
    by_cases h15 : f = 15
    · subst h15; simp [h.1]
    · by_cases h16 : f = 16
      · subst h16; simp [h.2.1]
      · by_cases h17 : f = 17
        · subst h17; simp [h.2.2.1]
        · by_cases h18 : f = 18
          · subst h18; simp [h.2.2.2]
          · simp only [h15, h16, h17, h18, if_false]
            by_cases h3 : f = 3 <;> by_cases h11 : f = 11 <;> by_cases h12 : f = 12 <;> by_cases h13 : f = 13 <;> by_cases h14 : f = 14 <;> by_cases h19 : f = 19 <;> simp_all
  · simp only [u2, hi, and_false, if_false]
def mJoin (z : St) : St := if ¬ z 2 0 < 12 then z else u2 (u2 (u2 (u2 z 8 (cn (z 2 0)) 0) 9 (cn (z 2 0)) 0) 87 (cn (z 2 0)) (-6)) 2 0 (z 2 0 + 1)
theorem laterM_last {z : St} {a : Nat} (h : z 13 a = nI (cn (z 13 a)) ∧ cn (z 13 a) < 60) (hs : z 4 4 = nI (cn (z 4 4)) ∧ cn (z 4 4) ≤ 10) : (¬ 60 ≤ z 13 a + z 4 4 → z 13 a + z 4 4 = lastD z a) ∧ (60 ≤ z 13 a + z 4 4 → 59 = lastD z a) := by
  have e : z 13 a + z 4 4 = nI (cn (z 13 a) + cn (z 4 4)) := by
    conv => lhs; rw [h.1, hs.1]
    exact nI_add _ _
  unfold lastD
  constructor
  · intro h1
    rw [if_neg]
    intro h2
    rw [e] at h1 h2
    have a1 := (nI_ltI (a := 59) (by omega) (by omega)).mp h2
    exact h1 ((nI_leI (a := 60) (by omega) (by omega)).mpr (by omega))
  · intro h1
    rw [if_pos]
    rw [e] at h1 ⊢
    have a1 := (nI_leI (a := 60) (by omega) (by omega)).mp h1
    exact (nI_ltI (a := 59) (by omega) (by omega)).mpr (by omega)
