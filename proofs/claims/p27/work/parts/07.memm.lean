/-! ===== the model's cells ===== -/
def fO (k : Nat) : Nat := if k < 4 then k else if k < 10 then 4 else if k < 22 then 5 + (k - 10) % 2 else if k < 82 then 7 else if k < 118 then 8 + (k - 82) % 3 else 11 + (k - 118) % 9
def iO (k : Nat) : Nat := if k < 4 then 0 else if k < 10 then k - 4 else if k < 22 then (k - 10) / 2 else if k < 82 then k - 22 else if k < 118 then (k - 82) / 3 else (k - 118) / 9
def gO (o f : Nat) : Nat := if f = 10 then 87 + o else if o = 0 then f else 80 + 20 * o + f
def atF (z : St) (o k : Nat) : Int32 := z (gO o (fO k)) (iO k)
theorem fO_lt (k : Nat) : fO k < 20 := by unfold fO; (repeat' split) <;> omega
def kO (f i : Nat) : Nat := if f < 4 then f else if f = 4 then 4 + i else if f < 7 then 10 + 2 * i + (f - 5) else if f = 7 then 22 + i else if f < 11 then 82 + 3 * i + (f - 8) else 118 + 9 * i + (f - 11)
theorem kO_k (k : Nat) : kO (fO k) (iO k) = k := by
  unfold fO iO
  by_cases a1 : k < 4
  · simp only [a1, if_true, kO]
  by_cases a2 : k < 10
  · simp only [a1, a2, if_true, if_false, kO]; simp; omega
  by_cases a3 : k < 22
  · simp only [a1, a2, a3, if_true, if_false]
    have h1 : ¬ 5 + (k - 10) % 2 < 4 := by omega
    have h2 : ¬ 5 + (k - 10) % 2 = 4 := by omega
    have h3 : 5 + (k - 10) % 2 < 7 := by omega
    simp only [kO, h1, h2, h3, if_true, if_false]; omega
  by_cases a4 : k < 82
  · simp only [a1, a2, a3, a4, if_true, if_false, kO]; simp; omega
  by_cases a5 : k < 118
  · simp only [a1, a2, a3, a4, a5, if_true, if_false]
    have h1 : ¬ 8 + (k - 82) % 3 < 4 := by omega
    have h2 : ¬ 8 + (k - 82) % 3 = 4 := by omega
    have h3 : ¬ 8 + (k - 82) % 3 < 7 := by omega
    have h4 : ¬ 8 + (k - 82) % 3 = 7 := by omega
    have h5 : 8 + (k - 82) % 3 < 11 := by omega
    simp only [kO, h1, h2, h3, h4, h5, if_true, if_false]; omega
  · simp only [a1, a2, a3, a4, a5, if_false]
    have h1 : ¬ 11 + (k - 118) % 9 < 4 := by omega
    have h2 : ¬ 11 + (k - 118) % 9 = 4 := by omega
    have h3 : ¬ 11 + (k - 118) % 9 < 7 := by omega
    have h4 : ¬ 11 + (k - 118) % 9 = 7 := by omega
    have h5 : ¬ 11 + (k - 118) % 9 < 11 := by omega
    simp only [kO, h1, h2, h3, h4, h5, if_false]; omega
theorem fi_inj {k j : Nat} (hf : fO k = fO j) (hi : iO k = iO j) : k = j := by
  rw [← kO_k k, ← kO_k j, hf, hi]
theorem fO_r {r : Nat} (h : r < 6) : fO (10 + 2 * r) = 5 ∧ iO (10 + 2 * r) = r ∧ fO (11 + 2 * r) = 6 ∧ iO (11 + 2 * r) = r := by
  unfold fO iO
  refine ⟨?_, ?_, ?_, ?_⟩ <;> (repeat' split) <;> omega
theorem fO_d {d : Nat} (h : d < 60) : fO (22 + d) = 7 ∧ iO (22 + d) = d := by
  unfold fO iO
  refine ⟨?_, ?_⟩ <;> (repeat' split) <;> omega
theorem fO_c {c q : Nat} (h : c < 12) (hq : q < 3) : fO (82 + 3 * c + q) = 8 + q ∧ iO (82 + 3 * c + q) = c := by
  unfold fO iO
  refine ⟨?_, ?_⟩ <;> (repeat' split) <;> omega
theorem fO_a {a q : Nat} (hq : q < 9) : fO (118 + 9 * a + q) = 11 + q ∧ iO (118 + 9 * a + q) = a := by
  unfold fO iO
  refine ⟨?_, ?_⟩ <;> (repeat' split) <;> omega
theorem fO_s {q : Nat} (hq : q < 6) : fO (4 + q) = 4 ∧ iO (4 + q) = q := by
  unfold fO iO
  refine ⟨?_, ?_⟩ <;> (repeat' split) <;> omega
theorem gO_inj {o o2 f g : Nat} (ho : o < 3) (ho2 : o2 < 3) (hf : f < 20) (hg : g < 20) (h : gO o f = gO o2 g) : o = o2 ∧ f = g := by
  unfold gO at h
  (repeat' split at h) <;> omega
theorem gO_lt {o f : Nat} (ho : o < 3) (hf : f < 20) : gO o f < 20 ∨ (87 ≤ gO o f ∧ gO o f < 140) := by unfold gO; (repeat' split) <;> omega
theorem atF_ne (z : St) {o f : Nat} (i : Nat) (v : Int32) (ho : o < 3) (hf : 60 ≤ f ∧ f < 87) (k : Nat) : atF (u2 z f i v) o k = atF z o k := by
  have h := gO_lt ho (fO_lt k)
  have : gO o (fO k) ≠ f := by omega
  simp [atF, u2_f this]
theorem atF_u2 (z : St) {o o2 q : Nat} (v : Int32) (ho : o < 3) (ho2 : o2 < 3) (k : Nat) : atF (u2 z (gO o (fO q)) (iO q) v) o2 k = if o2 = o ∧ k = q then v else atF z o2 k := by
  by_cases h : o2 = o ∧ k = q
  · obtain ⟨rfl, rfl⟩ := h
    simp [atF, u2_s]
  · rw [if_neg h]
    show u2 z _ _ v _ _ = _
    unfold u2
    rw [if_neg]
    · rfl
    · rintro ⟨h1, h2⟩
      obtain ⟨h3, h4⟩ := gO_inj ho2 ho (fO_lt k) (fO_lt q) h1
      exact h ⟨h3, fi_inj h4 h2⟩
