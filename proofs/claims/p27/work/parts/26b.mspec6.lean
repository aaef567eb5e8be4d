/-! ===== the model's lottery: the draws, one after the other ===== -/
def seedZ (y : St) : St := u2 y 4 5 (seedN (y 4 5))
def dA (y : St) : Nat := cn (pickM y (drX y (tkS y (nA y))) (nA y))
def drw1 (y : St) (r d : Int32) : St := u2 (if y 14 (dA y) ≤ leftP (seedZ y) r d then permit (seedZ y) (dA y) else u2 (seedZ y) 15 (dA y) 2) 81 (dA y) 0
def drw (r d : Int32) : Nat → St → Int32 → Int32 × St
  | 0, y, g => (g, y)
  | f + 1, y, g => if tkS y (nA y) ≤ 0 then (g, y) else drw r d f (drw1 y r d) (if y 14 (dA y) ≤ leftP (seedZ y) r d then g + 1 else g)
def mHold (z : St) (r d : Int32) : Int32 × St := ((drw r d (nA z) (enterM z r d (nA z)) 0).1, remM (drw r d (nA z) (enterM z r d (nA z)) 0).2 (cn ((drw r d (nA z) (enterM z r d (nA z)) 0).2 2 0)))
def mLottery (z : St) (r d : Int32) : Int32 × St := if ¬ (routeP z r ∧ dayP d) then (-1, z) else if ¬ openP z d ∨ inSt z r d 0 = 0 then (-5, z) else mHold z r d
theorem drw_stop {y : St} (h : tkS y (nA y) ≤ 0) (r d : Int32) (f : Nat) (g : Int32) : drw r d f y g = (g, y) := by
  cases f with
  | zero => rfl
  | succ f => rw [drw, if_pos h]
def nzK (z : St) : Nat → Nat
  | 0 => 0
  | k + 1 => nzK z k + (if z 81 k = 0 then 0 else 1)
theorem nzK_le (z : St) (k : Nat) : nzK z k ≤ k := by
  induction k with
  | zero => exact Nat.le_refl _
  | succ k ih => unfold nzK; split <;> omega
theorem nzK_same {z y : St} {b k : Nat} (hk : k ≤ b) (h : ∀ a, a ≠ b → y 81 a = z 81 a) : nzK y k = nzK z k := by
  induction k with
  | zero => rfl
  | succ k ih => unfold nzK; rw [ih (by omega), h k (by omega)]
theorem nzK_dec {z y : St} {b k : Nat} (hb : b < k) (h2 : ¬ z 81 b = 0) (h1 : y 81 b = 0) (h : ∀ a, a ≠ b → y 81 a = z 81 a) : nzK y k + 1 = nzK z k := by
  induction k with
  | zero => omega
  | succ k ih =>
    unfold nzK
    by_cases e : k = b
    · subst e
      rw [nzK_same (Nat.le_refl _) h, if_pos h1, if_neg h2]
    · rw [h k e, ← ih (by omega)]
      omega
theorem tkS_same {z y : St} {b k : Nat} (hk : k ≤ b) (h : ∀ a, a ≠ b → y 81 a = z 81 a) : tkS y k = tkS z k := sm_congr (fun a ha => h a (by omega))
theorem tkS_dec {z y : St} {b k : Nat} (hb : b < k) (h1 : y 81 b = 0) (h : ∀ a, a ≠ b → y 81 a = z 81 a) : tkS y k = tkS z k - z 81 b := by
  induction k with
  | zero => omega
  | succ k ih =>
    show tkS y k + y 81 k = tkS z k + z 81 k - z 81 b
    by_cases e : k = b
    · subst e
      rw [tkS_same (Nat.le_refl _) h, h1, Int32.add_zero, Int32.add_sub_cancel]
    · rw [h k e, ih (by omega)]
      grind
theorem seedN_in {x : Int32} (h : ∃ s, s < 65536 ∧ x = nI s) : ∃ s, s < 65536 ∧ seedN x = nI s := by
  obtain ⟨s, hs, rfl⟩ := h
  have e : (75 : Int32) * nI s + 74 = nI (75 * s + 74) := by
    show nI 75 * nI s + nI 74 = _
    rw [pk_mul, nI_add]
  have e2 : nI (75 * s + 74) - nI (75 * s + 74) / 65537 * 65537 = nI ((75 * s + 74) % 65537) := pk_rem (d := 65537) (by omega) (by omega) (by omega)
  have hm : (75 * s + 74) % 65537 < 65537 := Nat.mod_lt _ (by decide)
  unfold seedN
  rw [e, e2]
  split
  · exact ⟨0, by omega, rfl⟩
  · rename_i h
    refine ⟨_, ?_, rfl⟩
    have : (75 * s + 74) % 65537 ≠ 65536 := fun q => h (by rw [q]; rfl)
    omega
theorem fstF_none (p : Nat → Bool) : ∀ (n e : Nat), e + n < 2 ^ 31 → fstF p n e = -6 → ∀ j, e ≤ j → j < e + n → p j = false := by
  intro n
  induction n with
  | zero => intro e _ _ j h1 h2; omega
  | succ n ih =>
    intro e hb h j h1 h2
    unfold fstF at h
    split at h
    · have : (nI e).toInt = (-6 : Int32).toInt := by rw [h]
      rw [nI_toInt (by omega)] at this
      have e6 : (-6 : Int32).toInt = -6 := by decide
      omega
    · rename_i hp
      by_cases hj : j = e
      · subst hj; simpa using hp
      · exact ih (e + 1) (by omega) h j (by omega) (by omega)
theorem fstF_min (p : Nat → Bool) : ∀ (n e j : Nat), e + n < 2 ^ 31 → j < 2 ^ 31 → fstF p n e = nI j → ∀ i, e ≤ i → i < j → p i = false := by
  intro n
  induction n with
  | zero =>
    intro e j _ hj h i _ _
    have : (-6 : Int32).toInt = (nI j).toInt := by rw [← h]; rfl
    rw [nI_toInt hj] at this
    have e6 : (-6 : Int32).toInt = -6 := by decide
    omega
  | succ n ih =>
    intro e j hb hj h i h1 h2
    unfold fstF at h
    split at h
    · have := (nI_eq (by omega) hj).mp h
      omega
    · rename_i hp
      by_cases hi : i = e
      · subst hi; simpa using hp
      · exact ih (e + 1) j (by omega) hj h i (by omega) h2
theorem draw_in {y : St} (hI : IO y) (hs : ∃ s, s < 65536 ∧ y 4 5 = nI s) (hall : ¬ tkS y (nA y) ≤ 0) :
    0 < nA y ∧ ¬ tkS y (nA y) = 0 ∧ ¬ tkS y (nA y) ≤ drX y (tkS y (nA y)) ∧ pickM y (drX y (tkS y (nA y))) (nA y) = nI (dA y) ∧ dA y < nA y ∧ ¬ y 81 (dA y) = 0 := by
  have h40 := (iNa hI).2
  obtain ⟨s, hs1, hs2⟩ := seedN_in hs
  obtain ⟨m, hm, em⟩ := nI_of (x := tkS y (nA y)) (fun h => hall (Int32.le_of_lt h))
  have hm0 : 0 < m := by
    rcases Nat.eq_zero_or_pos m with h | h
    · subst h; exact absurd (by rw [em]; exact Int32.le_refl 0) hall
    · exact h
  have hn : 0 < nA y := by
    rcases Nat.eq_zero_or_pos (nA y) with h | h
    · exact absurd (by rw [h]; exact Int32.le_refl 0) hall
    · exact h
  have hX : drX y (tkS y (nA y)) = nI (s % m) := by
    show seedN (y 4 5) - seedN (y 4 5) / tkS y (nA y) * tkS y (nA y) = _
    rw [hs2, em]
    exact pk_rem (by omega) hm0 hm
  have hmod := Nat.mod_lt s hm0
  have hpk : ¬ tkS y (nA y) ≤ drX y (tkS y (nA y)) := by
    rw [hX]
    conv => rhs; lhs; rw [em]
    rw [nI_leI hm (by omega)]
    omega
  refine ⟨hn, fun h => hall (by rw [h]; exact Int32.le_refl 0), hpk, ?_⟩
  rcases fstF_rng (fun a => decide (¬ tkS y (a + 1) ≤ drX y (tkS y (nA y)))) (nA y) 0 with h | ⟨j, -, h2, h3, h4⟩
  · have := fstF_none _ (nA y) 0 (by omega) h (nA y - 1) (by omega) (by omega)
    rw [show nA y - 1 + 1 = nA y from by omega] at this
    simp at this
    exact absurd this hpk
  · have e : pickM y (drX y (tkS y (nA y))) (nA y) = nI j := h3
    have ej : dA y = j := by unfold dA; rw [e, cn_nI (by omega)]
    rw [ej]
    refine ⟨e, by omega, fun hz => ?_⟩
    have h5 : ¬ tkS y (j + 1) ≤ drX y (tkS y (nA y)) := by simpa using h4
    have h6 : tkS y (j + 1) = tkS y j := by
      show tkS y j + y 81 j = _
      rw [hz, Int32.add_zero]
    rw [h6] at h5
    rcases Nat.eq_zero_or_pos j with h7 | h7
    · subst h7
      apply h5
      rw [hX]
      exact nI_pos' (by omega)
    · have := fstF_min _ (nA y) 0 j (by omega) (by omega) h3 (j - 1) (by omega) (by omega)
      rw [show j - 1 + 1 = j from by omega] at this
      simp at this
      exact h5 this
theorem drw1_lo (y : St) (r d : Int32) {f : Nat} (h : f ≠ 4 ∧ f ≠ 15 ∧ f ≠ 16 ∧ f ≠ 81) : drw1 y r d f = y f := by
  unfold drw1
  rw [u2_f h.2.2.2]
  split
  · unfold permit seedZ; rw [u2_f h.2.2.1, u2_f h.2.1, u2_f h.1]
  · unfold seedZ; rw [u2_f h.2.1, u2_f h.1]
theorem drw1_4 (y : St) (r d : Int32) : drw1 y r d 4 = seedZ y 4 := by
  unfold drw1
  rw [u2_f (by decide)]
  split
  · unfold permit; rw [u2_f (by decide), u2_f (by decide)]
  · rw [u2_f (by decide)]
theorem drw1_81 (y : St) (r d : Int32) : drw1 y r d 81 (dA y) = 0 ∧ ∀ a, a ≠ dA y → drw1 y r d 81 a = y 81 a := by
  unfold drw1
  refine ⟨u2_s _ _ _ _, fun a ha => ?_⟩
  rw [u2_i _ ha]
  split
  · unfold permit seedZ; rw [u2_f (by decide), u2_f (by decide), u2_f (by decide)]
  · unfold seedZ; rw [u2_f (by decide), u2_f (by decide)]
theorem drw1_16 {y : St} (h : ∀ a, a < nA y → ¬ y 81 a = 0 → y 16 a = 0) (r d : Int32) : ∀ a, a < nA (drw1 y r d) → ¬ drw1 y r d 81 a = 0 → drw1 y r d 16 a = 0 := by
  intro a ha h1
  rw [nA_of (drw1_lo y r d (by decide))] at ha
  by_cases e : a = dA y
  · subst e; exact absurd (drw1_81 y r d).1 h1
  · rw [(drw1_81 y r d).2 a e] at h1
    have h2 := h a ha h1
    unfold drw1
    rw [u2_f (by decide)]
    split
    · unfold permit seedZ; rw [u2_i _ e, u2_f (by decide), u2_f (by decide)]; exact h2
    · unfold seedZ; rw [u2_f (by decide), u2_f (by decide)]; exact h2
theorem enterM_15 (z : St) (r d : Int32) (k : Nat) : ∀ i, k ≤ i → enterM z r d k 15 i = z 15 i := by
  induction k with
  | zero => intro i _; rfl
  | succ k ih =>
    intro i hi
    rw [enterM, ← ih i (by omega)]
    unfold enterM1
    split
    · split
      · rw [u2_i _ (by omega), u2_f (by decide), u2_f (by decide)]
      · rw [u2_f (by decide), u2_f (by decide)]
    · rw [u2_f (by decide), u2_f (by decide)]
theorem enterM_81 (z : St) (r d : Int32) (k : Nat) : ∀ a, a < k → ¬ enterM z r d k 81 a = 0 → z 15 a = 0 := by
  induction k with
  | zero => intro a h; omega
  | succ k ih =>
    intro a ha h
    rw [enterM] at h
    unfold enterM1 at h
    by_cases e : a = k
    · subst e
      split at h
      · rename_i h1
        split at h
        · exact absurd (by rw [u2_f (by decide), u2_s]) h
        · rw [← enterM_15 z r d a a (Nat.le_refl _)]; exact h1.2
      · exact absurd (by rw [u2_s]) h
    · apply ih a (by omega)
      intro h2
      apply h
      split
      · split
        · rw [u2_f (by decide), u2_i _ e, u2_f (by decide)]; exact h2
        · rw [u2_i _ e, u2_f (by decide)]; exact h2
      · rw [u2_i _ e, u2_f (by decide)]; exact h2
theorem drw_back {r d : Int32} {f : Nat} {y : St} {g g2 : Int32} (hf : 0 < f) (hall : ¬ tkS y (nA y) ≤ 0) (hg : g2 = if y 14 (dA y) ≤ leftP (seedZ y) r d then g + 1 else g) : drw r d (f - 1) (drw1 y r d) g2 = drw r d f y g := by
  obtain ⟨m, rfl⟩ : ∃ m, f = m + 1 := ⟨f - 1, by omega⟩
  rw [Nat.add_sub_cancel, hg]
  conv => rhs; rw [drw, if_neg hall]
theorem drw1_pay {y : St} (h : ∀ a, a < nA y → 0 < y 4 0 * y 14 a) (r d : Int32) : ∀ a, a < nA (drw1 y r d) → 0 < drw1 y r d 4 0 * drw1 y r d 14 a := by
  rw [nA_of (drw1_lo y r d (by decide)), drw1_lo y r d (f := 14) (by decide), drw1_4]
  intro a ha
  have e : seedZ y 4 0 = y 4 0 := by unfold seedZ u2; rw [if_neg (by decide)]
  rw [e]
  exact h a ha
theorem drw1_seed {y : St} (h : ∃ s, s < 65536 ∧ y 4 5 = nI s) (r d : Int32) : ∃ s, s < 65536 ∧ drw1 y r d 4 5 = nI s := by
  rw [drw1_4, seedZ, u2_s]
  exact seedN_in h
theorem drw1_fuel {y : St} (h5 : dA y < nA y) (h6 : ¬ y 81 (dA y) = 0) (r d : Int32) {f : Nat} (hf : nzK y (nA y) ≤ f) : 0 < f ∧ nzK (drw1 y r d) (nA (drw1 y r d)) ≤ f - 1 := by
  have h81 := drw1_81 y r d
  have := nzK_dec h5 h6 h81.1 h81.2
  rw [nA_of (drw1_lo y r d (by decide))]
  omega
theorem drw1_tk {y : St} (h5 : dA y < nA y) (r d : Int32) : tkS y (nA y) - y 81 (dA y) = tkS (drw1 y r d) (nA (drw1 y r d)) := by
  have h81 := drw1_81 y r d
  rw [nA_of (drw1_lo y r d (by decide))]
  exact (tkS_dec h5 h81.1 h81.2).symm
theorem drw1_IO {y : St} (h : IO y) (r d : Int32) : IO (drw1 y r d) := IO_of h (fun f hf => drw1_lo _ _ _ (by omega))
theorem enterM_IO {z : St} (h : IO z) (r d : Int32) (k : Nat) : IO (enterM z r d k) := IO_of h (fun f hf => enterM_lo _ _ _ _ (by omega))
theorem enterM_nA (z : St) (r d : Int32) (k : Nat) : nA (enterM z r d k) = nA z := nA_of (enterM_lo z r d k (by decide))
theorem enterM_h16 {z : St} (h : ∀ a, a < nA z → (z 15 a = 0 ∨ z 15 a = 2) → z 16 a = 0) (r d : Int32) : ∀ a, a < nA (enterM z r d (nA z)) → ¬ enterM z r d (nA z) 81 a = 0 → enterM z r d (nA z) 16 a = 0 := by
  rw [enterM_nA, enterM_lo z r d (nA z) (f := 16) (by decide)]
  exact fun a ha h2 => h a ha (Or.inl (enterM_81 _ _ _ _ a ha h2))
theorem enterM_pay {z : St} (h : ∀ a, a < nA z → 0 < z 4 0 * z 14 a) (r d : Int32) (k : Nat) : ∀ a, a < nA (enterM z r d k) → 0 < enterM z r d k 4 0 * enterM z r d k 14 a := by
  rw [enterM_nA, enterM_lo z r d k (f := 4) (by decide), enterM_lo z r d k (f := 14) (by decide)]
  exact h
