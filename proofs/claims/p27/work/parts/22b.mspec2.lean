/-! ===== the model's sums and numbers against the document's ===== -/
def sumG (z : St) (c w : Int32) (a : Nat) : Int32 := if z 11 a = c then (if w = 3 then (if z 15 a = 1 then 1 else 0) else if w = 4 then z 16 a else if w = 5 then z 17 a else 1) else 0
def allG (z : St) (w : Int32) (a : Nat) : Int32 := if w = 11 then z 16 a else if w = 12 then z 17 a else if z 15 a = w - 4 then 1 else 0
def sumN (z : St) (c w : Int32) : Int32 := sm (sumG z c w) (nA z)
def allN (z : St) (w : Int32) : Int32 := sm (allG z w) (nA z)
theorem sumN_eq {z : St} {c w : Int32} (hc : 0 ≤ c) : sumN z c w = if w = 3 then cntIn z c 1 else if w = 4 then paidBy z c else if w = 5 then backTo z c else cntBy z c := by
  have hm := not_m1 hc
  unfold sumN
  split
  · rename_i h; subst h; unfold cntIn; refine sm_congr (fun a _ => ?_); unfold sumG byP; grind
  · split
    · rename_i h1 h; subst h; unfold paidBy; refine sm_congr (fun a _ => ?_); unfold sumG byP; grind
    · split
      · rename_i h1 h2 h; subst h; unfold backTo; refine sm_congr (fun a _ => ?_); unfold sumG byP; grind
      · unfold cntBy; refine sm_congr (fun a _ => ?_); unfold sumG byP; grind
theorem allN_eq (z : St) (w : Int32) : allN z w = if w = 11 then paidBy z (-1) else if w = 12 then backTo z (-1) else cntIn z (-1) (w - 4) := by
  unfold allN
  split
  · rename_i h; subst h; unfold paidBy; refine sm_congr (fun a _ => ?_); unfold allG byP; grind
  · split
    · rename_i h1 h; subst h; unfold backTo; refine sm_congr (fun a _ => ?_); unfold allG byP; grind
    · unfold cntIn; refine sm_congr (fun a _ => ?_); unfold allG byP; grind
def mCount (z : St) (w : Int32) : Int32 := if 0 ≤ w ∧ w ≤ 3 then z (cn w) 0 else if 4 ≤ w ∧ w ≤ 12 then allN z w else if 15 ≤ w ∧ w ≤ 20 then z 4 (cn (w - 15)) else if w = 13 then closedN z else if w = 14 then z 69 0 else -2
def mClimber (z : St) (c w : Int32) : Int32 := if ¬ climP z c then -1 else if 0 ≤ w ∧ w ≤ 2 then z (gO 0 (8 + cn w)) (cn c) else if 3 ≤ w ∧ w ≤ 6 then sumN z c w else -2
def mApp (z : St) (a w : Int32) : Int32 := if ¬ appP z a then -1 else if 0 ≤ w ∧ w ≤ 8 then z (11 + cn w) (cn a) else if w = 9 then tkt z (cn a) else -2
theorem mCount_eq (z : St) (w : Int32) : mCount z w = spCount z w := by
  unfold mCount spCount
  rw [allN_eq]
  have e0 : (0 : Int32).toInt = 0 := by decide
  have e1 : (1 : Int32).toInt = 1 := by decide
  have e2 : (2 : Int32).toInt = 2 := by decide
  have e3 : (3 : Int32).toInt = 3 := by decide
  have e4 : (4 : Int32).toInt = 4 := by decide
  have e10 : (10 : Int32).toInt = 10 := by decide
  have e11 : (11 : Int32).toInt = 11 := by decide
  have e12 : (12 : Int32).toInt = 12 := by decide
  have e13 : (13 : Int32).toInt = 13 := by decide
  have e14 : (14 : Int32).toInt = 14 := by decide
  have e15 : (15 : Int32).toInt = 15 := by decide
  have e20 : (20 : Int32).toInt = 20 := by decide
  by_cases h : 0 ≤ w ∧ w ≤ 3
  · rw [if_pos h]
    have h1 := Int32.le_iff_toInt_le.mp h.1
    have h2 := Int32.le_iff_toInt_le.mp h.2
    have : w = 0 ∨ w = 1 ∨ w = 2 ∨ w = 3 := by simp only [← Int32.toInt_inj]; omega
    rcases this with rfl | rfl | rfl | rfl <;> rfl
  · rw [if_neg h]
    have hw : w.toInt < 0 ∨ 3 < w.toInt := by simp only [Int32.le_iff_toInt_le] at h; omega
    simp only [Int32.le_iff_toInt_le, Int32.lt_iff_toInt_lt, ← Int32.toInt_inj, e0, e1, e2, e3, e4, e10, e11, e12, e13, e14, e15, e20]
    generalize w.toInt = i at hw
    (repeat' split) <;> first | rfl | omega
theorem mClimber_eq {z : St} {c w : Int32} (hI : IO z) (h : ∀ c, c < cn (z 2 0) → z 87 c = z 10 c) : mClimber z c w = spClimber z c w := by
  unfold mClimber spClimber
  by_cases hc : climP z c
  · rw [if_neg (not_not_intro hc), if_neg (not_not_intro hc), sumN_eq hc.1]
    have e0 : (0 : Int32).toInt = 0 := by decide
    have e1 : (1 : Int32).toInt = 1 := by decide
    have e2 : (2 : Int32).toInt = 2 := by decide
    have e3 : (3 : Int32).toInt = 3 := by decide
    have e4 : (4 : Int32).toInt = 4 := by decide
    have e5 : (5 : Int32).toInt = 5 := by decide
    have e6 : (6 : Int32).toInt = 6 := by decide
    by_cases h1 : 0 ≤ w ∧ w ≤ 2
    · rw [if_pos h1]
      have h2 := Int32.le_iff_toInt_le.mp h1.1
      have h3 := Int32.le_iff_toInt_le.mp h1.2
      have : w = 0 ∨ w = 1 ∨ w = 2 := by simp only [← Int32.toInt_inj]; omega
      rcases this with rfl | rfl | rfl
      · rfl
      · rfl
      · exact h _ (climP_in hI hc).2.1
    · rw [if_neg h1]
      have hw : w.toInt < 0 ∨ 2 < w.toInt := by simp only [Int32.le_iff_toInt_le] at h1; omega
      simp only [Int32.le_iff_toInt_le, Int32.lt_iff_toInt_lt, ← Int32.toInt_inj, e0, e1, e2, e3, e4, e5, e6]
      generalize w.toInt = i at hw
      (repeat' split) <;> first | rfl | omega
  · rw [if_pos hc, if_pos hc]
theorem mApp_eq {z : St} {a w : Int32} (hI : IO z) (h : ∀ a, a < nA z → z 18 a = 0 ∨ z 18 a = 1) : mApp z a w = spApp z a w := by
  unfold mApp spApp
  by_cases hc : appP z a
  · rw [if_neg (not_not_intro hc), if_neg (not_not_intro hc)]
    have e0 : (0 : Int32).toInt = 0 := by decide
    have e1 : (1 : Int32).toInt = 1 := by decide
    have e2 : (2 : Int32).toInt = 2 := by decide
    have e3 : (3 : Int32).toInt = 3 := by decide
    have e4 : (4 : Int32).toInt = 4 := by decide
    have e5 : (5 : Int32).toInt = 5 := by decide
    have e6 : (6 : Int32).toInt = 6 := by decide
    have e7 : (7 : Int32).toInt = 7 := by decide
    have e8 : (8 : Int32).toInt = 8 := by decide
    have e9 : (9 : Int32).toInt = 9 := by decide
    by_cases h1 : 0 ≤ w ∧ w ≤ 8
    · rw [if_pos h1]
      have h2 := Int32.le_iff_toInt_le.mp h1.1
      have h3 := Int32.le_iff_toInt_le.mp h1.2
      have : w = 0 ∨ w = 1 ∨ w = 2 ∨ w = 3 ∨ w = 4 ∨ w = 5 ∨ w = 6 ∨ w = 7 ∨ w = 8 := by simp only [← Int32.toInt_inj]; omega
      rcases this with rfl | rfl | rfl | rfl | rfl | rfl | rfl | rfl | rfl <;> first | rfl | skip
      have h7 := h _ (appP_in hI hc).2.1
      show z 18 (cn a) = if z 18 (cn a) = 0 then 0 else 1
      rcases h7 with h7 | h7 <;> rw [h7] <;> rfl
    · rw [if_neg h1]
      have hw : w.toInt < 0 ∨ 8 < w.toInt := by simp only [Int32.le_iff_toInt_le] at h1; omega
      simp only [Int32.le_iff_toInt_le, Int32.lt_iff_toInt_lt, ← Int32.toInt_inj, e0, e1, e2, e3, e4, e5, e6, e7, e8, e9]
      generalize w.toInt = i at hw
      (repeat' split) <;> first | rfl | omega
  · rw [if_pos hc, if_pos hc]
theorem at_h (z : St) {w : Nat} (h : w < 4) : atF z 0 w = z w 0 := by
  have : w = 0 ∨ w = 1 ∨ w = 2 ∨ w = 3 := by omega
  rcases this with rfl | rfl | rfl | rfl <;> rfl
theorem rng2 {x lo hi : Int32} (h : lo ≤ x ∧ x ≤ hi) (h0 : 0 ≤ lo) (n : Nat) (hn : n < 2 ^ 30) (e : hi = nI n) : x = nI (cn x) ∧ cn x ≤ n := by
  subst e
  have h1 : 0 ≤ x := Int32.le_trans h0 h.1
  obtain ⟨j, hj, rfl⟩ := nI_of (x := x) (Int32.not_lt.mpr h1)
  rw [cn_nI (by omega)]
  exact ⟨rfl, (nI_leI (by omega) (by omega)).mp h.2⟩
theorem rng15 {w : Int32} (h : 15 ≤ w ∧ w ≤ 20) : w - 15 = nI (cn (w - 15)) ∧ cn (w - 15) < 6 := sub15 (Int32.not_lt.mpr h.1) (Int32.not_lt.mpr h.2)
def strikeM (z : St) (i : Nat) (most to : Int32) : St :=
  if ¬ z 9 i + 1 < most then u2 (u2 (u2 z 9 i (z 9 i + 1)) 9 i 0) 87 i (if to ≤ z 87 i then z 87 i else to) else u2 z 9 i (z 9 i + 1)
/-- how many of the first k have lost -/
def lostK (z : St) : Nat → Nat
  | 0 => 0
  | k + 1 => lostK z k + (if z 15 k = 2 then 1 else 0)
theorem lostK_le (z : St) (k : Nat) : lostK z k ≤ k := by
  induction k with
  | zero => exact Nat.le_refl _
  | succ k ih => unfold lostK; split <;> omega
theorem lostK_same {z y : St} {b k : Nat} (hk : k ≤ b) (h : ∀ a, a ≠ b → y 15 a = z 15 a) : lostK y k = lostK z k := by
  induction k with
  | zero => rfl
  | succ k ih => unfold lostK; rw [ih (by omega), h k (by omega)]
theorem lostK_dec {z y : St} {b k : Nat} (hb : b < k) (h2 : z 15 b = 2) (h1 : y 15 b = 1) (h : ∀ a, a ≠ b → y 15 a = z 15 a) : lostK y k + 1 = lostK z k := by
  induction k with
  | zero => omega
  | succ k ih =>
    unfold lostK
    by_cases e : k = b
    · subst e
      rw [lostK_same (Nat.le_refl _) h, h1, h2]
      rfl
    · rw [h k e, ← ih (by omega)]
      omega
theorem serve1_lost {z : St} {b k : Nat} (hb : b < k) (h2 : z 15 b = 2) : lostK (serve1 z b) k + 1 = lostK z k := by
  refine lostK_dec hb h2 ?_ ?_
  · unfold serve1 permit; rw [u2_f (by decide), u2_f (by decide), u2_s]
  · intro a ha; unfold serve1 permit; rw [u2_f (by decide), u2_f (by decide), u2_i _ ha]
theorem serve1_16 {z : St} (h : ∀ a, a < nA z → (z 15 a = 0 ∨ z 15 a = 2) → z 16 a = 0) (b : Nat) : ∀ a, a < nA (serve1 z b) → (serve1 z b 15 a = 0 ∨ serve1 z b 15 a = 2) → serve1 z b 16 a = 0 := by
  intro a ha
  rw [nA_serve1] at ha
  unfold serve1 permit
  by_cases e : a = b
  · subst e
    rw [u2_f (show 15 ≠ 8 by decide), u2_f (show 15 ≠ 16 by decide), u2_s]
    intro h1; exact absurd h1 (by decide)
  · rw [u2_f (show 15 ≠ 8 by decide), u2_f (show 15 ≠ 16 by decide), u2_i _ e, u2_f (show 16 ≠ 8 by decide), u2_i _ e, u2_f (show 16 ≠ 15 by decide)]
    exact h a ha
theorem serve_stop {z : St} {r d : Int32} (h : fw z r d (leftP z r d) < 0) (f : Nat) : serve r d f z = z := by
  cases f with
  | zero => rfl
  | succ f => rw [serve, if_pos h]
theorem ix_c0 {x : Int32} (h : x = nI (cn x)) : (82 : Int32) + 3 * x + 0 = nI (82 + 3 * cn x) := by
  conv => lhs; rw [h]
  exact ix_c _ 0
theorem at_c0 (z : St) {c : Nat} (h : c < 12) : atF z 0 (82 + 3 * c) = z 8 c := at_c z h (w := 0) (by decide)
theorem fO_c0 {c : Nat} (h : c < 12) : gO 0 (fO (82 + 3 * c)) = 8 ∧ iO (82 + 3 * c) = c := by
  have := fO_c h (q := 0) (by decide)
  exact ⟨by rw [show fO (82 + 3 * c) = 8 from this.1]; rfl, this.2⟩
