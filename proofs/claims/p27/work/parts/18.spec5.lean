/-! ===== lotteries, odds and tries, as the class makes them ===== -/
theorem enterK_E (z : St) (r d : Int32) (k : Nat) (hk : k < 2 ^ 30) : enterK z r d k 66 0 = nI (cn (enterK z r d k 66 0)) ∧ cn (enterK z r d k 66 0) ≤ k := by
  induction k with
  | zero => unfold enterK; rw [u2_ne (by omega), u2_s]; exact ⟨rfl, Nat.le_refl 0⟩
  | succ k ih => exact enter1_66 (ih (by omega)) (by omega)
/-- what the rows hold -/
theorem enterK_61 (z : St) (r d : Int32) (k : Nat) (hk : k < 2 ^ 30) : ∀ e, e < cn (enterK z r d k 66 0) → ∃ a, a < k ∧ enterK z r d k 61 e = nI a ∧ inL z r d a ∧ enterK z r d k 62 e = z 14 a ∧ enterK z r d k 63 e = tkt z a := by
  induction k with
  | zero =>
    intro e he
    have : enterK z r d 0 66 0 = 0 := by unfold enterK; rw [u2_ne (by omega), u2_s]
    rw [this] at he
    exact absurd he (by show ¬ e < 0; omega)
  | succ k ih =>
    have hE := enterK_E z r d k (by omega)
    have lo : ∀ f, f < 61 → enterK z r d k f = z f := fun f hf => enterK_lo z r d k (by omega)
    have eL : inL (enterK z r d k) r d k ↔ inL z r d k := by
      unfold inL onP brdP
      rw [lo 15 (by omega), lo 12 (by omega), lo 13 (by omega), lo 10 (by omega), lo 11 (by omega)]
    have eT : tkt (enterK z r d k) k = tkt z k := by
      unfold tkt
      rw [lo 4 (by omega), lo 8 (by omega), lo 11 (by omega)]
    intro e he
    rw [enterK] at he ⊢
    unfold enter1 at he ⊢
    by_cases h : inL (enterK z r d k) r d k
    · rw [if_pos h] at he ⊢
      rw [u2_s] at he
      have e1 : enterK z r d k 66 0 + 1 = nI (cn (enterK z r d k 66 0) + 1) := by
        conv => lhs; rw [hE.1]
        exact nI_1 _
      rw [e1, cn_nI (by omega)] at he
      by_cases h2 : e = cn (enterK z r d k 66 0)
      · refine ⟨k, by omega, ?_, eL.mp h, ?_, ?_⟩
        · rw [u2_f (by decide), u2_f (by decide), u2_f (by decide), u2_f (by decide), h2, u2_s]
        · rw [u2_f (by decide), u2_f (by decide), u2_f (by decide), h2, u2_s, lo 14 (by omega)]
        · rw [u2_f (by decide), u2_f (by decide), h2, u2_s, eT]
      · obtain ⟨a, h3, h4, h5, h6, h7⟩ := ih (by omega) e (by omega)
        refine ⟨a, by omega, ?_, h5, ?_, ?_⟩
        · rw [u2_f (by decide), u2_f (by decide), u2_f (by decide), u2_f (by decide), u2_i _ h2, h4]
        · rw [u2_f (by decide), u2_f (by decide), u2_f (by decide), u2_i _ h2, u2_f (by decide), h6]
        · rw [u2_f (by decide), u2_f (by decide), u2_i _ h2, u2_f (by decide), u2_f (by decide), h7]
    · rw [if_neg h] at he ⊢
      obtain ⟨a, h3, h4⟩ := ih (by omega) e he
      exact ⟨a, by omega, h4⟩
theorem entOf_in {y : St} {x : Int32} (h : ¬ entOf y x < 0) (hE : cn (y 66 0) < 2 ^ 31) : entOf y x = nI (cn (entOf y x)) ∧ cn (entOf y x) < cn (y 66 0) ∧ y 61 (cn (entOf y x)) = x := by
  rcases fstF_rng (fun e => decide (y 61 e = x)) (cn (y 66 0)) 0 with e | ⟨j, -, h2, h3, h4⟩
  · exact absurd (show entOf y x < 0 by unfold entOf; rw [e]; decide) h
  · have e : entOf y x = nI j := h3
    rw [e, cn_nI (by omega)]
    exact ⟨rfl, by omega, by simpa using h4⟩
theorem i64_ne {x : Int32} (h : 0 < x) : ¬ x.toInt64 = 0 := by
  intro e
  have h1 : x.toInt64.toInt = (0 : Int64).toInt := by rw [e]
  rw [Int32.toInt_toInt64] at h1
  have h2 := Int32.lt_iff_toInt_lt.mp h
  have h3 : (0 : Int32).toInt = 0 := by decide
  have h4 : (0 : Int64).toInt = 0 := by decide
  omega
def clsLot (z : St) (r d : Int32) : Int32 × St :=
  (wonK (loseK (u2 (hq (enterK z r d (nA z)) (enterK z r d (nA z) 4 5) (leftP (enterK z r d (nA z)) r d) (cn (enterK z r d (nA z) 66 0))).1 4 5 (hq (enterK z r d (nA z)) (enterK z r d (nA z) 4 5) (leftP (enterK z r d (nA z)) r d) (cn (enterK z r d (nA z) 66 0))).2.1) r d (nA z)) (cn (enterK z r d (nA z) 66 0)),
   settleK (loseK (u2 (hq (enterK z r d (nA z)) (enterK z r d (nA z) 4 5) (leftP (enterK z r d (nA z)) r d) (cn (enterK z r d (nA z) 66 0))).1 4 5 (hq (enterK z r d (nA z)) (enterK z r d (nA z) 4 5) (leftP (enterK z r d (nA z)) r d) (cn (enterK z r d (nA z) 66 0))).2.1) r d (nA z)) (cn (enterK z r d (nA z) 66 0)))
def cLottery (z : St) (r d : Int32) : Int32 × St := if ¬ (routeP z r ∧ dayP d) then (-1, z) else if ¬ openP z d ∨ inSt z r d 0 = 0 then (-5, z) else clsLot z r d
def cOdds (z : St) (a : Int32) : Int32 × St := if ¬ appP z a then (-1, z) else
  (if entOf (enterK z (z 12 (cn a)) (z 13 (cn a)) (nA z)) a < 0 ∨ ¬ 0 < enterK z (z 12 (cn a)) (z 13 (cn a)) (nA z) 67 0 then -5 else (1000000 * (enterK z (z 12 (cn a)) (z 13 (cn a)) (nA z) 63 (cn (entOf (enterK z (z 12 (cn a)) (z 13 (cn a)) (nA z)) a))).toInt64 / (enterK z (z 12 (cn a)) (z 13 (cn a)) (nA z) 67 0).toInt64).toInt32, enterK z (z 12 (cn a)) (z 13 (cn a)) (nA z))
/-- lotteries tried one after the other: the rows, the seed, how often the entry e won -/
def trK (y0 : St) (e : Nat) (pl : Int32) : Nat → St × Int32 × Int32
  | 0 => (y0, y0 4 5, 0)
  | k + 1 => ((hq (trK y0 e pl k).1 (trK y0 e pl k).2.1 pl (cn ((trK y0 e pl k).1 66 0))).1, (hq (trK y0 e pl k).1 (trK y0 e pl k).2.1 pl (cn ((trK y0 e pl k).1 66 0))).2.1,
      if (hq (trK y0 e pl k).1 (trK y0 e pl k).2.1 pl (cn ((trK y0 e pl k).1 66 0))).1 65 e = 0 then (trK y0 e pl k).2.2 else (trK y0 e pl k).2.2 + 1)
theorem trK_lo (y0 : St) (e : Nat) (pl : Int32) (k : Nat) {f : Nat} (h : f ≠ 64 ∧ f ≠ 65) : (trK y0 e pl k).1 f = y0 f := by
  induction k with
  | zero => rfl
  | succ k ih => unfold trK; rw [hq_lo _ _ _ _ h]; exact ih
def cTries (z : St) (a t : Int32) : Int32 × St := if ¬ appP z a then (-1, z) else if t < 1 ∨ ¬ t ≤ 200 then (-2, z) else if ¬ z 15 (cn a) = 0 ∨ ¬ openP z (z 13 (cn a)) then (-5, z) else
  if entOf (enterK z (z 12 (cn a)) (z 13 (cn a)) (nA z)) a < 0 then (0, enterK z (z 12 (cn a)) (z 13 (cn a)) (nA z)) else
  ((trK (enterK z (z 12 (cn a)) (z 13 (cn a)) (nA z)) (cn (entOf (enterK z (z 12 (cn a)) (z 13 (cn a)) (nA z)) a)) (leftP (enterK z (z 12 (cn a)) (z 13 (cn a)) (nA z)) (z 12 (cn a)) (z 13 (cn a))) (cn t)).2.2,
   (trK (enterK z (z 12 (cn a)) (z 13 (cn a)) (nA z)) (cn (entOf (enterK z (z 12 (cn a)) (z 13 (cn a)) (nA z)) a)) (leftP (enterK z (z 12 (cn a)) (z 13 (cn a)) (nA z)) (z 12 (cn a)) (z 13 (cn a))) (cn t)).1)
theorem tms_in {t : Int32} (h1 : ¬ t < 1) (h2 : t ≤ 200) : t = nI (cn t) ∧ cn t ≤ 200 := by
  have h3 : ¬ t < 0 := by
    intro h
    have a := Int32.lt_iff_toInt_lt.mp h
    have b := Int32.le_iff_toInt_le.mp (Int32.not_lt.mp h1)
    have e0 : (0 : Int32).toInt = 0 := by decide
    have e1 : (1 : Int32).toInt = 1 := by decide
    omega
  obtain ⟨j, hj, rfl⟩ := nI_of h3
  rw [cn_nI hj]
  exact ⟨rfl, (nI_leI (b := 200) hj (by omega)).mp h2⟩
