/-! ===== the class's lottery against the model's ===== -/
/-- how many of the first k are in the lottery -/
def cE (z : St) (r d : Int32) : Nat → Nat
  | 0 => 0
  | k + 1 => if inL z r d k then cE z r d k + 1 else cE z r d k
theorem cE_le (z : St) (r d : Int32) (k : Nat) : cE z r d k ≤ k := by
  induction k with
  | zero => exact Nat.le_refl _
  | succ k ih => unfold cE; split <;> omega
theorem cE_mono (z : St) (r d : Int32) {j k : Nat} (h : j ≤ k) : cE z r d j ≤ cE z r d k := by
  induction k with
  | zero => have : j = 0 := by omega
            subst this; exact Nat.le_refl _
  | succ k ih =>
    by_cases e : j = k + 1
    · subst e; exact Nat.le_refl _
    · have := ih (by omega)
      have h2 : cE z r d k ≤ cE z r d (k + 1) := by conv => rhs; unfold cE
                                                    split <;> omega
      omega
theorem cE_s {z : St} {r d : Int32} {a : Nat} (h : inL z r d a) : cE z r d (a + 1) = cE z r d a + 1 := by rw [cE, if_pos h]
theorem cE_n {z : St} {r d : Int32} {a : Nat} (h : ¬ inL z r d a) : cE z r d (a + 1) = cE z r d a := by rw [cE, if_neg h]
theorem cE_lt {z : St} {r d : Int32} {a k : Nat} (h : inL z r d a) (hk : a < k) : cE z r d a < cE z r d k := by
  have := cE_mono z r d (show a + 1 ≤ k from hk)
  rw [cE_s h] at this
  omega
theorem cE_inj {z : St} {r d : Int32} {a b : Nat} (ha : inL z r d a) (hb : inL z r d b) (h : cE z r d a = cE z r d b) : a = b := by
  rcases Nat.lt_trichotomy a b with h1 | h1 | h1
  · have := cE_lt ha h1; omega
  · exact h1
  · have := cE_lt hb h1; omega
theorem enterK_inL (z : St) (r d : Int32) (k : Nat) : inL (enterK z r d k) r d k ↔ inL z r d k := by
  have lo : ∀ f, f < 61 → enterK z r d k f = z f := fun f hf => enterK_lo z r d k (by omega)
  unfold inL onP brdP
  rw [lo 15 (by omega), lo 12 (by omega), lo 13 (by omega), lo 10 (by omega), lo 11 (by omega)]
theorem enterK_tkt (z : St) (r d : Int32) (k a : Nat) : tkt (enterK z r d k) a = tkt z a := by
  have lo : ∀ f, f < 61 → enterK z r d k f = z f := fun f hf => enterK_lo z r d k (by omega)
  unfold tkt
  rw [lo 4 (by omega), lo 8 (by omega), lo 11 (by omega)]
theorem enterK_all (z : St) (r d : Int32) (k : Nat) (hk : k < 2 ^ 30) : enterK z r d k 66 0 = nI (cE z r d k) ∧ enterK z r d k 67 0 = sm (fun a => if inL z r d a then tkt z a else 0) k ∧
    ∀ a, a < k → inL z r d a → enterK z r d k 61 (cE z r d a) = nI a ∧ enterK z r d k 62 (cE z r d a) = z 14 a ∧ enterK z r d k 63 (cE z r d a) = tkt z a := by
  induction k with
  | zero =>
    refine ⟨?_, ?_, fun a h => absurd h (Nat.not_lt_zero _)⟩
    · unfold enterK; rw [u2_ne (by omega), u2_s]; rfl
    · unfold enterK; rw [u2_s]; rfl
  | succ k ih =>
    obtain ⟨h1, h2, h3⟩ := ih (by omega)
    have hc := cE_le z r d k
    have hcn : cn (enterK z r d k 66 0) = cE z r d k := by rw [h1, cn_nI (by omega)]
    rw [enterK]
    unfold enter1
    by_cases h : inL z r d k
    · rw [if_pos ((enterK_inL z r d k).mpr h), hcn, enterK_tkt]
      refine ⟨?_, ?_, fun a ha hin => ?_⟩
      · rw [u2_s, h1, nI_1, cE_s h]
      · rw [u2_f (by decide), u2_s, h2, sm, if_pos h]
      · by_cases e : a = k
        · subst e
          refine ⟨?_, ?_, ?_⟩
          · rw [u2_f (by decide), u2_f (by decide), u2_f (by decide), u2_f (by decide), u2_s]
          · rw [u2_f (by decide), u2_f (by decide), u2_f (by decide), u2_s, enterK_lo z r d a (f := 14) (by omega)]
          · rw [u2_f (by decide), u2_f (by decide), u2_s]
        · have := cE_lt hin (show a < k by omega)
          obtain ⟨a1, a2, a3⟩ := h3 a (by omega) hin
          refine ⟨?_, ?_, ?_⟩
          · rw [u2_f (by decide), u2_f (by decide), u2_f (by decide), u2_f (by decide), u2_i _ (by omega), a1]
          · rw [u2_f (by decide), u2_f (by decide), u2_f (by decide), u2_i _ (by omega), u2_f (by decide), a2]
          · rw [u2_f (by decide), u2_f (by decide), u2_i _ (by omega), u2_f (by decide), u2_f (by decide), a3]
    · rw [if_neg (fun q => h ((enterK_inL z r d k).mp q))]
      refine ⟨?_, ?_, fun a ha hin => ?_⟩
      · rw [h1, cE_n h]
      · rw [h2, sm, if_neg h, Int32.add_zero]
      · have : a ≠ k := fun e => h (e ▸ hin)
        exact h3 a (by omega) hin
/-! sums of tickets, as numbers -/
def nS (t : Nat → Nat) : Nat → Nat
  | 0 => 0
  | k + 1 => nS t k + t k
theorem nS_mono (t : Nat → Nat) {j k : Nat} (h : j ≤ k) : nS t j ≤ nS t k := by
  induction k with
  | zero => have : j = 0 := by omega
            subst this; exact Nat.le_refl _
  | succ k ih =>
    by_cases e : j = k + 1
    · subst e; exact Nat.le_refl _
    · have := ih (by omega)
      show nS t j ≤ nS t k + t k
      omega
theorem nS_le {t : Nat → Nat} {b k : Nat} (h : ∀ a, a < k → t a ≤ b) : nS t k ≤ b * k := by
  induction k with
  | zero => exact Nat.zero_le _
  | succ k ih =>
    have := ih (fun a ha => h a (by omega))
    have := h k (by omega)
    show nS t k + t k ≤ b * (k + 1)
    rw [Nat.mul_add]; omega
theorem nS_pos {t : Nat → Nat} {a k : Nat} (ha : a < k) : t a ≤ nS t k := by
  have := nS_mono t (show a + 1 ≤ k from ha)
  have e : nS t (a + 1) = nS t a + t a := rfl
  omega
theorem sm_nS {g : Nat → Int32} {t : Nat → Nat} {k : Nat} (h : ∀ a, a < k → g a = nI (t a)) : sm g k = nI (nS t k) := by
  induction k with
  | zero => rfl
  | succ k ih =>
    show sm g k + g k = nI (nS t k + t k)
    rw [ih (fun a ha => h a (by omega)), h k (by omega), nI_add]
/-! what binds a class's draw to a model's -/
abbrev Rel (o z : St) (r d : Int32) (q : St × Int32 × Int32 × Int32) (y : St) (g : Int32) : Prop :=
  (∀ a, a < nA z → inL z r d a → q.1 61 (cE z r d a) = nI a ∧ q.1 62 (cE z r d a) = z 14 a ∧ q.1 63 (cE z r d a) = tkt z a) ∧
  (∀ a, a < nA z → inL z r d a → y 81 a = if q.1 64 (cE z r d a) = 0 then tkt z a else 0) ∧
  (∀ a, a < nA z → ¬ inL z r d a → y 81 a = 0) ∧
  (∀ a, a < nA z → inL z r d a → y 15 a = if q.1 64 (cE z r d a) = 0 then 0 else if q.1 65 (cE z r d a) = 0 then 2 else 1) ∧
  (∀ a, a < nA z → inL z r d a → y 16 a = if q.1 64 (cE z r d a) = 0 then z 16 a else if q.1 65 (cE z r d a) = 0 then z 16 a else z 4 0 * z 14 a) ∧
  (y 4 5 = q.2.1) ∧
  (leftP y r d = q.2.2.1) ∧
  (tkS y (nA z) = q.2.2.2) ∧
  (y 3 0 = z 3 0) ∧
  (y 4 0 = z 4 0) ∧
  (∀ a, a < nA z → y 12 a = z 12 a ∧ y 13 a = z 13 a ∧ y 14 a = z 14 a) ∧
  (∀ a, ¬ (a < nA z ∧ inL z r d a) → y 15 a = o 15 a ∧ y 16 a = o 16 a) ∧
  (∀ j, j ≠ 5 → y 4 j = o 4 j) ∧
  (g = sm (fun e => if q.1 64 e = 0 then 0 else if q.1 65 e = 0 then 0 else 1) (cE z r d (nA z)))
theorem Rel.row {o z : St} {r d : Int32} {q : St × Int32 × Int32 × Int32} {y : St} {g : Int32} (h : Rel o z r d q y g) : ∀ a, a < nA z → inL z r d a → q.1 61 (cE z r d a) = nI a ∧ q.1 62 (cE z r d a) = z 14 a ∧ q.1 63 (cE z r d a) = tkt z a := h.1
theorem Rel.tk {o z : St} {r d : Int32} {q : St × Int32 × Int32 × Int32} {y : St} {g : Int32} (h : Rel o z r d q y g) : ∀ a, a < nA z → inL z r d a → y 81 a = if q.1 64 (cE z r d a) = 0 then tkt z a else 0 := h.2.1
theorem Rel.tn {o z : St} {r d : Int32} {q : St × Int32 × Int32 × Int32} {y : St} {g : Int32} (h : Rel o z r d q y g) : ∀ a, a < nA z → ¬ inL z r d a → y 81 a = 0 := h.2.2.1
theorem Rel.s15 {o z : St} {r d : Int32} {q : St × Int32 × Int32 × Int32} {y : St} {g : Int32} (h : Rel o z r d q y g) : ∀ a, a < nA z → inL z r d a → y 15 a = if q.1 64 (cE z r d a) = 0 then 0 else if q.1 65 (cE z r d a) = 0 then 2 else 1 := h.2.2.2.1
theorem Rel.s16 {o z : St} {r d : Int32} {q : St × Int32 × Int32 × Int32} {y : St} {g : Int32} (h : Rel o z r d q y g) : ∀ a, a < nA z → inL z r d a → y 16 a = if q.1 64 (cE z r d a) = 0 then z 16 a else if q.1 65 (cE z r d a) = 0 then z 16 a else z 4 0 * z 14 a := h.2.2.2.2.1
theorem Rel.seed {o z : St} {r d : Int32} {q : St × Int32 × Int32 × Int32} {y : St} {g : Int32} (h : Rel o z r d q y g) : y 4 5 = q.2.1 := h.2.2.2.2.2.1
theorem Rel.places {o z : St} {r d : Int32} {q : St × Int32 × Int32 × Int32} {y : St} {g : Int32} (h : Rel o z r d q y g) : leftP y r d = q.2.2.1 := h.2.2.2.2.2.2.1
theorem Rel.left {o z : St} {r d : Int32} {q : St × Int32 × Int32 × Int32} {y : St} {g : Int32} (h : Rel o z r d q y g) : tkS y (nA z) = q.2.2.2 := h.2.2.2.2.2.2.2.1
theorem Rel.n3 {o z : St} {r d : Int32} {q : St × Int32 × Int32 × Int32} {y : St} {g : Int32} (h : Rel o z r d q y g) : y 3 0 = z 3 0 := h.2.2.2.2.2.2.2.2.1
theorem Rel.fee {o z : St} {r d : Int32} {q : St × Int32 × Int32 × Int32} {y : St} {g : Int32} (h : Rel o z r d q y g) : y 4 0 = z 4 0 := h.2.2.2.2.2.2.2.2.2.1
theorem Rel.f11 {o z : St} {r d : Int32} {q : St × Int32 × Int32 × Int32} {y : St} {g : Int32} (h : Rel o z r d q y g) : ∀ a, a < nA z → y 12 a = z 12 a ∧ y 13 a = z 13 a ∧ y 14 a = z 14 a := h.2.2.2.2.2.2.2.2.2.2.1
theorem Rel.sn {o z : St} {r d : Int32} {q : St × Int32 × Int32 × Int32} {y : St} {g : Int32} (h : Rel o z r d q y g) : ∀ a, ¬ (a < nA z ∧ inL z r d a) → y 15 a = o 15 a ∧ y 16 a = o 16 a := h.2.2.2.2.2.2.2.2.2.2.2.1
theorem Rel.f4 {o z : St} {r d : Int32} {q : St × Int32 × Int32 × Int32} {y : St} {g : Int32} (h : Rel o z r d q y g) : ∀ j, j ≠ 5 → y 4 j = o 4 j := h.2.2.2.2.2.2.2.2.2.2.2.2.1
theorem Rel.cnt {o z : St} {r d : Int32} {q : St × Int32 × Int32 × Int32} {y : St} {g : Int32} (h : Rel o z r d q y g) : g = sm (fun e => if q.1 64 e = 0 then 0 else if q.1 65 e = 0 then 0 else 1) (cE z r d (nA z)) := h.2.2.2.2.2.2.2.2.2.2.2.2.2
/-- tickets are numbers above 0, not too great -/
def TkB (z : St) : Prop := ∀ a, a < nA z → tkt z a = nI (cn (tkt z a)) ∧ 0 < cn (tkt z a) ∧ cn (tkt z a) ≤ 1000000
theorem Rel.y81 {o z : St} {r d : Int32} {q : St × Int32 × Int32 × Int32} {y : St} {g : Int32} (h : Rel o z r d q y g) (hB : TkB z) {a : Nat} (ha : a < nA z) : y 81 a = nI (cn (y 81 a)) ∧ cn (y 81 a) ≤ 1000000 ∧ (0 < cn (y 81 a) → inL z r d a ∧ q.1 64 (cE z r d a) = 0) ∧ (inL z r d a → q.1 64 (cE z r d a) = 0 → 0 < cn (y 81 a)) := by
  obtain ⟨b1, b2, b3⟩ := hB a ha
  by_cases h1 : inL z r d a
  · have := h.tk a ha h1
    by_cases h2 : q.1 64 (cE z r d a) = 0
    · rw [if_pos h2] at this
      rw [this]
      exact ⟨b1, b3, fun _ => ⟨h1, h2⟩, fun _ _ => b2⟩
    · rw [if_neg h2] at this
      rw [this]
      exact ⟨rfl, by decide, fun q => absurd q (by decide), fun _ q => absurd q h2⟩
  · rw [h.tn a ha h1]
    exact ⟨rfl, by decide, fun q => absurd q (by decide), fun q => absurd q h1⟩
theorem Rel.sums {o z : St} {r d : Int32} {q : St × Int32 × Int32 × Int32} {y : St} {g : Int32} (h : Rel o z r d q y g) (hB : TkB z) (h40 : nA z ≤ 40) {k : Nat} (hk : k ≤ nA z) : tkS y k = nI (nS (fun a => cn (y 81 a)) k) ∧ nS (fun a => cn (y 81 a)) k ≤ 40000000 := by
  refine ⟨sm_nS (fun a ha => (h.y81 hB (by omega)).1), ?_⟩
  have := nS_le (t := fun a => cn (y 81 a)) (b := 1000000) (k := k) (fun a ha => (h.y81 hB (by omega)).2.1)
  omega
/-- which entry is drawn -/
theorem Rel.pick {o z : St} {r d : Int32} {q : St × Int32 × Int32 × Int32} {y : St} {g : Int32} (h : Rel o z r d q y g) (hB : TkB z) (h40 : nA z ≤ 40) {X : Nat} (hX : X < 2 ^ 31) : ∀ k, k ≤ nA z →
    (nS (fun a => cn (y 81 a)) k ≤ X → (entS q.1 (nI X) (cE z r d k)).1 = nI (nS (fun a => cn (y 81 a)) k)) ∧
    (X < nS (fun a => cn (y 81 a)) k → ∃ a, a < k ∧ inL z r d a ∧ q.1 64 (cE z r d a) = 0 ∧ nS (fun a => cn (y 81 a)) a ≤ X ∧ X < nS (fun a => cn (y 81 a)) (a + 1) ∧ entS q.1 (nI X) (cE z r d k) = (nI (nS (fun a => cn (y 81 a)) (a + 1)), nI (cE z r d a))) := by
  intro k
  induction k with
  | zero =>
    intro _
    exact ⟨fun _ => rfl, fun q => absurd q (Nat.not_lt_zero _)⟩
  | succ k ih =>
    intro hk
    obtain ⟨i1, i2⟩ := ih (by omega)
    have hy := h.y81 hB (show k < nA z by omega)
    have hT := h.sums hB h40 (k := k) (by omega)
    have hT1 := h.sums hB h40 (k := k + 1) hk
    have eS : nS (fun a => cn (y 81 a)) (k + 1) = nS (fun a => cn (y 81 a)) k + cn (y 81 k) := rfl
    by_cases hin : inL z r d k
    · rw [cE_s hin, entS]
      by_cases hle : nS (fun a => cn (y 81 a)) k ≤ X
      · have e1 := i1 hle
        rw [e1]
        by_cases h64 : q.1 64 (cE z r d k) = 0
        · have hc : nI (nS (fun a => cn (y 81 a)) k) ≤ nI X ∧ q.1 64 (cE z r d k) = 0 := ⟨(nI_leI (by omega) hX).mpr hle, h64⟩
          rw [if_pos hc]
          have e63 : q.1 63 (cE z r d k) = nI (cn (y 81 k)) := by
            rw [(h.row k (by omega) hin).2.2, ← hy.1, h.tk k (by omega) hin, if_pos h64]
          rw [e63, nI_add, ← eS]
          refine ⟨fun _ => rfl, fun hlt => ⟨k, by omega, hin, h64, hle, hlt, rfl⟩⟩
        · rw [if_neg (fun q => h64 q.2)]
          have e0 : cn (y 81 k) = 0 := by
            rw [h.tk k (by omega) hin, if_neg h64]; rfl
          rw [eS, e0, Nat.add_zero]
          exact ⟨fun _ => e1, fun hlt => absurd hlt (by omega)⟩
      · obtain ⟨a, a1, a2, a3, a4, a5, a6⟩ := i2 (by omega)
        rw [a6]
        have ha1 := h.sums hB h40 (k := a + 1) (by omega)
        have hc : ¬ (nI (nS (fun a => cn (y 81 a)) (a + 1)) ≤ nI X ∧ q.1 64 (cE z r d k) = 0) := fun q => by
          have := (nI_leI (by omega) hX).mp q.1
          omega
        rw [if_neg hc]
        exact ⟨fun q => absurd q (by omega), fun _ => ⟨a, by omega, a2, a3, a4, a5, rfl⟩⟩
    · have e0 : cn (y 81 k) = 0 := by
        rw [h.tn k (by omega) hin]; rfl
      rw [cE_n hin, eS, e0, Nat.add_zero]
      refine ⟨i1, fun hlt => ?_⟩
      obtain ⟨a, a1, a2⟩ := i2 hlt
      exact ⟨a, by omega, a2⟩
