/-! ===== lotteries: who lost had no place ===== -/
theorem sub_i {P : Int32} {p : Nat} (hp1 : 1 ≤ p) (hp4 : p ≤ 4) (h : nI p ≤ P) : (P - nI p).toInt = P.toInt - p := by
  have h1 := Int32.le_iff_toInt_le.mp h
  rw [nI_toInt (by omega)] at h1
  have h2 := P.toInt_lt
  rw [Int32.toInt_sub, nI_toInt (by omega)]
  exact Int.bmod_eq_of_le (by omega) (by omega)
def HI (E : Nat) (P0 : Int32) (q : St × Int32 × Int32 × Int32) : Prop :=
  ((q.2.2.1 = P0 ∧ ∀ e, e < E → ¬ q.1 64 e = 0 → q.1 65 e = 0) ∨ 0 ≤ q.2.2.1) ∧ (∀ e, e < E → ¬ q.1 64 e = 0 → q.1 65 e = 0 → ¬ q.1 62 e ≤ q.2.2.1)
theorem HI_s {E : Nat} {P0 : Int32} {q : St × Int32 × Int32 × Int32} (hE : 0 < E) (hE2 : E ≤ 40) (hp : ∀ e, e < E → ∃ p, 1 ≤ p ∧ p ≤ 4 ∧ q.1 62 e = nI p) (h : HI E P0 q) : HI E P0 (hstp E q) := by
  unfold hstp
  split
  · exact h
  · generalize hx : (seedN q.2.1 - seedN q.2.1 / q.2.2.2 * q.2.2.2) = x
    obtain ⟨e1, e2⟩ := entS_in q.1 x hE (by omega)
    generalize cn (entS q.1 x E).2 = j at *
    obtain ⟨h1, h3⟩ := h
    obtain ⟨p, p1, p4, ep⟩ := hp j e2
    by_cases c : q.1 62 j ≤ q.2.2.1
    · have ec := ep ▸ c
      have hs := sub_i p1 p4 ec
      have hP := Int32.le_iff_toInt_le.mp ec
      rw [nI_toInt (by omega)] at hP
      have e0 : (0 : Int32).toInt = 0 := by decide
      constructor
      · right
        show 0 ≤ (if q.1 62 j ≤ q.2.2.1 then q.2.2.1 - q.1 62 j else q.2.2.1)
        rw [if_pos c, ep, Int32.le_iff_toInt_le, hs, e0]
        omega
      · intro e he
        show ¬ u2 (u2 q.1 64 j 1) 65 j (bi (q.1 62 j ≤ q.2.2.1)) 64 e = 0 → u2 (u2 q.1 64 j 1) 65 j (bi (q.1 62 j ≤ q.2.2.1)) 65 e = 0 → ¬ u2 (u2 q.1 64 j 1) 65 j (bi (q.1 62 j ≤ q.2.2.1)) 62 e ≤ (if q.1 62 j ≤ q.2.2.1 then q.2.2.1 - q.1 62 j else q.2.2.1)
        rw [u2_f (show 62 ≠ 65 by decide), u2_f (show 62 ≠ 64 by decide), u2_f (show 64 ≠ 65 by decide), if_pos c]
        by_cases q1 : e = j
        · subst q1
          rw [u2_s, u2_s, bi_t c]
          intro _ w
          exact absurd w (by decide)
        · rw [u2_i _ q1, u2_i _ q1, u2_f (by decide)]
          intro w1 w2 w3
          refine h3 e he w1 w2 (Int32.le_trans w3 ?_)
          rw [ep, Int32.le_iff_toInt_le, hs]
          omega
    · constructor
      · rcases h1 with ⟨g1, g2⟩ | g
        · left
          refine ⟨?_, fun e he => ?_⟩
          · show (if q.1 62 j ≤ q.2.2.1 then q.2.2.1 - q.1 62 j else q.2.2.1) = P0
            rw [if_neg c]; exact g1
          · show ¬ u2 (u2 q.1 64 j 1) 65 j (bi (q.1 62 j ≤ q.2.2.1)) 64 e = 0 → u2 (u2 q.1 64 j 1) 65 j (bi (q.1 62 j ≤ q.2.2.1)) 65 e = 0
            rw [u2_f (show 64 ≠ 65 by decide)]
            by_cases q1 : e = j
            · subst q1
              rw [u2_s, u2_s, bi_f c]
              intro _; rfl
            · rw [u2_i _ q1, u2_i _ q1, u2_f (by decide)]
              exact g2 e he
        · right
          show 0 ≤ (if q.1 62 j ≤ q.2.2.1 then q.2.2.1 - q.1 62 j else q.2.2.1)
          rw [if_neg c]; exact g
      · intro e he
        show ¬ u2 (u2 q.1 64 j 1) 65 j (bi (q.1 62 j ≤ q.2.2.1)) 64 e = 0 → u2 (u2 q.1 64 j 1) 65 j (bi (q.1 62 j ≤ q.2.2.1)) 65 e = 0 → ¬ u2 (u2 q.1 64 j 1) 65 j (bi (q.1 62 j ≤ q.2.2.1)) 62 e ≤ (if q.1 62 j ≤ q.2.2.1 then q.2.2.1 - q.1 62 j else q.2.2.1)
        rw [u2_f (show 62 ≠ 65 by decide), u2_f (show 62 ≠ 64 by decide), u2_f (show 64 ≠ 65 by decide), if_neg c]
        by_cases q1 : e = j
        · subst q1; intro _ _; exact c
        · rw [u2_i _ q1, u2_i _ q1, u2_f (by decide)]
          exact h3 e he
theorem HI_K {E : Nat} {P0 s T0 : Int32} {w : St} (hE : 0 < E) (hE2 : E ≤ 40) (hp : ∀ e, e < E → ∃ p, 1 ≤ p ∧ p ≤ 4 ∧ w 62 e = nI p) : ∀ k, HI E P0 (holdK E (clrD w E, s, P0, T0) k) := by
  intro k
  induction k with
  | zero =>
    have e64 : ∀ e, e < E → clrD w E 64 e = 0 := fun e he => by unfold clrD; rw [if_pos ⟨rfl, he⟩]
    exact ⟨Or.inl ⟨rfl, fun e he q => absurd (e64 e he) q⟩, fun e he q => absurd (e64 e he) q⟩
  | succ k ih =>
    rw [holdK]
    refine HI_s hE hE2 (fun e he => ?_) ih
    rw [holdK_lo _ _ _ (by decide)]
    show ∃ p, 1 ≤ p ∧ p ≤ 4 ∧ clrD w E 62 e = nI p
    rw [clrD_lo (by decide)]; exact hp e he
/-! what a lottery leaves -/
abbrev iN (z : St) (r d a : Nat) : Prop := a_s z a = 0 ∧ a_r z a = r ∧ a_d z a = d
abbrev iL (z : St) (r d a : Nat) : Prop := iN z r d a ∧ z 10 (a_c z a) < nI d
/-- the parties that won, and how many -/
def wpF (z y : St) (r d a : Nat) : Nat := if iN z r d a ∧ a_s y a = 1 then a_p z a else 0
def wnF (z y : St) (r d a : Nat) : Nat := if iN z r d a ∧ a_s y a = 1 then 1 else 0
def LotF (z y : St) (r d : Nat) : Prop :=
  (∀ f, f < 20 → f ≠ 4 → f ≠ 8 → f ≠ 15 → f ≠ 16 → y f = z f) ∧ (∀ j, j ≠ 5 → y 4 j = z 4 j) ∧
  (∀ a, a < nA z → ¬ iN z r d a → a_s y a = a_s z a) ∧
  (∀ a, a < nA z → iN z r d a → (a_s y a = 1 ∧ iL z r d a) ∨ a_s y a = 2) ∧
  (∀ a, a < nA z → iL z r d a → (a_s y a = 1 → y 8 (a_c z a) = 0) ∧ (a_s y a = 2 → y 8 (a_c z a) = z 8 (a_c z a) + 1 ∧ ¬ a_p z a + nS (wpF z y r d) (nA z) ≤ pl_N z r d)) ∧
  (∀ c, (∀ a, a < nA z → iL z r d a → a_c z a ≠ c) → y 8 c = z 8 c) ∧
  nS (wpF z y r d) (nA z) ≤ pl_N z r d ∧ paidBy y (-1) = paidBy z (-1) + nI (nS (wpF z y r d) (nA z)) * z 4 0 ∧ stN y r d 0 = 0 ∧
  (∀ a a', a < nA z → a' < nA z → iL z r d a → iL z r d a' → a_c z a = a_c z a' → a = a')
theorem inL_n {z : St} {b : Nat} (h : OI z b) {r d a : Nat} (hr : r < 6) (hd : d < 60) (ha : a < nA z) : inL z (nI r) (nI d) a ↔ iL z r d a := by
  obtain ⟨-, ⟨e12, -, r6⟩, ⟨e13, d6⟩, -, ⟨e15, s7⟩, -⟩ := h.ap ha
  unfold inL onP brdP
  have f0 : z 15 a = 0 ↔ a_s z a = 0 := by rw [e15]; exact nI_eq (b := 0) (by omega) (by decide)
  have fr : z 12 a = nI r ↔ a_r z a = r := by rw [e12]; exact nI_eq (by omega) (by omega)
  have fd : z 13 a = nI d ↔ a_d z a = d := by rw [e13]; exact nI_eq (by omega) (by omega)
  rw [f0, fr, fd]
  constructor
  · rintro ⟨h1, ⟨h2, h3⟩, h4⟩
    refine ⟨⟨h1, h2, h3⟩, Int32.not_le.mp (fun q => h4 ?_)⟩
    rw [fd.mpr h3]; exact q
  · rintro ⟨⟨h1, h2, h3⟩, h4⟩
    refine ⟨h1, ⟨h2, h3⟩, fun q => ?_⟩
    rw [fd.mpr h3] at q
    exact absurd h4 (Int32.not_lt.mpr q)
/-- the entries that won, counted by their applications -/
theorem won_sum {z : St} {r d : Int32} (g : Nat → Int32) : ∀ k, k ≤ 40 → sm (fun e => if g e = 0 then 0 else 1) (cE z r d k) = nI (nS (fun a => if inL z r d a ∧ ¬ g (cE z r d a) = 0 then 1 else 0) k) := by
  intro k
  induction k with
  | zero => intro _; rfl
  | succ k ih =>
    intro hk
    show _ = nI (nS _ k + (if inL z r d k ∧ ¬ g (cE z r d k) = 0 then 1 else 0))
    by_cases c : inL z r d k
    · rw [cE_s c]
      show sm _ (cE z r d k) + (if g (cE z r d k) = 0 then (0 : Int32) else 1) = _
      rw [ih (by omega)]
      by_cases q : g (cE z r d k) = 0
      · rw [if_pos q, if_neg (fun w => w.2 q)]; exact Int32.add_zero _
      · rw [if_neg q, if_pos ⟨c, q⟩]; exact nI_add _ 1
    · rw [cE_n c, ih (by omega), if_neg (fun w => c w.1)]
      rfl
