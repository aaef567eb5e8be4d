/-! ===== closing a day ===== -/
theorem laterF_ok (z : St) (a : Nat) (last : Int32) : ∀ (n d : Nat), laterF z a last n d = -6 ∨ ∃ j, d ≤ j ∧ j < d + n ∧ nI j ≤ last ∧ laterF z a last n d = nI j ∧ openP z (nI j) ∧ z 14 a ≤ freeP z (z 12 a) (nI j) := by
  intro n
  induction n with
  | zero => intro d; exact Or.inl rfl
  | succ n ih =>
    intro d
    unfold laterF
    split
    · rename_i h1
      split
      · rename_i h2
        exact Or.inr ⟨d, Nat.le_refl _, by omega, h1, rfl, h2.1, h2.2⟩
      · rcases ih (d + 1) with h | ⟨j, j1, j2, j3⟩
        · exact Or.inl h
        · exact Or.inr ⟨j, by omega, by omega, j3⟩
    · exact Or.inl rfl
theorem later_ok {z : St} {a d s : Nat} (e13 : z 13 a = nI d) (hd : d < 60) (e4 : z 4 4 = nI s) (hs : s ≤ 10) (h : ¬ later z a < 0) : ∃ j, later z a = nI j ∧ d < j ∧ j ≤ d + s ∧ j < 60 ∧ openP z (nI j) ∧ z 14 a ≤ freeP z (z 12 a) (nI j) := by
  rcases laterF_ok z a (lastD z a) 61 (cn (z 13 a) + 1) with e | ⟨j, j1, j2, j3, j4, j5, j6⟩
  · exact absurd (show later z a < 0 by unfold later; rw [e]; decide) h
  · rw [e13, cn_nI (by omega)] at j1 j2
    have e : lastD z a = if 59 < d + s then 59 else nI (d + s) := by
      unfold lastD
      rw [e13, e4, nI_add]
      by_cases q : 59 < d + s
      · rw [if_pos q, if_pos (show (59 : Int32) < nI (d + s) from (nI_ltI (a := 59) (by decide) (by omega)).mpr q)]
      · rw [if_neg q, if_neg (show ¬ (59 : Int32) < nI (d + s) from fun w => q ((nI_ltI (a := 59) (by decide) (by omega)).mp w))]
    rw [e] at j3
    refine ⟨j, j4, by omega, ?_, ?_, j5, j6⟩
    · split at j3
      · have := (nI_leI (b := 59) (by omega) (by decide)).mp j3; omega
      · exact (nI_leI (by omega) (by omega)).mp j3
    · split at j3
      · have := (nI_leI (b := 59) (by omega) (by decide)).mp j3; omega
      · have := (nI_leI (by omega) (by omega)).mp j3; omega
def MvI (z : St) (d k : Nat) (y : St) : Prop :=
  (∀ f, f ≠ 7 → f ≠ 8 → f ≠ 13 → f ≠ 15 → f ≠ 17 → f ≠ 18 → y f = z f) ∧ y 7 = u2 z 7 d 1 7 ∧
  (∀ a, k ≤ a ∨ ¬ (a_s z a = 1 ∧ a_d z a = d) → y 13 a = z 13 a ∧ y 15 a = z 15 a ∧ y 17 a = z 17 a ∧ y 18 a = z 18 a) ∧
  (∀ a, a < k → a_s z a = 1 → a_d z a = d → (y 15 a = 4 ∧ y 13 a = nI d ∧ y 17 a = z 16 a) ∨ (y 15 a = 1 ∧ y 17 a = z 17 a ∧ y 18 a = 0 ∧ ∃ j, y 13 a = nI j ∧ d < j ∧ j ≤ d + cn (z 4 4) ∧ j < 60 ∧ z 7 j = 0)) ∧
  (∀ r, r < NR z → ∀ q, q < 60 → tkN y r q ≤ cn (z 5 r))
theorem Mv_step {z y : St} {b b' : Nat} (h : JI z b) {d k : Nat} (hd : d < 60) (hk : k < nA z) (hO : OI y b') (hM : MvI z d k y) :
    MvI z d (k + 1) (move1 y (nI d) k) ∧ moved1 y (nI d) k = nI (if (a_s z k = 1 ∧ a_d z k = d) ∧ a_s (move1 y (nI d) k) k = 1 then 1 else 0) := by
  obtain ⟨lo, e7, m1, m2, m3⟩ := hM
  obtain ⟨-, ⟨e12, r1, r6⟩, ⟨e13, d6⟩, ⟨e14, p1, p4⟩, ⟨e15, s7⟩, k40⟩ := h.ap hk
  obtain ⟨k13, k15, k17, k18⟩ := m1 k (Or.inl (Nat.le_refl _))
  have c1 : cn (1 : Int32) = 1 := by decide
  have c4 : cn (4 : Int32) = 4 := by decide
  have hc : (y 15 k = 1 ∧ y 13 k = nI d) ↔ (a_s z k = 1 ∧ a_d z k = d) := by
    rw [k15, k13, e15, e13]
    have f1 : nI (a_s z k) = 1 ↔ a_s z k = 1 := nI_eq (b := 1) (by omega) (by decide)
    have f2 : nI (a_d z k) = nI d ↔ a_d z k = d := nI_eq (by omega) (by omega)
    rw [f1, f2]
  have en : nA y = nA z := by unfold nA; rw [lo 3 (by decide) (by decide) (by decide) (by decide) (by decide) (by decide)]
  unfold moved1 move1
  by_cases c : a_s z k = 1 ∧ a_d z k = d
  · have cy := hc.mpr c
    have hOI := h.oi.sh
    by_cases hl : later y k < 0
    · rw [if_neg (show ¬ ((y 15 k = 1 ∧ y 13 k = nI d) ∧ ¬ later y k < 0) from fun q => q.2 hl), if_pos cy, if_pos hl]
      have e15' : refundZ y k 15 k = 4 := by unfold refundZ; rw [u2_f (by decide), u2_f (by decide), u2_s]
      have o : ∀ f a, a ≠ k → f ≠ 8 → refundZ y k f a = y f a := fun f a q1 q2 => by unfold refundZ; rw [u2_f q2, u2_i _ q1, u2_i _ q1]
      have l : ∀ f, f ≠ 8 → f ≠ 15 → f ≠ 17 → refundZ y k f = y f := fun f q1 q2 q3 => by unfold refundZ; rw [u2_f q1, u2_f q3, u2_f q2]
      have e17' : refundZ y k 17 k = y 16 k := by unfold refundZ; rw [u2_f (by decide), u2_s]
      have en2 : nA (refundZ y k) = nA y := by unfold nA; rw [l 3 (by decide) (by decide) (by decide)]
      refine ⟨⟨fun f q1 q2 q3 q4 q5 q6 => by rw [l f q2 q4 q5]; exact lo f q1 q2 q3 q4 q5 q6, by rw [l 7 (by decide) (by decide) (by decide)]; exact e7, fun a ha => ?_, fun a ha hs hd' => ?_, fun r hr q hq => ?_⟩, ?_⟩
      · have hne : a ≠ k := by
          rintro rfl
          rcases ha with ha | ha
          · omega
          · exact ha c
        rw [o 13 a hne (by decide), o 15 a hne (by decide), o 17 a hne (by decide), o 18 a hne (by decide)]
        exact m1 a (by omega)
      · by_cases hne : a = k
        · subst hne
          left
          refine ⟨e15', ?_, ?_⟩
          · rw [l 13 (by decide) (by decide) (by decide), k13, e13, c.2]
          · rw [e17', lo 16 (by decide) (by decide) (by decide) (by decide) (by decide) (by decide)]
        · rw [o 13 a hne (by decide), o 15 a hne (by decide), o 17 a hne (by decide), o 18 a hne (by decide)]
          exact m2 a (by omega) hs hd'
      · refine Nat.le_trans (tk_le en2 (fun a ha => ?_)) (m3 r hr q hq)
        by_cases hne : a = k
        · subst hne
          unfold tkF a_s
          rw [e15', c4, if_neg (by omega)]; exact Nat.zero_le _
        · exact Nat.le_of_eq (tkF_of (o _ _ hne (by decide)) (o _ _ hne (by decide)) (o _ _ hne (by decide)) (o _ _ hne (by decide)))
      · have : ¬ ((a_s z k = 1 ∧ a_d z k = d) ∧ a_s (refundZ y k) k = 1) := fun w => by
          have w2 := w.2
          unfold a_s at w2
          rw [e15', c4] at w2
          omega
        rw [if_neg this]; rfl
    · rw [if_pos (show (y 15 k = 1 ∧ y 13 k = nI d) ∧ ¬ later y k < 0 from ⟨cy, hl⟩), if_pos cy, if_neg hl]
      obtain ⟨j, ej, j1, j2, j3, j4, j5⟩ := later_ok (d := d) (s := cn (z 4 4)) (by rw [k13, e13, c.2]) hd (by rw [lo 4 (by decide) (by decide) (by decide) (by decide) (by decide) (by decide)]; exact hOI.1) hOI.2 hl
      rw [ej]
      have o : ∀ f a, a ≠ k → u2 (u2 y 13 k (nI j)) 18 k 0 f a = y f a := fun f a q1 => by rw [u2_i _ q1, u2_i _ q1]
      have l : ∀ f, f ≠ 13 → f ≠ 18 → u2 (u2 y 13 k (nI j)) 18 k 0 f = y f := fun f q1 q2 => by rw [u2_f q2, u2_f q1]
      have e13' : u2 (u2 y 13 k (nI j)) 18 k 0 13 k = nI j := by rw [u2_f (by decide), u2_s]
      have e18' : u2 (u2 y 13 k (nI j)) 18 k 0 18 k = 0 := by rw [u2_s]
      have en2 : nA (u2 (u2 y 13 k (nI j)) 18 k 0) = nA y := by unfold nA; rw [l 3 (by decide) (by decide)]
      have h15 : y 15 k = 1 := cy.1
      have ez12 : y 12 = z 12 := lo 12 (by decide) (by decide) (by decide) (by decide) (by decide) (by decide)
      have ez14 : y 14 = z 14 := lo 14 (by decide) (by decide) (by decide) (by decide) (by decide) (by decide)
      have ez5 : y 5 = z 5 := lo 5 (by decide) (by decide) (by decide) (by decide) (by decide) (by decide)
      have ez6 : y 6 = z 6 := lo 6 (by decide) (by decide) (by decide) (by decide) (by decide) (by decide)
      have enr : NR y = NR z := by unfold NR; rw [lo 1 (by decide) (by decide) (by decide) (by decide) (by decide) (by decide)]
      have hz7 : z 7 j = 0 := by
        have q := j4.2.2
        rw [cn_nI (by omega), e7, u2_i _ (by omega)] at q
        exact q
      rw [ez14, ez12, e14, e12] at j5
      have hfit := (hO.fit_free (RJ_of (h.rj r1) (by rw [ez5]) (by rw [ez6])) (by rw [enr]; exact r1) j3 (by omega)).mp j5
      rw [ez5] at hfit
      generalize u2 (u2 y 13 k (nI j)) 18 k 0 = w at *
      refine ⟨⟨fun f q1 q2 q3 q4 q5 q6 => by rw [l f q3 q6]; exact lo f q1 q2 q3 q4 q5 q6, by rw [l 7 (by decide) (by decide)]; exact e7, fun a ha => ?_, fun a ha hs hd' => ?_, fun r hr q hq => ?_⟩, ?_⟩
      · have hne : a ≠ k := by
          rintro rfl
          rcases ha with ha | ha
          · omega
          · exact ha c
        rw [o 13 a hne, o 15 a hne, o 17 a hne, o 18 a hne]
        exact m1 a (by omega)
      · by_cases hne : a = k
        · subst hne
          right
          exact ⟨by rw [l 15 (by decide) (by decide)]; exact h15, by rw [l 17 (by decide) (by decide), k17], e18', j, e13', j1, j2, j3, hz7⟩
        · rw [o 13 a hne, o 15 a hne, o 17 a hne, o 18 a hne]
          exact m2 a (by omega) hs hd'
      · have hp := nS_pt (f := tkF w r q) (g := tkF y r q) (a := k) (n := nA z) hk (fun a _ hne => tkF_of (o _ _ hne) (o _ _ hne) (o _ _ hne) (o _ _ hne))
        have h0 := m3 r hr q hq
        have ht2 : tkF w r q k = if a_r z k = r ∧ j = q then a_p z k else 0 := by
          unfold tkF a_s a_r a_d a_p
          rw [l 12 (by decide) (by decide), l 14 (by decide) (by decide), l 15 (by decide) (by decide), e13', h15, c1, ez12, ez14, cn_nI (by omega)]
          simp
        have enw : nA w = nA z := en2.trans en
        unfold tkN at h0 hfit ⊢
        rw [en] at h0 hfit
        rw [enw]
        rw [ht2] at hp
        split at hp
        · rename_i w1
          obtain ⟨rfl, rfl⟩ := w1
          omega
        · omega
      · have : (a_s z k = 1 ∧ a_d z k = d) ∧ a_s w k = 1 := ⟨c, by unfold a_s; rw [l 15 (by decide) (by decide), h15, c1]⟩
        rw [if_pos this]; rfl
  · have cy : ¬ (y 15 k = 1 ∧ y 13 k = nI d) := fun q => c (hc.mp q)
    rw [if_neg (show ¬ ((y 15 k = 1 ∧ y 13 k = nI d) ∧ ¬ later y k < 0) from fun q => cy q.1), if_neg cy, if_neg (show ¬ ((a_s z k = 1 ∧ a_d z k = d) ∧ a_s y k = 1) from fun q => c q.1)]
    refine ⟨⟨lo, e7, fun a ha => m1 a (by omega), fun a ha hs hd' => m2 a ?_ hs hd', m3⟩, rfl⟩
    by_cases hne : a = k
    · subst hne; exact absurd ⟨hs, hd'⟩ c
    · omega
