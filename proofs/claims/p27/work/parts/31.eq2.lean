/-! one draw of each -/
theorem sm_pt {g g' : Nat → Int32} {a : Nat} : ∀ {n : Nat}, a < n → (∀ b, b < n → b ≠ a → g' b = g b) → sm g' n = sm g n - g a + g' a := by
  intro n
  induction n with
  | zero => intro h; omega
  | succ n ih =>
    intro ha h
    show sm g' n + g' n = sm g n + g n - g a + g' a
    by_cases e : n = a
    · subst e
      rw [sm_congr (g := g') (g' := g) (fun b hb => h b (by omega) (by omega))]
      grind
    · rw [ih (by omega) (fun b hb => h b (by omega)), h n (by omega) e]
      grind
theorem leftP_of {z y : St} {r d : Int32} (h3 : y 3 0 = z 3 0) (h5 : y 5 (cn r) = z 5 (cn r)) (h6 : y 6 (cn r) = z 6 (cn r)) (h : ∀ a, a < nA z → (if takesP y a ∧ onP y a r d then y 14 a else 0) = (if takesP z a ∧ onP z a r d then z 14 a else 0)) : leftP y r d = leftP z r d := by
  have en : nA y = nA z := by unfold nA; rw [h3]
  unfold leftP freeP taken
  rw [h5, h6, en, sm_congr h]
theorem seedZ_lo (y : St) {f : Nat} (h : f ≠ 4) : seedZ y f = y f := by unfold seedZ; rw [u2_f h]
theorem seedZ_leftP (y : St) (r d : Int32) : leftP (seedZ y) r d = leftP y r d := by
  refine leftP_of (by rw [seedZ_lo y (by decide)]) (by rw [seedZ_lo y (by decide)]) (by rw [seedZ_lo y (by decide)]) (fun a ha => ?_)
  unfold takesP onP
  rw [seedZ_lo y (f := 15) (by decide), seedZ_lo y (f := 12) (by decide), seedZ_lo y (f := 13) (by decide), seedZ_lo y (f := 14) (by decide)]
theorem pick_fst {y : St} {X a n : Nat} (hn : n ≤ 40) (ha : a < n) (hX : X < 2 ^ 31) (t : Nat → Nat) (hS : ∀ k, k ≤ n → tkS y k = nI (nS t k) ∧ nS t k ≤ 40000000) (h1 : nS t a ≤ X) (h2 : X < nS t (a + 1)) : pickM y (nI X) n = nI a := by
  have hp : ∀ j, j < n → ((decide (¬ tkS y (j + 1) ≤ nI X)) = true ↔ X < nS t (j + 1)) := by
    intro j hj
    obtain ⟨e1, e2⟩ := hS (j + 1) (by omega)
    rw [e1, decide_eq_true_eq, nI_leI (by omega) hX]
    omega
  unfold pickM
  rcases fstF_rng (fun a => decide (¬ tkS y (a + 1) ≤ nI X)) n 0 with h | ⟨j, -, h4, h5, h6⟩
  · have := fstF_none _ n 0 (by omega) h a (by omega) (by omega)
    rw [(hp a ha).mpr h2] at this
    exact absurd this (by decide)
  · rw [h5]
    have hj := (hp j (by omega)).mp h6
    congr 1
    rcases Nat.lt_trichotomy j a with h7 | h7 | h7
    · have := nS_mono t (show j + 1 ≤ a from h7)
      omega
    · exact h7
    · have := fstF_min _ n 0 j (by omega) (by omega) h5 a (by omega) h7
      rw [(hp a ha).mpr h2] at this
      exact absurd this (by decide)
theorem Rel.step {o z : St} {r d : Int32} {q : St × Int32 × Int32 × Int32} {y : St} {g : Int32} (h : Rel o z r d q y g) (hB : TkB z) (h40 : nA z ≤ 40) (hsd : ∃ s, s < 65536 ∧ y 4 5 = nI s) (hl : ¬ tkS y (nA z) ≤ 0) :
    Rel o z r d (hstp (cE z r d (nA z)) q) (drw1 y r d) (if y 14 (dA y) ≤ leftP (seedZ y) r d then g + 1 else g) ∧ nzK (drw1 y r d) (nA z) + 1 = nzK y (nA z) := by
  have hny : nA y = nA z := by unfold nA; rw [h.n3]
  have hS := fun k hk => h.sums hB h40 (k := k) hk
  have hT := hS (nA z) (Nat.le_refl _)
  have hE := cE_le z r d (nA z)
  obtain ⟨s, hs1, hs2⟩ := seedN_in hsd
  generalize hTT : nS (fun a => cn (y 81 a)) (nA z) = T at hT
  have hT0 : 0 < T := by
    rcases Nat.eq_zero_or_pos T with e | e
    · subst e; exact absurd (by rw [hT.1]; exact Int32.le_refl 0) hl
    · exact e
  have hX : drX y (tkS y (nA z)) = nI (s % T) := by
    show seedN (y 4 5) - seedN (y 4 5) / tkS y (nA z) * tkS y (nA z) = _
    rw [hs2, hT.1]
    exact pk_rem (by omega) hT0 (by omega)
  have hmod := Nat.mod_lt s hT0
  obtain ⟨a, ha, hin, h64, hlo, hhi, hent⟩ := (h.pick hB h40 (X := s % T) (by omega) (nA z) (Nat.le_refl _)).2 (by rw [hTT]; exact hmod)
  have hpk : pickM y (drX y (tkS y (nA y))) (nA y) = nI a := by
    rw [hny, hX]
    exact pick_fst h40 ha (by omega) _ hS hlo hhi
  have hdA : dA y = a := by unfold dA; rw [hpk, cn_nI (by omega)]
  have hx : seedN q.2.1 - seedN q.2.1 / q.2.2.2 * q.2.2.2 = nI (s % T) := by
    rw [← h.seed, ← h.left]; exact hX
  obtain ⟨r1, r2, r3⟩ := h.row a ha hin
  obtain ⟨f12, f13, f14⟩ := h.f11 a ha
  have hcE := cE_lt hin ha
  obtain ⟨W, hW⟩ : ∃ W, W = u2 (u2 q.1 64 (cE z r d a) 1) 65 (cE z r d a) (bi (z 14 a ≤ q.2.2.1)) := ⟨_, rfl⟩
  have hh : hstp (cE z r d (nA z)) q = (W, seedN q.2.1, if z 14 a ≤ q.2.2.1 then q.2.2.1 - z 14 a else q.2.2.1, q.2.2.2 - tkt z a) := by
    rw [hstp, if_neg (by rw [← h.left]; exact hl), hx, hent]
    show (u2 (u2 q.1 64 (cn (nI (cE z r d a))) 1) 65 (cn (nI (cE z r d a))) (bi (q.1 62 (cn (nI (cE z r d a))) ≤ q.2.2.1)), seedN q.2.1, if q.1 62 (cn (nI (cE z r d a))) ≤ q.2.2.1 then q.2.2.1 - q.1 62 (cn (nI (cE z r d a))) else q.2.2.1, q.2.2.2 - q.1 63 (cn (nI (cE z r d a)))) = _
    rw [cn_nI (by omega), r2, r3, ← hW]
  have hpl : leftP (seedZ y) r d = q.2.2.1 := by rw [seedZ_leftP, h.places]
  have hd1 : drw1 y r d = u2 (if z 14 a ≤ q.2.2.1 then permit (seedZ y) a else u2 (seedZ y) 15 a 2) 81 a 0 := by
    unfold drw1
    rw [hdA, hpl, f14]
  have hg : (if y 14 (dA y) ≤ leftP (seedZ y) r d then g + 1 else g) = if z 14 a ≤ q.2.2.1 then g + 1 else g := by rw [hdA, hpl, f14]
  have h81 := drw1_81 y r d
  rw [hdA] at h81
  have hlo1 : ∀ f, f ≠ 4 ∧ f ≠ 15 ∧ f ≠ 16 ∧ f ≠ 81 → drw1 y r d f = y f := fun f hf => drw1_lo y r d hf
  have e45 : drw1 y r d 4 = seedZ y 4 := drw1_4 y r d
  have n1 : ∀ b, inL z r d b → b ≠ a → cE z r d b ≠ cE z r d a := fun b hb hne he => hne (cE_inj hb hin he)
  have y15 : ∀ b, drw1 y r d 15 b = if b = a then (if z 14 a ≤ q.2.2.1 then 1 else 2) else y 15 b := by
    intro b
    rw [hd1, u2_f (by decide)]
    by_cases e : b = a
    · subst e
      rw [if_pos rfl]
      split
      · unfold permit; rw [u2_f (by decide), u2_s]
      · rw [u2_s]
    · rw [if_neg e]
      split
      · unfold permit; rw [u2_f (by decide), u2_i _ e, seedZ_lo y (by decide)]
      · rw [u2_i _ e, seedZ_lo y (by decide)]
  have y16 : ∀ b, drw1 y r d 16 b = if b = a then (if z 14 a ≤ q.2.2.1 then z 4 0 * z 14 a else y 16 a) else y 16 b := by
    intro b
    rw [hd1, u2_f (by decide)]
    by_cases e : b = a
    · subst e
      rw [if_pos rfl]
      split
      · unfold permit
        rw [u2_s, seedZ_lo y (f := 14) (by decide), f14]
        have : seedZ y 4 0 = z 4 0 := by unfold seedZ; rw [u2_i _ (by decide), h.fee]
        rw [this]
      · rw [u2_f (by decide), seedZ_lo y (by decide)]
    · rw [if_neg e]
      split
      · unfold permit; rw [u2_i _ e, u2_f (by decide), seedZ_lo y (by decide)]
      · rw [u2_f (by decide), seedZ_lo y (by decide)]
  have w64 : ∀ e, W 64 e = if e = cE z r d a then 1 else q.1 64 e := by
    intro e
    rw [hW, u2_f (by decide)]
    by_cases q : e = cE z r d a
    · subst q; rw [u2_s, if_pos rfl]
    · rw [u2_i _ q, if_neg q]
  have w65 : ∀ e, W 65 e = if e = cE z r d a then bi (z 14 a ≤ q.2.2.1) else q.1 65 e := by
    intro e
    rw [hW]
    by_cases q : e = cE z r d a
    · subst q; rw [u2_s, if_pos rfl]
    · rw [u2_i _ q, u2_f (by decide), if_neg q]
  have sa15 : y 15 a = 0 := by rw [h.s15 a ha hin, if_pos h64]
  have h81a : y 81 a = tkt z a := by rw [h.tk a ha hin, if_pos h64]
  have h81n : ¬ y 81 a = 0 := by
    rw [h81a]
    intro e
    have := (hB a ha).2.1
    rw [e] at this
    exact absurd this (by decide)
  refine ⟨?_, nzK_dec ha h81n h81.1 h81.2⟩
  rw [hg, hh]
  refine ⟨?_, ?_, ?_, ?_, ?_, ?_, ?_, ?_, ?_, ?_, ?_, ?_, ?_, ?_⟩
  · intro b hb hbin
    show W 61 _ = _ ∧ W 62 _ = _ ∧ W 63 _ = _
    rw [hW, u2_f (show 61 ≠ 65 by decide), u2_f (show 61 ≠ 64 by decide), u2_f (show 62 ≠ 65 by decide), u2_f (show 62 ≠ 64 by decide), u2_f (show 63 ≠ 65 by decide), u2_f (show 63 ≠ 64 by decide)]
    exact h.row b hb hbin
  · intro b hb hbin
    show _ = if W 64 _ = 0 then _ else _
    rw [w64]
    by_cases e : b = a
    · subst e; rw [h81.1, if_pos rfl]; rfl
    · rw [h81.2 b e, if_neg (n1 b hbin e)]; exact h.tk b hb hbin
  · intro b hb hbn
    have : b ≠ a := fun e => hbn (e ▸ hin)
    rw [h81.2 b this]; exact h.tn b hb hbn
  · intro b hb hbin
    show _ = if W 64 _ = 0 then _ else if W 65 _ = 0 then _ else _
    rw [w64, w65, y15]
    by_cases e : b = a
    · subst e
      rw [if_pos rfl, if_pos rfl, if_pos rfl]
      by_cases hf : z 14 b ≤ q.2.2.1
      · rw [if_pos hf, bi_t hf]; rfl
      · rw [if_neg hf, bi_f hf]; rfl
    · rw [if_neg e, if_neg (n1 b hbin e), if_neg (n1 b hbin e)]; exact h.s15 b hb hbin
  · intro b hb hbin
    show _ = if W 64 _ = 0 then _ else if W 65 _ = 0 then _ else _
    rw [w64, w65, y16]
    by_cases e : b = a
    · subst e
      have e16 : y 16 b = z 16 b := by rw [h.s16 b hb hbin, if_pos h64]
      rw [if_pos rfl, if_pos rfl, if_pos rfl, e16]
      by_cases hf : z 14 b ≤ q.2.2.1
      · rw [if_pos hf, bi_t hf]; rfl
      · rw [if_neg hf, bi_f hf]; rfl
    · rw [if_neg e, if_neg (n1 b hbin e), if_neg (n1 b hbin e)]; exact h.s16 b hb hbin
  · show _ = seedN q.2.1
    rw [e45, seedZ, u2_s, h.seed]
  · show _ = if z 14 a ≤ q.2.2.1 then q.2.2.1 - z 14 a else q.2.2.1
    by_cases hf : z 14 a ≤ q.2.2.1
    · rw [if_pos hf, ← h.places]
      have e5 : drw1 y r d 5 = y 5 := hlo1 5 (by decide)
      have e6 : drw1 y r d 6 = y 6 := hlo1 6 (by decide)
      have en : nA (drw1 y r d) = nA z := by rw [nA_of (hlo1 3 (by decide)), hny]
      have htk : taken (drw1 y r d) r d = taken y r d + z 14 a := by
        unfold taken
        rw [en, hny]
        have := sm_pt (g := fun a => if takesP y a ∧ onP y a r d then y 14 a else 0) (g' := fun a => if takesP (drw1 y r d) a ∧ onP (drw1 y r d) a r d then drw1 y r d 14 a else 0) ha (fun b hb hne => by
          show (if takesP (drw1 y r d) b ∧ onP (drw1 y r d) b r d then drw1 y r d 14 b else 0) = if takesP y b ∧ onP y b r d then y 14 b else 0
          unfold takesP onP
          rw [y15, if_neg hne, hlo1 12 (by decide), hlo1 13 (by decide), hlo1 14 (by decide)])
        rw [this]
        have e1 : ¬ (takesP y a ∧ onP y a r d) := by rintro ⟨q, -⟩; unfold takesP at q; rw [sa15] at q; exact absurd q (by decide)
        have e2 : takesP (drw1 y r d) a ∧ onP (drw1 y r d) a r d := by
          refine ⟨Or.inl ?_, ?_, ?_⟩
          · rw [y15, if_pos rfl, if_pos hf]
          · rw [hlo1 12 (by decide), f12]; exact hin.2.1.1
          · rw [hlo1 13 (by decide), f13]; exact hin.2.1.2
        show sm _ _ - (if takesP y a ∧ onP y a r d then y 14 a else 0) + (if takesP (drw1 y r d) a ∧ onP (drw1 y r d) a r d then drw1 y r d 14 a else 0) = _
        rw [if_neg e1, if_pos e2, hlo1 14 (by decide), f14, Int32.sub_zero]
      unfold leftP freeP
      rw [e5, e6, htk]
      grind
    · rw [if_neg hf, ← h.places]
      refine leftP_of (by rw [hlo1 3 (by decide)]) (by rw [hlo1 5 (by decide)]) (by rw [hlo1 6 (by decide)]) (fun b hb => ?_)
      rw [hny] at hb
      unfold takesP onP
      rw [y15, hlo1 12 (by decide), hlo1 13 (by decide), hlo1 14 (by decide)]
      by_cases e : b = a
      · subst e
        rw [if_pos rfl, if_neg hf, sa15, if_neg (fun q => absurd q.1 (by decide)), if_neg (fun q => absurd q.1 (by decide))]
      · rw [if_neg e]
  · show _ = q.2.2.2 - tkt z a
    rw [tkS_dec ha h81.1 h81.2, h81a, h.left]
  · rw [hlo1 3 (by decide)]; exact h.n3
  · rw [e45]
    have : seedZ y 4 0 = y 4 0 := by unfold seedZ; rw [u2_i _ (by decide)]
    rw [this]; exact h.fee
  · intro b hb
    rw [hlo1 12 (by decide), hlo1 13 (by decide), hlo1 14 (by decide)]
    exact h.f11 b hb
  · intro b hb
    have hne : b ≠ a := fun e => hb (e ▸ ⟨ha, hin⟩)
    rw [y15, y16, if_neg hne, if_neg hne]
    exact h.sn b hb
  · intro j hj
    rw [e45]
    have : seedZ y 4 j = y 4 j := by unfold seedZ; rw [u2_i _ hj]
    rw [this]; exact h.f4 j hj
  · show _ = sm (fun e => if W 64 e = 0 then 0 else if W 65 e = 0 then 0 else 1) _
    have := sm_pt (g := fun e => if q.1 64 e = 0 then 0 else if q.1 65 e = 0 then 0 else 1) (g' := fun e => if W 64 e = 0 then 0 else if W 65 e = 0 then 0 else 1) hcE (fun b hb hne => by
      show (if W 64 b = 0 then (0 : Int32) else if W 65 b = 0 then 0 else 1) = _
      rw [w64, w65, if_neg hne, if_neg hne])
    rw [this, ← h.cnt]
    show _ = g - (if q.1 64 (cE z r d a) = 0 then 0 else if q.1 65 (cE z r d a) = 0 then 0 else 1) + (if W 64 (cE z r d a) = 0 then 0 else if W 65 (cE z r d a) = 0 then 0 else 1)
    rw [w64, w65, if_pos rfl, if_pos rfl, if_pos h64]
    by_cases hf : z 14 a ≤ q.2.2.1
    · rw [if_pos hf, bi_t hf, Int32.sub_zero]; rfl
    · rw [if_neg hf, bi_f hf, Int32.sub_zero]
      show g = g + 0
      rw [Int32.add_zero]
