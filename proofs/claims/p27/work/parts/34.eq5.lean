/-- fields that both sides have -/
abbrev Shr (f : Nat) : Prop := f < 61 ∨ f = 68 ∨ f = 69 ∨ (75 ≤ f ∧ f < 80) ∨ 87 ≤ f
theorem same_refl (z : St) : SameO z z := fun _ _ _ => rfl
theorem leftP_Y (z : St) (r d : Int32) (k : Nat) : leftP (enterK z r d k) r d = leftP z r d := by
  have lo : ∀ f, f < 61 → enterK z r d k f = z f := fun f hf => enterK_lo z r d k (by omega)
  refine leftP_of (by rw [lo 3 (by omega)]) (by rw [lo 5 (by omega)]) (by rw [lo 6 (by omega)]) (fun a ha => ?_)
  unfold takesP onP
  rw [lo 15 (by omega), lo 12 (by omega), lo 13 (by omega), lo 14 (by omega)]
theorem lot_eq {z : St} {r d : Int32} (hI : IO z) (hb : B87 z) (hB : TkB z) (hu : Uniq z) (hc : ClimIn z) (hr : routeP z r) (hsd : ∃ k, k < 65536 ∧ z 4 5 = nI k) :
    (clsLot z r d).1 = (mHold z r d).1 ∧ ∀ f, Shr f → (clsLot z r d).2 f = (mHold z r d).2 f := by
  have h40 := (iNa hI).2
  obtain ⟨k1, k2, k3⟩ := enterK_all z r d (nA z) (by omega)
  have hEle := cE_le z r d (nA z)
  have hE : cn (enterK z r d (nA z) 66 0) = cE z r d (nA z) := by rw [k1, cn_nI (by omega)]
  have y4 : enterK z r d (nA z) 4 = z 4 := enterK_lo z r d _ (by omega)
  obtain ⟨H1, H2, H3, H4, H5, H6, H7⟩ := hold_at (zm := z) (w := enterK z r d (nA z)) (s := z 4 5) hI hb hB hu hc hr (same_refl z) rfl hsd (fun f _ _ => rfl)
  unfold clsLot
  rw [hE, leftP_Y, y4]
  generalize hQ : hq (enterK z r d (nA z)) (z 4 5) (leftP z r d) (cE z r d (nA z)) = q at H1 H2 H3 H4 H5 H6 H7 ⊢
  have q1 : ∀ f, f ≠ 64 → f ≠ 65 → q.1 f = enterK z r d (nA z) f := fun f a b => by rw [← hQ]; exact hq_lo _ _ _ _ ⟨a, b⟩
  have q2 : ∀ f, f < 61 ∨ 67 < f → q.1 f = z f := fun f hf => by rw [q1 f (by omega) (by omega)]; exact enterK_lo z r d _ (by omega)
  obtain ⟨X, hX⟩ : ∃ X, X = loseK (u2 q.1 4 5 q.2.1) r d (nA z) := ⟨_, rfl⟩
  have hn : nA q.1 = nA z := nA_of (q2 3 (by omega))
  have x1 : ∀ f, f ≠ 15 → f ≠ 4 → X f = q.1 f := fun f h1 h2 => by
    funext i
    rw [hX, loseK_ne (Or.inl h1), u2_f h2]
  have x15 : ∀ i, X 15 i = if i < nA z ∧ z 15 i = 0 ∧ (z 13 i = d ∧ (r = -1 ∨ r = z 12 i)) then 2 else z 15 i := by
    intro i
    rw [hX, loseK_15, u2_f (by decide), u2_f (by decide), u2_f (by decide), q2 15 (by omega), q2 13 (by omega), q2 12 (by omega)]
  have x4 : ∀ j, X 4 j = if j = 5 then q.2.1 else z 4 j := by
    intro j
    rw [hX, loseK_ne (Or.inl (by decide))]
    by_cases e : j = 5
    · subst e; rw [u2_s, if_pos rfl]
    · rw [u2_i _ e, if_neg e, q2 4 (by omega)]
  rw [← hX]
  have S := settle_at (X := X) (r := r) (d := d) hI hu (fun a ha h => by rw [x1 61 (by decide) (by decide), q1 61 (by decide) (by decide)]; exact (k3 a ha h).1) (by rw [x1 11 (by decide) (by decide), q2 11 (by omega)]) (nA z) (Nat.le_refl _)
  obtain ⟨S1, S2, S3, S4⟩ := S
  have x65 : X 65 = q.1 65 := x1 65 (by decide) (by decide)
  have hm1 : ¬ r = -1 := not_m1 hr.1
  refine ⟨?_, fun f hf => ?_⟩
  · show wonK X _ = _
    rw [wonK_sm, x65, H1]
  · show settleK X _ f = _
    by_cases f15 : f = 15
    · subst f15
      funext i
      rw [S1, H4, x15, x65]
      by_cases hi : i < nA z
      · rw [if_pos hi]
        by_cases h : inL z r d i
        · rw [if_pos h]
          by_cases h0 : q.1 65 (cE z r d i) = 0
          · rw [if_neg (fun q => q.2.2 h0), if_pos h0, if_pos ⟨hi, h.1, h.2.1.2, Or.inr h.2.1.1.symm⟩]
          · rw [if_pos ⟨hi, h, h0⟩, if_neg h0]
        · rw [if_neg (fun q => h q.2.1), if_neg h]
          by_cases h1 : onP z i r d ∧ z 15 i = 0
          · rw [if_pos ⟨hi, h1.2, h1.1.2, Or.inr h1.1.1.symm⟩, if_pos h1]
          · rw [if_neg h1, if_neg]
            rintro ⟨-, a1, a2, a3⟩
            exact h1 ⟨⟨(a3.resolve_left hm1).symm, a2⟩, a1⟩
      · rw [if_neg hi, if_neg (fun q => hi q.1), if_neg (fun q => hi q.1)]
    · by_cases f16 : f = 16
      · subst f16
        funext i
        rw [S2, H5, x65, x4, if_neg (show ¬ (0 : Nat) = 5 by decide), x1 14 (by decide) (by decide), q2 14 (by omega), x1 16 (by decide) (by decide), q2 16 (by omega)]
      · by_cases f8 : f = 8
        · subst f8
          funext c
          by_cases h : ∃ a, a < nA z ∧ inL z r d a ∧ cn (z 11 a) = c
          · obtain ⟨a, a1, a2, rfl⟩ := h
            rw [S3 a a1 a2, H6 a a1 a2, x65, x1 8 (by decide) (by decide), q2 8 (by omega)]
          · have h2 : ∀ a, a < nA z → inL z r d a → ¬ cn (z 11 a) = c := fun a a1 a2 a3 => h ⟨a, a1, a2, a3⟩
            rw [S4 c h2, H7 c h2, x1 8 (by decide) (by decide), q2 8 (by omega)]
        · rw [settleK_lo X _ ⟨f8, f15, f16⟩]
          by_cases f4 : f = 4
          · subst f4
            funext j
            rw [x4]
            by_cases e : j = 5
            · subst e; rw [if_pos rfl, H2]
            · rw [if_neg e, H3 j e]
          · rw [x1 f f15 f4, q2 f (by omega), mHold_lo z r d (by omega)]
/-! odds -/
theorem inO_iff {z : St} {r d : Int32} {a : Nat} (hb : B87 z) (ha : a < nA z) : inO z r d a ↔ inL z r d a := by
  rw [inL_iff hb ha]
  unfold inO
  constructor
  · rintro ⟨h1, h2, h3⟩; exact ⟨⟨h1, h2⟩, h3⟩
  · rintro ⟨⟨h1, h2⟩, h3⟩; exact ⟨h1, h2, h3⟩
theorem odS_pos {z : St} (hI : IO z) (hB : TkB z) {r d : Int32} {a : Nat} (ha : a < nA z) (h : inO z r d a) : 0 < odS z r d (nA z) := by
  have h40 := (iNa hI).2
  have e : odS z r d (nA z) = nI (nS (fun b => if inO z r d b then cn (tkt z b) else 0) (nA z)) := by
    refine sm_nS (fun b hb => ?_)
    show (if inO z r d b then tkt z b else 0) = nI (if inO z r d b then cn (tkt z b) else 0)
    split
    · exact (hB b hb).1
    · rfl
  have h1 := nS_le (t := fun b => if inO z r d b then cn (tkt z b) else 0) (b := 1000000) (k := nA z) (fun b hb => by
    show (if inO z r d b then cn (tkt z b) else 0) ≤ _
    split
    · exact (hB b hb).2.2
    · omega)
  have h2 := nS_pos (t := fun b => if inO z r d b then cn (tkt z b) else 0) ha
  have h3 : (if inO z r d a then cn (tkt z a) else 0) = cn (tkt z a) := if_pos h
  have h4 := (hB a ha).2.1
  rw [e]
  exact (nI_ltI (a := 0) (by omega) (by omega)).mpr (by omega)
theorem entOf_eq {z w : St} {x : Int32} (hI : IO z) (hx : appP z x) (hw : ∀ f, f ≠ 64 → f ≠ 65 → w f = enterK z (z 12 (cn x)) (z 13 (cn x)) (nA z) f) :
    (inL z (z 12 (cn x)) (z 13 (cn x)) (cn x) → entOf w x = nI (cE z (z 12 (cn x)) (z 13 (cn x)) (cn x))) ∧ (¬ inL z (z 12 (cn x)) (z 13 (cn x)) (cn x) → entOf w x < 0) := by
  have h40 := (iNa hI).2
  have ha := appP_in hI hx
  generalize z 12 (cn x) = r at hw ⊢
  generalize z 13 (cn x) = d at hw ⊢
  obtain ⟨k1, k2, k3⟩ := enterK_all z r d (nA z) (by omega)
  have hEle := cE_le z r d (nA z)
  have hE : cn (w 66 0) = cE z r d (nA z) := by rw [hw 66 (by decide) (by decide), k1, cn_nI (by omega)]
  unfold entOf
  rw [hE, hw 61 (by decide) (by decide)]
  rcases fstF_rng (fun e => decide (enterK z r d (nA z) 61 e = x)) (cE z r d (nA z)) 0 with e | ⟨j, -, h2, h3, h4⟩
  · refine ⟨fun h => ?_, fun _ => by rw [e]; decide⟩
    have := fstF_none _ _ 0 (by omega) e (cE z r d (cn x)) (Nat.zero_le _) (by have := cE_lt h ha.2.1; omega)
    simp only [decide_eq_false_iff_not] at this
    exact absurd ((k3 _ ha.2.1 h).1.trans ha.1.symm) this
  · simp only [decide_eq_true_eq] at h4
    obtain ⟨b, b1, b2, b3⟩ := cE_onto (show j < cE z r d (nA z) by omega)
    have h5 := (k3 b b1 b2).1
    rw [b3, h4] at h5
    have hbx : b = cn x := by rw [h5, cn_nI (by omega)]
    subst hbx
    rw [h3, ← b3]
    exact ⟨fun _ => rfl, fun h => absurd b2 h⟩
theorem odds_eq {z : St} {x : Int32} (hI : IO z) (hb : B87 z) (hB : TkB z) : (cOdds z x).1 = mOdds z x ∧ ∀ f, f < 61 ∨ 67 < f → (cOdds z x).2 f = z f := by
  unfold cOdds mOdds
  by_cases hx : appP z x
  · have ha := appP_in hI hx
    have h40 := (iNa hI).2
    rw [if_neg (not_not_intro hx), if_neg (not_not_intro hx)]
    refine ⟨?_, fun f hf => enterK_lo _ _ _ _ (by omega)⟩
    obtain ⟨e1, e2⟩ := entOf_eq (w := enterK z (z 12 (cn x)) (z 13 (cn x)) (nA z)) hI hx (fun _ _ _ => rfl)
    obtain ⟨k1, k2, k3⟩ := enterK_all z (z 12 (cn x)) (z 13 (cn x)) (nA z) (by omega)
    have hEle := cE_le z (z 12 (cn x)) (z 13 (cn x)) (cn x)
    have hio := inO_iff (z := z) (r := z 12 (cn x)) (d := z 13 (cn x)) hb ha.2.1
    have e67 : enterK z (z 12 (cn x)) (z 13 (cn x)) (nA z) 67 0 = odS z (z 12 (cn x)) (z 13 (cn x)) (nA z) := by
      rw [k2]
      unfold odS
      refine sm_congr (fun b hb2 => ?_)
      have := inO_iff (z := z) (r := z 12 (cn x)) (d := z 13 (cn x)) hb hb2
      by_cases h : inL z (z 12 (cn x)) (z 13 (cn x)) b
      · rw [if_pos h, if_pos (this.mpr h)]
      · rw [if_neg h, if_neg (fun q => h (this.mp q))]
    show (if _ ∨ _ then (-5 : Int32) else _) = _
    rw [e67]
    by_cases h : inL z (z 12 (cn x)) (z 13 (cn x)) (cn x)
    · have hp := odS_pos hI hB ha.2.1 (hio.mpr h)
      have h2 := hio.mpr h
      rw [e1 h, if_neg (fun q => q.elim (fun q => nI_pos (by omega) q) (fun q => q hp)), cn_nI (by omega), (k3 _ ha.2.1 h).2.2, if_neg (fun q => q.elim (fun q => q h2.2.1) h2.2.2)]
    · rw [if_pos (Or.inl (e2 h)), if_pos]
      by_cases h0 : z 15 (cn x) = 0
      · refine Or.inr (Decidable.not_not.mp (fun q => h (hio.mp ⟨⟨rfl, rfl⟩, h0, q⟩)))
      · exact Or.inl h0
  · rw [if_pos hx, if_pos hx]
    exact ⟨rfl, fun _ _ => rfl⟩
