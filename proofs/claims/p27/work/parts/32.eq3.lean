/-! all draws of each -/
theorem holdK_l (E : Nat) (q : St × Int32 × Int32 × Int32) (k : Nat) : holdK E q (k + 1) = holdK E (hstp E q) k := by
  induction k with
  | zero => rfl
  | succ k ih => rw [holdK, ih]; rfl
theorem nzK_0 {y : St} {k : Nat} (h : nzK y k = 0) : tkS y k = 0 := by
  induction k with
  | zero => rfl
  | succ k ih =>
    unfold nzK at h
    have h1 : y 81 k = 0 := by
      by_cases e : y 81 k = 0
      · exact e
      · rw [if_neg e] at h; omega
    show tkS y k + y 81 k = 0
    rw [ih (by omega), h1]; rfl
theorem nzK_cE {z y : St} {r d : Int32} {k : Nat} (h : ∀ a, a < k → ¬ inL z r d a → y 81 a = 0) : nzK y k ≤ cE z r d k := by
  induction k with
  | zero => exact Nat.le_refl _
  | succ k ih =>
    have := ih (fun a ha => h a (by omega))
    unfold nzK cE
    by_cases hin : inL z r d k
    · rw [if_pos hin]; split <;> omega
    · rw [if_neg hin, if_pos (h k (by omega) hin)]; omega
theorem cE_onto {z : St} {r d : Int32} : ∀ {k e : Nat}, e < cE z r d k → ∃ a, a < k ∧ inL z r d a ∧ cE z r d a = e := by
  intro k
  induction k with
  | zero => intro e h; exact absurd h (Nat.not_lt_zero _)
  | succ k ih =>
    intro e h
    by_cases hin : inL z r d k
    · rw [cE_s hin] at h
      by_cases e1 : e = cE z r d k
      · exact ⟨k, by omega, hin, e1.symm⟩
      · obtain ⟨a, h1, h2⟩ := ih (show e < cE z r d k by omega)
        exact ⟨a, by omega, h2⟩
    · rw [cE_n hin] at h
      obtain ⟨a, h1, h2⟩ := ih h
      exact ⟨a, by omega, h2⟩
theorem Rel.run {o z : St} {r d : Int32} (hB : TkB z) (h40 : nA z ≤ 40) : ∀ (f f' : Nat) (q : St × Int32 × Int32 × Int32) (y : St) (g : Int32), Rel o z r d q y g → (∃ s, s < 65536 ∧ y 4 5 = nI s) → nzK y (nA z) ≤ f → nzK y (nA z) ≤ f' →
    Rel o z r d (holdK (cE z r d (nA z)) q f) (drw r d f' y g).2 (drw r d f' y g).1 ∧ tkS (drw r d f' y g).2 (nA z) ≤ 0 := by
  intro f
  induction f with
  | zero =>
    intro f' q y g h hs h1 h2
    have h3 : tkS y (nA z) ≤ 0 := by rw [nzK_0 (by omega)]; exact Int32.le_refl _
    have hny : nA y = nA z := by unfold nA; rw [h.n3]
    rw [drw_stop (by rw [hny]; exact h3)]
    exact ⟨h, h3⟩
  | succ f ih =>
    intro f' q y g h hs h1 h2
    have hny : nA y = nA z := by unfold nA; rw [h.n3]
    by_cases h3 : tkS y (nA z) ≤ 0
    · rw [drw_stop (by rw [hny]; exact h3)]
      have : holdK (cE z r d (nA z)) q (f + 1) = q := holdK_stop (k := 0) (by show q.2.2.2 ≤ 0; rw [← h.left]; exact h3) (f + 1) (Nat.zero_le _)
      rw [this]
      exact ⟨h, h3⟩
    · obtain ⟨s1, s2⟩ := h.step hB h40 hs h3
      obtain ⟨m, rfl⟩ : ∃ m, f' = m + 1 := ⟨f' - 1, by omega⟩
      rw [holdK_l, drw, if_neg (by rw [hny]; exact h3)]
      exact ih m _ _ _ s1 (drw1_seed hs r d) (by omega) (by omega)
/-! the start of both -/
theorem enterM_at (z : St) (r d : Int32) : ∀ k a, a < k → (onP z a r d ∧ z 15 a = 0 → ¬ d ≤ z 87 (cn (z 11 a)) → enterM z r d k 82 a = 1 ∧ enterM z r d k 81 a = tkt z a ∧ enterM z r d k 15 a = z 15 a) ∧
    (onP z a r d ∧ z 15 a = 0 → d ≤ z 87 (cn (z 11 a)) → enterM z r d k 82 a = 0 ∧ enterM z r d k 81 a = 0 ∧ enterM z r d k 15 a = 2) ∧
    (¬ (onP z a r d ∧ z 15 a = 0) → enterM z r d k 82 a = 0 ∧ enterM z r d k 81 a = 0 ∧ enterM z r d k 15 a = z 15 a) := by
  intro k
  induction k with
  | zero => intro a h; omega
  | succ k ih =>
    intro a ha
    have lo : ∀ f, f ≠ 82 ∧ f ≠ 81 ∧ f ≠ 15 → enterM z r d k f = z f := fun f hf => enterM_lo z r d k hf
    have l15 : enterM z r d k 15 k = z 15 k := enterM_15 z r d k k (Nat.le_refl _)
    have eon : onP (enterM z r d k) k r d ↔ onP z k r d := by unfold onP; rw [lo 12 (by decide), lo 13 (by decide)]
    have et : tkt (enterM z r d k) k = tkt z k := by unfold tkt; rw [lo 4 (by decide), lo 8 (by decide), lo 11 (by decide)]
    have e87 : enterM z r d k 87 (cn (enterM z r d k 11 k)) = z 87 (cn (z 11 k)) := by rw [lo 87 (by decide), lo 11 (by decide)]
    rw [enterM]
    unfold enterM1 enterM1.z15a
    rw [l15, et, e87]
    by_cases e : a = k
    · subst e
      refine ⟨fun h1 h2 => ?_, fun h1 h2 => ?_, fun h1 => ?_⟩
      · rw [if_pos ⟨eon.mpr h1.1, h1.2⟩, if_neg h2]
        exact ⟨by rw [u2_f (by decide), u2_s], u2_s _ _ _ _, by rw [u2_f (by decide), u2_f (by decide), l15]⟩
      · rw [if_pos ⟨eon.mpr h1.1, h1.2⟩, if_pos h2]
        exact ⟨by rw [u2_f (by decide), u2_f (by decide), u2_s], by rw [u2_f (by decide), u2_s], u2_s _ _ _ _⟩
      · rw [if_neg (fun q => h1 ⟨eon.mp q.1, q.2⟩)]
        exact ⟨by rw [u2_f (by decide), u2_s], u2_s _ _ _ _, by rw [u2_f (by decide), u2_f (by decide), l15]⟩
    · have key : ∀ f, f = 82 ∨ f = 81 ∨ f = 15 → (if onP (enterM z r d k) k r d ∧ z 15 k = 0 then if d ≤ z 87 (cn (z 11 k)) then u2 (u2 (u2 (enterM z r d k) 82 k 0) 81 k 0) 15 k 2 else u2 (u2 (enterM z r d k) 82 k 1) 81 k (tkt z k) else u2 (u2 (enterM z r d k) 82 k 0) 81 k 0) f a = enterM z r d k f a := by
        intro f _
        split
        · split
          · rw [u2_i _ e, u2_i _ e, u2_i _ e]
          · rw [u2_i _ e, u2_i _ e]
        · rw [u2_i _ e, u2_i _ e]
      rw [key 82 (by omega), key 81 (by omega), key 15 (by omega)]
      exact ih a (by omega)
theorem same_tkt {z y : St} (h : SameO z y) (hI : IO z) {a : Nat} (ha : a < nA z) : tkt y a = tkt z a := by
  have h40 := (iNa hI).2
  have hC := iC hI ha
  unfold tkt
  rw [same_g h (f := 4) (i := 1) (by decide) (by decide) (by decide), same_g h (f := 11) (i := a) (by decide) (by simp [limF]; omega) (by omega), same_g h (f := 8) (i := cn (z 11 a)) (by decide) (by simp [limF]; omega) (by omega)]
def B87 (z : St) : Prop := ∀ a, a < nA z → z 87 (cn (z 11 a)) = z 10 (cn (z 11 a))
theorem inL_iff {z : St} {r d : Int32} {a : Nat} (hb : B87 z) (ha : a < nA z) : inL z r d a ↔ (onP z a r d ∧ z 15 a = 0) ∧ ¬ d ≤ z 87 (cn (z 11 a)) := by
  unfold inL brdP
  rw [hb a ha]
  constructor
  · rintro ⟨h1, h2, h3⟩
    exact ⟨⟨h2, h1⟩, by rw [← h2.2]; exact h3⟩
  · rintro ⟨⟨h2, h1⟩, h3⟩
    exact ⟨h1, h2, by rw [h2.2]; exact h3⟩
theorem Rel.init {z zm w : St} {r d s : Int32} (hI : IO z) (hb : B87 z) (hr : routeP z r) (hs : SameO z zm) (h45 : zm 4 5 = s) (hw : ∀ f, f ≠ 64 → f ≠ 65 → w f = enterK z r d (nA z) f) :
    Rel (enterM zm r d (nA z)) z r d (clrD w (cE z r d (nA z)), s, leftP z r d, w 67 0) (enterM zm r d (nA z)) 0 := by
  have h40 := (iNa hI).2
  obtain ⟨k1, k2, k3⟩ := enterK_all z r d (nA z) (by omega)
  have hR := routeP_in hI hr
  have g := fun {f i : Nat} h1 h2 h3 => same_g hs (f := f) (i := i) h1 h2 h3
  have l40 : ∀ a, a < nA z → ∀ f, 11 ≤ f → f < 20 → zm f a = z f a := fun a ha f h1 h2 => g (by omega) (by unfold limF; (repeat' split) <;> omega) (by omega)
  have lo : ∀ f, f ≠ 82 ∧ f ≠ 81 ∧ f ≠ 15 → enterM zm r d (nA z) f = zm f := fun f hf => enterM_lo zm r d (nA z) hf
  have e64 : ∀ e, e < cE z r d (nA z) → clrD w (cE z r d (nA z)) 64 e = 0 := fun e he => by unfold clrD; rw [if_pos ⟨rfl, he⟩]
  have hat := fun a ha => enterM_at zm r d (nA z) a ha
  have hin : ∀ a, a < nA z → (inL z r d a ↔ (onP zm a r d ∧ zm 15 a = 0) ∧ ¬ d ≤ zm 87 (cn (zm 11 a))) := by
    intro a ha
    have hC := iC hI ha
    rw [inL_iff hb ha]
    unfold onP
    rw [l40 a ha 12 (by omega) (by omega), l40 a ha 13 (by omega) (by omega), l40 a ha 15 (by omega) (by omega), l40 a ha 11 (by omega) (by omega), same_87 hs hC.2]
  have htk : ∀ a, a < nA z → inL z r d a → enterM zm r d (nA z) 81 a = tkt z a := by
    intro a ha h
    have := (hin a ha).mp h
    rw [((hat a ha).1 this.1 this.2).2.1, same_tkt hs hI ha]
  have htn : ∀ a, a < nA z → ¬ inL z r d a → enterM zm r d (nA z) 81 a = 0 := by
    intro a ha h
    by_cases h1 : onP zm a r d ∧ zm 15 a = 0
    · by_cases h2 : d ≤ zm 87 (cn (zm 11 a))
      · exact ((hat a ha).2.1 h1 h2).2.1
      · exact absurd ((hin a ha).mpr ⟨h1, h2⟩) h
    · exact ((hat a ha).2.2 h1).2.1
  refine ⟨?_, ?_, htn, ?_, ?_, ?_, ?_, ?_, ?_, ?_, ?_, fun a _ => ⟨rfl, rfl⟩, fun _ _ => rfl, ?_⟩
  · intro a ha h
    show clrD w (cE z r d (nA z)) 61 _ = _ ∧ clrD w (cE z r d (nA z)) 62 _ = _ ∧ clrD w (cE z r d (nA z)) 63 _ = _
    rw [clrD_lo (by decide), clrD_lo (by decide), clrD_lo (by decide), hw 61 (by decide) (by decide), hw 62 (by decide) (by decide), hw 63 (by decide) (by decide)]
    exact k3 a ha h
  · intro a ha h
    show _ = if clrD w (cE z r d (nA z)) 64 _ = 0 then _ else _
    rw [e64 _ (cE_lt h ha), if_pos rfl]
    exact htk a ha h
  · intro a ha h
    show _ = if clrD w (cE z r d (nA z)) 64 _ = 0 then _ else _
    rw [e64 _ (cE_lt h ha), if_pos rfl]
    have := (hin a ha).mp h
    rw [((hat a ha).1 this.1 this.2).2.2]
    exact this.1.2
  · intro a ha h
    show _ = if clrD w (cE z r d (nA z)) 64 _ = 0 then _ else _
    rw [e64 _ (cE_lt h ha), if_pos rfl, lo 16 (by decide)]
    exact l40 a ha 16 (by omega) (by omega)
  · rw [lo 4 (by decide)]; exact h45
  · refine leftP_of ?_ ?_ ?_ (fun a ha => ?_)
    · rw [lo 3 (by decide)]; exact g (by decide) (by decide) (by decide)
    · rw [lo 5 (by decide)]; exact g (by decide) (by simp [limF]; omega) (by omega)
    · rw [lo 6 (by decide)]; exact g (by decide) (by simp [limF]; omega) (by omega)
    · unfold takesP onP
      rw [lo 12 (by decide), lo 13 (by decide), lo 14 (by decide), l40 a ha 12 (by omega) (by omega), l40 a ha 13 (by omega) (by omega), l40 a ha 14 (by omega) (by omega)]
      have l15 := l40 a ha 15 (by omega) (by omega)
      by_cases h1 : onP zm a r d ∧ zm 15 a = 0
      · by_cases h2 : d ≤ zm 87 (cn (zm 11 a))
        · have h0 : z 15 a = 0 := by rw [← l15]; exact h1.2
          rw [((hat a ha).2.1 h1 h2).2.2, h0, if_neg (fun q => absurd q.1 (by decide)), if_neg (fun q => absurd q.1 (by decide))]
        · rw [((hat a ha).1 h1 h2).2.2, l15]
      · rw [((hat a ha).2.2 h1).2.2, l15]
  · show _ = w 67 0
    rw [hw 67 (by decide) (by decide), k2]
    refine sm_congr (fun a ha => ?_)
    by_cases h : inL z r d a
    · rw [if_pos h]; exact htk a ha h
    · rw [if_neg h]; exact htn a ha h
  · rw [lo 3 (by decide)]; exact g (by decide) (by decide) (by decide)
  · rw [lo 4 (by decide)]; exact g (by decide) (by decide) (by decide)
  · intro a ha
    rw [lo 12 (by decide), lo 13 (by decide), lo 14 (by decide)]
    exact ⟨l40 a ha 12 (by omega) (by omega), l40 a ha 13 (by omega) (by omega), l40 a ha 14 (by omega) (by omega)⟩
  · show (0 : Int32) = sm (fun e => if clrD w (cE z r d (nA z)) 64 e = 0 then 0 else if clrD w (cE z r d (nA z)) 65 e = 0 then 0 else 1) _
    rw [sm_congr (g' := fun _ => 0) (fun e he => by rw [e64 e he, if_pos rfl])]
    have : ∀ n, sm (fun _ => 0) n = 0 := by
      intro n
      induction n with
      | zero => rfl
      | succ n ih => show sm _ n + 0 = 0; rw [ih]; rfl
    exact (this _).symm
/-- the end of both -/
theorem lot_end {z zm w : St} {r d s : Int32} (hI : IO z) (hb : B87 z) (hB : TkB z) (hr : routeP z r) (hs : SameO z zm) (h45 : zm 4 5 = s) (hsd : ∃ k, k < 65536 ∧ s = nI k) (hw : ∀ f, f ≠ 64 → f ≠ 65 → w f = enterK z r d (nA z) f) :
    Rel (enterM zm r d (nA z)) z r d (hq w s (leftP z r d) (cE z r d (nA z))) (drw r d (nA zm) (enterM zm r d (nA zm)) 0).2 (drw r d (nA zm) (enterM zm r d (nA zm)) 0).1 ∧
    ∀ a, a < nA z → inL z r d a → ¬ (hq w s (leftP z r d) (cE z r d (nA z))).1 64 (cE z r d a) = 0 := by
  have h40 := (iNa hI).2
  have en := same_nA hs
  rw [en]
  have h0 := Rel.init hI hb hr hs h45 hw
  have hE : cn (w 66 0) = cE z r d (nA z) := by
    rw [hw 66 (by decide) (by decide), (enterK_all z r d (nA z) (by omega)).1, cn_nI (by have := cE_le z r d (nA z); omega)]
  have hqe : hq w s (leftP z r d) (cE z r d (nA z)) = holdK (cE z r d (nA z)) (clrD w (cE z r d (nA z)), s, leftP z r d, w 67 0) (cE z r d (nA z)) := by unfold hq; rw [hE]
  rw [hqe]
  obtain ⟨h1, h2⟩ := Rel.run hB h40 (cE z r d (nA z)) (nA z) _ _ _ h0 (by rw [h0.seed]; exact hsd) (nzK_cE h0.tn) (nzK_le _ _)
  refine ⟨h1, fun a ha hin h64 => ?_⟩
  have hy := h1.y81 hB ha
  have h5 := hy.2.2.2 hin h64
  have h6 := h1.sums hB h40 (k := nA z) (Nat.le_refl _)
  have h7 := nS_pos (t := fun a => cn ((drw r d (nA z) (enterM zm r d (nA z)) 0).2 81 a)) ha
  rw [h6.1] at h2
  have := (nI_leI (b := 0) (by omega) (by omega)).mp h2
  omega
