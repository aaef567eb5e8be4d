/-! the class's lottery is the model's -/
theorem loseK_15 (z : St) (r d : Int32) : ∀ k i, loseK z r d k 15 i = if i < k ∧ z 15 i = 0 ∧ (z 13 i = d ∧ (r = -1 ∨ r = z 12 i)) then 2 else z 15 i := by
  intro k
  induction k with
  | zero => intro i; rw [if_neg (fun q => absurd q.1 (Nat.not_lt_zero _))]; rfl
  | succ k ih =>
    intro i
    unfold loseK
    by_cases e : i = k
    · subst e
      by_cases h : z 15 i = 0 ∧ (z 13 i = d ∧ (r = -1 ∨ r = z 12 i))
      · rw [if_pos h, u2_s, if_pos ⟨Nat.lt_succ_self _, h⟩]
      · rw [if_neg h, ih, if_neg (fun q => h q.2), if_neg (fun q => h q.2)]
    · have : (if z 15 k = 0 ∧ (z 13 k = d ∧ (r = -1 ∨ r = z 12 k)) then u2 (loseK z r d k) 15 k 2 else loseK z r d k) 15 i = loseK z r d k 15 i := by
        split
        · rw [u2_i _ e]
        · rfl
      rw [this, ih]
      by_cases h : i < k
      · have : i < k + 1 := by omega
        simp only [h, this]
      · have : ¬ i < k + 1 := by omega
        simp only [h, this]
theorem wonK_sm (z : St) (k : Nat) : wonK z k = sm (fun e => if z 65 e = 0 then 0 else 1) k := by
  induction k with
  | zero => rfl
  | succ k ih =>
    unfold wonK
    show _ = sm _ k + (if z 65 k = 0 then 0 else 1)
    rw [ih]
    split
    · rw [Int32.add_zero]
    · rfl
def Uniq (z : St) : Prop := ∀ a b, a < nA z → b < nA z → z 15 a = 0 → z 15 b = 0 → z 11 a = z 11 b → z 12 a = z 12 b → z 13 a = z 13 b → a = b
def ClimIn (z : St) : Prop := ∀ a, a < nA z → cn (z 11 a) < cn (z 2 0)
theorem Uniq.inL {z : St} (h : Uniq z) (hI : IO z) {r d : Int32} {a b : Nat} (ha : a < nA z) (hb : b < nA z) (h1 : inL z r d a) (h2 : inL z r d b) (e : cn (z 11 a) = cn (z 11 b)) : a = b :=
  h a b ha hb h1.1 h2.1 (by rw [(iC hI ha).1, (iC hI hb).1, e]) (h1.2.1.1.trans h2.2.1.1.symm) (h1.2.1.2.trans h2.2.1.2.symm)
theorem settle_at {z X : St} {r d : Int32} (hI : IO z) (hu : Uniq z) (h61 : ∀ a, a < nA z → inL z r d a → X 61 (cE z r d a) = nI a) (h11 : X 11 = z 11) : ∀ k, k ≤ nA z →
    (∀ i, settleK X (cE z r d k) 15 i = if i < k ∧ inL z r d i ∧ ¬ X 65 (cE z r d i) = 0 then 1 else X 15 i) ∧
    (∀ i, settleK X (cE z r d k) 16 i = if i < k ∧ inL z r d i ∧ ¬ X 65 (cE z r d i) = 0 then X 4 0 * X 14 i else X 16 i) ∧
    (∀ a, a < k → inL z r d a → settleK X (cE z r d k) 8 (cn (z 11 a)) = if X 65 (cE z r d a) = 0 then X 8 (cn (z 11 a)) + 1 else 0) ∧
    (∀ c, (∀ a, a < k → inL z r d a → ¬ cn (z 11 a) = c) → settleK X (cE z r d k) 8 c = X 8 c) := by
  intro k
  have h40 := (iNa hI).2
  induction k with
  | zero =>
    intro _
    refine ⟨fun i => ?_, fun i => ?_, fun a h => absurd h (Nat.not_lt_zero _), fun c _ => rfl⟩
    · rw [if_neg (fun q => absurd q.1 (Nat.not_lt_zero _))]; rfl
    · rw [if_neg (fun q => absurd q.1 (Nat.not_lt_zero _))]; rfl
  | succ k ih =>
    intro hk
    obtain ⟨i1, i2, i3, i4⟩ := ih (by omega)
    by_cases hin : inL z r d k
    · have lo : ∀ f, f ≠ 8 ∧ f ≠ 15 ∧ f ≠ 16 → settleK X (cE z r d k) f = X f := fun f hf => settleK_lo X _ hf
      have e61 : cn (settleK X (cE z r d k) 61 (cE z r d k)) = k := by rw [lo 61 (by decide), h61 k (by omega) hin, cn_nI (by omega)]
      rw [cE_s hin]
      rw [settleK]
      unfold settle1 permit
      rw [e61, lo 65 (by decide), lo 11 (by decide), lo 4 (by decide), lo 14 (by decide), h11]
      have hold : settleK X (cE z r d k) 8 (cn (z 11 k)) = X 8 (cn (z 11 k)) := i4 _ (fun a ha h1 e => by
        have := hu.inL hI (show a < nA z by omega) (show k < nA z by omega) h1 hin e
        omega)
      by_cases hw : X 65 (cE z r d k) = 0
      · rw [if_pos hw]
        refine ⟨fun i => ?_, fun i => ?_, fun a ha h1 => ?_, fun c hc => ?_⟩
        · rw [u2_f (by decide), i1]
          by_cases e : i = k
          · subst e; rw [if_neg (fun q => absurd q.1 (Nat.lt_irrefl _)), if_neg (fun q => q.2.2 hw)]
          · have : i < k + 1 ↔ i < k := by omega
            simp only [this]
        · rw [u2_f (by decide), i2]
          by_cases e : i = k
          · subst e; rw [if_neg (fun q => absurd q.1 (Nat.lt_irrefl _)), if_neg (fun q => q.2.2 hw)]
          · have : i < k + 1 ↔ i < k := by omega
            simp only [this]
        · by_cases e : a = k
          · subst e; rw [u2_s, if_pos hw, hold]
          · have : cn (z 11 a) ≠ cn (z 11 k) := fun q => e (hu.inL hI (show a < nA z by omega) (show k < nA z by omega) h1 hin q)
            rw [u2_i _ this]; exact i3 a (by omega) h1
        · have : c ≠ cn (z 11 k) := fun q => hc k (Nat.lt_succ_self _) hin q.symm
          rw [u2_i _ this]; exact i4 c (fun a ha h1 => hc a (by omega) h1)
      · rw [if_neg hw]
        refine ⟨fun i => ?_, fun i => ?_, fun a ha h1 => ?_, fun c hc => ?_⟩
        · rw [u2_f (by decide), u2_f (by decide)]
          by_cases e : i = k
          · subst e; rw [u2_s, if_pos ⟨Nat.lt_succ_self _, hin, hw⟩]
          · have : i < k + 1 ↔ i < k := by omega
            rw [u2_i _ e, i1]; simp only [this]
        · rw [u2_f (by decide)]
          by_cases e : i = k
          · subst e; rw [u2_s, if_pos ⟨Nat.lt_succ_self _, hin, hw⟩]
          · have : i < k + 1 ↔ i < k := by omega
            rw [u2_i _ e, u2_f (by decide), i2]; simp only [this]
        · by_cases e : a = k
          · subst e; rw [u2_s, if_neg hw]
          · have : cn (z 11 a) ≠ cn (z 11 k) := fun q => e (hu.inL hI (show a < nA z by omega) (show k < nA z by omega) h1 hin q)
            rw [u2_i _ this, u2_f (by decide), u2_f (by decide)]; exact i3 a (by omega) h1
        · have : c ≠ cn (z 11 k) := fun q => hc k (Nat.lt_succ_self _) hin q.symm
          rw [u2_i _ this, u2_f (by decide), u2_f (by decide)]; exact i4 c (fun a ha h1 => hc a (by omega) h1)
    · rw [cE_n hin]
      have hne : ∀ i, inL z r d i → (i < k + 1 ↔ i < k) := fun i h => by
        have : i ≠ k := fun e => hin (e ▸ h)
        omega
      refine ⟨fun i => ?_, fun i => ?_, fun a ha h1 => ?_, fun c hc => ?_⟩
      · rw [i1]
        by_cases h : inL z r d i
        · simp only [hne i h]
        · rw [if_neg (fun q => h q.2.1), if_neg (fun q => h q.2.1)]
      · rw [i2]
        by_cases h : inL z r d i
        · simp only [hne i h]
        · rw [if_neg (fun q => h q.2.1), if_neg (fun q => h q.2.1)]
      · exact i3 a ((hne a h1).mp ha) h1
      · exact i4 c (fun a ha h1 => hc a (by omega) h1)
abbrev inM (y : St) (c : Nat) : Bool := anyN (fun a => decide (¬ y 82 a = 0 ∧ y 11 a = nI c)) (nA y)
abbrev wonM (y : St) (c : Nat) : Bool := anyN (fun a => decide ((¬ y 82 a = 0 ∧ y 11 a = nI c) ∧ y 15 a = 1)) (nA y)
theorem rem_at (y : St) : ∀ k c, remM y k 8 c = if c < k ∧ inM y c = true then (if wonM y c = true then 0 else y 8 c + 1) else y 8 c := by
  intro k
  induction k with
  | zero => intro c; rw [if_neg (fun q => absurd q.1 (Nat.not_lt_zero _))]; rfl
  | succ k ih =>
    intro c
    rw [remM]
    unfold remM1
    rw [remM_lo y k (f := 82) (by decide), remM_lo y k (f := 11) (by decide), remM_lo y k (f := 15) (by decide)]
    by_cases e : c = k
    · subst e
      have e8 : remM y c 8 c = y 8 c := by rw [ih, if_neg (fun q => absurd q.1 (Nat.lt_irrefl _))]
      by_cases h : inM y c = true
      · rw [if_pos h, u2_s, e8, if_pos (show c < c + 1 ∧ inM y c = true from ⟨Nat.lt_succ_self _, h⟩)]
      · rw [if_neg h, e8, if_neg (fun q => h q.2)]
    · have : c < k + 1 ↔ c < k := by omega
      have : (if inM y k = true then u2 (remM y k) 8 k (if wonM y k = true then 0 else remM y k 8 k + 1) else remM y k) 8 c = remM y k 8 c := by
        split
        · rw [u2_i _ e]
        · rfl
      rw [this, ih]
      have : c < k + 1 ↔ c < k := by omega
      simp only [this]
/-- what a lottery leaves, of the model -/
theorem hold_at {z zm w : St} {r d s : Int32} (hI : IO z) (hb : B87 z) (hB : TkB z) (hu : Uniq z) (hc : ClimIn z) (hr : routeP z r) (hs : SameO z zm) (h45 : zm 4 5 = s) (hsd : ∃ k, k < 65536 ∧ s = nI k) (hw : ∀ f, f ≠ 64 → f ≠ 65 → w f = enterK z r d (nA z) f) :
    (mHold zm r d).1 = sm (fun e => if (hq w s (leftP z r d) (cE z r d (nA z))).1 65 e = 0 then 0 else 1) (cE z r d (nA z)) ∧
    (mHold zm r d).2 4 5 = (hq w s (leftP z r d) (cE z r d (nA z))).2.1 ∧ (∀ j, j ≠ 5 → (mHold zm r d).2 4 j = zm 4 j) ∧
    (∀ i, (mHold zm r d).2 15 i = if i < nA z then (if inL z r d i then (if (hq w s (leftP z r d) (cE z r d (nA z))).1 65 (cE z r d i) = 0 then 2 else 1) else if onP z i r d ∧ z 15 i = 0 then 2 else z 15 i) else zm 15 i) ∧
    (∀ i, (mHold zm r d).2 16 i = if i < nA z ∧ inL z r d i ∧ ¬ (hq w s (leftP z r d) (cE z r d (nA z))).1 65 (cE z r d i) = 0 then z 4 0 * z 14 i else zm 16 i) ∧
    (∀ a, a < nA z → inL z r d a → (mHold zm r d).2 8 (cn (z 11 a)) = if (hq w s (leftP z r d) (cE z r d (nA z))).1 65 (cE z r d a) = 0 then z 8 (cn (z 11 a)) + 1 else 0) ∧
    (∀ c, (∀ a, a < nA z → inL z r d a → ¬ cn (z 11 a) = c) → (mHold zm r d).2 8 c = zm 8 c) := by
  have h40 := (iNa hI).2
  have en := same_nA hs
  obtain ⟨R, h64⟩ := lot_end hI hb hB hr hs h45 hsd hw
  have l40 : ∀ a, a < nA z → ∀ f, 11 ≤ f → f < 20 → zm f a = z f a := fun a ha f h1 h2 => same_g hs (by omega) (by unfold limF; (repeat' split) <;> omega) (by omega)
  have hat := fun a ha => enterM_at zm r d (nA z) a ha
  have hin : ∀ a, a < nA z → (inL z r d a ↔ (onP zm a r d ∧ zm 15 a = 0) ∧ ¬ d ≤ zm 87 (cn (zm 11 a))) := by
    intro a ha
    have hC := iC hI ha
    rw [inL_iff hb ha]
    unfold onP
    rw [l40 a ha 12 (by omega) (by omega), l40 a ha 13 (by omega) (by omega), l40 a ha 15 (by omega) (by omega), l40 a ha 11 (by omega) (by omega), same_87 hs hC.2]
  generalize hQ : hq w s (leftP z r d) (cE z r d (nA z)) = q at R h64 ⊢
  have e82 : ∀ a, a < nA z → ((¬ (drw r d (nA zm) (enterM zm r d (nA zm)) 0).2 82 a = 0) ↔ inL z r d a) := by
    intro a ha
    rw [drw_lo r d (by decide), en, hin a ha]
    constructor
    · intro h
      by_cases h1 : onP zm a r d ∧ zm 15 a = 0
      · by_cases h2 : d ≤ zm 87 (cn (zm 11 a))
        · exact absurd ((hat a ha).2.1 h1 h2).1 h
        · exact ⟨h1, h2⟩
      · exact absurd ((hat a ha).2.2 h1).1 h
    · intro h
      rw [((hat a ha).1 h.1 h.2).1]; decide
  have hm : mHold zm r d = ((drw r d (nA zm) (enterM zm r d (nA zm)) 0).1, remM (drw r d (nA zm) (enterM zm r d (nA zm)) 0).2 (cn ((drw r d (nA zm) (enterM zm r d (nA zm)) 0).2 2 0))) := rfl
  have e2 : (drw r d (nA zm) (enterM zm r d (nA zm)) 0).2 2 0 = z 2 0 := by
    rw [drw_lo r d (by decide), enterM_lo _ _ _ _ (by decide)]
    exact same_g hs (by decide) (by decide) (by decide)
  have e11 : ∀ a, a < nA z → (drw r d (nA zm) (enterM zm r d (nA zm)) 0).2 11 a = z 11 a := by
    intro a ha
    rw [drw_lo r d (by decide), enterM_lo _ _ _ _ (by decide)]
    exact l40 a ha 11 (by omega) (by omega)
  have e8 : (drw r d (nA zm) (enterM zm r d (nA zm)) 0).2 8 = zm 8 := by
    rw [drw_lo r d (by decide), enterM_lo _ _ _ _ (by decide)]
  have eny : nA (drw r d (nA zm) (enterM zm r d (nA zm)) 0).2 = nA z := by unfold nA; rw [R.n3]
  rw [hm, e2]
  rw [en] at R e82 e11 e8 eny ⊢
  generalize hD : drw r d (nA z) (enterM zm r d (nA z)) 0 = D at R h64 e82 e11 e8 eny ⊢
  refine ⟨?_, ?_, ?_, ?_, ?_, ?_, ?_⟩
  · rw [R.cnt]
    refine sm_congr (fun e he => ?_)
    obtain ⟨a, a1, a2, a3⟩ := cE_onto he
    rw [← a3, if_neg (h64 a a1 a2)]
  · show remM _ _ 4 5 = _
    rw [remM_lo _ _ (by decide), R.seed]
  · intro j hj
    show remM _ _ 4 j = _
    rw [remM_lo _ _ (by decide), R.f4 j hj, enterM_lo _ _ _ _ (by decide)]
  · intro i
    show remM _ _ 15 i = _
    rw [remM_lo _ _ (by decide)]
    by_cases hi : i < nA z
    · rw [if_pos hi]
      by_cases h : inL z r d i
      · rw [if_pos h, R.s15 i hi h, if_neg (h64 i hi h)]
      · rw [if_neg h, (R.sn i (fun q => h q.2)).1]
        have eon : (onP zm i r d ∧ zm 15 i = 0) ↔ (onP z i r d ∧ z 15 i = 0) := by
          unfold onP
          rw [l40 i hi 12 (by omega) (by omega), l40 i hi 13 (by omega) (by omega), l40 i hi 15 (by omega) (by omega)]
        by_cases h1 : onP zm i r d ∧ zm 15 i = 0
        · have h2 : d ≤ zm 87 (cn (zm 11 i)) := Decidable.not_not.mp (fun q => h ((hin i hi).mpr ⟨h1, q⟩))
          rw [((hat i hi).2.1 h1 h2).2.2, if_pos (eon.mp h1)]
        · rw [((hat i hi).2.2 h1).2.2, if_neg (fun q => h1 (eon.mpr q)), l40 i hi 15 (by omega) (by omega)]
    · rw [if_neg hi, (R.sn i (fun q => hi q.1)).1, enterM_15 _ _ _ _ _ (by omega)]
  · intro i
    show remM _ _ 16 i = _
    rw [remM_lo _ _ (by decide)]
    by_cases h : i < nA z ∧ inL z r d i
    · rw [R.s16 i h.1 h.2, if_neg (h64 i h.1 h.2)]
      by_cases h2 : q.1 65 (cE z r d i) = 0
      · rw [if_pos h2, if_neg (fun q => q.2.2 h2), l40 i h.1 16 (by omega) (by omega)]
      · rw [if_neg h2, if_pos ⟨h.1, h.2, h2⟩]
    · rw [(R.sn i h).2, if_neg (fun q => h ⟨q.1, q.2.1⟩), enterM_lo _ _ _ _ (by decide)]
  · intro a ha h
    show remM _ _ 8 _ = _
    have hC := iC hI ha
    rw [rem_at, if_pos]
    · have ew : wonM D.2 (cn (z 11 a)) = true ↔ ¬ q.1 65 (cE z r d a) = 0 := by
        unfold wonM
        rw [anyN_iff, eny]
        constructor
        · rintro ⟨b, hb1, hb2⟩
          rw [decide_eq_true_eq] at hb2
          obtain ⟨⟨c1, c2⟩, c3⟩ := hb2
          have hbin := (e82 b hb1).mp c1
          rw [e11 b hb1] at c2
          have : b = a := hu.inL hI hb1 ha hbin h (by rw [c2, cn_nI (by omega)])
          subst this
          rw [R.s15 b hb1 hbin, if_neg (h64 b hb1 hbin)] at c3
          intro h0
          rw [if_pos h0] at c3
          exact absurd c3 (by decide)
        · intro h0
          refine ⟨a, ha, ?_⟩
          rw [decide_eq_true_eq]
          refine ⟨⟨(e82 a ha).mpr h, by rw [e11 a ha]; exact hC.1⟩, ?_⟩
          rw [R.s15 a ha h, if_neg (h64 a ha h), if_neg h0]
      have e8c : D.2 8 (cn (z 11 a)) = z 8 (cn (z 11 a)) := by rw [e8]; exact same_g hs (by decide) (by simp [limF]; omega) (by omega)
      rw [e8c]
      by_cases h0 : q.1 65 (cE z r d a) = 0
      · rw [if_pos h0, if_neg (fun q => (ew.mp q) h0)]
      · rw [if_neg h0, if_pos (ew.mpr h0)]
    · refine ⟨hc a ha, ?_⟩
      unfold inM
      rw [anyN_iff, eny]
      refine ⟨a, ha, ?_⟩
      rw [decide_eq_true_eq]
      exact ⟨(e82 a ha).mpr h, by rw [e11 a ha]; exact hC.1⟩
  · intro c hcc
    show remM _ _ 8 _ = _
    rw [rem_at, if_neg, e8]
    rintro ⟨h1, h2⟩
    unfold inM at h2
    rw [anyN_iff, eny] at h2
    obtain ⟨b, hb1, hb2⟩ := h2
    rw [decide_eq_true_eq, e11 b hb1] at hb2
    have hN := (iNc hI).2
    exact hcc b hb1 ((e82 b hb1).mp hb2.1) (by rw [hb2.2, cn_nI (by omega)])
