/-! tries -/
theorem hold_15 {z zm : St} {r d : Int32} {q : St × Int32 × Int32 × Int32} (hI : IO z) (H1 : (mHold zm r d).1 = sm (fun e => if q.1 65 e = 0 then 0 else 1) (cE z r d (nA z))) {a : Nat} (ha : a < nA z) (hin : inL z r d a) (h : ¬ q.1 65 (cE z r d a) = 0) : 0 < (mHold zm r d).1 := by
  have h40 := (iNa hI).2
  have hE := cE_le z r d (nA z)
  have e : sm (fun e => if q.1 65 e = 0 then (0 : Int32) else 1) (cE z r d (nA z)) = nI (nS (fun e => if q.1 65 e = 0 then 0 else 1) (cE z r d (nA z))) := by
    refine sm_nS (fun b _ => ?_)
    show (if q.1 65 b = 0 then (0 : Int32) else 1) = nI (if q.1 65 b = 0 then 0 else 1)
    split <;> rfl
  have h1 := nS_le (t := fun e => if q.1 65 e = 0 then 0 else 1) (b := 1) (k := cE z r d (nA z)) (fun b _ => by
    show (if q.1 65 b = 0 then 0 else 1) ≤ 1
    split <;> omega)
  have h2 := nS_pos (t := fun e => if q.1 65 e = 0 then 0 else 1) (cE_lt hin ha)
  have h3 : (if q.1 65 (cE z r d a) = 0 then 0 else 1) = 1 := if_neg h
  rw [H1, e]
  exact (nI_ltI (a := 0) (by omega) (by omega)).mpr (by omega)
theorem trK_eq {z : St} {r d : Int32} (hI : IO z) (hb : B87 z) (hB : TkB z) (hu : Uniq z) (hc : ClimIn z) (hr : routeP z r) (hsd : ∃ k, k < 65536 ∧ z 4 5 = nI k) {a : Nat} (ha : a < nA z) (hin : inL z r d a) : ∀ k,
    (trK (enterK z r d (nA z)) (cE z r d a) (leftP z r d) k).2.1 = tryK z r d k 4 5 ∧ (trK (enterK z r d (nA z)) (cE z r d a) (leftP z r d) k).2.2 = tryW z r d a k := by
  have h40 := (iNa hI).2
  have hEle := cE_le z r d (nA z)
  have hE : cn (enterK z r d (nA z) 66 0) = cE z r d (nA z) := by rw [(enterK_all z r d (nA z) (by omega)).1, cn_nI (by omega)]
  intro k
  induction k with
  | zero =>
    refine ⟨?_, rfl⟩
    show enterK z r d (nA z) 4 5 = asK z 478 4 5
    rw [enterK_lo _ _ _ _ (by decide), asK_lo _ _ (by decide)]
  | succ k ih =>
    have hy := TrI_K hsd r d k
    have hw : ∀ f, f ≠ 64 → f ≠ 65 → (trK (enterK z r d (nA z)) (cE z r d a) (leftP z r d) k).1 f = enterK z r d (nA z) f := fun f a b => trK_lo _ _ _ _ ⟨a, b⟩
    have h66 : cn ((trK (enterK z r d (nA z)) (cE z r d a) (leftP z r d) k).1 66 0) = cE z r d (nA z) := by rw [hw 66 (by decide) (by decide), hE]
    obtain ⟨H1, H2, H3, H4, -⟩ := hold_at (zm := tryK z r d k) (w := (trK (enterK z r d (nA z)) (cE z r d a) (leftP z r d) k).1) (s := tryK z r d k 4 5) hI hb hB hu hc hr hy.1 rfl hy.2.2.1 hw
    have H4a := H4 a
    rw [if_pos ha, if_pos hin] at H4a
    rw [trK, h66, ih.1, ih.2]
    constructor
    · show (hq _ _ _ _).2.1 = try1 (tryK z r d k) r d 4 5
      unfold try1
      rw [u2_s, H2]
    · show (if (hq _ _ _ _).1 65 (cE z r d a) = 0 then tryW z r d a k else tryW z r d a k + 1) = tryW z r d a k + _
      by_cases h : (hq (trK (enterK z r d (nA z)) (cE z r d a) (leftP z r d) k).1 (tryK z r d k 4 5) (leftP z r d) (cE z r d (nA z))).1 65 (cE z r d a) = 0
      · rw [if_pos h] at H4a
        rw [if_pos h, if_neg (fun q => by rw [H4a] at q; exact absurd q.2 (by decide)), Int32.add_zero]
      · rw [if_neg h] at H4a
        rw [if_neg h, if_pos ⟨hold_15 hI H1 ha hin h, H4a⟩]
theorem tryW_0 {z : St} {r d : Int32} (hI : IO z) (hb : B87 z) (hB : TkB z) (hu : Uniq z) (hc : ClimIn z) (hr : routeP z r) (hsd : ∃ k, k < 65536 ∧ z 4 5 = nI k) {a : Nat} (ha : a < nA z) (hin : ¬ inL z r d a) (hon : onP z a r d ∧ z 15 a = 0) : ∀ k, tryW z r d a k = 0 := by
  intro k
  induction k with
  | zero => rfl
  | succ k ih =>
    have hy := TrI_K hsd r d k
    obtain ⟨H1, H2, H3, H4, -⟩ := hold_at (zm := tryK z r d k) (w := enterK z r d (nA z)) (s := tryK z r d k 4 5) hI hb hB hu hc hr hy.1 rfl hy.2.2.1 (fun _ _ _ => rfl)
    have H4a := H4 a
    rw [if_pos ha, if_neg hin, if_pos hon] at H4a
    rw [tryW, ih, if_neg (fun q => by rw [H4a] at q; exact absurd q.2 (by decide))]
    rfl
/-- what the tries leave outside the row -/
theorem inK_of {f i : Nat} (hf : f < 20 ∧ f ≠ 10) (hi : i < limF f) : inK 0 478 f i = true := by
  obtain ⟨h1, h2, h3⟩ := limF_k hf.1 hi
  unfold inK
  simp only [List.any_eq_true, List.mem_range, Bool.and_eq_true, beq_iff_eq]
  exact ⟨kO f i, h1, by rw [h2]; exact gO_ne hf.2, h3⟩
theorem tryK_out {z : St} {r d : Int32} (hI : IO z) (hb : B87 z) (hB : TkB z) (hu : Uniq z) (hc : ClimIn z) (hr : routeP z r) (hsd : ∃ k, k < 65536 ∧ z 4 5 = nI k) : ∀ k f i, Shr f → inK 0 478 f i = false → tryK z r d k f i = z f i := by
  have h40 := (iNa hI).2
  intro k
  induction k with
  | zero => intro f i hf _; show asK z 478 f i = z f i; rw [asK_lo _ _ (by omega)]
  | succ k ih =>
    intro f i hf hk
    have hy := TrI_K hsd r d k
    obtain ⟨H1, H2, H3, H4, H5, H6, H7⟩ := hold_at (zm := tryK z r d k) (w := enterK z r d (nA z)) (s := tryK z r d k 4 5) hI hb hB hu hc hr hy.1 rfl hy.2.2.1 (fun _ _ _ => rfl)
    have ex : ∀ g j, (g < 20 ∧ g ≠ 10) → j < limF g → ¬ (f = g ∧ i = j) := fun g j h1 h2 h3 => by
      rw [h3.1, h3.2, inK_of h1 h2] at hk; exact absurd hk (by decide)
    show try1 (tryK z r d k) r d f i = _
    unfold try1
    rw [u2_ne (by have := ex 4 5 (by decide) (by decide); omega)]
    unfold cpK
    rw [if_neg (by rw [hk]; decide), ← ih f i hf hk]
    by_cases f15 : f = 15
    · subst f15
      have : ¬ i < nA z := fun h => ex 15 i (by decide) (by simp [limF]; omega) ⟨rfl, rfl⟩
      rw [H4, if_neg this]
    · by_cases f16 : f = 16
      · subst f16
        have : ¬ i < nA z := fun h => ex 16 i (by decide) (by simp [limF]; omega) ⟨rfl, rfl⟩
        rw [H5, if_neg (fun q => this q.1)]
      · by_cases f8 : f = 8
        · subst f8
          refine H7 i (fun a ha _ e => ?_)
          have := (iC hI ha).2
          exact ex 8 i (by decide) (by simp [limF]; omega) ⟨rfl, rfl⟩
        · by_cases f4 : f = 4
          · subst f4
            exact H3 i (fun e => ex 4 i (by decide) (by rw [e]; decide) ⟨rfl, rfl⟩)
          · rw [mHold_lo _ _ _ (by omega)]
theorem tries_eq {z : St} {x t : Int32} (hI : IO z) (hb : B87 z) (hB : TkB z) (hu : Uniq z) (hc : ClimIn z) (hri : ∀ a, a < nA z → routeP z (z 12 a)) (hsd : ∃ k, k < 65536 ∧ z 4 5 = nI k) :
    (cTries z x t).1 = (mTries z x t).1 ∧ (∀ f, f < 61 ∨ 67 < f → (cTries z x t).2 f = z f) ∧ ∀ f, Shr f → (mTries z x t).2 f = z f := by
  unfold cTries mTries
  by_cases hx : appP z x
  · have ha := appP_in hI hx
    have h40 := (iNa hI).2
    rw [if_neg (not_not_intro hx), if_neg (not_not_intro hx)]
    by_cases ht : t < 1 ∨ ¬ t ≤ 200
    · rw [if_pos ht, if_pos ht]; exact ⟨rfl, fun _ _ => rfl, fun _ _ => rfl⟩
    · rw [if_neg ht, if_neg ht]
      by_cases hg : ¬ z 15 (cn x) = 0 ∨ ¬ openP z (z 13 (cn x))
      · rw [if_pos hg, if_pos hg]; exact ⟨rfl, fun _ _ => rfl, fun _ _ => rfl⟩
      · rw [if_neg hg, if_neg hg]
        have h0 : z 15 (cn x) = 0 := Decidable.not_not.mp (fun q => hg (Or.inl q))
        have hr := hri _ ha.2.1
        obtain ⟨e1, e2⟩ := entOf_eq (w := enterK z (z 12 (cn x)) (z 13 (cn x)) (nA z)) hI hx (fun _ _ _ => rfl)
        have hEle := cE_le z (z 12 (cn x)) (z 13 (cn x)) (cn x)
        have hm : ∀ f, Shr f → cpK (tryK z (z 12 (cn x)) (z 13 (cn x)) (cn t)) 0 478 (fun j => tryK z (z 12 (cn x)) (z 13 (cn x)) (cn t) 80 j) f = z f := by
          intro f hf
          funext i
          have hy := TrI_K hsd (z 12 (cn x)) (z 13 (cn x)) (cn t)
          cases hk : inK 0 478 f i with
          | false =>
            unfold cpK
            rw [if_neg (by rw [hk]; decide)]
            exact tryK_out hI hb hB hu hc hr hsd _ f i hf hk
          | true =>
            obtain ⟨k, k1, k2, k3⟩ := inK_f (by decide) hk
            have := cpK_s (tryK z (z 12 (cn x)) (z 13 (cn x)) (cn t)) (o := 0) (by decide) (fun j => tryK z (z 12 (cn x)) (z 13 (cn x)) (cn t) 80 j) k1
            unfold atF at this
            rw [k2, k3, hy.2.1 k k1] at this
            unfold atF at this
            rw [k2, k3] at this
            exact this
        by_cases hin : inL z (z 12 (cn x)) (z 13 (cn x)) (cn x)
        · have ee := e1 hin
          rw [ee, if_neg (nI_pos (by omega)), cn_nI (by omega), leftP_Y]
          obtain ⟨k1, k2⟩ := trK_eq hI hb hB hu hc hr hsd ha.2.1 hin (cn t)
          dsimp only
          refine ⟨k2, fun f hf => ?_, hm⟩
          rw [trK_lo _ _ _ _ (by omega), enterK_lo _ _ _ _ (by omega)]
        · rw [if_pos (e2 hin)]
          dsimp only
          refine ⟨?_, fun f hf => enterK_lo _ _ _ _ (by omega), hm⟩
          exact (tryW_0 hI hb hB hu hc hr hsd ha.2.1 hin ⟨⟨rfl, rfl⟩, h0⟩ (cn t)).symm
  · rw [if_pos hx, if_pos hx]
    exact ⟨rfl, fun _ _ => rfl, fun _ _ => rfl⟩
