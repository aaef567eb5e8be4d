/-! ===== joins, lotteries, ends of days ===== -/
/-- fields that the class alone has; a state put together of both -/
abbrev CP (f : Nat) : Prop := f = 10 ∨ (20 ≤ f ∧ f < 60) ∨ (61 ≤ f ∧ f < 68) ∨ (70 ≤ f ∧ f < 75)
def comb (zc zm : St) : St := fun f => if CP f then zc f else zm f
theorem comb_c (zc zm : St) {f : Nat} (h : CP f) : comb zc zm f = zc f := if_pos h
theorem comb_m (zc zm : St) {f : Nat} (h : ¬ CP f) : comb zc zm f = zm f := if_neg h
/-- fields that both have -/
abbrev Sh (f : Nat) : Prop := (f < 20 ∧ f ≠ 10) ∨ f = 60 ∨ f = 68 ∨ f = 69
theorem OI_gen2 {z y : St} {B B' : Nat} (h : OI z B) (e : ∀ f, f = 1 ∨ f = 2 ∨ f = 3 ∨ f = 11 ∨ f = 12 ∨ f = 14 → y f = z f) (h0 : ∃ t, t < 60 ∧ y 0 0 = nI t) (hcl : ∀ d, d < 60 → y 7 d = 0 ∨ y 7 d = 1) (h87 : ∀ c, c < cn (z 2 0) → y 87 c = y 10 c) (hset : SetOK y) (hmem : ∀ c, c < 12 → ∃ m, m ≤ B' ∧ y 8 c = nI m)
    (hfc : ∀ c, cn (z 2 0) ≤ c → c < 12 → y 8 c = 0 ∧ y 9 c = 0 ∧ y 10 c = -6) (hfa : ∀ a, nA z ≤ a → a < 40 → y 15 a = 0 ∧ y 16 a = 0 ∧ y 17 a = 0 ∧ y 18 a = 0)
    (happ : ∀ a, a < nA z → (∃ d, d < 60 ∧ y 13 a = nI d) ∧ (∃ s, s < 7 ∧ y 15 a = nI s) ∧ ((y 15 a = 0 ∨ y 15 a = 2) → y 16 a = 0) ∧ (aliveP y a → y 17 a = 0) ∧ (y 18 a = 0 ∨ y 18 a = 1) ∧ (y 15 a = 1 → y 0 0 ≤ y 13 a) ∧ (y 15 a = 0 → z 15 a = 0 ∧ y 13 a = z 13 a)) : OI y B' := by
  have en : nA y = nA z := nA_of (e 3 (by omega))
  have hI := h.io
  refine ⟨?_, hcl, ?_, ?_, ?_, ?_, ?_, ?_, ?_, ?_, ?_, hset, hmem, ?_, ?_, ?_⟩
  · unfold IO
    rw [en, e 1 (by omega), e 2 (by omega), e 3 (by omega), e 11 (by omega), e 12 (by omega)]
    exact ⟨h0, hI.2.1, hI.2.2.1, hI.2.2.2.1, fun a ha => ⟨(hI.2.2.2.2 a ha).1, (hI.2.2.2.2 a ha).2.1, (happ a ha).1⟩⟩
  · rw [e 2 (by omega)]; exact h87
  · unfold ClimIn; rw [en, e 2 (by omega), e 11 (by omega)]; exact h.cin
  · unfold routeP; rw [en, e 1 (by omega), e 12 (by omega)]; exact h.rin
  · rw [en]; exact fun a ha => (happ a ha).2.1
  · rw [en]; exact fun a ha => (happ a ha).2.2.1
  · rw [en]; exact fun a ha => (happ a ha).2.2.2.1
  · intro a ha
    by_cases q : a < nA z
    · exact (happ a q).2.2.2.2.1
    · exact Or.inl (hfa a (by omega) ha).2.2.2
  · rw [en, e 14 (by omega)]; exact h.par
  · rw [en]; exact fun a ha => (happ a ha).2.2.2.2.2.1
  · rw [en]; exact hfa
  · rw [e 2 (by omega)]; exact hfc
  · unfold Uniq
    rw [en, e 11 (by omega), e 12 (by omega)]
    intro a b ha hb h1 h2 h3 h4 h5
    obtain ⟨a1, a2⟩ := (happ a ha).2.2.2.2.2.2 h1
    obtain ⟨b1, b2⟩ := (happ b hb).2.2.2.2.2.2 h2
    exact h.uq a b ha hb a1 b1 h3 h4 (by rw [← a2, ← b2]; exact h5)
theorem join_eq {z : St} {B : Nat} (h : OI z B) : (∀ f, Sh f → (spJoin z).2 f = mJoin z f) ∧ OI (comb (spJoin z).2 (mJoin z)) B := by
  unfold spJoin mJoin
  by_cases h0 : ¬ z 2 0 < 12
  · rw [if_pos h0, if_pos h0]
    refine ⟨fun _ _ => rfl, ?_⟩
    refine OI_of h (fun f hf _ _ _ => ?_)
    unfold comb
    split <;> rfl
  · rw [if_neg h0, if_neg h0]
    obtain ⟨n, n1, n2⟩ := h.io.2.2.1
    have hn : n < 12 := by
      have := Decidable.not_not.mp h0
      rw [n2] at this
      exact (nI_ltI (b := 12) (by omega) (by decide)).mp this
    have ecn : cn (z 2 0) = n := by rw [n2, cn_nI (by omega)]
    obtain ⟨f8, f9, f10⟩ := h.frc n (by omega) hn
    rw [ecn]
    have e8 : u2 z 8 n 0 = z := u2_self f8
    have e9 : u2 (u2 z 8 n 0) 9 n 0 = z := by rw [e8]; exact u2_self f9
    rw [e9]
    refine ⟨fun f hf => ?_, ?_⟩
    · show u2 z 2 0 (z 2 0 + 1) f = u2 (u2 z 87 n (-6)) 2 0 (z 2 0 + 1) f
      funext i
      by_cases q : f = 2 ∧ i = 0
      · obtain ⟨rfl, rfl⟩ := q; rw [u2_s, u2_s]
      · rw [u2_ne (by omega), u2_ne (by omega), u2_ne (by omega)]
    · have ef : ∀ f, f < 20 ∨ f = 87 → comb (u2 z 2 0 (z 2 0 + 1)) (u2 (u2 z 87 n (-6)) 2 0 (z 2 0 + 1)) f = u2 (u2 z 87 n (-6)) 2 0 (z 2 0 + 1) f := by
        intro f hf
        unfold comb
        split
        · rename_i q
          have : f = 10 := by omega
          subst this
          rw [u2_f (by decide), u2_f (by decide), u2_f (by decide)]
        · rfl
      show OI (comb (u2 z 2 0 (z 2 0 + 1)) _) B
      refine OI_of (z := u2 (u2 z 87 n (-6)) 2 0 (z 2 0 + 1)) ?_ (fun f hf _ _ _ => ef f hf)
      have e20 : u2 (u2 z 87 n (-6)) 2 0 (z 2 0 + 1) 2 0 = nI (n + 1) := by rw [u2_s, n2, nI_1]
      have g : ∀ f, f ≠ 2 → f ≠ 87 → u2 (u2 z 87 n (-6)) 2 0 (z 2 0 + 1) f = z f := fun f a b => by rw [u2_f a, u2_f b]
      have g87 : ∀ c, u2 (u2 z 87 n (-6)) 2 0 (z 2 0 + 1) 87 c = if c = n then -6 else z 87 c := by
        intro c
        rw [u2_f (by decide)]
        by_cases q : c = n
        · subst q; rw [u2_s, if_pos rfl]
        · rw [u2_i _ q, if_neg q]
      generalize u2 (u2 z 87 n (-6)) 2 0 (z 2 0 + 1) = y at e20 g g87
      have en : nA y = nA z := nA_of (g 3 (by decide) (by decide))
      have ecy : cn (y 2 0) = n + 1 := by rw [e20, cn_nI (by omega)]
      unfold OI SetOK ClimIn Uniq routeP aliveP
      rw [en, ecy, g 0 (by decide) (by decide), g 1 (by decide) (by decide), g 4 (by decide) (by decide), g 7 (by decide) (by decide), g 8 (by decide) (by decide), g 9 (by decide) (by decide), g 10 (by decide) (by decide), g 11 (by decide) (by decide), g 12 (by decide) (by decide), g 13 (by decide) (by decide), g 14 (by decide) (by decide), g 15 (by decide) (by decide), g 16 (by decide) (by decide), g 17 (by decide) (by decide), g 18 (by decide) (by decide)]
      refine ⟨?_, h.cl, ?_, ?_, h.rin, h.st, h.h16, h.h17, h.h18, h.par, h.ht, h.set, h.mem, h.fra, ?_, h.uq⟩
      · unfold IO
        rw [en, e20, g 0 (by decide) (by decide), g 1 (by decide) (by decide), g 3 (by decide) (by decide), g 11 (by decide) (by decide), g 12 (by decide) (by decide), g 13 (by decide) (by decide)]
        exact ⟨h.io.1, h.io.2.1, ⟨n + 1, by omega, rfl⟩, h.io.2.2.2⟩
      · intro c hc
        rw [g87]
        by_cases q : c = n
        · subst q; rw [if_pos rfl, f10]
        · rw [if_neg q]; exact h.h87c c (by omega)
      · intro a ha
        have := h.cin a ha
        omega
      · exact fun c h1 h2 => h.frc c (by omega) h2
theorem OI_lot {z : St} {B : Nat} (h : OI z B) (hB : B ≤ 100000) (r d : Int32) : OI (mLottery z r d).2 (B + 1) := by
  unfold mLottery
  split
  · exact h.mono (by omega)
  · rename_i h1
    split
    · exact h.mono (by omega)
    · rename_i h2
      have hr := Decidable.not_not.mp h1
      have hop : openP z d := Decidable.not_not.mp (fun q => h2 (Or.inl q))
      have h40 := (iNa h.io).2
      obtain ⟨H1, H2, H3, H4, H5, H6, H7⟩ := hold_at (zm := z) (w := enterK z r d (nA z)) (s := z 4 5) h.io h.h87 (h.tk hB) h.uq h.cin hr.1 (same_refl z) rfl h.sd (fun _ _ _ => rfl)
      have lo : ∀ f, f ≠ 4 ∧ f ≠ 8 ∧ f ≠ 15 ∧ f ≠ 16 ∧ f ≠ 81 ∧ f ≠ 82 → (mHold z r d).2 f = z f := fun f hf => mHold_lo z r d hf
      have hseed := mHold_seed h.sd r d
      generalize (hq (enterK z r d (nA z)) (z 4 5) (leftP z r d) (cE z r d (nA z))).1 = q at H4 H5 H6
      generalize (mHold z r d).2 = y at H3 H4 H5 H6 H7 lo hseed ⊢
      refine OI_gen h (fun f hf => lo f (by omega)) ?_ ?_ ?_ ?_ ?_ (fun a ha => ?_)
      · rw [lo 7 (by decide)]; exact h.cl
      · intro s hs
        by_cases e : s = 5
        · subst e
          obtain ⟨k, k1, k2⟩ := hseed
          rw [k2]
          have e1 : fLOW 5 = nI 0 := rfl
          have e2 : fHIGH 5 = nI 65535 := rfl
          rw [e1, e2]
          exact ⟨nI_pos (by omega), (nI_leI (by omega) (by omega)).mpr (by omega)⟩
        · rw [H3 s e]; exact h.set s hs
      · intro c hc
        obtain ⟨m, m1, m2⟩ := h.mem c hc
        by_cases hcc : ∃ a, a < nA z ∧ inL z r d a ∧ cn (z 11 a) = c
        · obtain ⟨a, a1, a2, rfl⟩ := hcc
          rw [H6 a a1 a2, m2]
          split
          · exact ⟨m + 1, by omega, nI_1 m⟩
          · exact ⟨0, by omega, rfl⟩
        · rw [H7 c (fun a a1 a2 a3 => hcc ⟨a, a1, a2, a3⟩)]
          exact ⟨m, by omega, m2⟩
      · intro c h1 h2
        have := h.frc c h1 h2
        rw [H7 c (fun a a1 a2 a3 => by have := h.cin a a1; omega), lo 9 (by decide)]
        exact ⟨this.1, this.2.1⟩
      · intro a h1 h2
        have h3 : ¬ a < nA z := by omega
        rw [H4, if_neg h3, H5, if_neg (fun q => h3 q.1), lo 17 (by decide), lo 18 (by decide)]
        exact h.fra a h1 h2
      · have h4 := H4 a
        have h5 := H5 a
        rw [if_pos ha] at h4
        unfold AppOK aliveP
        rw [lo 13 (by decide), lo 17 (by decide), lo 18 (by decide)]
        have hd13 : ∃ d, d < 60 ∧ z 13 a = nI d := ⟨_, (iD h.io ha).2, (iD h.io ha).1⟩
        have h18 := h.h18 a (by omega)
        by_cases hin : inL z r d a
        · rw [if_pos hin] at h4
          have z0 : z 15 a = 0 := hin.1
          have z17 := h.h17 a ha (Or.inl z0)
          by_cases hw : q 65 (cE z r d a) = 0
          · rw [if_pos hw] at h4
            rw [if_neg (fun q => q.2.2 hw)] at h5
            rw [h4, h5]
            exact ⟨hd13, ⟨2, by decide, rfl⟩, fun _ => h.h16 a ha (Or.inl z0), fun _ => z17, h18, fun q => absurd q (by decide), fun q => absurd q (by decide)⟩
          · rw [if_neg hw] at h4
            rw [h4]
            exact ⟨hd13, ⟨1, by decide, rfl⟩, fun q => absurd q (by decide), fun _ => z17, h18, fun _ => by rw [hin.2.1.2]; exact hop.1, fun q => absurd q (by decide)⟩
        · rw [if_neg hin] at h4
          rw [if_neg (fun q => hin q.2.1)] at h5
          by_cases hon : onP z a r d ∧ z 15 a = 0
          · rw [if_pos hon] at h4
            rw [h4, h5]
            exact ⟨hd13, ⟨2, by decide, rfl⟩, fun _ => h.h16 a ha (Or.inl hon.2), fun _ => h.h17 a ha (Or.inl hon.2), h18, fun q => absurd q (by decide), fun q => absurd q (by decide)⟩
          · rw [if_neg hon] at h4
            rw [h4, h5]
            exact ⟨hd13, h.st a ha, h.h16 a ha, h.h17 a ha, h18, h.ht a ha, fun q => ⟨q, rfl⟩⟩
theorem lottery_eq {z : St} {B : Nat} (h : OI z B) (hB : B ≤ 100000) (r d : Int32) : (cLottery z r d).1 = (mLottery z r d).1 ∧ ∀ f, Shr f → (cLottery z r d).2 f = (mLottery z r d).2 f := by
  unfold cLottery mLottery
  by_cases h1 : ¬ (routeP z r ∧ dayP d)
  · rw [if_pos h1, if_pos h1]; exact ⟨rfl, fun _ _ => rfl⟩
  · rw [if_neg h1, if_neg h1]
    by_cases h2 : ¬ openP z d ∨ inSt z r d 0 = 0
    · rw [if_pos h2, if_pos h2]; exact ⟨rfl, fun _ _ => rfl⟩
    · rw [if_neg h2, if_neg h2]
      exact lot_eq h.io h.h87 (h.tk hB) h.uq h.cin (Decidable.not_not.mp h1).1 h.sd
/-! ends of days -/
theorem judge1_at (y : St) (a i : Nat) : judge1 y a 15 i = if i = a ∧ y 15 a = 1 ∧ y 13 a = y 0 0 then (if y 18 a = 0 then 6 else 5) else y 15 i := by
  unfold judge1
  by_cases h : y 15 a = 1 ∧ y 13 a = y 0 0
  · rw [if_pos h]
    by_cases h18 : y 18 a = 0
    · rw [if_pos h18, strikeZ_lo _ _ _ _ (by decide)]
      by_cases e : i = a
      · subst e; rw [u2_s, if_pos ⟨rfl, h⟩, if_pos h18]
      · rw [u2_i _ e, if_neg (fun q => e q.1)]
    · rw [if_neg h18]
      by_cases e : i = a
      · subst e; rw [u2_s, if_pos ⟨rfl, h⟩, if_neg h18]
      · rw [u2_i _ e, if_neg (fun q => e q.1)]
  · rw [if_neg h, if_neg (fun q => h q.2)]
theorem judgeK_15 (z : St) : ∀ k i, judgeK z k 15 i = if i < k ∧ z 15 i = 1 ∧ z 13 i = z 0 0 then (if z 18 i = 0 then 6 else 5) else z 15 i := by
  intro k
  induction k with
  | zero => intro i; rw [if_neg (fun q => absurd q.1 (Nat.not_lt_zero _))]; rfl
  | succ k ih =>
    intro i
    have e15 : judgeK z k 15 k = z 15 k := by rw [ih, if_neg (fun q => absurd q.1 (Nat.lt_irrefl _))]
    rw [judgeK, judge1_at, judgeK_lo z k (f := 13) (by decide), judgeK_lo z k (f := 0) (by decide), judgeK_lo z k (f := 18) (by decide), e15]
    by_cases e : i = k
    · subst e
      by_cases h : z 15 i = 1 ∧ z 13 i = z 0 0
      · rw [if_pos (show i = i ∧ z 15 i = 1 ∧ z 13 i = z 0 0 from ⟨rfl, h⟩), if_pos (show i < i + 1 ∧ z 15 i = 1 ∧ z 13 i = z 0 0 from ⟨Nat.lt_succ_self _, h⟩)]
      · rw [if_neg (fun q => h q.2), if_neg (fun q => h q.2), ih, if_neg (fun q => h q.2)]
    · rw [if_neg (fun q => e q.1), ih]
      have : i < k + 1 ↔ i < k := by omega
      simp only [this]
def JR (z y m : St) : Prop := (∀ f, f ≠ 10 → f ≠ 87 → y f = m f) ∧ y 87 = z 87 ∧ m 10 = z 10 ∧ (∀ c, c < cn (z 2 0) → y 10 c = m 87 c) ∧ (∀ c, cn (z 2 0) ≤ c → y 10 c = z 10 c ∧ y 9 c = z 9 c)
theorem JR_step {z y m : St} (h : JR z y m) {a : Nat} (hc : cn (y 11 a) < cn (z 2 0)) : JR z (judge1 y a) (judgeM1 m a) := by
  obtain ⟨h1, h2, h3, h4, h5⟩ := h
  have g := fun f a b => h1 f a b
  unfold judge1 judgeM1
  rw [← g 15 (by decide) (by decide), ← g 13 (by decide) (by decide), ← g 0 (by decide) (by decide), ← g 18 (by decide) (by decide), ← g 11 (by decide) (by decide), ← g 4 (by decide) (by decide)]
  by_cases hw : y 15 a = 1 ∧ y 13 a = y 0 0
  · rw [if_pos hw, if_pos hw]
    by_cases h18 : y 18 a = 0
    · rw [if_pos h18, if_pos h18]
      unfold strikeZ strikeM
      rw [u2_f (show 9 ≠ 15 by decide), u2_f (show 9 ≠ 15 by decide), ← g 9 (by decide) (by decide)]
      by_cases hs : ¬ y 9 (cn (y 11 a)) + 1 < y 4 2
      · rw [if_pos hs, if_pos hs, u2_f (show 10 ≠ 15 by decide), u2_f (show 87 ≠ 15 by decide)]
        refine ⟨fun f fa fb => ?_, ?_, ?_, fun c hcc => ?_, fun c hcc => ?_⟩
        · rw [u2_f fa, u2_f fb]
          by_cases q9 : f = 9
          · subst q9
            funext i
            by_cases qi : i = cn (y 11 a)
            · subst qi; rw [u2_s, u2_s]
            · rw [u2_i _ qi, u2_i _ qi, u2_i _ qi, u2_i _ qi, u2_f (by decide), u2_f (by decide), g 9 (by decide) (by decide)]
          · rw [u2_f q9, u2_f q9, u2_f q9, u2_f q9]
            by_cases q15 : f = 15
            · subst q15; rw [u2_ff, u2_ff, g 15 (by decide) (by decide)]
            · rw [u2_f q15, u2_f q15]; exact g f fa fb
        · rw [u2_f (by decide), u2_f (by decide), u2_f (by decide), u2_f (by decide)]; exact h2
        · rw [u2_f (by decide), u2_f (by decide), u2_f (by decide), u2_f (by decide)]; exact h3
        · by_cases q : c = cn (y 11 a)
          · subst q
            rw [u2_s, u2_s, ← h4 _ hcc]
            by_cases q2 : y 10 (cn (y 11 a)) < y 0 0 + y 4 3
            · rw [if_pos q2, if_neg (Int32.not_le.mpr q2)]
            · rw [if_neg q2, if_pos (Int32.not_lt.mp q2)]
          · (repeat rw [u2_ne (by omega)])
            exact h4 c hcc
        · have q : c ≠ cn (y 11 a) := by omega
          rw [u2_i _ q, u2_f (show 10 ≠ 9 by decide), u2_f (show 10 ≠ 9 by decide), u2_f (show 10 ≠ 15 by decide), u2_f (show 9 ≠ 10 by decide), u2_i _ q, u2_i _ q, u2_f (show 9 ≠ 15 by decide)]
          exact h5 c hcc
      · rw [if_neg hs, if_neg hs]
        refine ⟨fun f fa fb => ?_, ?_, ?_, fun c hcc => ?_, fun c hcc => ?_⟩
        · by_cases q9 : f = 9
          · subst q9
            rw [u2_ff, u2_ff, u2_f (by decide), u2_f (by decide), g 9 (by decide) (by decide)]
          · rw [u2_f q9, u2_f q9]
            by_cases q15 : f = 15
            · subst q15; rw [u2_ff, u2_ff, g 15 (by decide) (by decide)]
            · rw [u2_f q15, u2_f q15]; exact g f fa fb
        · rw [u2_f (by decide), u2_f (by decide)]; exact h2
        · rw [u2_f (by decide), u2_f (by decide)]; exact h3
        · rw [u2_f (show 10 ≠ 9 by decide), u2_f (show 10 ≠ 15 by decide), u2_f (show 87 ≠ 9 by decide), u2_f (show 87 ≠ 15 by decide)]
          exact h4 c hcc
        · have q : c ≠ cn (y 11 a) := by omega
          rw [u2_f (show 10 ≠ 9 by decide), u2_f (show 10 ≠ 15 by decide), u2_i _ q, u2_f (show 9 ≠ 15 by decide)]
          exact h5 c hcc
    · rw [if_neg h18, if_neg h18]
      refine ⟨fun f fa fb => ?_, ?_, ?_, fun c hcc => ?_, fun c hcc => ?_⟩
      · by_cases q15 : f = 15
        · subst q15; rw [u2_ff, u2_ff, g 15 (by decide) (by decide)]
        · rw [u2_f q15, u2_f q15]; exact g f fa fb
      · rw [u2_f (by decide)]; exact h2
      · rw [u2_f (by decide)]; exact h3
      · rw [u2_f (show 10 ≠ 15 by decide), u2_f (show 87 ≠ 15 by decide)]; exact h4 c hcc
      · rw [u2_f (show 10 ≠ 15 by decide), u2_f (show 9 ≠ 15 by decide)]; exact h5 c hcc
  · rw [if_neg hw, if_neg hw]; exact ⟨h1, h2, h3, h4, h5⟩
theorem JR_K {z : St} {B : Nat} (h : OI z B) : ∀ k, k ≤ nA z → JR z (judgeK z k) (judgeM z k) ∧ missedK z k = missedM z k := by
  intro k
  induction k with
  | zero => intro _; exact ⟨⟨fun _ _ _ => rfl, rfl, rfl, fun c hc => (h.h87c c hc).symm, fun c _ => ⟨rfl, rfl⟩⟩, rfl⟩
  | succ k ih =>
    intro hk
    obtain ⟨i1, i2⟩ := ih (by omega)
    refine ⟨JR_step i1 (by rw [judgeK_lo z k (by decide)]; exact h.cin k (by omega)), ?_⟩
    rw [missedK, missedM, i2]
    unfold missed1
    rw [i1.1 15 (by decide) (by decide), i1.1 13 (by decide) (by decide), i1.1 0 (by decide) (by decide), i1.1 18 (by decide) (by decide)]
theorem loseK_cg {y m : St} (h : ∀ f, f = 12 ∨ f = 13 ∨ f = 15 → y f = m f) (r d : Int32) (k : Nat) : loseK y r d k 15 = loseK m r d k 15 := by
  funext i
  rw [loseK_15, loseK_15, h 12 (by omega), h 13 (by omega), h 15 (by omega)]
theorem end_eq {z : St} {B : Nat} (h : OI z B) : (spEnd z).1 = (mEnd z).1 ∧ (∀ f, Sh f → (spEnd z).2 f = (mEnd z).2 f) ∧ OI (comb (spEnd z).2 (mEnd z).2) B := by
  unfold spEnd mEnd
  by_cases h0 : ¬ z 0 0 < 59
  · rw [if_pos h0, if_pos h0]
    refine ⟨rfl, fun _ _ => rfl, OI_of h (fun f hf _ _ _ => ?_)⟩
    unfold comb
    split <;> rfl
  · rw [if_neg h0, if_neg h0]
    obtain ⟨J, hmi⟩ := JR_K h (nA z) (Nat.le_refl _)
    obtain ⟨j1, j2, j3, j4, j5⟩ := J
    have h40 := (iNa h.io).2
    dsimp only
    have ef : ∀ f, f ≠ 10 → f ≠ 87 → u2 (loseK (judgeK z (nA z)) (-1) (z 0 0) (nA z)) 0 0 (z 0 0 + 1) f = u2 (loseK (judgeM z (nA z)) (-1) (z 0 0) (nA z)) 0 0 (z 0 0 + 1) f := by
      intro f a b
      by_cases q0 : f = 0
      · subst q0
        rw [u2_ff, u2_ff]
        congr 1
        funext i
        rw [loseK_ne (Or.inl (by decide)), loseK_ne (Or.inl (by decide)), j1 0 (by decide) (by decide)]
      · rw [u2_f q0, u2_f q0]
        by_cases q15 : f = 15
        · subst q15
          exact loseK_cg (fun f hf => j1 f (by omega) (by omega)) _ _ _
        · funext i
          rw [loseK_ne (Or.inl q15), loseK_ne (Or.inl q15), j1 f a b]
    refine ⟨hmi, fun f hf => ef f (by omega) (by omega), ?_⟩
    obtain ⟨t, t1, t2⟩ := h.io.1
    have ht : t < 59 := by
      have := Decidable.not_not.mp h0
      rw [t2] at this
      exact (nI_ltI (b := 59) (by omega) (by decide)).mp this
    -- the fields of the state put together
    have y10 : ∀ c, comb (u2 (loseK (judgeK z (nA z)) (-1) (z 0 0) (nA z)) 0 0 (z 0 0 + 1)) (u2 (loseK (judgeM z (nA z)) (-1) (z 0 0) (nA z)) 0 0 (z 0 0 + 1)) 10 c = judgeK z (nA z) 10 c := by
      intro c
      rw [comb_c _ _ (by decide), u2_f (by decide), loseK_ne (Or.inl (by decide))]
    have y87 : ∀ c, comb (u2 (loseK (judgeK z (nA z)) (-1) (z 0 0) (nA z)) 0 0 (z 0 0 + 1)) (u2 (loseK (judgeM z (nA z)) (-1) (z 0 0) (nA z)) 0 0 (z 0 0 + 1)) 87 c = judgeM z (nA z) 87 c := by
      intro c
      rw [comb_m _ _ (by decide), u2_f (by decide), loseK_ne (Or.inl (by decide))]
    have yo : ∀ f, f < 20 → f ≠ 10 → comb (u2 (loseK (judgeK z (nA z)) (-1) (z 0 0) (nA z)) 0 0 (z 0 0 + 1)) (u2 (loseK (judgeM z (nA z)) (-1) (z 0 0) (nA z)) 0 0 (z 0 0 + 1)) f = u2 (loseK (judgeK z (nA z)) (-1) (z 0 0) (nA z)) 0 0 (z 0 0 + 1) f := by
      intro f a b
      rw [comb_m _ _ (by omega)]
      exact (ef f b (by omega)).symm
    generalize comb (u2 (loseK (judgeK z (nA z)) (-1) (z 0 0) (nA z)) 0 0 (z 0 0 + 1)) (u2 (loseK (judgeM z (nA z)) (-1) (z 0 0) (nA z)) 0 0 (z 0 0 + 1)) = y at y10 y87 yo
    have yk : ∀ f, f < 20 → f ≠ 10 → f ≠ 0 → f ≠ 9 → f ≠ 15 → y f = z f := by
      intro f a b c d e
      rw [yo f a b, u2_f c]
      funext i
      rw [loseK_ne (Or.inl e), judgeK_lo z _ ⟨d, b, e⟩]
    have y0 : y 0 0 = nI (t + 1) := by rw [yo 0 (by decide) (by decide), u2_s, t2, nI_1]
    have y9 : ∀ c, y 9 c = judgeK z (nA z) 9 c := by
      intro c
      rw [yo 9 (by decide) (by decide), u2_f (by decide), loseK_ne (Or.inl (by decide))]
    have y15 : ∀ a, y 15 a = if a < nA z ∧ (judgeK z (nA z) 15 a = 0 ∧ z 13 a = z 0 0) then 2 else judgeK z (nA z) 15 a := by
      intro a
      rw [yo 15 (by decide) (by decide), u2_f (by decide), loseK_15, judgeK_lo z _ (f := 13) (by decide)]
      simp only [true_or, and_true]
    refine OI_gen2 h (fun f hf => yk f (by omega) (by omega) (by omega) (by omega) (by omega)) ⟨t + 1, by omega, y0⟩ ?_ ?_ ?_ ?_ ?_ ?_ ?_
    · rw [yk 7 (by decide) (by decide) (by decide) (by decide) (by decide)]; exact h.cl
    · intro c hc; rw [y87, y10, j4 c hc]
    · unfold SetOK; rw [yk 4 (by decide) (by decide) (by decide) (by decide) (by decide)]; exact h.set
    · rw [yk 8 (by decide) (by decide) (by decide) (by decide) (by decide)]; exact h.mem
    · intro c h1 h2
      obtain ⟨q1, q2⟩ := j5 c h1
      rw [yk 8 (by decide) (by decide) (by decide) (by decide) (by decide), y9, y10, q1, q2]
      exact h.frc c h1 h2
    · intro a h1 h2
      have q := h.fra a h1 h2
      rw [y15, if_neg (fun q => absurd q.1 (by omega)), judgeK_15, if_neg (fun q => absurd q.1 (by omega)), yk 16 (by decide) (by decide) (by decide) (by decide) (by decide), yk 17 (by decide) (by decide) (by decide) (by decide) (by decide), yk 18 (by decide) (by decide) (by decide) (by decide) (by decide)]
      exact q
    · intro a ha
      have hj := judgeK_15 z (nA z) a
      unfold aliveP
      rw [yk 13 (by decide) (by decide) (by decide) (by decide) (by decide), yk 16 (by decide) (by decide) (by decide) (by decide) (by decide), yk 17 (by decide) (by decide) (by decide) (by decide) (by decide), yk 18 (by decide) (by decide) (by decide) (by decide) (by decide), y0]
      have hD := iD h.io ha
      have hd13 : ∃ d, d < 60 ∧ z 13 a = nI d := ⟨_, hD.2, hD.1⟩
      have h18 := h.h18 a (by omega)
      by_cases hw : z 15 a = 1 ∧ z 13 a = z 0 0
      · rw [if_pos ⟨ha, hw⟩] at hj
        have : y 15 a = 6 ∨ y 15 a = 5 := by
          rw [y15, hj]
          by_cases q : z 18 a = 0
          · rw [if_pos q, if_neg (fun q => absurd q.2.1 (by decide))]; exact Or.inl rfl
          · rw [if_neg q, if_neg (fun q => absurd q.2.1 (by decide))]; exact Or.inr rfl
        rcases this with e | e <;> rw [e]
        · exact ⟨hd13, ⟨6, by decide, rfl⟩, fun q => absurd q (by decide), fun q => absurd q (by decide), h18, fun q => absurd q (by decide), fun q => absurd q (by decide)⟩
        · exact ⟨hd13, ⟨5, by decide, rfl⟩, fun q => absurd q (by decide), fun q => absurd q (by decide), h18, fun q => absurd q (by decide), fun q => absurd q (by decide)⟩
      · rw [if_neg (fun q => hw q.2)] at hj
        have hs := y15 a
        rw [hj] at hs
        by_cases hl : z 15 a = 0 ∧ z 13 a = z 0 0
        · rw [if_pos ⟨ha, hl⟩] at hs
          rw [hs]
          exact ⟨hd13, ⟨2, by decide, rfl⟩, fun _ => h.h16 a ha (Or.inl hl.1), fun _ => h.h17 a ha (Or.inl hl.1), h18, fun q => absurd q (by decide), fun q => absurd q (by decide)⟩
        · rw [if_neg (fun q => hl q.2)] at hs
          rw [hs]
          refine ⟨hd13, h.st a ha, h.h16 a ha, h.h17 a ha, h18, fun q => ?_, fun q => ⟨q, rfl⟩⟩
          have q1 := h.ht a ha q
          have q2 : ¬ z 13 a = z 0 0 := fun e => hw ⟨q, e⟩
          rw [t2] at q1 q2
          rw [hD.1] at q1 q2 ⊢
          have a1 := (nI_leI (by omega) (by omega)).mp q1
          have a2 : cn (z 13 a) ≠ t := fun e => q2 (by rw [e])
          exact (nI_leI (by omega) (by omega)).mpr (by omega)
