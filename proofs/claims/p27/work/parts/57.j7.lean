/-! ===== the end of a day ===== -/
/-- the class's cells with what is kept beside them -/
def nrm (zc zm : St) : St := fun f => if f < 87 then zc f else zm f
theorem nrm_lo (zc zm : St) {f : Nat} (h : f < 87) : nrm zc zm f = zc f := if_pos h
theorem nrm_inv {b : Nat} {F G : Int32 × St} (h : PairOK b F G) : Inv (nrm F.2 G.2) b := by
  obtain ⟨-, h2, h3⟩ := h
  refine Inv_cg h2 (fun f hf => ?_)
  by_cases q : f < 87
  · rw [nrm_lo _ _ q]
    by_cases c : CP f
    · rw [comb_c _ _ c]
    · rw [comb_m _ _ c]; exact h3 f (by omega)
  · rw [comb_m _ _ (by omega)]
    exact if_neg q
theorem end_step {z : St} {b : Nat} (h : JI z b) (hb : b + 100 ≤ 50000) (hT : TN z < 59) : ∃ y, (∀ f, f < 75 → y f = (spEnd z).2 f) ∧ (∀ i, i < 3 → y (75 + i) = z (75 + i)) ∧ JI y (b + 100) ∧ (spEnd z).1 = missedK z (nA z) ∧ nA y = nA z ∧ NC y = NC z ∧ TN y = TN z + 1 ∧
    (∀ a, a < nA z → a_d z a = TN z → (a_s z a = 0 → a_s y a = 2) ∧ (a_s z a = 1 → a_s y a = if z 18 a = 0 then 6 else 5) ∧ (a_s z a ≠ 0 → a_s z a ≠ 1 → a_s y a = a_s z a)) ∧ y 9 = judgeK z (nA z) 9 ∧ y 10 = judgeK z (nA z) 10 := by
  have hp := pair_end h.inv
  have hInv := nrm_inv hp
  have ht := h.t0
  have h59 : z 0 0 < 59 := by rw [ht.1]; exact (nI_ltI (b := 59) (by omega) (by decide)).mpr hT
  have eF : spEnd z = (missedK z (nA z), u2 (loseK (judgeK z (nA z)) (-1) (z 0 0) (nA z)) 0 0 (z 0 0 + 1)) := by
    unfold spEnd; rw [if_neg (not_not_intro h59)]
  have hj15 := judgeK_15 z (nA z)
  have hl15 := loseK_15 (judgeK z (nA z)) (-1) (z 0 0) (nA z)
  have hjlo := fun f hf => judgeK_lo z (nA z) (f := f) hf
  have hne := fun (f i : Nat) (hf : f ≠ 15) => loseK_ne (z := judgeK z (nA z)) (r := -1) (d := z 0 0) (k := nA z) (f := f) (i := i) (Or.inl hf)
  generalize mEnd z = Gm at *
  rw [eF] at hInv ⊢
  generalize judgeK z (nA z) = m at *
  generalize loseK m (-1) (z 0 0) (nA z) = w at *
  have wlo : ∀ f, f ≠ 9 → f ≠ 10 → f ≠ 15 → w f = z f := fun f q1 q2 q3 => by funext i; rw [hne f i q3, hjlo f ⟨q1, q2, q3⟩]
  have ylo : ∀ f, f < 87 → f ≠ 0 → nrm (u2 w 0 0 (z 0 0 + 1)) Gm.2 f = w f := fun f q1 q2 => by rw [nrm_lo _ _ q1, u2_f q2]
  have y00 : nrm (u2 w 0 0 (z 0 0 + 1)) Gm.2 0 0 = nI (TN z + 1) := by
    rw [nrm_lo _ _ (by decide), u2_s]
    conv => lhs; rw [ht.1]
    exact nI_1 _
  generalize hy : nrm (u2 w 0 0 (z 0 0 + 1)) Gm.2 = y at *
  have yz : ∀ f, f < 87 → f ≠ 0 → f ≠ 9 → f ≠ 10 → f ≠ 15 → y f = z f := fun f q0 q1 q2 q3 q4 => by rw [ylo f q0 q1, wlo f q2 q3 q4]
  have en : nA y = nA z := by unfold nA; rw [yz 3 (by decide) (by decide) (by decide) (by decide) (by decide)]
  have c0 : cn (0 : Int32) = 0 := by decide
  have c1 : cn (1 : Int32) = 1 := by decide
  have c2 : cn (2 : Int32) = 2 := by decide
  have c5 : cn (5 : Int32) = 5 := by decide
  have c6 : cn (6 : Int32) = 6 := by decide
  have tT : TN y = TN z + 1 := by unfold TN; rw [y00, cn_nI (by have := ht.2; omega)]
  -- the states
  have hst : ∀ a, a < nA z → a_s y a = if a_s z a = 1 ∧ a_d z a = TN z then (if z 18 a = 0 then 6 else 5) else if a_s z a = 0 ∧ a_d z a = TN z then 2 else a_s z a := by
    intro a ha
    obtain ⟨-, -, ⟨e13, d6⟩, -, ⟨e15, s7⟩, a40⟩ := h.ap ha
    have f1 : z 15 a = 1 ↔ a_s z a = 1 := by rw [e15]; exact nI_eq (b := 1) (by omega) (by decide)
    have f0 : z 15 a = 0 ↔ a_s z a = 0 := by rw [e15]; exact nI_eq (b := 0) (by omega) (by decide)
    have fd : z 13 a = z 0 0 ↔ a_d z a = TN z := by
      constructor
      · intro q; unfold a_d TN; rw [q]
      · intro q; rw [e13, ht.1, q]
    have e : y 15 a = w 15 a := by rw [ylo 15 (by decide) (by decide)]
    have m13 : m 13 a = z 13 a := by rw [hjlo 13 (by decide)]
    unfold a_s at f1 f0 ⊢
    rw [e, hl15 a, hj15 a, m13]
    by_cases k1 : cn (z 15 a) = 1 ∧ a_d z a = TN z
    · have k1' : a < nA z ∧ z 15 a = 1 ∧ z 13 a = z 0 0 := ⟨ha, f1.mpr k1.1, fd.mpr k1.2⟩
      rw [if_pos k1', if_pos k1]
      by_cases t : z 18 a = 0
      · rw [if_pos t, if_pos t, if_neg (fun q => absurd q.2.1 (by decide))]; exact c6
      · rw [if_neg t, if_neg t, if_neg (fun q => absurd q.2.1 (by decide))]; exact c5
    · have k1' : ¬ (a < nA z ∧ z 15 a = 1 ∧ z 13 a = z 0 0) := fun q => k1 ⟨f1.mp q.2.1, fd.mp q.2.2⟩
      rw [if_neg k1', if_neg k1]
      by_cases k0 : cn (z 15 a) = 0 ∧ a_d z a = TN z
      · rw [if_pos ⟨ha, f0.mpr k0.1, fd.mpr k0.2, Or.inl rfl⟩, if_pos k0]; exact c2
      · rw [if_neg (fun q => k0 ⟨f0.mp q.2.1, fd.mp q.2.2.1⟩), if_neg k0]
  have hJ : J y := by
    refine J_apps h.j (yz 1 (by decide) (by decide) (by decide) (by decide) (by decide)) (yz 2 (by decide) (by decide) (by decide) (by decide) (by decide)) (yz 5 (by decide) (by decide) (by decide) (by decide) (by decide)) (yz 6 (by decide) (by decide) (by decide) (by decide) (by decide)) (fun a ha => ?_) (fun r hr d hd => ?_)
    · rw [en] at ha
      have hs := hst a ha
      obtain ⟨j1, j2, j3, j4, j5, j6, j7⟩ := h.aj ha
      have hwt := h.wt ha
      have hdd : a_d y a = a_d z a := by unfold a_d; rw [yz 13 (by decide) (by decide) (by decide) (by decide) (by decide)]
      have hmm : a_m y a = a_m z a := by unfold a_m; rw [yz 16 (by decide) (by decide) (by decide) (by decide) (by decide)]
      have hbb : a_b y a = a_b z a := by unfold a_b; rw [yz 17 (by decide) (by decide) (by decide) (by decide) (by decide)]
      have hpp : a_p y a = a_p z a := by unfold a_p; rw [yz 14 (by decide) (by decide) (by decide) (by decide) (by decide)]
      unfold AJ
      rw [tT, hdd, hmm, hbb, hpp, yz 16 (by decide) (by decide) (by decide) (by decide) (by decide), yz 17 (by decide) (by decide) (by decide) (by decide) (by decide), yz 7 (by decide) (by decide) (by decide) (by decide) (by decide)]
      have cases : (a_s z a = 1 ∧ a_d z a = TN z ∧ (a_s y a = 6 ∨ a_s y a = 5)) ∨ (a_s z a = 0 ∧ a_d z a = TN z ∧ a_s y a = 2) ∨ (a_s y a = a_s z a ∧ ¬ (a_s z a = 1 ∧ a_d z a = TN z) ∧ ¬ (a_s z a = 0 ∧ a_d z a = TN z)) := by
        by_cases k1 : a_s z a = 1 ∧ a_d z a = TN z
        · rw [if_pos k1] at hs
          left; refine ⟨k1.1, k1.2, ?_⟩
          split at hs
          · exact Or.inl hs
          · exact Or.inr hs
        · rw [if_neg k1] at hs
          by_cases k0 : a_s z a = 0 ∧ a_d z a = TN z
          · rw [if_pos k0] at hs
            right; left; exact ⟨k0.1, k0.2, hs⟩
          · rw [if_neg k0] at hs
            right; right; exact ⟨hs, k1, k0⟩
      rcases cases with ⟨k1, k2, k3⟩ | ⟨k1, k2, k3⟩ | ⟨k1, k2, k3⟩
      · exact ⟨fun q => by omega, fun q => by omega, fun _ => by omega, j4, j5, fun _ _ => j6 (by omega) (by omega), fun _ => j7 (by omega)⟩
      · exact ⟨fun q => by omega, fun q => by omega, fun q => by omega, j4, j5, fun _ _ => j6 (by omega) (by omega), fun q => by omega⟩
      · rw [k1]
        refine ⟨j1, fun q => ⟨?_, (j2 q).2⟩, fun q => ?_, j4, j5, j6, j7⟩
        · have := (j2 q).1
          have : ¬ a_d z a = TN z := fun e => k3 ⟨q, e⟩
          omega
        · have := j3 q; omega
    · rw [nS_tk en (fun a ha => ?_)]
      · exact h.tj hr hd
      · have hs := hst a ha
        have e1 : a_r y a = a_r z a := by unfold a_r; rw [yz 12 (by decide) (by decide) (by decide) (by decide) (by decide)]
        have e2 : a_d y a = a_d z a := by unfold a_d; rw [yz 13 (by decide) (by decide) (by decide) (by decide) (by decide)]
        have e3 : a_p y a = a_p z a := by unfold a_p; rw [yz 14 (by decide) (by decide) (by decide) (by decide) (by decide)]
        unfold tkF
        rw [e1, e2, e3]
        have e4 : (a_s y a = 1 ∨ a_s y a = 5 ∨ a_s y a = 6) ↔ (a_s z a = 1 ∨ a_s z a = 5 ∨ a_s z a = 6) := by
          rw [hs]
          split
          · rename_i k1
            split <;> omega
          · split <;> omega
        simp only [e4]
  refine ⟨y, fun f hf => ?_, fun i hi => yz _ (by omega) (by omega) (by omega) (by omega) (by omega), ⟨hInv, hb, hJ⟩, rfl, en, by unfold NC; rw [yz 2 (by decide) (by decide) (by decide) (by decide) (by decide)], tT, fun a ha hd => ?_, ?_, ?_⟩
  · rw [← hy, nrm_lo _ _ (by omega)]
  · have hs := hst a ha
    refine ⟨fun q => ?_, fun q => ?_, fun q1 q2 => ?_⟩
    · rw [hs, if_neg (by omega), if_pos ⟨q, hd⟩]
    · rw [hs, if_pos ⟨q, hd⟩]
    · rw [hs, if_neg (by omega), if_neg (by omega)]
  · rw [ylo 9 (by decide) (by decide)]; funext i; exact hne 9 i (by decide)
  · rw [ylo 10 (by decide) (by decide)]; funext i; exact hne 10 i (by decide)
theorem end_59 {z : St} {b : Nat} (h : JI z b) (hT : ¬ TN z < 59) : spEnd z = (-5, z) := by
  unfold spEnd
  rw [if_pos (fun q => ?_)]
  rw [h.t0.1] at q
  exact hT ((nI_ltI (b := 59) (by have := h.t0.2; omega) (by decide)).mp q)
/-- one of today's permits, as the law counts it -/
theorem judge_step {z : St} {b : Nat} (h : JI z b) {k : Nat} (hk : k < nA z) :
    (¬ (a_d z k = TN z ∧ a_s z k = 1 ∧ z 18 k = 0) → judgeK z (k + 1) 9 = judgeK z k 9 ∧ judgeK z (k + 1) 10 = judgeK z k 10 ∧ missedK z (k + 1) = missedK z k) ∧
    (a_d z k = TN z ∧ a_s z k = 1 ∧ z 18 k = 0 → missedK z (k + 1) = missedK z k + 1 ∧
      (judgeK z k 9 (a_c z k) + 1 < z 4 2 → judgeK z (k + 1) 9 = upd (judgeK z k 9) (a_c z k) (judgeK z k 9 (a_c z k) + 1) ∧ judgeK z (k + 1) 10 = judgeK z k 10) ∧
      (¬ judgeK z k 9 (a_c z k) + 1 < z 4 2 → judgeK z (k + 1) 9 = upd (judgeK z k 9) (a_c z k) 0 ∧ judgeK z (k + 1) 10 = upd (judgeK z k 10) (a_c z k) (if judgeK z k 10 (a_c z k) < z 0 0 + z 4 3 then z 0 0 + z 4 3 else judgeK z k 10 (a_c z k)))) := by
  obtain ⟨-, -, ⟨e13, d6⟩, -, ⟨e15, s7⟩, k40⟩ := h.ap hk
  have ht := h.t0
  have lo := fun f hf => judgeK_lo z k (f := f) hf
  have j15 : judgeK z k 15 k = z 15 k := by rw [judgeK_15, if_neg (fun q => absurd q.1 (Nat.lt_irrefl _))]
  have f1 : z 15 k = 1 ↔ a_s z k = 1 := by rw [e15]; exact nI_eq (b := 1) (by omega) (by decide)
  have fd : z 13 k = z 0 0 ↔ a_d z k = TN z := by
    constructor
    · intro q; unfold a_d TN; rw [q]
    · intro q; rw [e13, ht.1, q]
  have e13' : judgeK z k 13 k = z 13 k := by rw [lo 13 (by decide)]
  have e0' : judgeK z k 0 0 = z 0 0 := by rw [lo 0 (by decide)]
  have e18' : judgeK z k 18 k = z 18 k := by rw [lo 18 (by decide)]
  have e11' : judgeK z k 11 k = z 11 k := by rw [lo 11 (by decide)]
  have e4' : judgeK z k 4 = z 4 := lo 4 (by decide)
  rw [judgeK, missedK]
  unfold judge1 missed1
  rw [j15, e13', e0', e18', e11', e4']
  generalize judgeK z k = m at *
  constructor
  · intro q
    by_cases c : z 15 k = 1 ∧ z 13 k = z 0 0
    · have t : ¬ z 18 k = 0 := fun t => q ⟨fd.mp c.2, f1.mp c.1, t⟩
      rw [if_pos c, if_neg t, if_neg (fun w => t w.2)]
      exact ⟨u2_f (by decide), u2_f (by decide), Int32.add_zero _⟩
    · rw [if_neg c, if_neg (fun w => c w.1)]
      exact ⟨rfl, rfl, Int32.add_zero _⟩
  · rintro ⟨q1, q2, q3⟩
    have c : z 15 k = 1 ∧ z 13 k = z 0 0 := ⟨f1.mpr q2, fd.mpr q1⟩
    rw [if_pos c, if_pos q3, if_pos ⟨c, q3⟩]
    unfold strikeZ
    rw [u2_f (show 9 ≠ 15 by decide), u2_f (show 10 ≠ 15 by decide)]
    refine ⟨rfl, fun w => ?_, fun w => ?_⟩
    · rw [if_neg (not_not_intro w)]
      exact ⟨by rw [u2_ff, u2_f (by decide)], by rw [u2_f (by decide), u2_f (by decide)]⟩
    · rw [if_pos w]
      refine ⟨?_, ?_⟩
      · rw [u2_f (by decide), u2_ff, u2_ff, u2_f (by decide)]
        funext i
        unfold upd
        by_cases e : i = a_c z k
        · simp [e]
        · simp [e]
      · rw [u2_ff, u2_f (by decide), u2_f (by decide), u2_f (by decide)]
