/-! ===== closing a day, whole ===== -/
theorem OI_c7 {z : St} {b : Nat} (h : OI z b) (d : Nat) : OI (u2 z 7 d 1) b := by
  refine OI_gen h (fun f hf => u2_f (by omega)) ?_ ?_ ?_ ?_ ?_ (fun a ha => ?_)
  · intro i hi
    by_cases q : i = d
    · subst q; rw [u2_s]; exact Or.inr rfl
    · rw [u2_i _ q]; exact h.cl i hi
  · unfold SetOK; rw [u2_f (by decide)]; exact h.set
  · rw [u2_f (by decide)]; exact h.mem
  · rw [u2_f (show 8 ≠ 7 by decide), u2_f (show 9 ≠ 7 by decide)]; exact fun c h1 h2 => ⟨(h.frc c h1 h2).1, (h.frc c h1 h2).2.1⟩
  · rw [u2_f (show 15 ≠ 7 by decide), u2_f (show 16 ≠ 7 by decide), u2_f (show 17 ≠ 7 by decide), u2_f (show 18 ≠ 7 by decide)]; exact h.fra
  · exact AppOK_same h ha (by rw [u2_f (by decide)]) (by rw [u2_f (by decide)]) (by rw [u2_f (by decide)]) (by rw [u2_f (by decide)]) (by rw [u2_f (by decide)])
theorem Mv_0 {z : St} {b : Nat} (h : JI z b) (d : Nat) : MvI z d 0 (u2 z 7 d 1) := by
  have lo : ∀ f, f ≠ 7 → u2 z 7 d 1 f = z f := fun f hf => u2_f hf
  refine ⟨fun f q1 _ _ _ _ _ => lo f q1, rfl, fun a _ => ?_, fun a ha => by omega, fun r hr q hq => ?_⟩
  · rw [lo 13 (by decide), lo 15 (by decide), lo 17 (by decide), lo 18 (by decide)]; exact ⟨rfl, rfl, rfl, rfl⟩
  · rw [nS_tk (z := z) (nA_u2 (by decide)) (fun a _ => tkF_of (by rw [lo 12 (by decide)]) (by rw [lo 13 (by decide)]) (by rw [lo 14 (by decide)]) (by rw [lo 15 (by decide)]))]
    exact h.tj hr hq
theorem move1_o (y : St) (d : Int32) {k a : Nat} (h : a ≠ k) {f : Nat} (hf : f ≠ 8) : move1 y d k f a = y f a := by
  unfold move1 refundZ
  split
  · split
    · rw [u2_f hf, u2_i _ h, u2_i _ h]
    · rw [u2_i _ h, u2_i _ h]
  · rfl
theorem moveK_o (y : St) (d : Int32) {a : Nat} {f : Nat} (hf : f ≠ 8) : ∀ k m, a < k → k ≤ m → moveK y d m f a = moveK y d k f a := by
  intro k m ha
  induction m with
  | zero => intro hm; omega
  | succ m ih =>
    intro hm
    by_cases e : k = m + 1
    · subst e; rfl
    · rw [moveK, move1_o _ _ (by omega) hf]; exact ih (by omega)
theorem Mv_K {z : St} {b : Nat} (h : JI z b) {d : Nat} (hd : d < 60) : ∀ k, k ≤ nA z → MvI z d k (moveK (u2 z 7 d 1) (nI d) k) ∧ movedK (u2 z 7 d 1) (nI d) k = nI (nS (fun a => if (a_s z a = 1 ∧ a_d z a = d) ∧ a_s (moveK (u2 z 7 d 1) (nI d) (nA z)) a = 1 then 1 else 0) k) := by
  intro k
  induction k with
  | zero => intro _; exact ⟨Mv_0 h d, rfl⟩
  | succ k ih =>
    intro hk
    obtain ⟨h1, h2⟩ := ih (by omega)
    have hO := OI_moveK (OI_c7 h.oi d) (nI d) k (by rw [nA_u2 (by decide)]; omega)
    obtain ⟨s1, s2⟩ := Mv_step h hd (by omega) hO h1
    refine ⟨s1, ?_⟩
    rw [movedK, h2, s2, nI_add]
    have e : a_s (moveK (u2 z 7 d 1) (nI d) (nA z)) k = a_s (move1 (moveK (u2 z 7 d 1) (nI d) k) (nI d) k) k := by
      unfold a_s
      rw [moveK_o _ _ (by decide) (k + 1) (nA z) (by omega) hk]
      rfl
    show _ = nI (nS _ k + (if (a_s z k = 1 ∧ a_d z k = d) ∧ a_s (moveK (u2 z 7 d 1) (nI d) (nA z)) k = 1 then 1 else 0))
    rw [e]
/-- what a closed day leaves -/
def ClF (z y : St) (d : Nat) : Prop :=
  nA y = nA z ∧ NR y = NR z ∧ y 4 = z 4 ∧ closedN y = closedN z + 1 ∧ y 7 d = 1 ∧
  ∀ a, a < nA z → (a_d z a = d → a_s z a = 0 → a_s y a = 2 ∧ a_d y a = d) ∧
    (a_d z a = d → a_s z a = 1 → (a_s y a = 4 ∧ a_d y a = d ∧ a_b y a = a_m y a) ∨ (a_s y a = 1 ∧ d < a_d y a ∧ a_d y a ≤ d + cn (z 4 4) ∧ y 18 a = 0)) ∧
    (a_d z a = d → 1 < a_s z a → a_s y a = a_s z a) ∧ (a_d z a ≠ d → ¬ (a_d y a = d ∧ a_s y a = 0))
theorem close_step {z : St} {b : Nat} (h : JI z b) (hb : b + 100 ≤ 50000) {d : Nat} (hd : d < 60) :
    spClose z (nI d) = (-5, z) ∨ ∃ y, spClose z (nI d) = (nI (nS (fun a => if (a_s z a = 1 ∧ a_d z a = d) ∧ a_s y a = 1 then 1 else 0) (nA z)), y) ∧ JI y (b + 100) ∧ ClF z y d := by
  have hInv := Inv_p (pair_close h.inv (nI d))
  have h60 := h.dayP hd
  have hcd : cn (nI d) = d := cn_nI (by omega)
  have c1 : cn (1 : Int32) = 1 := by decide
  have c2 : cn (2 : Int32) = 2 := by decide
  have c4 : cn (4 : Int32) = 4 := by decide
  by_cases hop : openP z (nI d)
  · right
    have eF : spClose z (nI d) = (movedK (u2 z 7 d 1) (nI d) (nA z), loseK (moveK (u2 z 7 d 1) (nI d) (nA z)) (-1) (nI d) (nA z)) := by
      unfold spClose
      rw [if_neg (not_not_intro h60), if_neg (not_not_intro hop), hcd]
    obtain ⟨⟨lo, e7, m1, m2, m3⟩, hmv⟩ := Mv_K h hd (nA z) (Nat.le_refl _)
    rw [eF] at hInv
    rw [eF, hmv]
    have h15 := loseK_15 (moveK (u2 z 7 d 1) (nI d) (nA z)) (-1) (nI d) (nA z)
    have hne := fun (f i : Nat) (hf : f ≠ 15) => loseK_ne (z := moveK (u2 z 7 d 1) (nI d) (nA z)) (r := -1) (d := nI d) (k := nA z) (f := f) (i := i) (Or.inl hf)
    generalize moveK (u2 z 7 d 1) (nI d) (nA z) = m at *
    generalize loseK m (-1) (nI d) (nA z) = y at *
    have lo' : ∀ f, f ≠ 7 → f ≠ 8 → f ≠ 13 → f ≠ 15 → f ≠ 17 → f ≠ 18 → y f = z f := fun f q1 q2 q3 q4 q5 q6 => by funext i; rw [hne f i q4, lo f q1 q2 q3 q4 q5 q6]
    have y7 : y 7 = u2 z 7 d 1 7 := by funext i; rw [hne 7 i (by decide), e7]
    have en : nA y = nA z := by unfold nA; rw [lo' 3 (by decide) (by decide) (by decide) (by decide) (by decide) (by decide)]
    have h7d : z 7 d = 0 := by have := hop.2.2; rwa [hcd] at this
    -- each application
    have hap : ∀ a, a < nA z → AJ y a ∧ (a_d z a = d → a_s z a = 0 → a_s y a = 2 ∧ a_d y a = d) ∧
        (a_d z a = d → a_s z a = 1 → ((a_s y a = 4 ∧ a_d y a = d ∧ a_b y a = a_m y a) ∨ (a_s y a = 1 ∧ d < a_d y a ∧ a_d y a ≤ d + cn (z 4 4) ∧ y 18 a = 0)) ∧ a_s m a = a_s y a) ∧
        (a_d z a = d → 1 < a_s z a → a_s y a = a_s z a) ∧ (a_d z a ≠ d → ¬ (a_d y a = d ∧ a_s y a = 0)) ∧ (a_s m a = 0 ∨ a_s y a = a_s m a) ∧ (a_s m a = 0 → a_s y a = 0 ∨ a_s y a = 2) := by
      intro a ha
      obtain ⟨-, ⟨e12, r1, r6⟩, ⟨e13, d6⟩, ⟨e14, p1, p4⟩, ⟨e15, s7⟩, a40⟩ := h.ap ha
      obtain ⟨j1, j2, j3, ⟨e16, j4⟩, ⟨e17, j5⟩, j6, j7⟩ := h.aj ha
      have w15 : y 15 a = if m 15 a = 0 ∧ m 13 a = nI d then 2 else m 15 a := by
        rw [h15]
        by_cases q : m 15 a = 0 ∧ m 13 a = nI d
        · rw [if_pos q, if_pos ⟨ha, q.1, q.2, Or.inl rfl⟩]
        · rw [if_neg q, if_neg (fun w => q ⟨w.2.1, w.2.2.1⟩)]
      have y13 : y 13 a = m 13 a := hne 13 a (by decide)
      have y17 : y 17 a = m 17 a := hne 17 a (by decide)
      have y18 : y 18 a = m 18 a := hne 18 a (by decide)
      have y0 : y 0 0 = z 0 0 := by rw [lo' 0 (by decide) (by decide) (by decide) (by decide) (by decide) (by decide)]
      have y14 : y 14 a = z 14 a := by rw [lo' 14 (by decide) (by decide) (by decide) (by decide) (by decide) (by decide)]
      have y16 : y 16 a = z 16 a := by rw [lo' 16 (by decide) (by decide) (by decide) (by decide) (by decide) (by decide)]
      by_cases c : a_s z a = 1 ∧ a_d z a = d
      · rcases m2 a ha c.1 c.2 with ⟨q15, q13, q17⟩ | ⟨q15, q17, q18, j, q13, k1, k2, k3, k4⟩
        · have yy : y 15 a = 4 := by rw [w15, q15, if_neg (fun w => absurd w.1 (by decide))]
          have s4 : a_s y a = 4 := by unfold a_s; rw [yy]; decide
          have dd : a_d y a = d := by unfold a_d; rw [y13, q13, hcd]
          have bb : a_b y a = a_m y a := by unfold a_b a_m; rw [y17, q17, y16]
          have ss : a_s m a = a_s y a := by unfold a_s; rw [yy, q15]
          refine ⟨⟨by omega, by omega, by omega, ?_, ?_, fun _ w => absurd s4 w, fun _ => ?_⟩, fun _ w => by omega, fun _ _ => ⟨Or.inl ⟨s4, dd, bb⟩, ss⟩, fun _ w => by omega, fun w => absurd c.2 w, Or.inr ss.symm, fun w => by omega⟩
          · unfold a_m; rw [y16]; exact ⟨e16, j4⟩
          · rw [bb]; refine ⟨?_, Nat.le_refl _⟩
            rw [y17, q17, ← y16]
            unfold a_m
            rw [y16]; exact e16
          · have := j7 (Or.inl c.1)
            unfold a_p a_m at *
            rw [y14, y16]; exact this
        · have yy : y 15 a = 1 := by rw [w15, q15, if_neg (fun w => absurd w.1 (by decide))]
          have s1 : a_s y a = 1 := by unfold a_s; rw [yy]; decide
          have dd : a_d y a = j := by unfold a_d; rw [y13, q13, cn_nI (by omega)]
          have ss : a_s m a = a_s y a := by unfold a_s; rw [yy, q15]
          refine ⟨⟨fun _ => ?_, by omega, by omega, ?_, ?_, fun _ _ => ?_, fun _ => ?_⟩, fun _ w => by omega, fun _ _ => ⟨Or.inr ⟨s1, by omega, by omega, by rw [y18, q18]⟩, ss⟩, fun _ w => by omega, fun w => absurd c.2 w, Or.inr ss.symm, fun w => by omega⟩
          · rw [dd, y7, u2_i _ (by omega)]; exact k4
          · unfold a_m; rw [y16]; exact ⟨e16, j4⟩
          · unfold a_b a_m; rw [y17, q17, y16]; exact ⟨e17, j5⟩
          · unfold a_b; rw [y17, q17]; exact j6 (by omega) (by omega)
          · have := j7 (Or.inl c.1)
            unfold a_p a_m at *
            rw [y14, y16]; exact this
      · obtain ⟨q13, q15, q17, q18⟩ := m1 a (Or.inr c)
        have ms : a_s m a = a_s z a := by unfold a_s; rw [q15]
        have dd : a_d y a = a_d z a := by unfold a_d; rw [y13, q13]
        have hcond : (m 15 a = 0 ∧ m 13 a = nI d) ↔ (a_s z a = 0 ∧ a_d z a = d) := by
          rw [q15, q13, e15, e13]
          have f1 : nI (a_s z a) = 0 ↔ a_s z a = 0 := nI_eq (b := 0) (by omega) (by decide)
          have f2 : nI (a_d z a) = nI d ↔ a_d z a = d := nI_eq (by omega) (by omega)
          rw [f1, f2]
        have ym : a_m y a = a_m z a := by unfold a_m; rw [y16]
        have yb : a_b y a = a_b z a := by unfold a_b; rw [y17, q17]
        have yp : a_p y a = a_p z a := by unfold a_p; rw [y14]
        have hm16 : y 16 a = nI (a_m y a) ∧ a_m y a ≤ 4000 := by rw [ym, y16]; exact ⟨e16, j4⟩
        have hb17 : y 17 a = nI (a_b y a) ∧ a_b y a ≤ a_m y a := by rw [yb, ym, y17, q17]; exact ⟨e17, j5⟩
        by_cases cc : a_s z a = 0 ∧ a_d z a = d
        · have yy : y 15 a = 2 := by rw [w15, if_pos (hcond.mpr cc)]
          have s2 : a_s y a = 2 := by unfold a_s; rw [yy]; decide
          exact ⟨⟨by omega, by omega, by omega, hm16, hb17, fun _ _ => by rw [yb]; exact j6 (by omega) (by omega), by omega⟩, fun _ _ => ⟨s2, by omega⟩, fun _ w => by omega, fun _ w => by omega, fun w => by omega, Or.inl (by omega), fun _ => Or.inr s2⟩
        · have yy : y 15 a = z 15 a := by rw [w15, if_neg (fun w => cc (hcond.mp w)), q15]
          have ss : a_s y a = a_s z a := by unfold a_s; rw [yy]
          have z7 : a_d z a ≠ d → y 7 (a_d y a) = z 7 (a_d z a) := fun w => by rw [dd, y7, u2_i _ w]
          have t0 : TN y = TN z := by unfold TN; rw [y0]
          refine ⟨⟨fun w => ?_, fun w => ?_, fun w => by rw [t0, dd]; exact j3 (by omega), hm16, hb17, fun q1 q2 => by rw [yb]; exact j6 (by omega) (by omega), fun w => by rw [yp, ym]; exact j7 (by omega)⟩, fun q1 q2 => absurd ⟨q2, q1⟩ cc, fun q1 q2 => absurd ⟨q2, q1⟩ c, fun _ _ => ss, fun w q => by omega, Or.inr (by omega), fun w => Or.inl (by omega)⟩
          · have w1 : a_s z a = 1 := by omega
            have w2 : a_d z a ≠ d := fun e => c ⟨w1, e⟩
            rw [z7 w2]; exact j1 w1
          · have w1 : a_s z a = 0 := by omega
            have w2 : a_d z a ≠ d := fun e => cc ⟨w1, e⟩
            rw [z7 w2, t0, dd]; exact j2 w1
    have hJ : J y := by
      refine J_apps h.j (lo' 1 (by decide) (by decide) (by decide) (by decide) (by decide) (by decide)) (lo' 2 (by decide) (by decide) (by decide) (by decide) (by decide) (by decide)) (lo' 5 (by decide) (by decide) (by decide) (by decide) (by decide) (by decide)) (lo' 6 (by decide) (by decide) (by decide) (by decide) (by decide) (by decide)) (fun a ha => (hap a (by omega)).1) (fun r hr q hq => ?_)
      refine Nat.le_trans (Nat.le_of_eq ?_) (m3 r hr q hq)
      have en2 : nA m = nA z := by unfold nA; rw [lo 3 (by decide) (by decide) (by decide) (by decide) (by decide) (by decide)]
      refine nS_tk (by rw [en, en2]) (fun a ha => ?_)
      obtain ⟨-, -, -, -, -, s1, s2⟩ := hap a (by omega)
      unfold tkF
      have e1 : a_r y a = a_r m a := by unfold a_r; rw [hne 12 a (by decide)]
      have e2 : a_d y a = a_d m a := by unfold a_d; rw [hne 13 a (by decide)]
      have e3 : a_p y a = a_p m a := by unfold a_p; rw [hne 14 a (by decide)]
      rw [e1, e2, e3]
      have e4 : (a_s y a = 1 ∨ a_s y a = 5 ∨ a_s y a = 6) ↔ (a_s m a = 1 ∨ a_s m a = 5 ∨ a_s m a = 6) := by
        rcases s1 with w | w
        · have := s2 w; omega
        · rw [w]
      simp only [e4]
    refine ⟨y, ?_, ⟨hInv, hb, hJ⟩, en, by unfold NR; rw [lo' 1 (by decide) (by decide) (by decide) (by decide) (by decide) (by decide)], lo' 4 (by decide) (by decide) (by decide) (by decide) (by decide) (by decide), ?_, by rw [y7, u2_s], fun a ha => ⟨(hap a ha).2.1, fun q1 q2 => ((hap a ha).2.2.1 q1 q2).1, (hap a ha).2.2.2.1, (hap a ha).2.2.2.2.1⟩⟩
    · rw [nS_congr (fun a ha => ?_)]
      by_cases c : a_s z a = 1 ∧ a_d z a = d
      · have := ((hap a ha).2.2.1 c.2 c.1).2
        rw [this]
      · rw [if_neg (fun w => c w.1), if_neg (fun w => c w.1)]
    · unfold closedN
      rw [sm_pt (g := fun i => if z 7 i = 0 then 0 else 1) (g' := fun i => if y 7 i = 0 then 0 else 1) hd (fun i _ hi => by
        show (if y 7 i = 0 then (0 : Int32) else 1) = if z 7 i = 0 then 0 else 1
        rw [y7, u2_i _ hi])]
      show _ - (if z 7 d = 0 then (0 : Int32) else 1) + (if y 7 d = 0 then (0 : Int32) else 1) = _
      rw [if_pos h7d, y7, u2_s, if_neg (by decide), Int32.sub_zero]
  · left
    unfold spClose
    rw [if_neg (not_not_intro h60), if_pos hop]
/-- behind a closed day -/
theorem close_again {y : St} {b : Nat} (h : JI y b) {d : Nat} (hd : d < 60) (h7 : y 7 d = 1) : spClose y (nI d) = (-5, y) ∧ spNext y (nI 0) (nI d) = -6 := by
  have hcd : cn (nI d) = d := cn_nI (by omega)
  have hop : ¬ openP y (nI d) := fun q => by
    have := q.2.2
    rw [hcd, h7] at this
    exact absurd this (by decide)
  constructor
  · unfold spClose
    rw [if_neg (not_not_intro (h.dayP hd)), if_pos hop]
  · unfold spNext
    rw [if_neg (not_not_intro ⟨h.rP (by have := h.nr.2.2; omega), h.dayP hd⟩), if_pos hop]
theorem ClF.none {z y : St} {d r : Nat} (h : ClF z y d) : stN y r d 0 = 0 := by
  obtain ⟨en, -, -, -, -, h⟩ := h
  unfold stN
  refine nS_0 (fun a ha => ?_)
  obtain ⟨h1, h2, h3, h4⟩ := h a (by omega)
  unfold stF
  refine if_neg (fun q => ?_)
  by_cases e : a_d z a = d
  · by_cases s0 : a_s z a = 0
    · have := h1 e s0; omega
    · by_cases s1 : a_s z a = 1
      · rcases h2 e s1 with w | w <;> omega
      · have := h3 e (by omega); omega
  · exact h4 e ⟨q.1.2, q.2⟩
theorem JI_close {z : St} {b : Nat} (h : JI z b) (hb : b + 100 ≤ 50000) {d : Nat} (hd : d < 60) : JI (spClose z (nI d)).2 (b + 100) := by
  rcases close_step h hb hd with e | ⟨y, e, hy, -⟩
  · rw [e]; exact h.mono (by omega) hb
  · rw [e]; exact hy
