/-! ===== steps: settings, buffers, showing, the pad; cancelling ===== -/
/-- these fields alone count -/
theorem J_cg2 {z y : St} (h : J z) (e : ∀ f, f < 20 → f ≠ 4 → f ≠ 8 → f ≠ 9 → f ≠ 10 → f ≠ 18 → f ≠ 19 → y f = z f) : J y := by
  have en : nA y = nA z := by unfold nA; rw [e 3 (by decide) (by decide) (by decide) (by decide) (by decide) (by decide) (by decide)]
  have g := fun f (h1 : f < 20) (h2 : f ≠ 4 ∧ f ≠ 8 ∧ f ≠ 9 ∧ f ≠ 10 ∧ f ≠ 18 ∧ f ≠ 19) => e f h1 h2.1 h2.2.1 h2.2.2.1 h2.2.2.2.1 h2.2.2.2.2.1 h2.2.2.2.2.2
  refine J_apps h (g 1 (by decide) (by decide)) (g 2 (by decide) (by decide)) (g 5 (by decide) (by decide)) (g 6 (by decide) (by decide)) (fun a ha => ?_) (fun r hr d hd => ?_)
  · rw [en] at ha
    exact AJ_of (h.1 a ha) (by rw [g 0 (by decide) (by decide)]) (by rw [g 7 (by decide) (by decide)]) (by rw [g 13 (by decide) (by decide)]) (by rw [g 14 (by decide) (by decide)]) (by rw [g 15 (by decide) (by decide)]) (by rw [g 16 (by decide) (by decide)]) (by rw [g 17 (by decide) (by decide)])
  · rw [nS_tk en (fun a _ => tkF_of (by rw [g 12 (by decide) (by decide)]) (by rw [g 13 (by decide) (by decide)]) (by rw [g 14 (by decide) (by decide)]) (by rw [g 15 (by decide) (by decide)]))]
    exact h.2.2.1 r hr d hd
theorem J_u2 {z : St} (h : J z) {f i : Nat} {v : Int32} (hf : f = 4 ∨ f = 8 ∨ f = 9 ∨ f = 10 ∨ f = 18 ∨ f = 19 ∨ 20 ≤ f) : J (u2 z f i v) := J_cg2 h (fun g _ _ _ _ _ _ _ => u2_f (by omega))
theorem JI_set {z : St} {b : Nat} (h : JI z b) (hb : b + 100 ≤ 50000) (s v : Int32) : JI (spSet z s v).2 (b + 100) := by
  refine ⟨Inv_p (pair_set h.inv s v), hb, ?_⟩
  unfold spSet
  split
  · exact h.j
  · exact J_u2 h.j (by omega)
theorem JI_show {z : St} {b : Nat} (h : JI z b) (hb : b + 100 ≤ 50000) (a : Int32) : JI (spShow z a).2 (b + 100) := by
  refine ⟨Inv_p (pair_show h.inv a), hb, ?_⟩
  unfold spShow
  split
  · exact h.j
  · split
    · exact h.j
    · exact J_u2 h.j (by omega)
theorem JI_wipe {z : St} {b : Nat} (h : JI z b) (hb : b + 100 ≤ 50000) : JI (spWipe z).2 (b + 100) := ⟨Inv_p (pair_wipe h.inv), hb, J_u2 h.j (by omega)⟩
theorem JI_buffer {z : St} {b : Nat} (h : JI z b) (hb : b + 100 ≤ 50000) (r v : Int32) : JI (spBuffer z r v).2 (b + 100) := by
  refine ⟨Inv_p (pair_buffer h.inv r v), hb, ?_⟩
  unfold spBuffer
  split
  · exact h.j
  · rename_i h0
    split
    · exact h.j
    · rename_i h1
      have hr := routeP_in h.io (Decidable.not_not.mp h0)
      have hrr : cn r < NR z := by
        have e := (Decidable.not_not.mp h0).2
        rw [hr.1, h.nr.1] at e
        exact (nI_ltI (by omega) (by have := h.nr.2.1; omega)).mp e
      have lo : ∀ f, f ≠ 6 → u2 z 6 (cn r) v f = z f := fun f hf => u2_f hf
      have en : nA (u2 z 6 (cn r) v) = nA z := nA_u2 (by decide)
      obtain ⟨j1, j2, j3, j4, j5⟩ := h.j
      have n1 : NR (u2 z 6 (cn r) v) = NR z := by unfold NR; rw [lo 1 (by decide)]
      show J (u2 z 6 (cn r) v)
      refine ⟨fun a ha => ?_, fun q hq => ?_, fun q hq d hd => ?_, by rw [n1]; exact j4, by unfold NC; rw [lo 2 (by decide)]; exact j5⟩
      · rw [en] at ha
        exact AJ_of (j1 a ha) (by rw [lo 0 (by decide)]) (by rw [lo 7 (by decide)]) (by rw [lo 13 (by decide)]) (by rw [lo 14 (by decide)]) (by rw [lo 15 (by decide)]) (by rw [lo 16 (by decide)]) (by rw [lo 17 (by decide)])
      · rw [n1] at hq
        have hR := j2 q hq
        by_cases e : q = cn r
        · subst e
          unfold RJ at *
          rw [u2_s, lo 5 (by decide)]
          obtain ⟨e5, l1, l2, -, -⟩ := hR
          have hv0 : ¬ v < 0 := fun q => h1 (Or.inl q)
          have hv1 : v ≤ z 5 (cn r) := Decidable.not_not.mp (fun q => h1 (Or.inr q))
          obtain ⟨j, hj, rfl⟩ := nI_of hv0
          rw [e5] at hv1
          rw [cn_nI hj]
          exact ⟨e5, l1, l2, rfl, (nI_leI hj (by omega)).mp hv1⟩
        · exact RJ_of hR (by rw [lo 5 (by decide)]) (u2_i _ e)
      · rw [n1] at hq
        rw [lo 5 (by decide), nS_tk en (fun a _ => tkF_of (by rw [lo 12 (by decide)]) (by rw [lo 13 (by decide)]) (by rw [lo 14 (by decide)]) (by rw [lo 15 (by decide)]))]
        exact j3 q hq d hd
/-! permits -/
theorem fee_n {z : St} {b : Nat} (h : OI z b) {a : Nat} (ha : a < nA z) : ∃ m, z 4 0 * z 14 a = nI m ∧ a_p z a ≤ m ∧ m ≤ 4000 := by
  obtain ⟨f, f1, f2, ef⟩ := h.fee
  obtain ⟨ep, p1, p2⟩ := (h.ap ha).2.2.2.1
  refine ⟨f * a_p z a, by rw [ef, ep, pk_mul], ?_, ?_⟩
  · have := Nat.mul_le_mul_right (a_p z a) f1; omega
  · have := Nat.mul_le_mul f2 p2; omega
theorem J_permit {z : St} {b : Nat} (h : OI z b) (hj : J z) {e : Nat} (he : e < nA z) (hs : a_s z e = 0 ∨ a_s z e = 2) (h7 : z 7 (a_d z e) = 0) (hfit : a_p z e + tkN z (a_r z e) (a_d z e) ≤ cn (z 5 (a_r z e))) : J (permit z e) := by
  have lo : ∀ f, f ≠ 15 → f ≠ 16 → permit z e f = z f := fun f h1 h2 => by unfold permit; rw [u2_f h2, u2_f h1]
  have o : ∀ f a, a ≠ e → permit z e f a = z f a := fun f a h1 => by unfold permit; rw [u2_i _ h1, u2_i _ h1]
  have en : nA (permit z e) = nA z := by unfold nA; rw [lo 3 (by decide) (by decide)]
  have e15 : permit z e 15 e = 1 := by unfold permit; rw [u2_f (by decide), u2_s]
  have e16 : permit z e 16 e = z 4 0 * z 14 e := by unfold permit; rw [u2_s]
  refine J_apps hj (lo 1 (by decide) (by decide)) (lo 2 (by decide) (by decide)) (lo 5 (by decide) (by decide)) (lo 6 (by decide) (by decide)) (fun a ha => ?_) (fun r hr d hd => ?_)
  · rw [en] at ha
    by_cases q : a = e
    · subst q
      obtain ⟨m, em, m1, m2⟩ := fee_n h ha
      obtain ⟨-, -, -, -, ⟨e17, -⟩, h34, -⟩ := hj.1 a ha
      have hb0 := h34 (by omega) (by omega)
      have c1 : cn (1 : Int32) = 1 := by decide
      unfold AJ a_s a_d a_m a_b a_p TN at *
      rw [lo 13 (by decide) (by decide), lo 14 (by decide) (by decide), lo 17 (by decide) (by decide), lo 7 (by decide) (by decide), lo 0 (by decide) (by decide), e15, e16, em, cn_nI (by omega), c1]
      exact ⟨fun _ => h7, by omega, by omega, ⟨rfl, m2⟩, ⟨e17, by omega⟩, fun _ _ => hb0, fun _ => m1⟩
    · exact AJ_of (hj.1 a ha) (by rw [lo 0 (by decide) (by decide)]) (by rw [lo 7 (by decide) (by decide)]) (o _ _ q) (o _ _ q) (o _ _ q) (o _ _ q) (o _ _ q)
  · have hp := nS_pt (f := tkF (permit z e) r d) (g := tkF z r d) he (fun a _ q => tkF_of (o _ _ q) (o _ _ q) (o _ _ q) (o _ _ q))
    have ht : tkF z r d e = 0 := by unfold tkF; rw [if_neg (by omega)]
    have ht2 : tkF (permit z e) r d e = if a_r z e = r ∧ a_d z e = d then a_p z e else 0 := by
      unfold tkF a_s a_r a_d a_p
      rw [lo 12 (by decide) (by decide), lo 13 (by decide) (by decide), lo 14 (by decide) (by decide), e15]
      have c1 : cn (1 : Int32) = 1 := by decide
      rw [c1]
      simp
    have := hj.2.2.1 r hr d hd
    show nS _ (nA (permit z e)) ≤ _
    rw [en]
    rw [ht, ht2] at hp
    unfold tkN at this hfit
    split at hp
    · rename_i c
      obtain ⟨rfl, rfl⟩ := c
      omega
    · omega
/-! the waiting list -/
theorem fwK_none {z : St} {r d p : Int32} : ∀ k, k < 2 ^ 31 → fwK z r d p k < 0 → ∀ a, a < k → ¬ (z 15 a = 2 ∧ onP z a r d ∧ z 14 a ≤ p ∧ ¬ brdP z a) := by
  intro k
  induction k with
  | zero => intro _ _ a ha; omega
  | succ k ih =>
    intro hk h a ha hc
    rw [fwK] at h
    split at h
    · exact nI_pos (by omega) h
    · rename_i q
      by_cases e : a = k
      · subst e; exact q ⟨hc, Or.inl h⟩
      · exact ih (by omega) h a (by omega) hc
theorem serve_keep (r d : Int32) : ∀ (k : Nat) (y : St), IO y → ∀ x, ¬ y 15 x = 2 → serve r d k y 15 x = y 15 x := by
  intro k
  induction k with
  | zero => intro y _ x _; rfl
  | succ k ih =>
    intro y hI x hx
    unfold serve
    split
    · rfl
    · rename_i h1
      obtain ⟨-, f2, f3, -⟩ := fw_in hI h1
      have e : serve1 y (cn (fw y r d (leftP y r d))) 15 x = y 15 x := by
        unfold serve1 permit
        rw [u2_f (by decide), u2_f (by decide), u2_i]
        rintro rfl
        exact hx f3
      rw [ih _ (IO_serve1 hI _) x (by rw [e]; exact hx), e]
theorem lostK_0 {z : St} : ∀ k, lostK z k = 0 → ∀ a, a < k → ¬ z 15 a = 2 := by
  intro k
  induction k with
  | zero => intro _ a ha; omega
  | succ k ih =>
    intro h a ha q
    unfold lostK at h
    split at h
    · omega
    · rename_i c
      by_cases e : a = k
      · subst e; exact c q
      · exact ih h a (by omega) q
theorem serve_end (r d : Int32) : ∀ (k : Nat) (y : St), IO y → lostK y (nA y) ≤ k → fw (serve r d k y) r d (leftP (serve r d k y) r d) < 0 := by
  intro k
  induction k with
  | zero =>
    intro y hI h
    show fw y r d (leftP y r d) < 0
    refine Decidable.by_contra (fun q => ?_)
    obtain ⟨-, f2, f3, -⟩ := fw_in hI q
    exact lostK_0 _ (by omega) _ f2 f3
  | succ k ih =>
    intro y hI h
    unfold serve
    split
    · rename_i h1; exact h1
    · rename_i h1
      obtain ⟨-, f2, f3, -⟩ := fw_in hI h1
      refine ih _ (IO_serve1 hI _) ?_
      have := serve1_lost f2 f3
      rw [nA_serve1]; omega
theorem J_serve {b r d : Nat} (hd : d < 60) : ∀ (k : Nat) (y : St), OI y b → J y → r < NR y → y 0 0 ≤ nI d → y 7 d = 0 → J (serve (nI r) (nI d) k y) := by
  intro k
  induction k with
  | zero => intro y _ hj _ _ _; exact hj
  | succ k ih =>
    intro y h hj hr ht h7
    unfold serve
    split
    · exact hj
    · rename_i h1
      obtain ⟨-, f2, f3, f4, f5, -⟩ := fw_in h.io h1
      generalize cn (fw y (nI r) (nI d) (leftP y (nI r) (nI d))) = e at *
      have h6 : NR y ≤ 6 := (iNr h.io).2
      obtain ⟨-, ⟨e12, -, r6⟩, ⟨e13, d6⟩, ⟨e14, p1, p4⟩, ⟨e15, s7⟩, -⟩ := h.ap f2
      have er : a_r y e = r := (nI_eq (by omega) (by omega)).mp (e12.symm.trans f4.1)
      have ed : a_d y e = d := (nI_eq (by omega) (by omega)).mp (e13.symm.trans f4.2)
      have es : a_s y e = 2 := (nI_eq (b := 2) (by omega) (by decide)).mp (e15.symm.trans f3)
      rw [e14] at f5
      have hfit := (h.fit_left (hj.2.1 r hr) hr hd (by omega)).mp f5
      have hO := OI_serve1 h f2 f3 (by rw [f4.2]; exact ht)
      have hJ : J (serve1 y e) := J_u2 (J_permit h hj f2 (Or.inr es) (by rw [ed]; exact h7) (by rw [er, ed]; omega)) (by omega)
      have lo : ∀ f, f ≠ 8 ∧ f ≠ 15 ∧ f ≠ 16 → serve1 y e f = y f := fun f hf => serve1_lo y e hf
      exact ih _ hO hJ (by unfold NR; rw [lo 1 (by decide)]; exact hr) (by rw [lo 0 (by decide)]; exact ht) (by rw [lo 7 (by decide)]; exact h7)
