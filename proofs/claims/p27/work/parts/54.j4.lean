/-! ===== cancelling ===== -/
theorem backNow_n {z : St} {b : Nat} (h : JI z b) {a : Nat} (ha : a < nA z) : ∃ m, backNow z a = nI m ∧ m ≤ a_m z a := by
  obtain ⟨-, -, -, ⟨e16, m4⟩, -⟩ := h.aj ha
  unfold backNow
  split
  · exact ⟨_, e16, Nat.le_refl _⟩
  · split
    · rw [e16]
      refine ⟨a_m z a / 2, ?_, Nat.div_le_self _ _⟩
      exact pk_div (d := 2) (by omega) (by decide) (by decide)
    · exact ⟨0, rfl, Nat.zero_le _⟩
theorem OI_c3 {z y : St} {b : Nat} (h : OI z b) {a : Nat} (ha : a < nA z) (e : ∀ f i, (f < 20 ∨ f = 87) → ¬ (i = a ∧ (f = 13 ∨ f = 15 ∨ f = 16 ∨ f = 17 ∨ f = 18)) → y f i = z f i) (e13 : y 13 a = z 13 a) (e18 : y 18 a = z 18 a) (e15 : y 15 a = 3) : OI y b := by
  refine OI_a h ha e ?_
  unfold AppOK aliveP
  rw [e13, e18, e15]
  exact ⟨⟨_, (iD h.io ha).2, (iD h.io ha).1⟩, ⟨3, by decide, rfl⟩, fun q => absurd q (by decide), fun q => absurd q (by decide), h.h18 _ (h.ap ha).2.2.2.2.2, fun q => absurd q (by decide), fun q => absurd q (by decide)⟩
/-- an application of a state 3 in place of another -/
theorem J_c3 {z y : St} {b : Nat} (h : JI z b) {a m : Nat} (ha : a < nA z) (lo : ∀ f, f ≠ 15 → f ≠ 17 → y f = z f) (o : ∀ f i, i ≠ a → y f i = z f i) (e15 : y 15 a = 3) (e17 : y 17 a = nI m) (hm : m ≤ a_m z a) : J y := by
  have en : nA y = nA z := by unfold nA; rw [lo 3 (by decide) (by decide)]
  refine J_apps h.j (lo 1 (by decide) (by decide)) (lo 2 (by decide) (by decide)) (lo 5 (by decide) (by decide)) (lo 6 (by decide) (by decide)) (fun x hx => ?_) (fun r hr d hd => ?_)
  · rw [en] at hx
    by_cases q : x = a
    · subst q
      obtain ⟨-, -, -, ⟨e16, m4⟩, -⟩ := h.aj ha
      have c3 : cn (3 : Int32) = 3 := by decide
      unfold AJ a_s a_d a_m a_b a_p TN at *
      rw [lo 13 (by decide) (by decide), lo 14 (by decide) (by decide), lo 16 (by decide) (by decide), lo 7 (by decide) (by decide), lo 0 (by decide) (by decide), e15, e17, cn_nI (by omega), c3]
      exact ⟨by omega, by omega, by omega, ⟨e16, m4⟩, ⟨rfl, hm⟩, by omega, by omega⟩
    · exact AJ_of (h.aj hx) (by rw [lo 0 (by decide) (by decide)]) (by rw [lo 7 (by decide) (by decide)]) (o _ _ q) (o _ _ q) (o _ _ q) (o _ _ q) (o _ _ q)
  · refine Nat.le_trans (tk_le en (fun x hx => ?_)) (h.tj hr hd)
    by_cases q : x = a
    · subst q
      have c3 : cn (3 : Int32) = 3 := by decide
      unfold tkF a_s
      rw [e15, c3, if_neg (by omega)]
      exact Nat.zero_le _
    · exact Nat.le_of_eq (tkF_of (o _ _ q) (o _ _ q) (o _ _ q) (o _ _ q))
theorem back_pt {z y : St} {a : Nat} {v : Int32} (ha : a < nA z) (e3 : y 3 = z 3) (e0 : z 17 a = 0) (ea : y 17 a = v) (o : ∀ i, i ≠ a → y 17 i = z 17 i) : backTo y (-1) = backTo z (-1) + v := by
  unfold backTo
  have en : nA y = nA z := by unfold nA; rw [e3]
  rw [en, sm_pt (g := fun a => if byP z a (-1) then z 17 a else 0) (g' := fun a => if byP y a (-1) then y 17 a else 0) ha (fun b _ hb => by
    show (if byP y b (-1) then y 17 b else 0) = if byP z b (-1) then z 17 b else 0
    rw [if_pos (Or.inl rfl), if_pos (Or.inl rfl), o b hb])]
  show _ - (if byP z a (-1) then z 17 a else 0) + (if byP y a (-1) then y 17 a else 0) = _
  rw [if_pos (Or.inl rfl), if_pos (Or.inl rfl), e0, ea, Int32.sub_zero]
/-- what the waiting list leaves -/
theorem fw_left {y : St} {b : Nat} (h : JI y b) {r d : Nat} (hr : r < NR y) (hd : d < 60) (hf : fw y (nI r) (nI d) (leftP y (nI r) (nI d)) < 0) {x : Nat} (hx : x < nA y) (h2 : a_s y x = 2) (h3 : a_r y x = r) (h4 : a_d y x = d) (h5 : a_p y x ≤ pl_N y r d) : nI d ≤ y 10 (a_c y x) := by
  obtain ⟨-, ⟨e12, -, r6⟩, ⟨e13, d6⟩, ⟨e14, p1, p4⟩, ⟨e15, s7⟩, x40⟩ := h.ap hx
  have h40 := h.na.2
  refine Decidable.by_contra (fun q => fwK_none (nA y) (by omega) hf x hx ⟨by rw [e15, h2]; rfl, ⟨by rw [e12, h3], by rw [e13, h4]⟩, ?_, ?_⟩)
  · rw [e14]
    refine (h.oi.fit_left (h.rj hr) hr hd (by omega)).mpr ?_
    unfold pl_N at h5
    omega
  · unfold brdP
    rw [e13, h4]
    exact q
theorem cancel_step {z : St} {b : Nat} (h : JI z b) (hb : b + 100 ≤ 50000) {a : Nat} (ha : a < nA z) :
    (2 < a_s z a → spCancel z (nI a) = (-5, z)) ∧
    (a_s z a ≤ 2 → ∃ y, spCancel z (nI a) = (if ¬ a_s z a = 1 then 0 else if ¬ nI (a_d z a) - nI (TN z) < 7 then nI (a_m z a) else if ¬ nI (a_d z a) - nI (TN z) < 3 then nI (a_m z a) / 2 else 0, y) ∧ JI y (b + 100) ∧ nA y = nA z ∧ NR y = NR z ∧ a_s y a = 3 ∧
      y 17 a = (spCancel z (nI a)).1 ∧ backTo y (-1) = backTo z (-1) + (spCancel z (nI a)).1 ∧
      (a_s z a = 1 → ∀ x, x < nA y → a_s y x = 2 → a_r y x = a_r z a → a_d y x = a_d z a → a_p y x ≤ pl_N y (a_r z a) (a_d z a) → nI (a_d z a) ≤ y 10 (a_c y x))) := by
  have hI := h.io
  obtain ⟨-, ⟨e12, r1, r6⟩, ⟨e13, d6⟩, ⟨e14, p1, p4⟩, ⟨e15, s7⟩, a40⟩ := h.ap ha
  have hap := h.aP ha
  have hca := cn_a h ha
  have hal : aliveP z a ↔ a_s z a ≤ 2 := by
    unfold aliveP
    rw [e15]
    have f0 : nI (a_s z a) = 0 ↔ a_s z a = 0 := nI_eq (b := 0) (by omega) (by decide)
    have f1 : nI (a_s z a) = 1 ↔ a_s z a = 1 := nI_eq (b := 1) (by omega) (by decide)
    have f2 : nI (a_s z a) = 2 ↔ a_s z a = 2 := nI_eq (b := 2) (by omega) (by decide)
    rw [f0, f1, f2]; omega
  have hInv := Inv_p (pair_cancel h.inv (nI a))
  constructor
  · intro h2
    unfold spCancel
    rw [if_neg (not_not_intro hap), hca, if_pos (fun q => by have := hal.mp q; omega)]
  · intro h2
    have ha2 := hal.mpr h2
    by_cases h1 : a_s z a = 1
    · have h15 : z 15 a = 1 := by rw [e15, h1]; rfl
      have hop : openP (yC z a) (z 13 a) := by
        unfold openP
        rw [yC_lo z a (by decide), yC_lo z a (by decide)]
        exact ⟨h.oi.ht a ha h15, by rw [e13]; exact h.dayP d6, (h.aj ha).1 h1⟩
      have eF : spCancel z (nI a) = (backNow z a, serve (nI (a_r z a)) (nI (a_d z a)) (nA z) (yC z a)) := by
        unfold spCancel
        rw [if_neg (not_not_intro hap), hca, if_neg (not_not_intro ha2), if_pos h15]
        show (_, if openP (yC z a) (z 13 a) then _ else _) = _
        rw [if_pos hop, ← e12, ← e13]
        rfl
      obtain ⟨m, em, hm⟩ := backNow_n h ha
      have eB : backNow z a = if ¬ a_s z a = 1 then 0 else if ¬ nI (a_d z a) - nI (TN z) < 7 then nI (a_m z a) else if ¬ nI (a_d z a) - nI (TN z) < 3 then nI (a_m z a) / 2 else 0 := by
        rw [if_neg (not_not_intro h1), ← e13, ← h.t0.1, ← (h.aj ha).2.2.2.1.1]
        rfl
      have y15 : yC z a 15 a = 3 := by unfold yC; rw [u2_f (by decide), u2_s]
      have y17 : yC z a 17 a = backNow z a := by unfold yC; rw [u2_s]
      have yo : ∀ f i, i ≠ a → yC z a f i = z f i := fun f i hi => by unfold yC; rw [u2_i _ hi, u2_i _ hi]
      have ylo : ∀ f, f ≠ 15 → f ≠ 17 → yC z a f = z f := fun f q1 q2 => yC_lo z a ⟨q1, q2⟩
      have hOy : OI (yC z a) b := OI_c3 h.oi ha (fun f i _ q => by
        by_cases hi : i = a
        · subst hi
          rw [ylo f (by omega) (by omega)]
        · exact yo f i hi) (by rw [ylo 13 (by decide) (by decide)]) (by rw [ylo 18 (by decide) (by decide)]) y15
      have hJy : J (yC z a) := J_c3 h ha ylo yo y15 (y17.trans em) hm
      have slo : ∀ f, f ≠ 8 ∧ f ≠ 15 ∧ f ≠ 16 → serve (nI (a_r z a)) (nI (a_d z a)) (nA z) (yC z a) f = yC z a f := fun f hf => serve_lo _ _ _ _ hf
      have hJs := J_serve (r := a_r z a) d6 (nA z) (yC z a) hOy hJy (by unfold NR; rw [ylo 1 (by decide) (by decide)]; exact r1) (by rw [← e13]; exact hop.1) (by rw [ylo 7 (by decide) (by decide)]; exact (h.aj ha).1 h1)
      have enY : nA (yC z a) = nA z := by unfold nA; rw [ylo 3 (by decide) (by decide)]
      have hend := serve_end (nI (a_r z a)) (nI (a_d z a)) (nA z) (yC z a) hOy.io (by rw [enY]; exact lostK_le _ _)
      have hkeep := serve_keep (nI (a_r z a)) (nI (a_d z a)) (nA z) (yC z a) hOy.io a (by rw [y15]; decide)
      rw [eF] at hInv ⊢
      generalize serve (nI (a_r z a)) (nI (a_d z a)) (nA z) (yC z a) = y at *
      have en : nA y = nA z := by unfold nA; rw [slo 3 (by decide), ylo 3 (by decide) (by decide)]
      have enr : NR y = NR z := by unfold NR; rw [slo 1 (by decide), ylo 1 (by decide) (by decide)]
      have hJI : JI y (b + 100) := ⟨hInv, hb, hJs⟩
      refine ⟨y, by rw [eB], hJI, en, enr, by unfold a_s; rw [hkeep, y15]; decide, by rw [slo 17 (by decide), y17], ?_, fun _ x hx q2 q3 q4 q5 => ?_⟩
      · refine back_pt ha (by rw [slo 3 (by decide), ylo 3 (by decide) (by decide)]) (h.oi.h17 a ha ha2) (by rw [slo 17 (by decide), y17]) (fun i hi => by rw [slo 17 (by decide)]; exact yo 17 i hi)
      · exact fw_left hJI (by rw [enr]; exact r1) d6 hend hx q2 q3 q4 q5
    · have h15 : ¬ z 15 a = 1 := fun q => h1 ((nI_eq (b := 1) (by omega) (by decide)).mp (e15.symm.trans q))
      have eF : spCancel z (nI a) = (0, u2 z 15 a 3) := by
        unfold spCancel
        rw [if_neg (not_not_intro hap), hca, if_neg (not_not_intro ha2), if_neg h15]
      rw [eF] at hInv ⊢
      have o : ∀ f i, i ≠ a → u2 z 15 a 3 f i = z f i := fun f i hi => u2_i _ hi
      have lo : ∀ f, f ≠ 15 → u2 z 15 a 3 f = z f := fun f hf => u2_f hf
      have e17 := h.oi.h17 a ha ha2
      have hJ : J (u2 z 15 a 3) := J_c3 (m := 0) h ha (fun f q1 _ => lo f q1) o (u2_s _ _ _ _) (by rw [lo 17 (by decide), e17]; rfl) (Nat.zero_le _)
      refine ⟨u2 z 15 a 3, by rw [if_pos h1], ⟨hInv, hb, hJ⟩, nA_u2 (by decide), by unfold NR; rw [lo 1 (by decide)], by unfold a_s; rw [u2_s]; decide, by rw [lo 17 (by decide), e17], ?_, fun q => absurd q h1⟩
      exact back_pt ha (lo 3 (by decide)) e17 (by rw [lo 17 (by decide), e17]) (fun i hi => o 17 i hi)
theorem JI_cancel {z : St} {b : Nat} (h : JI z b) (hb : b + 100 ≤ 50000) {a : Nat} (ha : a < nA z) : JI (spCancel z (nI a)).2 (b + 100) := by
  obtain ⟨h1, h2⟩ := cancel_step h hb ha
  by_cases q : a_s z a ≤ 2
  · obtain ⟨y, e, hy, -⟩ := h2 q
    rw [e]; exact hy
  · rw [h1 (by omega)]; exact h.mono (by omega) hb
