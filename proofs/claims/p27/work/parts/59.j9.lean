/-! ===== a lottery, whole ===== -/
theorem nS_has {f : Nat → Nat} : ∀ {n : Nat}, 0 < nS f n → ∃ a, a < n ∧ 0 < f a := by
  intro n
  induction n with
  | zero => intro h; exact absurd h (Nat.lt_irrefl _)
  | succ n ih =>
    intro h
    by_cases q : 0 < f n
    · exact ⟨n, by omega, q⟩
    · have h2 : 0 < nS f n + f n := h
      obtain ⟨a, ha, h3⟩ := ih (by omega)
      exact ⟨a, by omega, h3⟩
theorem lot_open {z : St} {b : Nat} (h : JI z b) {r d : Nat} (hr : r < NR z) (hd : d < 60) (hT : TN z ≤ d) :
    (stN z r d 0 = 0 → cLottery z (nI r) (nI d) = (-5, z)) ∧ (0 < stN z r d 0 → openP z (nI d) ∧ cLottery z (nI r) (nI d) = clsLot z (nI r) (nI d) ∧ mLottery z (nI r) (nI d) = mHold z (nI r) (nI d)) := by
  have h40 := h.na.2
  have hin := inSt_n (s := 0) h hr hd (by decide)
  have hle := stN_le z r d 0
  constructor
  · intro h0
    unfold cLottery
    rw [if_neg (not_not_intro ⟨h.rP hr, h.dayP hd⟩), if_pos (Or.inr (by rw [show (0 : Int32) = nI 0 from rfl, hin, h0]))]
  · intro h0
    have hne : ¬ inSt z (nI r) (nI d) 0 = 0 := by
      rw [show inSt z (nI r) (nI d) 0 = nI (stN z r d 0) from hin]
      intro q
      have := (nI_eq (b := 0) (by omega) (by decide)).mp q
      omega
    obtain ⟨a, ha, h1⟩ := nS_has h0
    have h2 : (a_r z a = r ∧ a_d z a = d) ∧ a_s z a = 0 := by
      unfold stF at h1
      refine Decidable.by_contra (fun q => ?_)
      rw [if_neg q] at h1
      exact absurd h1 (Nat.lt_irrefl _)
    have h3 := (h.aj ha).2.1 h2.2
    have hop : openP z (nI d) := by
      refine ⟨?_, h.dayP hd, ?_⟩
      · rw [h.t0.1]; exact (nI_leI (by have := h.t0.2; omega) (by omega)).mpr hT
      · rw [cn_nI (by omega), ← h2.1.2]; exact h3.2
    have hc : ¬ (¬ openP z (nI d) ∨ inSt z (nI r) (nI d) 0 = 0) := fun q => q.elim (fun w => w hop) hne
    refine ⟨hop, ?_, ?_⟩
    · unfold cLottery
      rw [if_neg (not_not_intro ⟨h.rP hr, h.dayP hd⟩), if_neg hc]
    · unfold mLottery
      rw [if_neg (not_not_intro ⟨h.rP hr, h.dayP hd⟩), if_neg hc]
theorem paid_n {z : St} {b : Nat} (h : JI z b) : paidBy z (-1) = nI (nS (a_m z) (nA z)) := by
  unfold paidBy
  refine sm_nS (fun a ha => ?_)
  rw [if_pos (Or.inl rfl)]
  exact (h.aj ha).2.2.2.1.1
theorem nS_mul {f : Nat → Nat} {c n : Nat} : nS (fun a => c * f a) n = c * nS f n := by
  induction n with
  | zero => rfl
  | succ n ih => show nS _ n + c * f n = c * (nS f n + f n); rw [ih, Nat.mul_add]
theorem lot_step {z : St} {b : Nat} (h : JI z b) (hb : b + 100 ≤ 50000) {r d : Nat} (hr : r < NR z) (hd : d < 60) (hT : TN z ≤ d) (h0 : 0 < stN z r d 0) :
    ∃ y, (∀ f, f < 75 → y f = (cLottery z (nI r) (nI d)).2 f) ∧ (∀ i, i < 3 → y (75 + i) = z (75 + i)) ∧ JI y (b + 100) ∧ LotF z y r d ∧
      (cLottery z (nI r) (nI d)).1 = nI (nS (wnF z y r d) (nA z)) ∧ (∃ w : Nat → Int32, w = w ∧ y 4 5 = (mHold z (nI r) (nI d)).2 4 5 ∧ y 15 = (mHold z (nI r) (nI d)).2 15) := by
  have hB : b ≤ 100000 := by have := h.bb; omega
  obtain ⟨hop, eC, eM⟩ := (lot_open h hr hd hT).2 h0
  have hI := h.io
  have hO := h.oi
  have h40 := h.na.2
  have hr6 : r < 6 := by have := h.nr.2.1; omega
  have hp := pair_lottery h.inv hB (nI r) (nI d)
  have hInv := nrm_inv hp
  have hsh := (lottery_eq hO hB (nI r) (nI d)).2
  have hfst := (lottery_eq hO hB (nI r) (nI d)).1
  have hlo := fun f hf => mHold_lo z (nI r) (nI d) (f := f) hf
  obtain ⟨H1, H2, H3, H4, H5, H6, H7⟩ := hold_at (zm := z) (w := enterK z (nI r) (nI d) (nA z)) (s := z 4 5) hI hO.h87 (hO.tk hB) hO.uq hO.cin (h.rP hr) (fun _ _ _ => rfl) rfl hO.sd (fun _ _ _ => rfl)
  obtain ⟨R, hdr⟩ := lot_end (zm := z) (w := enterK z (nI r) (nI d) (nA z)) (s := z 4 5) hI hO.h87 (hO.tk hB) (h.rP hr) (fun _ _ _ => rfl) rfl hO.sd (fun _ _ _ => rfl)
  obtain ⟨k1, k2, k3⟩ := enterK_all z (nI r) (nI d) (nA z) (by omega)
  have hE : cn (enterK z (nI r) (nI d) (nA z) 66 0) = cE z (nI r) (nI d) (nA z) := by rw [k1, cn_nI (by have := cE_le z (nI r) (nI d) (nA z); omega)]
  have hEle := cE_le z (nI r) (nI d) (nA z)
  -- the draws
  have hHI : 0 < cE z (nI r) (nI d) (nA z) → HI (cE z (nI r) (nI d) (nA z)) (leftP z (nI r) (nI d)) (hq (enterK z (nI r) (nI d) (nA z)) (z 4 5) (leftP z (nI r) (nI d)) (cE z (nI r) (nI d) (nA z))) := by
    intro hpos
    unfold hq
    rw [hE]
    refine HI_K hpos (by omega) (fun e he => ?_) _
    obtain ⟨a, ha, hin, ec⟩ := cE_onto he
    obtain ⟨-, q2, -⟩ := k3 a ha hin
    obtain ⟨ep, p1, p4⟩ := (h.ap ha).2.2.2.1
    rw [← ec, q2]
    exact ⟨_, p1, p4, ep⟩
  have hpl := R.places
  have h62 : ∀ a, a < nA z → inL z (nI r) (nI d) a → (hq (enterK z (nI r) (nI d) (nA z)) (z 4 5) (leftP z (nI r) (nI d)) (cE z (nI r) (nI d) (nA z))).1 62 (cE z (nI r) (nI d) a) = z 14 a := fun a ha hin => (R.row a ha hin).2.1
  have hlt : ∀ a, a < nA z → inL z (nI r) (nI d) a → cE z (nI r) (nI d) a < cE z (nI r) (nI d) (nA z) := fun a ha hin => cE_lt hin ha
  have hmH : ∀ f, f ≠ 8 → (mHold z (nI r) (nI d)).2 f = (drw (nI r) (nI d) (nA z) (enterM z (nI r) (nI d) (nA z)) 0).2 f := fun f hf => by
    unfold mHold
    exact remM_lo _ _ hf
  generalize hq (enterK z (nI r) (nI d) (nA z)) (z 4 5) (leftP z (nI r) (nI d)) (cE z (nI r) (nI d) (nA z)) = q at *
  -- the state behind
  rw [eM] at hsh hfst hInv
  have ys : ∀ f, f < 61 → nrm (cLottery z (nI r) (nI d)).2 (mHold z (nI r) (nI d)).2 f = (mHold z (nI r) (nI d)).2 f := fun f hf => by rw [nrm_lo _ _ (by omega)]; exact hsh f (by omega)
  have ya : ∀ i, i < 3 → nrm (cLottery z (nI r) (nI d)).2 (mHold z (nI r) (nI d)).2 (75 + i) = z (75 + i) := fun i hi => by rw [nrm_lo _ _ (by omega), hsh _ (by omega), hlo _ (by omega)]
  have yc : ∀ f, f < 75 → nrm (cLottery z (nI r) (nI d)).2 (mHold z (nI r) (nI d)).2 f = (cLottery z (nI r) (nI d)).2 f := fun f hf => nrm_lo _ _ (by omega)
  have hwon : (cLottery z (nI r) (nI d)).1 = nI (nS (fun a => if inL z (nI r) (nI d) a ∧ ¬ q.1 65 (cE z (nI r) (nI d) a) = 0 then 1 else 0) (nA z)) := by
    rw [hfst, H1]; exact won_sum (fun e => q.1 65 e) (nA z) (by omega)
  generalize nrm (cLottery z (nI r) (nI d)).2 (mHold z (nI r) (nI d)).2 = y at *
  have yz : ∀ f, f < 61 → f ≠ 4 → f ≠ 8 → f ≠ 15 → f ≠ 16 → y f = z f := fun f q0 q1 q2 q3 q4 => by rw [ys f q0]; exact hlo f (by omega)
  have y15 : ∀ i, i < nA z → y 15 i = if inL z (nI r) (nI d) i then (if q.1 65 (cE z (nI r) (nI d) i) = 0 then 2 else 1) else if onP z i (nI r) (nI d) ∧ z 15 i = 0 then 2 else z 15 i := fun i hi => by rw [ys 15 (by decide), H4 i, if_pos hi]
  have y16 : ∀ i, y 16 i = if i < nA z ∧ inL z (nI r) (nI d) i ∧ ¬ q.1 65 (cE z (nI r) (nI d) i) = 0 then z 4 0 * z 14 i else z 16 i := fun i => by rw [ys 16 (by decide)]; exact H5 i
  have en : nA y = nA z := by unfold nA; rw [yz 3 (by decide) (by decide) (by decide) (by decide) (by decide)]
  have enr : NR y = NR z := by unfold NR; rw [yz 1 (by decide) (by decide) (by decide) (by decide) (by decide)]
  have c1 : cn (1 : Int32) = 1 := by decide
  have c2 : cn (2 : Int32) = 2 := by decide
  have er : ∀ a, a_r y a = a_r z a := fun a => by unfold a_r; rw [yz 12 (by decide) (by decide) (by decide) (by decide) (by decide)]
  have ed : ∀ a, a_d y a = a_d z a := fun a => by unfold a_d; rw [yz 13 (by decide) (by decide) (by decide) (by decide) (by decide)]
  have ep : ∀ a, a_p y a = a_p z a := fun a => by unfold a_p; rw [yz 14 (by decide) (by decide) (by decide) (by decide) (by decide)]
  -- each application
  have hs : ∀ a, a < nA z → (iL z r d a → (q.1 65 (cE z (nI r) (nI d) a) = 0 → a_s y a = 2) ∧ (¬ q.1 65 (cE z (nI r) (nI d) a) = 0 → a_s y a = 1)) ∧ (iN z r d a → ¬ iL z r d a → a_s y a = 2) ∧ (¬ iN z r d a → a_s y a = a_s z a) := by
    intro a ha
    have hL := inL_n hO hr6 hd ha
    have e := y15 a ha
    obtain ⟨-, ⟨e12, -, r6⟩, ⟨e13, d6⟩, -, ⟨e15, s7⟩, -⟩ := h.ap ha
    have f0 : z 15 a = 0 ↔ a_s z a = 0 := by rw [e15]; exact nI_eq (b := 0) (by omega) (by decide)
    have fr : z 12 a = nI r ↔ a_r z a = r := by rw [e12]; exact nI_eq (by omega) (by omega)
    have fd : z 13 a = nI d ↔ a_d z a = d := by rw [e13]; exact nI_eq (by omega) (by omega)
    refine ⟨fun w => ⟨fun w2 => ?_, fun w2 => ?_⟩, fun w w2 => ?_, fun w => ?_⟩
    · unfold a_s; rw [e, if_pos (hL.mpr w), if_pos w2]; exact c2
    · unfold a_s; rw [e, if_pos (hL.mpr w), if_neg w2]; exact c1
    · unfold a_s; rw [e, if_neg (fun k => w2 (hL.mp k)), if_pos ⟨⟨fr.mpr w.2.1, fd.mpr w.2.2⟩, f0.mpr w.1⟩]; exact c2
    · unfold a_s; rw [e, if_neg (fun k => w (hL.mp k).1), if_neg (fun k => w ⟨f0.mp k.2, fr.mp k.1.1, fd.mp k.1.2⟩)]
  have hwp : ∀ a, a < nA z → (iN z r d a ∧ a_s y a = 1 ↔ inL z (nI r) (nI d) a ∧ ¬ q.1 65 (cE z (nI r) (nI d) a) = 0) := by
    intro a ha
    have hL := inL_n hO hr6 hd ha
    obtain ⟨g1, g2, g3⟩ := hs a ha
    constructor
    · rintro ⟨w1, w2⟩
      by_cases w3 : iL z r d a
      · refine ⟨hL.mpr w3, fun w4 => ?_⟩
        have := (g1 w3).1 w4
        omega
      · have := g2 w1 w3
        omega
    · rintro ⟨w1, w2⟩
      have w3 := hL.mp w1
      exact ⟨w3.1, (g1 w3).2 w2⟩
  have y16' : ∀ a, a < nA z → y 16 a = nI (a_m z a + (if iN z r d a ∧ a_s y a = 1 then cn (z 4 0) * a_p z a else 0)) ∧ (iN z r d a ∧ a_s y a = 1 → a_m z a = 0 ∧ a_p z a ≤ cn (z 4 0) * a_p z a ∧ cn (z 4 0) * a_p z a ≤ 4000) := by
    intro a ha
    have e := y16 a
    obtain ⟨f, f1, f2, ef⟩ := hO.fee
    have hf : cn (z 4 0) = f := by rw [ef, cn_nI (by omega)]
    obtain ⟨e14, p1, p4⟩ := (h.ap ha).2.2.2.1
    by_cases w : iN z r d a ∧ a_s y a = 1
    · rw [if_pos ⟨ha, (hwp a ha).mp w⟩] at e
      have hm0 : a_m z a = 0 := by
        have := hO.h16 a ha (Or.inl (by rw [(h.ap ha).2.2.2.2.1.1, w.1.1]; rfl))
        unfold a_m; rw [this]; decide
      rw [if_pos w, hm0, e, hf, ef, e14, pk_mul, Nat.zero_add]
      refine ⟨rfl, fun _ => ⟨rfl, ?_, ?_⟩⟩
      · have := Nat.mul_le_mul_right (a_p z a) f1; omega
      · have := Nat.mul_le_mul f2 p4; omega
    · rw [if_neg (fun k => w ((hwp a ha).mpr k.2))] at e
      rw [if_neg w, e]
      exact ⟨(h.aj ha).2.2.2.1.1, fun k => absurd k w⟩
  -- places
  have htk : ∀ r' d', tkN y r' d' = tkN z r' d' + (if r' = r ∧ d' = d then nS (wpF z y r d) (nA z) else 0) := by
    intro r' d'
    unfold tkN
    rw [en]
    by_cases c : r' = r ∧ d' = d
    · obtain ⟨rfl, rfl⟩ := c
      rw [if_pos ⟨rfl, rfl⟩, ← nS_add]
      refine nS_congr (fun a ha => ?_)
      obtain ⟨g1, g2, g3⟩ := hs a ha
      unfold tkF wpF
      rw [er a, ed a, ep a]
      by_cases w : iN z r' d' a
      · have w2 : ¬ ((a_s z a = 1 ∨ a_s z a = 5 ∨ a_s z a = 6) ∧ a_r z a = r' ∧ a_d z a = d') := fun k => by have := w.1; omega
        rw [if_neg w2]
        by_cases w3 : a_s y a = 1
        · rw [if_pos ⟨Or.inl w3, w.2.1, w.2.2⟩, if_pos ⟨w, w3⟩, Nat.zero_add]
        · have w4 : a_s y a = 2 := by
            by_cases k : iL z r' d' a
            · by_cases k2 : q.1 65 (cE z (nI r') (nI d') a) = 0
              · exact (g1 k).1 k2
              · exact absurd ((g1 k).2 k2) w3
            · exact g2 w k
          rw [if_neg (fun k => by omega), if_neg (fun k => w3 k.2)]
      · rw [g3 w, if_neg (show ¬ (iN z r' d' a ∧ a_s z a = 1) from fun k => w k.1), Nat.add_zero]
    · rw [if_neg c, Nat.add_zero]
      refine nS_congr (fun a ha => ?_)
      obtain ⟨g1, g2, g3⟩ := hs a ha
      unfold tkF
      rw [er a, ed a, ep a]
      by_cases w : iN z r d a
      · rw [if_neg (fun k => c ⟨by rw [← k.2.1]; exact w.2.1, by rw [← k.2.2]; exact w.2.2⟩), if_neg (fun k => by have := w.1; omega)]
      · rw [g3 w]
  have hwl : JI y (b + 100) → True := fun _ => trivial
  have hOy : OI y (b + 100) := hInv.2.1
  have hRz := h.rj hr
  have hRy : RJ y r := RJ_of hRz (by rw [yz 5 (by decide) (by decide) (by decide) (by decide) (by decide)]) (by rw [yz 6 (by decide) (by decide) (by decide) (by decide) (by decide)])
  have ly : leftP y (nI r) (nI d) = q.2.2.1 := by
    rw [← hpl]
    have k1 : ∀ f, f < 61 → f ≠ 8 → y f = (drw (nI r) (nI d) (nA z) (enterM z (nI r) (nI d) (nA z)) 0).2 f := fun f w1 w2 => by rw [ys f w1, hmH f w2]
    exact leftP_of (by rw [k1 3 (by decide) (by decide)]) (by rw [k1 5 (by decide) (by decide)]) (by rw [k1 6 (by decide) (by decide)]) (fun a _ => by unfold takesP onP; rw [k1 15 (by decide) (by decide), k1 12 (by decide) (by decide), k1 13 (by decide) (by decide), k1 14 (by decide) (by decide)])
  have iy := hOy.left_i hRy (by rw [enr]; exact hr) hd
  have iz := hO.left_i hRz hr hd
  have y5 : y 5 = z 5 := yz 5 (by decide) (by decide) (by decide) (by decide) (by decide)
  have y6 : y 6 = z 6 := yz 6 (by decide) (by decide) (by decide) (by decide) (by decide)
  rw [y5, y6, htk r d, if_pos ⟨rfl, rfl⟩] at iy
  have htz := h.tj hr hd
  have e0 : (0 : Int32).toInt = 0 := by decide
  have hfit : nS (wpF z y r d) (nA z) = 0 ∨ (nS (wpF z y r d) (nA z) + tkN z r d + cn (z 6 r) ≤ cn (z 5 r)) := by
    by_cases hpos : 0 < cE z (nI r) (nI d) (nA z)
    · obtain ⟨g1, g2⟩ := hHI hpos
      rcases g1 with ⟨w1, w2⟩ | w1
      · left
        refine nS_0 (fun a ha => ?_)
        unfold wpF
        refine if_neg (fun k => ?_)
        have k2 := (hwp a ha).mp k
        exact k2.2 (w2 _ (hlt a ha k2.1) (hdr a ha k2.1))
      · right
        rw [← ly, Int32.le_iff_toInt_le, iy, e0] at w1
        omega
    · left
      refine nS_0 (fun a ha => ?_)
      unfold wpF
      refine if_neg (fun k => ?_)
      have k2 := (hwp a ha).mp k
      have := hlt a ha k2.1
      omega
  have hJ : J y := by
    refine J_apps h.j (yz 1 (by decide) (by decide) (by decide) (by decide) (by decide)) (yz 2 (by decide) (by decide) (by decide) (by decide) (by decide)) y5 y6 (fun a ha => ?_) (fun r' hr' d' hd' => ?_)
    · rw [en] at ha
      obtain ⟨j1, j2, j3, ⟨e16, j4⟩, ⟨e17, j5⟩, j6, j7⟩ := h.aj ha
      obtain ⟨g1, g2, g3⟩ := hs a ha
      obtain ⟨m1, m2⟩ := y16' a ha
      have t0 : TN y = TN z := by unfold TN; rw [yz 0 (by decide) (by decide) (by decide) (by decide) (by decide)]
      have b17 : a_b y a = a_b z a := by unfold a_b; rw [yz 17 (by decide) (by decide) (by decide) (by decide) (by decide)]
      unfold AJ
      rw [t0, ed a, ep a, b17, yz 7 (by decide) (by decide) (by decide) (by decide) (by decide), yz 17 (by decide) (by decide) (by decide) (by decide) (by decide)]
      by_cases w : iN z r d a
      · have h2 := j2 w.1
        by_cases w3 : a_s y a = 1
        · rw [if_pos ⟨w, w3⟩] at m1
          obtain ⟨m3, m4, m5⟩ := m2 ⟨w, w3⟩
          have am : a_m y a = cn (z 4 0) * a_p z a := by
            show cn (y 16 a) = _
            rw [m1, m3, Nat.zero_add, cn_nI (by omega)]
          have b0 := j6 (by have := w.1; omega) (by have := w.1; omega)
          exact ⟨fun _ => h2.2, fun k => by omega, fun k => by omega, ⟨by rw [am, m1, m3, Nat.zero_add], by omega⟩, ⟨e17, by omega⟩, fun _ _ => b0, fun _ => by omega⟩
        · have w4 : a_s y a = 2 := by
            by_cases k : iL z r d a
            · by_cases k2 : q.1 65 (cE z (nI r) (nI d) a) = 0
              · exact (g1 k).1 k2
              · exact absurd ((g1 k).2 k2) w3
            · exact g2 w k
          rw [if_neg (fun k => w3 k.2), Nat.add_zero] at m1
          have am : a_m y a = a_m z a := by unfold a_m; rw [m1, cn_nI (by omega)]
          have b0 := j6 (by have := w.1; omega) (by have := w.1; omega)
          exact ⟨fun k => by omega, fun k => by omega, fun k => by omega, ⟨by rw [am, m1], by omega⟩, ⟨e17, by omega⟩, fun _ _ => b0, fun k => by omega⟩
      · rw [if_neg (fun k => w k.1), Nat.add_zero] at m1
        have am : a_m y a = a_m z a := by unfold a_m; rw [m1, cn_nI (by omega)]
        rw [g3 w]
        exact ⟨j1, j2, j3, ⟨by rw [am, m1], by omega⟩, ⟨e17, by omega⟩, j6, fun k => by rw [am]; exact j7 k⟩
    · rw [htk r' d']
      have := h.tj hr' hd'
      by_cases c : r' = r ∧ d' = d
      · rw [if_pos c]
        obtain ⟨rfl, rfl⟩ := c
        omega
      · rw [if_neg c]; omega
  have hJI : JI y (b + 100) := ⟨hInv, hb, hJ⟩
  have hWle : nS (wpF z y r d) (nA z) ≤ pl_N z r d := by unfold pl_N; omega
  refine ⟨y, yc, ya, hJI, ⟨fun f w0 w1 w2 w3 w4 => yz f (by omega) w1 w2 w3 w4, fun j hj => ?_, fun a ha w => (hs a ha).2.2 w, fun a ha w => ?_, fun a ha w => ?_, fun c hc => ?_, hWle, ?_, ?_, fun a a' ha ha' w w' e => ?_⟩, ?_, ⟨fun _ => 0, rfl, ys 4 (by decide) ▸ rfl, ys 15 (by decide)⟩⟩
  · rw [ys 4 (by decide)]; exact H3 j hj
  · obtain ⟨g1, g2, g3⟩ := hs a ha
    by_cases k : iL z r d a
    · by_cases k2 : q.1 65 (cE z (nI r) (nI d) a) = 0
      · exact Or.inr ((g1 k).1 k2)
      · exact Or.inl ⟨(g1 k).2 k2, k⟩
    · exact Or.inr (g2 w k)
  · have hL := (inL_n hO hr6 hd ha).mpr w
    have h6 := H6 a ha hL
    obtain ⟨g1, g2, g3⟩ := hs a ha
    have e8 : y 8 (a_c z a) = (mHold z (nI r) (nI d)).2 8 (cn (z 11 a)) := by rw [ys 8 (by decide)]
    rw [e8, h6]
    refine ⟨fun k => ?_, fun k => ?_⟩
    · rw [if_neg (fun k2 => by have := (g1 w).1 k2; omega)]
    · have k2 : q.1 65 (cE z (nI r) (nI d) a) = 0 := Decidable.by_contra (fun k2 => by have := (g1 w).2 k2; omega)
      rw [if_pos k2]
      refine ⟨rfl, fun k3 => ?_⟩
      have hpos : 0 < cE z (nI r) (nI d) (nA z) := Nat.lt_of_le_of_lt (Nat.zero_le _) (hlt a ha hL)
      refine (hHI hpos).2 _ (hlt a ha hL) (hdr a ha hL) k2 ?_
      obtain ⟨e14, p1, p4⟩ := (h.ap ha).2.2.2.1
      rw [h62 a ha hL, e14, ← ly, Int32.le_iff_toInt_le, iy, nI_toInt (by omega)]
      unfold pl_N at k3
      omega
  · rw [ys 8 (by decide)]
    exact H7 c (fun a ha hin => hc a ha ((inL_n hO hr6 hd ha).mp hin))
  · rw [paid_n hJI, paid_n h, en]
    obtain ⟨f, f1, f2, ef⟩ := hO.fee
    have hf : cn (z 4 0) = f := by rw [ef, cn_nI (by omega)]
    have e1 : nS (a_m y) (nA z) = nS (a_m z) (nA z) + f * nS (wpF z y r d) (nA z) := by
      rw [← nS_mul, ← nS_add]
      refine nS_congr (fun a ha => ?_)
      obtain ⟨m1, m2⟩ := y16' a ha
      obtain ⟨-, -, -, ⟨e16, j4⟩, -⟩ := h.aj ha
      unfold wpF
      by_cases w : iN z r d a ∧ a_s y a = 1
      · rw [if_pos w] at m1 ⊢
        obtain ⟨m3, m4, m5⟩ := m2 w
        show cn (y 16 a) = a_m z a + f * a_p z a
        rw [m1, m3, cn_nI (by omega), hf]
      · rw [if_neg w] at m1 ⊢
        show cn (y 16 a) = a_m z a + f * 0
        rw [m1, Nat.add_zero, cn_nI (by omega), Nat.mul_zero, Nat.add_zero]
    rw [e1, ef, pk_mul, nI_add, Nat.mul_comm]
  · unfold stN
    rw [en]
    refine nS_0 (fun a ha => ?_)
    obtain ⟨g1, g2, g3⟩ := hs a ha
    unfold stF
    rw [er a, ed a]
    refine if_neg (fun w => ?_)
    by_cases k : iN z r d a
    · by_cases k1 : iL z r d a
      · by_cases k2 : q.1 65 (cE z (nI r) (nI d) a) = 0
        · have := (g1 k1).1 k2; omega
        · have := (g1 k1).2 k2; omega
      · have := g2 k k1; omega
    · have := g3 k
      exact k ⟨by omega, w.1.1, w.1.2⟩
  · exact hO.uq.inL hI ha ha' ((inL_n hO hr6 hd ha).mpr w) ((inL_n hO hr6 hd ha').mpr w') e
  · rw [hwon]
    refine congrArg nI (nS_congr (fun a ha => ?_))
    unfold wnF
    by_cases k : iN z r d a ∧ a_s y a = 1
    · rw [if_pos k, if_pos ((hwp a ha).mp k)]
    · rw [if_neg k, if_neg (fun w => k ((hwp a ha).mpr w))]
