theorem rd_rel2 {y : St} (h : SP y) {s : Int32} (hs : ¬ s = 0) (hsd : ¬ (48 ≤ s ∧ s ≤ 57)) {lo hi : Int32} {l g : Nat} (el : lo = nI l) (eg : hi = nI g) (hlo : l ≤ 1) (hhi : g ≤ 59) (hh : l ≤ g) (i : Nat) (h84 : y 84 0 = 0) :
    (¬ sgnP y s (spN y) → ¬ rdN y s lo hi i 84 0 = 0 ∧ spN (rdN y s lo hi i) = spN y) ∧
    (sgnP y s (spN y) → spN (rdN y s lo hi i) = (numP y lo hi (spN y + 1)).2 ∧
      ((numP y lo hi (spN y + 1)).1 = -1 → ¬ rdN y s lo hi i 84 0 = 0 ∨ (rdN y s lo hi i 84 0 = 0 ∧ 48 ≤ nxt y (numP y lo hi (spN y + 1)).2 ∧ nxt y (numP y lo hi (spN y + 1)).2 ≤ 57)) ∧
      (¬ (numP y lo hi (spN y + 1)).1 = -1 → rdN y s lo hi i 84 0 = 0 ∧ rdN y s lo hi i 85 i = (numP y lo hi (spN y + 1)).1)) := by
  subst el
  subst eg
  exact rd_rel h hs hsd hlo hhi hh i h84
theorem rdN_85 (y : St) (s lo hi : Int32) {i j : Nat} (h : j ≠ i) : rdN y s lo hi i 85 j = y 85 j := by
  unfold rdN
  rw [u2_i _ h, numZ_lo _ _ _ (by decide), needZ_lo _ _ (by decide)]
theorem sgn_of {z y : St} (h1 : y 68 = z 68) (h2 : y 69 = z 69) (s : Int32) (p : Nat) : sgnP y s p ↔ sgnP z s p := by unfold sgnP lenN; rw [h1, h2]
/-- a step behind which the next sign is none that it wants -/
theorem rd_stuck {y w : St} (hw : SP w) (e1 : w 68 = y 68) (e2 : w 69 = y 69) {s lo hi : Int32} {l g : Nat} (hs : ¬ s = 0) (hsd : ¬ (48 ≤ s ∧ s ≤ 57)) (el : lo = nI l) (eg : hi = nI g) (hlo : l ≤ 1) (hhi : g ≤ 59) (hh : l ≤ g) (i : Nat)
    (h : ¬ w 84 0 = 0 ∨ ¬ sgnP y s (spN w)) : ¬ rdN w s lo hi i 84 0 = 0 ∧ spN (rdN w s lo hi i) = spN w := by
  by_cases h84 : w 84 0 = 0
  · rcases h with q | q
    · exact absurd h84 q
    · exact (rd_rel2 hw hs hsd el eg hlo hhi hh i h84).1 (fun t => q ((sgn_of e1 e2 s _).mp t))
  · exact rd_wrong h84
theorem not_sgn {y : St} {s : Int32} {p : Nat} (hs : ¬ s = 0) (hsd : ¬ (48 ≤ s ∧ s ≤ 57)) (h : 48 ≤ nxt y p ∧ nxt y p ≤ 57) : ¬ sgnP y s p := fun q => hsd ((sgn_nxt hs p).mp q ▸ h)
theorem tA_fin (y : St) : spN (tA y) = spN (tAx (tA4 y (cn (y 86 0))) (cn (y 86 0))) ∧ tA y 84 0 = tAx (tA4 y (cn (y 86 0))) (cn (y 86 0)) 84 0 ∧ tA y 85 = tAx (tA4 y (cn (y 86 0))) (cn (y 86 0)) 85 := by
  unfold tA
  refine ⟨?_, ?_, ?_⟩
  · unfold spN; rw [u2_f (by decide)]
  · rw [u2_f (by decide)]
  · rw [u2_f (by decide)]
theorem tA4_fin (y : St) (m : Nat) : spN (tA4 y m) = spN (tA3 y m) ∧ tA4 y m 84 0 = tA3 y m 84 0 ∧ tA4 y m 85 (4 * m + 3) = 1 ∧ ∀ j, j ≠ 4 * m + 3 → tA4 y m 85 j = tA3 y m 85 j := by
  unfold tA4
  refine ⟨?_, ?_, u2_s _ _ _ _, fun j hj => u2_i _ hj⟩
  · unfold spN; rw [u2_f (by decide)]
  · rw [u2_f (by decide)]
/-- without a party's sign, or behind a fault -/
theorem tAx_no {y : St} {m : Nat} (h : ¬ (y 84 0 = 0 ∧ nxt y (spN y) = 120)) : tAx y m = y := by unfold tAx; rw [if_neg h]
theorem tAx_yes {y : St} {m : Nat} (h1 : y 84 0 = 0) (h2 : nxt y (spN y) = 120) : tAx y m = rdN y 120 1 4 (4 * m + 3) := by
  unfold tAx
  rw [if_pos ⟨h1, h2⟩]
  unfold rdN
  have : needZ y 120 = u2 y 83 0 (nI (spN y + 1)) := by
    unfold needZ
    rw [if_pos ⟨h1, h2⟩, u2_self h1]
  rw [this]
def xA (z : St) (p : Nat) : Int32 := if sgnP z 120 (q3 z p).2 then (q4 z p).1 else 1
def TRel (y : St) (p : Nat) : Prop := spN (tA y) = apE y p ∧
  ((apR y p).1 = 1 → tA y 84 0 = 0 ∧ tA y 85 (4 * cn (y 86 0)) = (q1 y p).1 ∧ tA y 85 (4 * cn (y 86 0) + 1) = (q2 y p).1 ∧ tA y 85 (4 * cn (y 86 0) + 2) = (q3 y p).1 ∧ tA y 85 (4 * cn (y 86 0) + 3) = xA y p ∧ ∀ j, j < 4 * cn (y 86 0) → tA y 85 j = y 85 j) ∧
  ((apR y p).1 = 0 → ¬ tA y 84 0 = 0 ∨ (apE y p < lenN y ∧ 48 ≤ nxt y (apE y p) ∧ nxt y (apE y p) ≤ 57))
theorem cn_PS (z : St) {p : Nat} (hp : p < 2 ^ 31) (c r d x : Int32) : cn (PS z p c r d x 70 0) = p := by rw [PS_70, cn_nI hp]
theorem tA_rel {y : St} (h : SP y) (h84 : y 84 0 = 0) : TRel y (spN y) := by
  have hl := (pL h.1).2
  have hsl := h.2.2.1
  obtain ⟨F1, F2, F3⟩ := tA_fin y
  obtain ⟨G1, G2, G3, G4⟩ := tA4_fin y (cn (y 86 0))
  generalize hm : cn (y 86 0) = m at F1 F2 F3 G1 G2 G3 G4
  unfold TRel
  rw [hm]
  -- the three steps
  obtain ⟨y1, hy1⟩ : ∃ w, w = rdN y 99 0 11 (4 * m) := ⟨_, rfl⟩
  obtain ⟨y2, hy2⟩ : ∃ w, w = rdN y1 114 0 5 (4 * m + 1) := ⟨_, rfl⟩
  obtain ⟨y3, hy3⟩ : ∃ w, w = rdN y2 100 0 59 (4 * m + 2) := ⟨_, rfl⟩
  have e3 : tA3 y m = y3 := by rw [hy3, hy2, hy1]; rfl
  rw [e3] at G1 G2 G4
  have S1 : SP y1 := by rw [hy1]; exact SP_rd h (by decide) (by decide) _
  have S2 : SP y2 := by rw [hy2]; exact SP_rd S1 (by decide) (by decide) _
  have S3 : SP y3 := by rw [hy3]; exact SP_rd S2 (by decide) (by decide) _
  have S4 : SP (tA4 y m) := SP_tA4 h m
  have p1 : y1 68 = y 68 ∧ y1 69 = y 69 := by rw [hy1]; exact ⟨rdN_lo _ _ _ _ _ (by decide), rdN_lo _ _ _ _ _ (by decide)⟩
  have p2 : y2 68 = y 68 ∧ y2 69 = y 69 := by rw [hy2]; exact ⟨(rdN_lo _ _ _ _ _ (by decide)).trans p1.1, (rdN_lo _ _ _ _ _ (by decide)).trans p1.2⟩
  have p3 : y3 68 = y 68 ∧ y3 69 = y 69 := by rw [hy3]; exact ⟨(rdN_lo _ _ _ _ _ (by decide)).trans p2.1, (rdN_lo _ _ _ _ _ (by decide)).trans p2.2⟩
  have p4 : tA4 y m 68 = y 68 ∧ tA4 y m 69 = y 69 := ⟨tA4_lo y m (by decide), tA4_lo y m (by decide)⟩
  have R1 := rd_rel2 h (s := 99) (lo := 0) (hi := 11) (l := 0) (g := 11) (by decide) (by decide) rfl rfl (by decide) (by decide) (by decide) (4 * m) h84
  rw [← hy1] at R1
  have K1 : numP y 0 11 (spN y + 1) = q1 y (spN y) := rfl
  rw [K1] at R1
  -- behind a fault of the first steps all stays
  have wr3 : ¬ y3 84 0 = 0 → spN (tA y) = spN y3 ∧ ¬ tA y 84 0 = 0 := by
    intro q
    have q4 : ¬ tA4 y m 84 0 = 0 := by rw [G2]; exact q
    have := tAx_no (m := m) (fun t => q4 t.1)
    rw [this] at F1 F2
    exact ⟨F1.trans G1, by rw [F2]; exact q4⟩
  have st2 : (¬ y1 84 0 = 0 ∨ ¬ sgnP y 114 (spN y1)) → spN (tA y) = spN y1 ∧ ¬ tA y 84 0 = 0 := by
    intro q
    have a := rd_stuck S1 p1.1 p1.2 (s := 114) (lo := 0) (hi := 5) (l := 0) (g := 5) (by decide) (by decide) rfl rfl (by decide) (by decide) (by decide) (4 * m + 1) q
    rw [← hy2] at a
    have b := rd_stuck S2 p2.1 p2.2 (s := 100) (lo := 0) (hi := 59) (l := 0) (g := 59) (by decide) (by decide) rfl rfl (by decide) (by decide) (by decide) (4 * m + 2) (Or.inl a.1)
    rw [← hy3] at b
    have c := wr3 b.1
    exact ⟨c.1.trans (b.2.trans a.2), c.2⟩
  have st3 : (¬ y2 84 0 = 0 ∨ ¬ sgnP y 100 (spN y2)) → spN (tA y) = spN y2 ∧ ¬ tA y 84 0 = 0 := by
    intro q
    have b := rd_stuck S2 p2.1 p2.2 (s := 100) (lo := 0) (hi := 59) (l := 0) (g := 59) (by decide) (by decide) rfl rfl (by decide) (by decide) (by decide) (4 * m + 2) q
    rw [← hy3] at b
    have c := wr3 b.1
    exact ⟨c.1.trans b.2, c.2⟩
  unfold apE apR
  by_cases c1 : sgnP y 99 (spN y)
  · rw [if_neg (not_not_intro c1)]
    have a1 := numP_le y 0 11 (p := spN y + 1) (by have := c1.1; omega)
    rw [K1] at a1
    obtain ⟨R1a, R1b, R1c⟩ := R1.2 c1
    by_cases c2 : (q1 y (spN y)).1 = -1
    · rw [if_pos (Or.inl c2)]
      have st := st2 (by
        rcases R1b c2 with q | ⟨-, q⟩
        · exact Or.inl q
        · right; rw [R1a]; exact not_sgn (by decide) (by decide) q)
      refine ⟨?_, fun q => absurd (show (0 : Int32) = 1 from q) (by decide), fun _ => Or.inl st.2⟩
      rw [cn_PS _ (by omega), st.1, R1a]
    · obtain ⟨d1, d2⟩ := R1c c2
      by_cases c3 : sgnP y 114 (q1 y (spN y)).2
      · rw [if_neg (fun q => q.elim (fun q => c2 q) (fun q => q c3))]
        have R2 := rd_rel2 S1 (s := 114) (lo := 0) (hi := 5) (l := 0) (g := 5) (by decide) (by decide) rfl rfl (by decide) (by decide) (by decide) (4 * m + 1) d1
        rw [← hy2, R1a] at R2
        have K2 : numP y1 0 5 ((q1 y (spN y)).2 + 1) = q2 y (spN y) := numP_of p1.1 p1.2 _ _ _
        rw [K2] at R2
        obtain ⟨R2a, R2b, R2c⟩ := R2.2 ((sgn_of p1.1 p1.2 _ _).mpr c3)
        have a2 := numP_le y 0 5 (p := (q1 y (spN y)).2 + 1) (by have := c3.1; omega)
        have K2' : numP y 0 5 ((q1 y (spN y)).2 + 1) = q2 y (spN y) := rfl
        rw [K2'] at a2
        by_cases c4 : (q2 y (spN y)).1 = -1
        · rw [if_pos (Or.inl c4)]
          have st := st3 (by
            rcases R2b c4 with q | ⟨-, q⟩
            · exact Or.inl q
            · right; rw [R2a]; rw [nxt_of p1.1 p1.2] at q; exact not_sgn (by decide) (by decide) q)
          refine ⟨?_, fun q => absurd (show (0 : Int32) = 1 from q) (by decide), fun _ => Or.inl st.2⟩
          rw [cn_PS _ (by omega), st.1, R2a]
        · obtain ⟨d3, d4⟩ := R2c c4
          by_cases c5 : sgnP y 100 (q2 y (spN y)).2
          · rw [if_neg (fun q => q.elim (fun q => c4 q) (fun q => q c5))]
            have R3 := rd_rel2 S2 (s := 100) (lo := 0) (hi := 59) (l := 0) (g := 59) (by decide) (by decide) rfl rfl (by decide) (by decide) (by decide) (4 * m + 2) d3
            rw [← hy3, R2a] at R3
            have K3 : numP y2 0 59 ((q2 y (spN y)).2 + 1) = q3 y (spN y) := numP_of p2.1 p2.2 _ _ _
            rw [K3] at R3
            obtain ⟨R3a, R3b, R3c⟩ := R3.2 ((sgn_of p2.1 p2.2 _ _).mpr c5)
            have a3 := numP_le y 0 59 (p := (q2 y (spN y)).2 + 1) (by have := c5.1; omega)
            have K3' : numP y 0 59 ((q2 y (spN y)).2 + 1) = q3 y (spN y) := rfl
            rw [K3'] at a3
            have n4 : nxt (tA4 y m) (spN (tA4 y m)) = nxt y (q3 y (spN y)).2 := by rw [nxt_of p4.1 p4.2, G1, R3a]
            by_cases c6 : (q3 y (spN y)).1 = -1
            · rw [if_pos c6]
              have hx : tAx (tA4 y m) m = tA4 y m := tAx_no (fun t => by
                rcases R3b c6 with q | ⟨-, q⟩
                · exact q (by rw [← G2]; exact t.1)
                · rw [nxt_of p2.1 p2.2] at q
                  rw [n4] at t
                  rw [t.2] at q
                  exact absurd q.2 (by decide))
              rw [hx] at F1 F2
              refine ⟨?_, fun q => absurd (show (0 : Int32) = 1 from q) (by decide), fun _ => ?_⟩
              · rw [cn_PS _ (by omega), F1, G1, R3a]
              · rw [cn_PS _ (by omega)]
                rcases R3b c6 with q | ⟨-, q⟩
                · left; rw [F2, G2]; exact q
                · right
                  rw [nxt_of p2.1 p2.2] at q
                  exact ⟨nxt_in (fun e => by rw [e] at q; exact absurd q.1 (by decide)), q⟩
            · rw [if_neg c6]
              obtain ⟨d5, d6⟩ := R3c c6
              have rows : ∀ j, j < 4 * m + 3 → tA4 y m 85 j = y3 85 j := fun j hj => G4 j (by omega)
              have r3 : y3 85 (4 * m + 2) = (q3 y (spN y)).1 := d6
              have r2 : y3 85 (4 * m + 1) = (q2 y (spN y)).1 := by rw [hy3, rdN_85 _ _ _ _ (by omega)]; exact d4
              have r1 : y3 85 (4 * m) = (q1 y (spN y)).1 := by rw [hy3, rdN_85 _ _ _ _ (by omega), hy2, rdN_85 _ _ _ _ (by omega)]; exact d2
              have r0 : ∀ j, j < 4 * m → y3 85 j = y 85 j := fun j hj => by rw [hy3, rdN_85 _ _ _ _ (by omega), hy2, rdN_85 _ _ _ _ (by omega), hy1, rdN_85 _ _ _ _ (by omega)]
              by_cases c7 : sgnP y 120 (q3 y (spN y)).2
              · rw [if_neg (not_not_intro c7)]
                have hx : tAx (tA4 y m) m = rdN (tA4 y m) 120 1 4 (4 * m + 3) := tAx_yes (by rw [G2]; exact d5) (by rw [n4]; exact (sgn_nxt (by decide) _).mp c7)
                have R4 := rd_rel2 S4 (s := 120) (lo := 1) (hi := 4) (l := 1) (g := 4) (by decide) (by decide) rfl rfl (by decide) (by decide) (by decide) (4 * m + 3) (by rw [G2]; exact d5)
                rw [G1, R3a] at R4
                have K4 : numP (tA4 y m) 1 4 ((q3 y (spN y)).2 + 1) = q4 y (spN y) := numP_of p4.1 p4.2 _ _ _
                rw [K4] at R4
                obtain ⟨R4a, R4b, R4c⟩ := R4.2 ((sgn_of p4.1 p4.2 _ _).mpr c7)
                have a4 := numP_le y 1 4 (p := (q3 y (spN y)).2 + 1) (by have := c7.1; omega)
                have K4' : numP y 1 4 ((q3 y (spN y)).2 + 1) = q4 y (spN y) := rfl
                rw [K4'] at a4
                rw [hx] at F1 F2 F3
                by_cases c8 : (q4 y (spN y)).1 = -1
                · rw [if_pos c8]
                  refine ⟨?_, fun q => absurd (show (0 : Int32) = 1 from q) (by decide), fun _ => ?_⟩
                  · rw [cn_PS _ (by omega), F1, R4a]
                  · rw [cn_PS _ (by omega)]
                    rcases R4b c8 with q | ⟨-, q⟩
                    · left; rw [F2]; exact q
                    · right
                      rw [nxt_of p4.1 p4.2] at q
                      exact ⟨nxt_in (fun e => by rw [e] at q; exact absurd q.1 (by decide)), q⟩
                · rw [if_neg c8]
                  obtain ⟨d7, d8⟩ := R4c c8
                  refine ⟨?_, fun _ => ?_, fun q => absurd (show (1 : Int32) = 0 from q) (by decide)⟩
                  · rw [cn_PS _ (by omega), F1, R4a]
                  · rw [F2, F3]
                    refine ⟨d7, ?_, ?_, ?_, ?_, fun j hj => ?_⟩
                    · rw [rdN_85 _ _ _ _ (by omega), rows _ (by omega)]; exact r1
                    · rw [rdN_85 _ _ _ _ (by omega), rows _ (by omega)]; exact r2
                    · rw [rdN_85 _ _ _ _ (by omega), rows _ (by omega)]; exact r3
                    · rw [d8]; unfold xA; rw [if_pos c7]
                    · rw [rdN_85 _ _ _ _ (by omega), rows _ (by omega)]; exact r0 j hj
              · rw [if_pos c7]
                have hx : tAx (tA4 y m) m = tA4 y m := tAx_no (fun t => by
                  rw [n4] at t
                  exact c7 ((sgn_nxt (by decide) _).mpr t.2))
                rw [hx] at F1 F2 F3
                refine ⟨?_, fun _ => ?_, fun q => absurd (show (1 : Int32) = 0 from q) (by decide)⟩
                · rw [cn_PS _ (by omega), F1, G1, R3a]
                · rw [F2, F3]
                  refine ⟨by rw [G2]; exact d5, ?_, ?_, ?_, ?_, fun j hj => ?_⟩
                  · rw [rows _ (by omega)]; exact r1
                  · rw [rows _ (by omega)]; exact r2
                  · rw [rows _ (by omega)]; exact r3
                  · rw [G3]; unfold xA; rw [if_neg c7]
                  · rw [rows _ (by omega)]; exact r0 j hj
          · rw [if_pos (Or.inr c5)]
            have st := st3 (Or.inr (by rw [R2a]; exact c5))
            refine ⟨?_, fun q => absurd (show (0 : Int32) = 1 from q) (by decide), fun _ => Or.inl st.2⟩
            rw [cn_PS _ (by omega), st.1, R2a]
      · rw [if_pos (Or.inr c3)]
        have st := st2 (Or.inr (by rw [R1a]; exact c3))
        refine ⟨?_, fun q => absurd (show (0 : Int32) = 1 from q) (by decide), fun _ => Or.inl st.2⟩
        rw [cn_PS _ (by omega), st.1, R1a]
  · rw [if_pos c1]
    have w := R1.1 c1
    have st := st2 (Or.inl w.1)
    refine ⟨?_, fun q => absurd (show (0 : Int32) = 1 from q) (by decide), fun _ => Or.inl st.2⟩
    rw [cn_PS _ (by omega), st.1, w.2]
