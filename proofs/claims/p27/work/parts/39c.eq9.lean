/-! faults and loads of both -/
theorem sgn_eq {z y : St} (h1 : y 68 = z 68) (h2 : y 69 = z 69) (s : Int32) (p : Nat) : sgnP y s p = sgnP z s p := propext (sgn_of h1 h2 s p)
theorem q_of {z y : St} (h1 : y 68 = z 68) (h2 : y 69 = z 69) (p : Nat) : q1 y p = q1 z p ∧ q2 y p = q2 z p ∧ q3 y p = q3 z p ∧ q4 y p = q4 z p ∧ xA y p = xA z p := by
  have a1 : q1 y p = q1 z p := numP_of h1 h2 _ _ _
  have a2 : q2 y p = q2 z p := by unfold q2; rw [a1]; exact numP_of h1 h2 _ _ _
  have a3 : q3 y p = q3 z p := by unfold q3; rw [a2]; exact numP_of h1 h2 _ _ _
  have a4 : q4 y p = q4 z p := by unfold q4; rw [a3]; exact numP_of h1 h2 _ _ _
  refine ⟨a1, a2, a3, a4, ?_⟩
  unfold xA
  simp only [a3, a4, sgn_eq h1 h2]
theorem apR_of {z y : St} (h1 : y 68 = z 68) (h2 : y 69 = z 69) (p : Nat) : (apR y p).1 = (apR z p).1 ∧ apE y p = apE z p := by
  obtain ⟨a1, a2, a3, a4, -⟩ := q_of h1 h2 p
  unfold apE apR
  simp only [a1, a2, a3, a4, sgn_eq h1 h2]
  constructor
  · (repeat' split) <;> rfl
  · (repeat' split) <;> rfl
theorem apR_ok {y : St} {p : Nat} (hl : p ≤ lenN y) (hb : lenN y ≤ 60) (h : (apR y p).1 = 1) : (apR y p).2 = PS y (apE y p) (q1 y p).1 (q2 y p).1 (q3 y p).1 (xA y p) := by
  obtain ⟨q, c, r, d, x, hq, hpq, hql, -⟩ := apR_PS (y := y) hl
  have hE : apE y p = q := by unfold apE; rw [hq, cn_PS _ (by omega)]
  rw [hE]
  unfold xA
  have h2 := hq
  unfold apR at h h2 ⊢
  split at h
  · exact absurd (show (0 : Int32) = 1 from h) (by decide)
  · rename_i c1
    rw [if_neg c1] at h2 ⊢
    split at h
    · exact absurd (show (0 : Int32) = 1 from h) (by decide)
    · rename_i c2
      rw [if_neg c2] at h2 ⊢
      split at h
      · exact absurd (show (0 : Int32) = 1 from h) (by decide)
      · rename_i c3
        rw [if_neg c3] at h2 ⊢
        split at h
        · exact absurd (show (0 : Int32) = 1 from h) (by decide)
        · rename_i c4
          rw [if_neg c4] at h2 ⊢
          have key : ∀ (a b : Nat) (e f : Int32), PS y a (q1 y p).1 (q2 y p).1 (q3 y p).1 e = PS y b c r d f → a < 2 ^ 31 → b < 2 ^ 31 → a = b := by
            intro a b e f w ha hb
            have := congrArg (fun s => s 70 0) w
            exact (nI_eq ha hb).mp this
          split at h
          · rename_i c5
            rw [if_pos c5] at h2 ⊢
            rw [if_neg c5]
            have b3 : (q3 y p).2 ≤ lenN y := by
              have c1' := Decidable.not_not.mp c1
              have a1 := numP_le y 0 11 (p := p + 1) (by have := c1'.1; omega)
              have c2' : sgnP y 114 (q1 y p).2 := Decidable.not_not.mp (fun e => c2 (Or.inr e))
              have a2 := numP_le y 0 5 (p := (q1 y p).2 + 1) (by have := c2'.1; omega)
              have c3' : sgnP y 100 (q2 y p).2 := Decidable.not_not.mp (fun e => c3 (Or.inr e))
              exact (numP_le y 0 59 (p := (q2 y p).2 + 1) (by have := c3'.1; omega)).2
            have := key _ _ _ _ h2 (by omega) (by omega)
            rw [← this]
          · rename_i c5
            rw [if_neg c5] at h2 ⊢
            have c5' := Decidable.not_not.mp c5
            rw [if_pos c5']
            split at h
            · exact absurd (show (0 : Int32) = 1 from h) (by decide)
            · rename_i c6
              rw [if_neg c6] at h2 ⊢
              have b4 : (q4 y p).2 ≤ lenN y := (numP_le y 1 4 (p := (q3 y p).2 + 1) (by have := c5'.1; omega)).2
              have := key _ _ _ _ h2 (by omega) (by omega)
              rw [← this]
/-- the applications from a place on, as they stand in the model's row -/
def RdK (z : St) (row : Nat → Int32) (M : Nat) : Nat → Nat → Nat → Prop
  | 0, _, _ => False
  | n + 1, m, p => p ≤ lenN z ∧ (apR z p).1 = 1 ∧ (row (4 * m) = (q1 z p).1 ∧ row (4 * m + 1) = (q2 z p).1 ∧ row (4 * m + 2) = (q3 z p).1 ∧ row (4 * m + 3) = xA z p) ∧ ((apE z p = lenN z ∧ M = m + 1) ∨ (sgnP z 59 (apE z p) ∧ RdK z row M n (m + 1) (apE z p + 1)))
theorem RdK_mk {z : St} {row : Nat → Int32} {M n m p : Nat} (h0 : p ≤ lenN z) (h1 : (apR z p).1 = 1) (h2 : row (4 * m) = (q1 z p).1 ∧ row (4 * m + 1) = (q2 z p).1 ∧ row (4 * m + 2) = (q3 z p).1 ∧ row (4 * m + 3) = xA z p) (h3 : (apE z p = lenN z ∧ M = m + 1) ∨ (sgnP z 59 (apE z p) ∧ RdK z row M n (m + 1) (apE z p + 1))) : RdK z row M (n + 1) m p := ⟨h0, h1, h2, h3⟩
theorem RdK_lt {z : St} {row : Nat → Int32} {M : Nat} : ∀ n m p, RdK z row M n m p → m < M := by
  intro n
  induction n with
  | zero => intro m p h; exact h.elim
  | succ n ih =>
    intro m p h
    rcases h.2.2.2 with q | q
    · omega
    · have := ih _ _ q.2; omega
theorem tA_85 (y : St) {j : Nat} (hj : j < 4 * cn (y 86 0)) : tA y 85 j = y 85 j := by
  unfold tA
  rw [u2_f (by decide)]
  have e4 : tA4 y (cn (y 86 0)) 85 j = y 85 j := by
    unfold tA4 tA3
    rw [u2_i _ (by omega), rdN_85 _ _ _ _ (by omega), rdN_85 _ _ _ _ (by omega), rdN_85 _ _ _ _ (by omega)]
  unfold tAx
  split
  · rw [u2_i _ (by omega), numZ_lo _ _ _ (by decide), u2_f (by decide)]; exact e4
  · exact e4
theorem fault_ind {z : St} : ∀ (n n' : Nat) (y yc : St) (p m : Nat), SP y → y 84 0 = 0 → spN y = p → y 86 0 = nI m → 7 * m ≤ p → y 68 = z 68 → y 69 = z 69 → yc 68 = z 68 → yc 69 = z 69 → 61 ≤ n + p → lenN z + 1 ≤ n' + p →
    ((ffK n' yc p).1 = if ¬ mfK n (tA y) 84 0 = 0 ∨ spN (mfK n (tA y)) < lenN z then nI (spN (mfK n (tA y))) else -6) ∧
    (¬ (¬ mfK n (tA y) 84 0 = 0 ∨ spN (mfK n (tA y)) < lenN z) → RdK z (mfK n (tA y) 85) (cn (mfK n (tA y) 86 0)) n' m p) ∧ ∀ j, j < 4 * m → mfK n (tA y) 85 j = y 85 j := by
  intro n
  induction n with
  | zero =>
    intro n' y yc p m hS h84 hp hm h7 e1 e2 f1 f2 hn hn'
    have := hS.2.2.1
    have := (pL hS.1).2
    omega
  | succ n ih =>
    intro n' y yc p m hS h84 hp hm h7 e1 e2 f1 f2 hn hn'
    have hsl := hS.2.2.1
    have hl := (pL hS.1).2
    have el : lenN y = lenN z := lenN_of e2
    have elc : lenN yc = lenN z := lenN_of f2
    obtain ⟨k, rfl⟩ : ∃ k, n' = k + 1 := ⟨n' - 1, by omega⟩
    have hcm : cn (y 86 0) = m := by rw [hm, cn_nI (by omega)]
    obtain ⟨T1, T2, T3⟩ := tA_rel hS h84
    rw [hp] at T1 T2 T3
    rw [hcm] at T2
    obtain ⟨a1, a2⟩ := apR_of e1 e2 p
    obtain ⟨b1, b2⟩ := apR_of f1 f2 p
    obtain ⟨u1, u2', u3, u4, u5⟩ := q_of e1 e2 p
    rw [a2] at T1 T3
    rw [a1] at T2 T3
    rw [u1, u2', u3, u5] at T2
    have hnx : ∀ q, nxt (tA y) q = nxt z q := fun q => nxt_of ((tA_lo y (by decide)).trans e1) ((tA_lo y (by decide)).trans e2) q
    have hny : ∀ q, nxt y q = nxt z q := fun q => nxt_of e1 e2 q
    have hE : apE z p ≤ lenN z ∧ p ≤ apE z p := by
      obtain ⟨q, c, r, d, x, hq, hpq, hql, -⟩ := apR_PS (y := z) (p := p) (by omega)
      have hE : apE z p = q := by unfold apE; rw [hq, cn_PS _ (by omega)]
      omega
    have rows : ∀ j, j < 4 * m → tA y 85 j = y 85 j := fun j hj => tA_85 y (by rw [hcm]; exact hj)
    have h86 : tA y 86 0 = nI (m + 1) := by rw [tA_86, hcm]
    rw [ffK, b1, b2]
    rcases apR_01 z p with h0 | h1
    · -- a fault
      have t3 := T3 h0
      rw [hny, el] at t3
      have hno : ¬ (tA y 84 0 = 0 ∧ nxt (tA y) (spN (tA y)) = 59) := by
        rintro ⟨w1, w2⟩
        rcases t3 with q | q
        · exact q w1
        · rw [hnx, T1] at w2
          rw [w2] at q
          exact absurd q.2.2 (by decide)
      rw [if_pos h0, mfK_stop hno]
      have hc : ¬ tA y 84 0 = 0 ∨ spN (tA y) < lenN z := by
        rcases t3 with q | q
        · exact Or.inl q
        · right; rw [T1]; exact q.1
      rw [if_pos hc, T1]
      exact ⟨rfl, fun q => absurd (T1 ▸ hc) q, rows⟩
    · have h0 : ¬ (apR z p).1 = 0 := by rw [h1]; decide
      obtain ⟨t1, t2, t3, t4, t5, t6⟩ := T2 h1
      rw [if_neg h0]
      by_cases hlen : apE z p = lenN z
      · have hno : ¬ (tA y 84 0 = 0 ∧ nxt (tA y) (spN (tA y)) = 59) := by
          rintro ⟨w1, w2⟩
          rw [hnx, T1] at w2
          have : apE z p < lenN z := nxt_in (fun e => by rw [e] at w2; exact absurd w2 (by decide))
          omega
        rw [if_pos (hlen.trans elc.symm), mfK_stop hno, if_neg (by rw [T1]; exact fun q => q.elim (fun q => q t1) (fun q => by omega))]
        refine ⟨rfl, fun _ => ?_, rows⟩
        refine RdK_mk (by omega) h1 ⟨t2, t3, t4, t5⟩ (Or.inl ⟨hlen, ?_⟩)
        rw [h86, cn_nI (by omega)]
      · rw [if_neg (fun q => hlen (q.trans elc))]
        by_cases hsg : sgnP z 59 (apE z p)
        · rw [if_neg (not_not_intro ((sgn_of f1 f2 _ _).mpr hsg))]
          have w2 : nxt (tA y) (spN (tA y)) = 59 := by rw [hnx, T1]; exact (sgn_nxt (by decide) _).mp hsg
          have up := (tA_up hS t1).2
          rw [hp, T1] at up
          have S1 : SP (tA y) := SP_tA hS
          have etl : lenN (tA y) = lenN z := lenN_of ((tA_lo y (by decide)).trans e2)
          have hlt : spN (tA y) < lenN (tA y) := by rw [T1, etl]; exact hsg.1
          have eM : mfK (n + 1) (tA y) = mfK n (tA (u2 (tA y) 83 0 (nI (apE z p + 1)))) := by
            rw [mfK, if_pos (show tA y 84 0 = 0 ∧ nxt (tA y) (spN (tA y)) = 59 from ⟨t1, w2⟩), T1]
          rw [eM]
          have hsp : spN (u2 (tA y) 83 0 (nI (apE z p + 1))) = apE z p + 1 := by
            show cn (u2 _ 83 0 _ 83 0) = _
            rw [u2_s, cn_nI (by omega)]
          have S2 : SP (u2 (tA y) 83 0 (nI (apE z p + 1))) := by have := SP_up S1 hlt; rw [T1] at this; exact this
          have I := ih k (u2 (tA y) 83 0 (nI (apE z p + 1))) (u2 (apR yc p).2 70 0 (nI (apE z p + 1))) (apE z p + 1) (m + 1) S2 (by rw [u2_f (by decide)]; exact t1) hsp (by rw [u2_f (by decide)]; exact h86) (by omega)
            (by rw [u2_f (by decide)]; exact (tA_lo y (by decide)).trans e1) (by rw [u2_f (by decide)]; exact (tA_lo y (by decide)).trans e2) (by rw [u2_f (by decide), apR_lo _ _ (by decide)]; exact f1) (by rw [u2_f (by decide), apR_lo _ _ (by decide)]; exact f2) (by omega) (by omega)
          obtain ⟨I1, I2, I3⟩ := I
          have I4 : ∀ j, j < 4 * (m + 1) → mfK n (tA (u2 (tA y) 83 0 (nI (apE z p + 1)))) 85 j = tA y 85 j := fun j hj => by rw [I3 j hj, u2_f (by decide)]
          refine ⟨I1, fun q => ?_, fun j hj => by rw [I4 j (by omega)]; exact rows j hj⟩
          refine RdK_mk (by omega) h1 ⟨?_, ?_, ?_, ?_⟩ (Or.inr ⟨hsg, I2 q⟩)
          · rw [I4 _ (by omega)]; exact t2
          · rw [I4 _ (by omega)]; exact t3
          · rw [I4 _ (by omega)]; exact t4
          · rw [I4 _ (by omega)]; exact t5
        · rw [if_pos (fun q => hsg ((sgn_of f1 f2 _ _).mp q))]
          have hno : ¬ (tA y 84 0 = 0 ∧ nxt (tA y) (spN (tA y)) = 59) := by
            rintro ⟨w1, w2⟩
            rw [hnx, T1] at w2
            exact hsg ((sgn_nxt (by decide) _).mpr w2)
          rw [mfK_stop hno]
          have hc : ¬ tA y 84 0 = 0 ∨ spN (tA y) < lenN z := Or.inr (by rw [T1]; omega)
          rw [if_pos hc, T1]
          exact ⟨rfl, fun q => absurd (T1 ▸ hc) q, rows⟩
theorem fault_eq {z : St} (h : PO z) : (spFault z).1 = (mFault z).1 ∧ ((mFault z).1 = -6 → RdK z (mfZ z 85) (cn (mfZ z 86 0)) (lenN z + 1) 0 0) := by
  have hS := SP_mf0 h
  have h84 : mf0 z 84 0 = 0 := by unfold mf0; rw [u2_f (by decide), u2_s]
  have hsp : spN (mf0 z) = 0 := by
    have : mf0 z 83 0 = nI 0 := by unfold mf0; rw [u2_f (by decide), u2_f (by decide), u2_s]; rfl
    unfold spN; rw [this]; rfl
  have h86 : mf0 z 86 0 = nI 0 := by unfold mf0; rw [u2_s]; rfl
  have lo : ∀ f, f ≠ 83 ∧ f ≠ 84 ∧ f ≠ 86 → mf0 z f = z f := fun f hf => by unfold mf0; rw [u2_f hf.2.2, u2_f hf.2.1, u2_f hf.1]
  obtain ⟨I1, I2, -⟩ := fault_ind (z := z) 61 (lenN z + 1) (mf0 z) (u2 z 70 0 0) 0 0 hS h84 hsp h86 (by omega) (lo 68 (by decide)) (lo 69 (by decide)) (u2_f (by decide)) (u2_f (by decide)) (by omega) (by omega)
  have e : mfK 61 (tA (mf0 z)) = mfZ z := rfl
  rw [e] at I1 I2
  have e83 : mfZ z 83 0 = nI (spN (mfZ z)) := (TI_mfZ h).1.2.1
  have hl := (pL h).2
  have hs2 := (TI_mfZ h).1.2.2.1
  have el : lenN (mfZ z) = lenN z := lenN_of (mfZ_lo z (by decide))
  have em : (mFault z).1 = if ¬ mfZ z 84 0 = 0 ∨ spN (mfZ z) < lenN z then nI (spN (mfZ z)) else -6 := by
    unfold mFault
    rw [e83]
  refine ⟨by rw [em]; exact I1, fun q => I2 (fun w => ?_)⟩
  rw [em, if_pos w] at q
  have h6 := congrArg Int32.toInt q
  rw [nI_toInt (by omega)] at h6
  have e6 : (-6 : Int32).toInt = -6 := by decide
  omega
theorem spApply_cg {y w : St} (h : ∀ f, f < 20 → y f = w f) (c r d p : Int32) : (spApply y c r d p).1 = (spApply w c r d p).1 ∧ ∀ f, f < 20 → (spApply y c r d p).2 f = (spApply w c r d p).2 f := by
  have en : nA y = nA w := nA_of (h 3 (by decide))
  have hh : hasOne y c r d = hasOne w c r d := by
    unfold hasOne
    rw [en]
    refine anyN_congr (fun a _ => ?_)
    unfold onP aliveP
    rw [h 11 (by decide), h 12 (by decide), h 13 (by decide), h 15 (by decide)]
  unfold spApply climP routeP openP
  rw [hh, h 0 (by decide), h 1 (by decide), h 2 (by decide), h 3 (by decide), h 7 (by decide), h 10 (by decide)]
  split
  · exact ⟨rfl, h⟩
  · split
    · exact ⟨rfl, h⟩
    · split
      · exact ⟨rfl, h⟩
      · split
        · exact ⟨rfl, h⟩
        · refine ⟨rfl, fun f hf => ?_⟩
          show newApp y c r d p f = newApp w c r d p f
          funext i
          unfold newApp
          rw [en, h 3 (by decide)]
          unfold u2
          (repeat' split) <;> first | rfl | (rw [h f hf])
theorem load_ind {z : St} (hz : lenN z ≤ 60) {row : Nat → Int32} {M : Nat} : ∀ (n f f' : Nat) (y w : St) (p m : Nat), RdK z row M n m p → y 68 = z 68 → y 69 = z 69 → w 85 = row → w 86 0 = nI M → M < 2 ^ 31 → (∀ g, g < 20 → y g = w g) → lenN z ≤ f + p → M ≤ f' + m →
    (ldK f y p (nI m)).1 = nI (mlK f' w m).1 ∧ ∀ g, g < 20 → (ldK f y p (nI m)).2 g = (mlK f' w m).2 g := by
  intro n
  induction n with
  | zero => intro f f' y w p m h; exact h.elim
  | succ n ih =>
    intro f f' y w p m h e1 e2 hr hM hM2 hyw hf hf'
    have hmM := RdK_lt _ _ _ h
    obtain ⟨hp, h1, ⟨r1, r2, r3, r4⟩, hnext⟩ := h
    have el : lenN y = lenN z := lenN_of e2
    obtain ⟨a1, a2⟩ := apR_of e1 e2 p
    obtain ⟨u1, u2', u3, u4, u5⟩ := q_of e1 e2 p
    have hpE : p < apE z p ∧ apE z p ≤ lenN z := by
      obtain ⟨q, c, r, d, x, hq, hpq, hql, hq1⟩ := apR_PS (y := z) (p := p) hp
      have hE : apE z p = q := by unfold apE; rw [hq, cn_PS _ (by omega)]
      have := hq1 h1
      omega
    obtain ⟨g, rfl⟩ : ∃ g, f = g + 1 := ⟨f - 1, by omega⟩
    obtain ⟨g', rfl⟩ : ∃ g', f' = g' + 1 := ⟨f' - 1, by omega⟩
    have hok := apR_ok (y := y) (p := p) (by omega) (by omega) (by rw [a1]; exact h1)
    rw [a2, u1, u2', u3, u5] at hok
    have hA : ldA y p = spApply (PS y (apE z p) (q1 z p).1 (q2 z p).1 (q3 z p).1 (xA z p)) (q1 z p).1 (q2 z p).1 (q3 z p).1 (xA z p) := by
      unfold ldA
      rw [hok]
      rfl
    have hB : ml1 w m = spApply w (q1 z p).1 (q2 z p).1 (q3 z p).1 (xA z p) := by
      unfold ml1
      rw [hr, r1, r2, r3, r4]
    obtain ⟨c1, c2⟩ := spApply_cg (y := PS y (apE z p) (q1 z p).1 (q2 z p).1 (q3 z p).1 (xA z p)) (w := w) (fun g hg => by rw [PS_lo _ _ _ _ _ _ (by omega)]; exact hyw g hg) (q1 z p).1 (q2 z p).1 (q3 z p).1 (xA z p)
    rw [← hA, ← hB] at c1 c2
    have k68 : (ldA y p).2 68 = z 68 := by rw [hA, apply_lo _ _ _ _ _ (by decide), PS_lo _ _ _ _ _ _ (by omega)]; exact e1
    have k69 : (ldA y p).2 69 = z 69 := by rw [hA, apply_lo _ _ _ _ _ (by decide), PS_lo _ _ _ _ _ _ (by omega)]; exact e2
    rw [ldK, mlK, hM, cn_nI hM2, if_pos hmM, ← c1]
    by_cases hneg : (ldA y p).1 < 0
    · rw [if_pos hneg, if_pos hneg]
      exact ⟨rfl, c2⟩
    · rw [if_neg hneg, if_neg hneg, a2]
      rcases hnext with ⟨n1, n2⟩ | ⟨n1, n2⟩
      · rw [if_neg (fun q => by have := ((sgn_of e1 e2 _ _).mp q).1; omega)]
        have e : mlK g' (ml1 w m).2 (m + 1) = (m + 1, (ml1 w m).2) := (mlK_stop rfl (by rw [ml_lo _ _ (by decide), hM, cn_nI hM2]; omega))
        rw [e]
        exact ⟨nI_1 m, c2⟩
      · rw [if_pos ((sgn_of e1 e2 _ _).mpr n1), nI_1]
        exact ih g g' _ _ (apE z p + 1) (m + 1) n2 (by rw [u2_f (by decide)]; exact k68) (by rw [u2_f (by decide)]; exact k69) (by rw [ml_lo _ _ (by decide)]; exact hr) (by rw [ml_lo _ _ (by decide)]; exact hM) hM2 (fun f hf => by rw [u2_f (by omega)]; exact c2 f hf) (by omega) (by omega)
theorem mlK_lo : ∀ (f : Nat) (y : St) (n : Nat) {g : Nat}, 20 ≤ g → (mlK f y n).2 g = y g := by
  intro f
  induction f with
  | zero => intro y n g h; rfl
  | succ f ih =>
    intro y n g h
    unfold mlK
    split
    · split
      · exact ml_lo y n h
      · rw [ih _ _ h]; exact ml_lo y n h
    · rfl
theorem ldK_lo : ∀ (f : Nat) (y : St) (p : Nat) (m : Int32) {g : Nat}, 20 ≤ g ∧ g < 70 → (ldK f y p m).2 g = y g := by
  intro f
  induction f with
  | zero => intro y p m g h; rfl
  | succ f ih =>
    intro y p m g h
    have e : (ldA y p).2 g = y g := by unfold ldA; rw [apply_lo _ _ _ _ _ (by omega), apR_lo _ _ (by omega)]
    unfold ldK
    split
    · exact e
    · split
      · rw [ih _ _ _ h, u2_f (by omega)]; exact e
      · exact e
theorem load_eq {z : St} (h : PO z) : (spLoad z).1 = (mLoad z).1 ∧ ∀ f, Sh f → (spLoad z).2 f = (mLoad z).2 f := by
  obtain ⟨f1, f2⟩ := fault_eq h
  have hl := (pL h).2
  have c1 : ∀ f, f < 70 → (spFault z).2 f = z f := fun f hf => fault_lo z hf
  have c2 : ∀ f, f ≠ 83 ∧ f ≠ 84 ∧ f ≠ 85 ∧ f ≠ 86 → mfZ z f = z f := fun f hf => mfZ_lo z hf
  have m1 := (TI_86 (TI_mfZ h)).1
  have m2 := (TI_86 (TI_mfZ h)).2
  unfold spLoad mLoad
  rw [f1]
  generalize (mFault z).1 = μ at f2 ⊢
  generalize mfZ z = Y at f2 c2 m1 m2 ⊢
  generalize (spFault z).2 = Z at c1 ⊢
  by_cases h6 : ¬ μ = -6
  · rw [if_pos h6, if_pos h6]
    refine ⟨rfl, fun f hf => ?_⟩
    dsimp only
    rw [c1 f (by omega), c2 f (by omega)]
  · rw [if_neg h6, if_neg h6]
    have hR := f2 (Decidable.not_not.mp h6)
    obtain ⟨I1, I2⟩ := load_ind hl (lenN z + 1) (lenN z) 10 (u2 Z 70 0 0) Y 0 0 hR (by rw [u2_f (by decide), c1 68 (by decide)]) (by rw [u2_f (by decide), c1 69 (by decide)]) rfl m1 (by omega) (fun g hg => by rw [u2_f (by omega), c1 g (by omega), c2 g (by omega)]) (by omega) (by omega)
    have e0 : (nI 0 : Int32) = 0 := rfl
    rw [e0] at I1 I2
    have k1 : ∀ g, 20 ≤ g ∧ g < 70 → (ldK (lenN z) (u2 Z 70 0 0) 0 0).2 g = z g := fun g hg => by rw [ldK_lo _ _ _ _ hg, u2_f (by omega), c1 g hg.2]
    have k2 : ∀ g, 20 ≤ g ∧ g < 70 → (mlK 10 Y 0).2 g = z g := fun g hg => by rw [mlK_lo _ _ _ hg.1, c2 g (by omega)]
    generalize ldK (lenN z) (u2 Z 70 0 0) 0 0 = A at I1 I2 k1 ⊢
    generalize mlK 10 Y 0 = B at I1 I2 k2 ⊢
    refine ⟨I1, fun f hf => ?_⟩
    dsimp only
    by_cases q : f = 69
    · subst q
      rw [u2_ff, u2_ff, k1 69 (by decide), k2 69 (by decide)]
    · rw [u2_f q, u2_f q]
      by_cases q2 : f < 20
      · exact I2 f q2
      · rw [k1 f (by omega), k2 f (by omega)]
theorem OI_mlK {B : Nat} : ∀ (f : Nat) (y : St) (n : Nat), OI y B → OI (mlK f y n).2 B := by
  intro f
  induction f with
  | zero => intro y n h; exact h
  | succ f ih =>
    intro y n h
    unfold mlK
    split
    · split
      · exact OI_apply h _ _ _ _
      · exact ih _ _ (OI_apply h _ _ _ _)
    · exact h
theorem OI_load {z : St} {B : Nat} (h : OI z B) : OI (mLoad z).2 B := by
  have h0 : OI (mfZ z) B := OI_of h (fun f hf _ _ _ => mfZ_lo z (by omega))
  unfold mLoad
  generalize mfZ z = Y at h0 ⊢
  generalize (mFault z).1 = μ
  split
  · exact h0
  · exact OI_of (OI_mlK 10 Y 0 h0) (fun f hf _ _ _ => u2_f (by omega))
