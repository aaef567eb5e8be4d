/-! ===== texts: the class's reader against the model's ===== -/
theorem PO.ch {z : St} (h : PO z) (p : Nat) : ∃ c, c < 128 ∧ nxt z p = nI c := by
  unfold nxt
  by_cases e : p < lenN z
  · rw [if_pos e]
    have hl := (pL h).2
    exact h.2 p (by omega)
  · rw [if_neg e]; exact ⟨0, by decide, rfl⟩
theorem sgn_nxt {z : St} {s : Int32} (hs : ¬ s = 0) (p : Nat) : sgnP z s p ↔ nxt z p = s := by
  unfold nxt
  by_cases e : p < lenN z
  · rw [if_pos e]; exact ⟨fun h => h.2, fun h => ⟨e, h⟩⟩
  · rw [if_neg e]; exact ⟨fun h => absurd h.1 e, fun h => absurd h.symm hs⟩
/-- the digit at a place, by the sign read next -/
theorem dig_nxt {z : St} (h : PO z) (p : Nat) : (∃ k, k ≤ 9 ∧ p < lenN z ∧ nxt z p = nI (48 + k) ∧ digP z p = nI k) ∨ (digP z p = -1 ∧ ¬ (48 ≤ nxt z p ∧ nxt z p ≤ 57)) := by
  obtain ⟨c, c1, c2⟩ := h.ch p
  have e48 : (48 : Int32) = nI 48 := rfl
  have e57 : (57 : Int32) = nI 57 := rfl
  by_cases e : p < lenN z
  · have en : nxt z p = z 68 p := by unfold nxt; rw [if_pos e]
    rw [en] at c2 ⊢
    unfold digP
    rw [c2]
    have b1 : (48 : Int32) ≤ nI c ↔ 48 ≤ c := nI_leI (a := 48) (by omega) (by omega)
    have b2 : nI c ≤ (57 : Int32) ↔ c ≤ 57 := nI_leI (b := 57) (by omega) (by omega)
    by_cases hd : 48 ≤ c ∧ c ≤ 57
    · left
      rw [if_pos ⟨e, b1.mpr hd.1, b2.mpr hd.2⟩]
      refine ⟨c - 48, by omega, e, by congr 1; omega, ?_⟩
      exact pk_sub (b := 48) hd.1
    · right
      rw [if_neg (fun q => hd ⟨b1.mp q.2.1, b2.mp q.2.2⟩)]
      exact ⟨rfl, fun q => hd ⟨b1.mp q.1, b2.mp q.2⟩⟩
  · right
    unfold digP nxt
    rw [if_neg (fun q => e q.1), if_neg e]
    exact ⟨rfl, by decide⟩
/-- the rest of a number -/
theorem num_rel {z : St} (h : PO z) {hi : Nat} (hhi : hi ≤ 59) : ∀ (f f' k p : Nat), k ≤ 59 → 60 ≤ f + p → 60 ≤ f' + p →
    ∃ k', k' ≤ 59 ∧ (numM z (nI hi) f' (nI k) p).1 = nI k' ∧ (numL z (nI hi) f (nI k) p).2 = (numM z (nI hi) f' (nI k) p).2 ∧
      ((numL z (nI hi) f (nI k) p).1 = nI k' ∨ ((numL z (nI hi) f (nI k) p).1 = -1 ∧ 48 ≤ nxt z (numM z (nI hi) f' (nI k) p).2 ∧ nxt z (numM z (nI hi) f' (nI k) p).2 ≤ 57)) := by
  intro f
  have hl := (pL h).2
  induction f with
  | zero =>
    intro f' k p hk h1 h2
    have e : numM z (nI hi) f' (nI k) p = (nI k, p) := by
      cases f' with
      | zero => rfl
      | succ f' =>
        rw [numM, if_neg]
        intro q
        have : nxt z p = 0 := by unfold nxt; rw [if_neg (by omega)]
        rw [this] at q
        exact absurd q.2.1.1 (by decide)
    rw [e]
    exact ⟨k, hk, rfl, rfl, Or.inl rfl⟩
  | succ f ih =>
    intro f' k p hk h1 h2
    by_cases hp : p < lenN z
    · obtain ⟨g, rfl⟩ : ∃ g, f' = g + 1 := ⟨f' - 1, by omega⟩
      by_cases h0 : (0 : Int32) < nI k
      · rcases dig_nxt h p with ⟨d, d1, d2, d3, d4⟩ | ⟨d1, d2⟩
        · have ev : 10 * nI k + nxt z p - 48 = nI (10 * k + d) := by
            rw [d3, ← nI_add 48 d]
            have : (10 : Int32) * nI k = nI (10 * k) := pk_mul 10 k
            rw [this, ← nI_add (10 * k) d]
            have : (48 : Int32) = nI 48 := rfl
            rw [this]
            grind
          have ev2 : 10 * nI k + digP z p = nI (10 * k + d) := by
            rw [d4]
            have : (10 : Int32) * nI k = nI (10 * k) := pk_mul 10 k
            rw [this, nI_add]
          have hdig : 48 ≤ nxt z p ∧ nxt z p ≤ 57 := by
            rw [d3]
            exact ⟨(nI_leI (a := 48) (by omega) (by omega)).mpr (by omega), (nI_leI (b := 57) (by omega) (by omega)).mpr (by omega)⟩
          have hd1 : ¬ digP z p = -1 := by rw [d4]; exact nI_m1 (by omega)
          by_cases hh : nI hi < nI (10 * k + d)
          · have eL : numL z (nI hi) (f + 1) (nI k) p = (-1, p) := by rw [numL, if_pos ⟨h0, hp⟩, if_neg hd1, ev2, if_pos hh]
            have eM : numM z (nI hi) (g + 1) (nI k) p = (nI k, p) := by rw [numM, if_neg (fun q => by rw [ev] at q; exact q.2.2 hh)]
            rw [eL, eM]
            exact ⟨k, hk, rfl, rfl, Or.inr ⟨rfl, hdig⟩⟩
          · have eL : numL z (nI hi) (f + 1) (nI k) p = numL z (nI hi) f (nI (10 * k + d)) (p + 1) := by rw [numL, if_pos ⟨h0, hp⟩, if_neg hd1, ev2, if_neg hh]
            have eM : numM z (nI hi) (g + 1) (nI k) p = numM z (nI hi) g (nI (10 * k + d)) (p + 1) := by rw [numM, ev, if_pos ⟨h0, hdig, hh⟩]
            rw [eL, eM]
            have : ¬ hi < 10 * k + d := fun q => hh ((nI_ltI (by omega) (by omega)).mpr q)
            exact ih g (10 * k + d) (p + 1) (by omega) (by omega) (by omega)
        · have eL : numL z (nI hi) (f + 1) (nI k) p = (nI k, p) := by rw [numL, if_pos ⟨h0, hp⟩, if_pos d1]
          have eM : numM z (nI hi) (g + 1) (nI k) p = (nI k, p) := by rw [numM, if_neg (fun q => d2 q.2.1)]
          rw [eL, eM]
          exact ⟨k, hk, rfl, rfl, Or.inl rfl⟩
      · have eL : numL z (nI hi) (f + 1) (nI k) p = (nI k, p) := by rw [numL, if_neg (fun q => h0 q.1)]
        have eM : numM z (nI hi) (g + 1) (nI k) p = (nI k, p) := by rw [numM, if_neg (fun q => h0 q.1)]
        rw [eL, eM]
        exact ⟨k, hk, rfl, rfl, Or.inl rfl⟩
    · have hz : nxt z p = 0 := by unfold nxt; rw [if_neg hp]
      have e : numM z (nI hi) f' (nI k) p = (nI k, p) := by
        cases f' with
        | zero => rfl
        | succ f' => rw [numM, if_neg (fun q => by rw [hz] at q; exact absurd q.2.1.1 (by decide))]
      rw [e, numL, if_neg (fun q => hp q.2)]
      exact ⟨k, hk, rfl, rfl, Or.inl rfl⟩
/-- a number from its first sign on -/
theorem numP_rel {z : St} (h : PO z) {lo hi : Nat} (hlo : lo ≤ 1) (hhi : hi ≤ 59) (hh : lo ≤ hi) {p : Nat} (hp : p ≤ lenN z) :
    ((48 + nI lo ≤ nxt z p ∧ nxt z p ≤ (if nI hi < 9 then 48 + nI hi else 57)) →
      ∃ k, k ≤ 59 ∧ (numM z (nI hi) 61 (nxt z p - 48) (p + 1)).1 = nI k ∧ (numP z (nI lo) (nI hi) p).2 = (numM z (nI hi) 61 (nxt z p - 48) (p + 1)).2 ∧
        ((numP z (nI lo) (nI hi) p).1 = nI k ∨ ((numP z (nI lo) (nI hi) p).1 = -1 ∧ 48 ≤ nxt z (numM z (nI hi) 61 (nxt z p - 48) (p + 1)).2 ∧ nxt z (numM z (nI hi) 61 (nxt z p - 48) (p + 1)).2 ≤ 57))) ∧
    (¬ (48 + nI lo ≤ nxt z p ∧ nxt z p ≤ (if nI hi < 9 then 48 + nI hi else 57)) → numP z (nI lo) (nI hi) p = (-1, p)) := by
  have hl := (pL h).2
  have e1 : (48 : Int32) + nI lo = nI (48 + lo) := nI_add 48 lo
  have e2 : (if nI hi < 9 then 48 + nI hi else (57 : Int32)) = nI (if hi < 9 then 48 + hi else 57) := by
    have : nI hi < (9 : Int32) ↔ hi < 9 := nI_ltI (b := 9) (by omega) (by omega)
    by_cases q : hi < 9
    · rw [if_pos (this.mpr q), if_pos q]; exact nI_add 48 hi
    · rw [if_neg (fun w => q (this.mp w)), if_neg q]; rfl
  rw [e1, e2]
  rcases dig_nxt h p with ⟨d, d1, d2, d3, d4⟩ | ⟨d1, d2⟩
  · have en : nxt z p - 48 = nI d := by
      rw [d3]
      have : (48 : Int32) = nI 48 := rfl
      rw [this, pk_sub (by omega)]
      congr 1; omega
    have hb : (nI (48 + lo) ≤ nxt z p ∧ nxt z p ≤ nI (if hi < 9 then 48 + hi else 57)) ↔ lo ≤ d ∧ d ≤ hi := by
      rw [d3, nI_leI (by omega) (by omega), nI_leI (by omega) (by split <;> omega)]
      split <;> omega
    have hc : (digP z p = -1 ∨ digP z p < nI lo ∨ nI hi < digP z p) ↔ ¬ (lo ≤ d ∧ d ≤ hi) := by
      rw [d4, nI_ltI (by omega) (by omega), nI_ltI (by omega) (by omega)]
      have := nI_m1 (n := d) (by omega)
      constructor
      · rintro (q | q | q)
        · exact absurd q this
        · omega
        · omega
      · intro q; omega
    rw [hb]
    unfold numP
    refine ⟨fun q => ?_, fun q => ?_⟩
    · rw [if_neg (fun w => (hc.mp w) q), en, d4]
      exact num_rel h hhi (61 - p) 61 d (p + 1) (by omega) (by omega) (by omega)
    · rw [if_pos (hc.mpr q)]
  · have hb : ¬ (nI (48 + lo) ≤ nxt z p ∧ nxt z p ≤ nI (if hi < 9 then 48 + hi else 57)) := by
      intro q
      apply d2
      obtain ⟨c, c1, c2⟩ := h.ch p
      rw [c2] at q ⊢
      rw [nI_leI (by omega) (by omega), nI_leI (by omega) (by split <;> omega)] at q
      have e48 : (48 : Int32) = nI 48 := rfl
      have e57 : (57 : Int32) = nI 57 := rfl
      rw [e48, e57, nI_leI (by omega) (by omega), nI_leI (by omega) (by omega)]
      split at q <;> omega
    refine ⟨fun q => absurd q hb, fun _ => ?_⟩
    unfold numP
    rw [if_pos (Or.inl d1)]
/-- a sign and a number: what the model's step makes, by what the class reads -/
theorem rd_rel {y : St} (h : SP y) {s : Int32} (hs : ¬ s = 0) (hsd : ¬ (48 ≤ s ∧ s ≤ 57)) {lo hi : Nat} (hlo : lo ≤ 1) (hhi : hi ≤ 59) (hh : lo ≤ hi) (i : Nat) (h84 : y 84 0 = 0) :
    (¬ sgnP y s (spN y) → ¬ rdN y s (nI lo) (nI hi) i 84 0 = 0 ∧ spN (rdN y s (nI lo) (nI hi) i) = spN y) ∧
    (sgnP y s (spN y) → spN (rdN y s (nI lo) (nI hi) i) = (numP y (nI lo) (nI hi) (spN y + 1)).2 ∧
      ((numP y (nI lo) (nI hi) (spN y + 1)).1 = -1 → ¬ rdN y s (nI lo) (nI hi) i 84 0 = 0 ∨ (rdN y s (nI lo) (nI hi) i 84 0 = 0 ∧ 48 ≤ nxt y (numP y (nI lo) (nI hi) (spN y + 1)).2 ∧ nxt y (numP y (nI lo) (nI hi) (spN y + 1)).2 ≤ 57)) ∧
      (¬ (numP y (nI lo) (nI hi) (spN y + 1)).1 = -1 → rdN y s (nI lo) (nI hi) i 84 0 = 0 ∧ rdN y s (nI lo) (nI hi) i 85 i = (numP y (nI lo) (nI hi) (spN y + 1)).1)) := by
  have hl := (pL h.1).2
  have hsl := h.2.2.1
  have e83 : ∀ w : St, spN (u2 w 85 i (numR (needZ y s) (nI lo) (nI hi))) = spN w := fun w => by unfold spN; rw [u2_f (by decide)]
  unfold rdN
  rw [e83]
  rw [u2_f (show 84 ≠ 85 by decide), u2_s]
  refine ⟨fun hn => ?_, fun hy => ?_⟩
  · have e : needZ y s = u2 y 84 0 1 := by
      unfold needZ
      rw [if_neg (fun q => hn ((sgn_nxt hs _).mpr q.2))]
    have e2 : numZ (u2 y 84 0 1) (nI lo) (nI hi) = u2 (u2 y 84 0 1) 84 0 1 := by
      unfold numZ
      rw [if_neg (fun q => by have := q.1; rw [u2_s] at this; exact absurd this (by decide))]
    rw [e, e2, u2_s]
    refine ⟨by decide, ?_⟩
    unfold spN; rw [u2_f (by decide), u2_f (by decide)]
  · have e : needZ y s = u2 (u2 y 84 0 0) 83 0 (nI (spN y + 1)) := by
      unfold needZ
      rw [if_pos ⟨h84, (sgn_nxt hs _).mp hy⟩]
    have hin : spN y < lenN y := hy.1
    rw [e]
    have hw : ∀ p, nxt (u2 (u2 y 84 0 0) 83 0 (nI (spN y + 1))) p = nxt y p := fun p => nxt_of (by rw [u2_f (by decide), u2_f (by decide)]) (by rw [u2_f (by decide), u2_f (by decide)]) p
    have hsp : spN (u2 (u2 y 84 0 0) 83 0 (nI (spN y + 1))) = spN y + 1 := by
      show cn (u2 _ 83 0 _ 83 0) = _
      rw [u2_s, cn_nI (by omega)]
    have hm : ∀ f v p, numM (u2 (u2 y 84 0 0) 83 0 (nI (spN y + 1))) (nI hi) f v p = numM y (nI hi) f v p := by
      intro f
      induction f with
      | zero => intro v p; rfl
      | succ f ih => intro v p; rw [numM, numM, hw, ih]
    have h84b : u2 (u2 y 84 0 0) 83 0 (nI (spN y + 1)) 84 0 = 0 := by rw [u2_f (by decide), u2_s]
    obtain ⟨r1, r2⟩ := numP_rel h.1 hlo hhi hh (p := spN y + 1) (by omega)
    by_cases hok : 48 + nI lo ≤ nxt y (spN y + 1) ∧ nxt y (spN y + 1) ≤ (if nI hi < 9 then 48 + nI hi else 57)
    · obtain ⟨k, k1, k2, k3, k4⟩ := r1 hok
      have hokN : okN (u2 (u2 y 84 0 0) 83 0 (nI (spN y + 1))) (nI lo) (nI hi) := by
        unfold okN
        rw [hsp, hw]
        exact ⟨h84b, hok⟩
      unfold numZ numR
      rw [if_pos hokN, if_pos hokN, hsp, hw, hm]
      have hb := numM_le y (nI hi) 61 (nxt y (spN y + 1) - 48) (spN y + 1 + 1) (by
        have : spN y + 1 < lenN y := nxt_in (fun q => by
          rw [q] at hok
          have e1 : (48 : Int32) + nI lo = nI (48 + lo) := nI_add 48 lo
          rw [e1] at hok
          have := (nI_leI (b := 0) (by omega) (by omega)).mp hok.1
          omega)
        omega)
      refine ⟨?_, fun q => ?_, fun q => ?_⟩
      · show cn (u2 _ 83 0 _ 83 0) = _
        rw [u2_s, cn_nI (by omega), k3]
      · right
        rw [u2_f (by decide), u2_s, k3]
        rcases k4 with w | w
        · rw [w] at q; exact absurd q (nI_m1 (by omega))
        · exact ⟨rfl, w.2⟩
      · rw [u2_f (by decide), u2_s, k2]
        rcases k4 with w | w
        · exact ⟨rfl, w.symm⟩
        · exact absurd w.1 q
    · have e2 := r2 hok
      have hokN : ¬ okN (u2 (u2 y 84 0 0) 83 0 (nI (spN y + 1))) (nI lo) (nI hi) := by
        unfold okN
        rw [hsp, hw]
        exact fun q => hok q.2
      unfold numZ numR
      rw [if_neg hokN, e2]
      refine ⟨?_, fun _ => Or.inl ?_, fun q => absurd rfl q⟩
      · unfold spN; rw [u2_f (by decide)]; exact hsp
      · rw [u2_s]; decide
/-- behind a fault a step changes nothing but the row -/
theorem rd_wrong {y : St} {s lo hi : Int32} {i : Nat} (h : ¬ y 84 0 = 0) : ¬ rdN y s lo hi i 84 0 = 0 ∧ spN (rdN y s lo hi i) = spN y := by
  have e : needZ y s = u2 y 84 0 1 := by unfold needZ; rw [if_neg (fun q => h q.1)]
  have e2 : numZ (u2 y 84 0 1) lo hi = u2 (u2 y 84 0 1) 84 0 1 := by
    unfold numZ
    rw [if_neg (fun q => by have := q.1; rw [u2_s] at this; exact absurd this (by decide))]
  unfold rdN
  rw [e, e2]
  refine ⟨by rw [u2_f (by decide), u2_s]; decide, ?_⟩
  unfold spN
  rw [u2_f (by decide), u2_f (by decide), u2_f (by decide)]
