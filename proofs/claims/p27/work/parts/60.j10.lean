/-! ===== odds ===== -/
abbrev a_t (z : St) (a : Nat) : Nat := cn (tkt z a)
def tiF (z : St) (r d a : Nat) : Nat := if iL z r d a then a_t z a else 0
def odF (z : St) (r d a : Nat) : Nat := if iL z r d a then 1000000 * a_t z a / nS (tiF z r d) (nA z) else 0
theorem nS_split {t f : Nat → Nat} {L : Nat → Prop} [DecidablePred L] {T : Nat} (hT : 0 < T) (hf : ∀ a, f a = if L a then 1000000 * t a / T else 0) : ∀ n, nS f n * T ≤ 1000000 * nS (fun a => if L a then t a else 0) n ∧ 1000000 * nS (fun a => if L a then t a else 0) n ≤ nS f n * T + n * (T - 1) := by
  intro n
  induction n with
  | zero => exact ⟨by show 0 * T ≤ 1000000 * 0; omega, by show 1000000 * 0 ≤ 0 * T + 0 * (T - 1); omega⟩
  | succ n ih =>
    obtain ⟨h1, h2⟩ := ih
    show (nS f n + f n) * T ≤ 1000000 * (nS _ n + (if L n then t n else 0)) ∧ 1000000 * (nS _ n + (if L n then t n else 0)) ≤ (nS f n + f n) * T + (n + 1) * (T - 1)
    rw [Nat.add_mul, Nat.mul_add, Nat.add_mul, Nat.one_mul, hf n]
    split
    · have q1 := Nat.div_mul_le_self (1000000 * t n) T
      have q2 := Nat.lt_div_mul_add (a := 1000000 * t n) hT
      omega
    · rw [Nat.zero_mul]
      omega
theorem odd_sum {z : St} {r d : Nat} : nS (odF z r d) (nA z) ≤ 1000000 ∧ (nS (odF z r d) (nA z) = 0 ∨ 1000000 ≤ nS (odF z r d) (nA z) + nA z) := by
  by_cases h : 0 < nS (tiF z r d) (nA z)
  · obtain ⟨h1, h2⟩ := nS_split (t := a_t z) (f := odF z r d) (L := iL z r d) h (fun a => rfl) (nA z)
    have e : nS (fun a => if iL z r d a then a_t z a else 0) (nA z) = nS (tiF z r d) (nA z) := rfl
    rw [e] at h1 h2
    generalize nS (tiF z r d) (nA z) = T at *
    generalize nS (odF z r d) (nA z) = S at *
    have k1 : S ≤ 1000000 := Nat.le_of_mul_le_mul_right h1 h
    refine ⟨k1, Or.inr ?_⟩
    have k2 : 1000000 * T ≤ (S + nA z) * T := by
      rw [Nat.add_mul]
      have : nA z * (T - 1) ≤ nA z * T := Nat.mul_le_mul_left _ (by omega)
      omega
    exact Nat.le_of_mul_le_mul_right k2 h
  · have e : nS (odF z r d) (nA z) = 0 := by
      refine nS_0 (fun a ha => ?_)
      unfold odF
      have : nS (tiF z r d) (nA z) = 0 := by omega
      rw [this, Nat.div_zero]
      split <;> rfl
    rw [e]
    exact ⟨by omega, Or.inl rfl⟩
theorem odds_ans {z : St} {b : Nat} (h : JI z b) {r d a : Nat} (hr : r < NR z) (hd : d < 60) (ha : a < nA z) (hn : iN z r d a) :
    (iL z r d a → (cOdds z (nI a)).1 = nI (odF z r d a)) ∧ (¬ iL z r d a → (cOdds z (nI a)).1 = -5) ∧ ∀ f, f < 61 ∨ 67 < f → (cOdds z (nI a)).2 f = z f := by
  have hO := h.oi
  have hB : b ≤ 100000 := by have := h.bb; omega
  have hTk := hO.tk hB
  have h40 := h.na.2
  have hr6 : r < 6 := by have := h.nr.2.1; omega
  obtain ⟨e1, e2⟩ := odds_eq (x := nI a) h.io hO.h87 hTk
  obtain ⟨⟨e11, c1, c12⟩, ⟨e12, -, r6⟩, ⟨e13, d6⟩, -, ⟨e15, s7⟩, -⟩ := h.ap ha
  have ez12 : z 12 a = nI r := by rw [e12, hn.2.1]
  have ez13 : z 13 a = nI d := by rw [e13, hn.2.2]
  have ez15 : z 15 a = 0 := by rw [e15, hn.1]; rfl
  have h87 := hO.h87 a ha
  have eM : mOdds z (nI a) = if ¬ z 15 a = 0 ∨ z 13 a ≤ z 10 (a_c z a) then -5 else (1000000 * (tkt z a).toInt64 / (odS z (z 12 a) (z 13 a) (nA z)).toInt64).toInt32 := by
    unfold mOdds
    rw [if_neg (not_not_intro (h.aP ha)), cn_a h ha, h87]
  refine ⟨fun w => ?_, fun w => ?_, e2⟩
  · have hc : ¬ (¬ z 15 a = 0 ∨ z 13 a ≤ z 10 (a_c z a)) := fun q => q.elim (fun q => q ez15) (fun q => by rw [ez13] at q; exact absurd w.2 (Int32.not_lt.mpr q))
    rw [e1, eM, if_neg hc, ez12, ez13]
    have eS : odS z (nI r) (nI d) (nA z) = nI (nS (tiF z r d) (nA z)) := by
      unfold odS
      refine sm_nS (fun x hx => ?_)
      have hL := inL_n hO hr6 hd hx
      have hio := inO_iff (r := nI r) (d := nI d) hO.h87 hx
      unfold tiF
      by_cases q : iL z r d x
      · rw [if_pos (hio.mpr (hL.mpr q)), if_pos q]; exact (hTk x hx).1
      · rw [if_neg (fun k => q (hL.mp (hio.mp k))), if_neg q]; rfl
    have hti : tiF z r d a = a_t z a := by unfold tiF; rw [if_pos w]
    have hpos : 0 < nS (tiF z r d) (nA z) := by
      have := nS_pos (t := tiF z r d) ha
      have q3 : 0 < a_t z a := (hTk a ha).2.1
      omega
    have hle : nS (tiF z r d) (nA z) ≤ 1000000 * nA z := nS_le (fun x hx => by
      unfold tiF
      split
      · exact (hTk x hx).2.2
      · omega)
    have t1 := (hTk a ha).1
    have t3 : a_t z a ≤ 1000000 := (hTk a ha).2.2
    have e14 : (tkt z a).toInt64 = lN (a_t z a) := by
      conv => lhs; rw [t1]
      exact nI_l (n := a_t z a) (by omega)
    rw [eS, nI_l (by omega), e14, show (1000000 : Int64) = lN 1000000 from rfl, lN_mul, pk_lDiv (by omega) hpos (by omega), lN_i]
    unfold odF
    rw [if_pos w]
  · rw [e1, eM, if_pos (Or.inr ?_)]
    rw [ez13]
    exact Int32.not_lt.mp (fun q => w ⟨hn, q⟩)
