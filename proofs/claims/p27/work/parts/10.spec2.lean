/-! ===== more words: what changes more than one place ===== -/
theorem u2_ne {z : St} {f i g j : Nat} {v : Int32} (h : g ≠ f ∨ j ≠ i) : u2 z f i v g j = z g j := by
  unfold u2
  rw [if_neg]
  rintro ⟨h1, h2⟩
  rcases h with h | h
  · exact h h1
  · exact h h2
theorem fwK_rng (z : St) (r d p : Int32) (k : Nat) : fwK z r d p k = -6 ∨ ∃ j, j < k ∧ fwK z r d p k = nI j ∧ z 15 j = 2 ∧ onP z j r d ∧ z 14 j ≤ p ∧ ¬ brdP z j := by
  induction k with
  | zero => exact Or.inl rfl
  | succ k ih =>
    by_cases h : (z 15 k = 2 ∧ onP z k r d ∧ z 14 k ≤ p ∧ ¬ brdP z k) ∧ (fwK z r d p k < 0 ∨ z 8 (cn (z 11 (cn (fwK z r d p k)))) < z 8 (cn (z 11 k)))
    · refine Or.inr ⟨k, by omega, ?_, h.1⟩
      rw [fwK, if_pos h]
    · have e : fwK z r d p (k + 1) = fwK z r d p k := by rw [fwK, if_neg h]
      rw [e]
      rcases ih with ih | ⟨j, h1, h2⟩
      · exact Or.inl ih
      · exact Or.inr ⟨j, by omega, h2⟩
theorem fw_in {z : St} (hI : IO z) {r d p : Int32} (h : ¬ fw z r d p < 0) : fw z r d p = nI (cn (fw z r d p)) ∧ cn (fw z r d p) < nA z ∧ z 15 (cn (fw z r d p)) = 2 ∧ onP z (cn (fw z r d p)) r d ∧ z 14 (cn (fw z r d p)) ≤ p ∧ ¬ brdP z (cn (fw z r d p)) := by
  have h40 := (iNa hI).2
  rcases fwK_rng z r d p (nA z) with e | ⟨j, h1, h2, h3⟩
  · exact absurd (show fw z r d p < 0 by unfold fw; rw [e]; decide) h
  · have e : fw z r d p = nI j := h2
    have e2 : cn (fw z r d p) = j := by rw [e, cn_nI (by omega)]
    rw [e2]
    exact ⟨e, h1, h3⟩
def serve1 (z : St) (b : Nat) : St := u2 (permit z b) 8 (cn (z 11 b)) 0
def serve (r d : Int32) : Nat → St → St
  | 0, z => z
  | f + 1, z => if fw z r d (leftP z r d) < 0 then z else serve r d f (serve1 z (cn (fw z r d (leftP z r d))))
theorem IO_permit {z : St} (h : IO z) (a : Nat) : IO (permit z a) := IO_u2 (IO_u2 h (by omega)) (by omega)
theorem IO_serve1 {z : St} (h : IO z) (b : Nat) : IO (serve1 z b) := IO_u2 (IO_permit h b) (by omega)
theorem nA_serve1 (z : St) (b : Nat) : nA (serve1 z b) = nA z := by
  unfold serve1 permit
  rw [nA_u2 (by omega), nA_u2 (by omega), nA_u2 (by omega)]
def laterF (z : St) (a : Nat) (last : Int32) : Nat → Nat → Int32
  | 0, _ => -6
  | n + 1, d => if nI d ≤ last then (if openP z (nI d) ∧ z 14 a ≤ freeP z (z 12 a) (nI d) then nI d else laterF z a last n (d + 1)) else -6
def lastD (z : St) (a : Nat) : Int32 := if 59 < z 13 a + z 4 4 then 59 else z 13 a + z 4 4
def later (z : St) (a : Nat) : Int32 := laterF z a (lastD z a) 61 (cn (z 13 a) + 1)
def refundZ (z : St) (a : Nat) : St := u2 (u2 (u2 z 15 a 4) 17 a (z 16 a)) 8 (cn (z 11 a)) (z 8 (cn (z 11 a)) + 2)
def move1 (z : St) (d : Int32) (a : Nat) : St := if z 15 a = 1 ∧ z 13 a = d then (if later z a < 0 then refundZ z a else u2 (u2 z 13 a (later z a)) 18 a 0) else z
def moved1 (z : St) (d : Int32) (a : Nat) : Int32 := if (z 15 a = 1 ∧ z 13 a = d) ∧ ¬ later z a < 0 then 1 else 0
def moveK (z : St) (d : Int32) : Nat → St
  | 0 => z
  | k + 1 => move1 (moveK z d k) d k
def movedK (z : St) (d : Int32) : Nat → Int32
  | 0 => 0
  | k + 1 => movedK z d k + moved1 (moveK z d k) d k
def judge1 (z : St) (a : Nat) : St := if z 15 a = 1 ∧ z 13 a = z 0 0 then (if z 18 a = 0 then strikeZ (u2 z 15 a 6) (cn (z 11 a)) (z 4 2) (z 0 0 + z 4 3) else u2 z 15 a 5) else z
def missed1 (z : St) (a : Nat) : Int32 := if (z 15 a = 1 ∧ z 13 a = z 0 0) ∧ z 18 a = 0 then 1 else 0
def judgeK (z : St) : Nat → St
  | 0 => z
  | k + 1 => judge1 (judgeK z k) k
def missedK (z : St) : Nat → Int32
  | 0 => 0
  | k + 1 => missedK z k + missed1 (judgeK z k) k
/-- an office copied onto another: the places that s tells -/
def cpS (z : St) (o1 o2 : Nat) (s : Nat → Nat → Bool) : St := fun f i => if (20 * o1 ≤ f ∧ f < 20 * o1 + 20) ∧ s (f - 20 * o1) i = true then z (20 * o2 + (f - 20 * o1)) i else z f i
theorem cpS_at {z : St} {o1 o2 : Nat} {s : Nat → Nat → Bool} (h : o1 ≠ o2) {f : Nat} (hf : f < 20) (i : Nat) : cpS z o1 o2 s (20 * o2 + f) i = z (20 * o2 + f) i := by
  unfold cpS
  rw [if_neg]
  omega
theorem cpS_u2 {z : St} {o1 o2 : Nat} {s : Nat → Nat → Bool} {f : Nat} (hf : f < 20) (i : Nat) : u2 (cpS z o1 o2 s) (20 * o1 + f) i (z (20 * o2 + f) i) = cpS z o1 o2 (fun g j => s g j || (g == f && j == i)) := by
  funext g j
  by_cases h : g = 20 * o1 + f ∧ j = i
  · obtain ⟨rfl, rfl⟩ := h
    rw [u2_s]
    unfold cpS
    rw [if_pos]
    · congr 1; omega
    · refine ⟨by omega, ?_⟩
      have : 20 * o1 + f - 20 * o1 = f := by omega
      simp [this]
  · unfold u2
    rw [if_neg h]
    unfold cpS
    by_cases h2 : 20 * o1 ≤ g ∧ g < 20 * o1 + 20
    · have e : ((g - 20 * o1 == f) && (j == i)) = false := by
        rw [Bool.and_eq_false_iff]
        by_cases h3 : g = 20 * o1 + f
        · right; simp; intro h4; exact h ⟨h3, h4⟩
        · left; simp; omega
      simp only [e, Bool.or_false]
    · simp only [h2, false_and, if_false]
theorem cpS_congr {z : St} {o1 o2 : Nat} {s s' : Nat → Nat → Bool} (h : ∀ f i, f < 20 → s f i = s' f i) : cpS z o1 o2 s = cpS z o1 o2 s' := by
  funext g j
  unfold cpS
  by_cases h2 : 20 * o1 ≤ g ∧ g < 20 * o1 + 20
  · simp only [h2, true_and]; rw [h _ _ (by omega)]
  · simp only [h2, false_and, if_false]
/-- how many places a field of an office has -/
def limF (f : Nat) : Nat := if f < 4 then 1 else if f < 7 then 6 else if f < 8 then 60 else if f < 11 then 12 else 40
def cpAll (z : St) (o1 o2 : Nat) : St := cpS z o1 o2 (fun f i => decide (i < limF f))
/-! lotteries: the class's rows -/
abbrev inL (z : St) (r d : Int32) (a : Nat) : Prop := z 15 a = 0 ∧ onP z a r d ∧ ¬ brdP z a
def enter1 (y : St) (r d : Int32) (k : Nat) : St := if inL y r d k then u2 (u2 (u2 (u2 (u2 y 61 (cn (y 66 0)) (nI k)) 62 (cn (y 66 0)) (y 14 k)) 63 (cn (y 66 0)) (tkt y k)) 67 0 (y 67 0 + tkt y k)) 66 0 (y 66 0 + 1) else y
def enterK (z : St) (r d : Int32) : Nat → St
  | 0 => u2 (u2 z 66 0 0) 67 0 0
  | k + 1 => enter1 (enterK z r d k) r d k
theorem enter1_lo (z : St) (r d : Int32) (k : Nat) {f : Nat} (hf : f < 61 ∨ f = 64 ∨ f = 65 ∨ 67 < f) : enter1 z r d k f = z f := by
  unfold enter1
  split
  · rw [u2_f (by omega), u2_f (by omega), u2_f (by omega), u2_f (by omega), u2_f (by omega)]
  · rfl
theorem enterK_lo (z : St) (r d : Int32) (k : Nat) {f : Nat} (hf : f < 61 ∨ f = 64 ∨ f = 65 ∨ 67 < f) : enterK z r d k f = z f := by
  induction k with
  | zero => unfold enterK; rw [u2_f (by omega), u2_f (by omega)]
  | succ k ih => rw [enterK, enter1_lo _ _ _ _ hf]; exact ih
theorem enter1_66 {y : St} {r d : Int32} {k : Nat} (h : y 66 0 = nI (cn (y 66 0)) ∧ cn (y 66 0) ≤ k) (hk : k < 2 ^ 30) : enter1 y r d k 66 0 = nI (cn (enter1 y r d k 66 0)) ∧ cn (enter1 y r d k 66 0) ≤ k + 1 := by
  unfold enter1
  split
  · rw [u2_s]
    have e : y 66 0 + 1 = nI (cn (y 66 0) + 1) := by
      conv => lhs; rw [h.1]
      exact nI_1 _
    rw [e, cn_nI (by omega)]
    exact ⟨rfl, by omega⟩
  · exact ⟨h.1, by omega⟩
def seedN (s : Int32) : Int32 := if (75 * s + 74) - (75 * s + 74) / 65537 * 65537 = 65536 then 0 else (75 * s + 74) - (75 * s + 74) / 65537 * 65537
/-- the entry at which the sum becomes greater than x, of the first k: the sum, the last one that was not drawn -/
def entS (z : St) (x : Int32) : Nat → Int32 × Int32
  | 0 => (0, 0)
  | k + 1 => if (entS z x k).1 ≤ x ∧ z 64 k = 0 then ((entS z x k).1 + z 63 k, nI k) else entS z x k
theorem entS_rng (z : St) (x : Int32) (k : Nat) : ∃ j, (entS z x k).2 = nI j ∧ (j < k ∨ j = 0) := by
  induction k with
  | zero => exact ⟨0, rfl, Or.inr rfl⟩
  | succ k ih =>
    obtain ⟨j, h1, h2⟩ := ih
    unfold entS
    split
    · exact ⟨k, rfl, Or.inl (by omega)⟩
    · exact ⟨j, h1, by omega⟩
theorem entS_stop {z : St} {x : Int32} {k : Nat} (h : ¬ (entS z x k).1 ≤ x) : ∀ m, k ≤ m → entS z x m = entS z x k := by
  intro m
  induction m with
  | zero => intro hm; have : k = 0 := by omega
            subst this; rfl
  | succ m ih =>
    intro hm
    by_cases e : k = m + 1
    · subst e; rfl
    · have ih := ih (by omega)
      have h1 : ¬ ((entS z x m).1 ≤ x ∧ z 64 m = 0) := by
        rw [ih]
        intro h2
        exact h h2.1
      rw [entS, if_neg h1, ih]
/-- one draw: the rows, the seed, the places left, the tickets left -/
def hstp (E : Nat) (q : St × Int32 × Int32 × Int32) : St × Int32 × Int32 × Int32 :=
  if q.2.2.2 ≤ 0 then q else
  (u2 (u2 q.1 64 (cn (entS q.1 (seedN q.2.1 - seedN q.2.1 / q.2.2.2 * q.2.2.2) E).2) 1) 65 (cn (entS q.1 (seedN q.2.1 - seedN q.2.1 / q.2.2.2 * q.2.2.2) E).2) (bi (q.1 62 (cn (entS q.1 (seedN q.2.1 - seedN q.2.1 / q.2.2.2 * q.2.2.2) E).2) ≤ q.2.2.1)),
   seedN q.2.1,
   if q.1 62 (cn (entS q.1 (seedN q.2.1 - seedN q.2.1 / q.2.2.2 * q.2.2.2) E).2) ≤ q.2.2.1 then q.2.2.1 - q.1 62 (cn (entS q.1 (seedN q.2.1 - seedN q.2.1 / q.2.2.2 * q.2.2.2) E).2) else q.2.2.1,
   q.2.2.2 - q.1 63 (cn (entS q.1 (seedN q.2.1 - seedN q.2.1 / q.2.2.2 * q.2.2.2) E).2))
def holdK (E : Nat) (q : St × Int32 × Int32 × Int32) : Nat → St × Int32 × Int32 × Int32
  | 0 => q
  | k + 1 => hstp E (holdK E q k)
theorem hstp_lo (E : Nat) (q : St × Int32 × Int32 × Int32) {f : Nat} (h : f ≠ 64 ∧ f ≠ 65) : (hstp E q).1 f = q.1 f := by
  unfold hstp
  split
  · rfl
  · show u2 _ _ _ _ f = _
    rw [u2_f h.2, u2_f h.1]
theorem holdK_lo (E : Nat) (q : St × Int32 × Int32 × Int32) (k : Nat) {f : Nat} (h : f ≠ 64 ∧ f ≠ 65) : (holdK E q k).1 f = q.1 f := by
  induction k with
  | zero => rfl
  | succ k ih => rw [holdK, hstp_lo _ _ h]; exact ih
theorem holdK_stop {E : Nat} {q : St × Int32 × Int32 × Int32} {k : Nat} (h : (holdK E q k).2.2.2 ≤ 0) : ∀ m, k ≤ m → holdK E q m = holdK E q k := by
  intro m
  induction m with
  | zero => intro hm; have : k = 0 := by omega
            subst this; rfl
  | succ m ih =>
    intro hm
    by_cases e : k = m + 1
    · subst e; rfl
    · have ih := ih (by omega)
      rw [holdK, ih, hstp, if_pos h]
def clrD (z : St) (E : Nat) : St := fun f i => if f = 64 ∧ i < E then 0 else z f i
theorem clrD_lo {z : St} {E f : Nat} (h : f ≠ 64) : clrD z E f = z f := by funext i; simp [clrD, h]
theorem clrD_u2 (z : St) (k : Nat) : u2 (clrD z k) 64 k 0 = clrD z (k + 1) := by
  funext f i
  unfold u2 clrD
  by_cases h : f = 64
  · subst h
    by_cases h2 : i = k
    · subst h2; simp
    · by_cases h3 : i < k
      · have : i < k + 1 := by omega
        simp [h2, h3, this]
      · have : ¬ i < k + 1 := by omega
        simp [h2, h3, this]
  · simp [h]
theorem clrD_0 (z : St) : clrD z 0 = z := by funext f i; simp [clrD]
def hold0 (z : St) (seed places : Int32) : St × Int32 × Int32 × Int32 := holdK (cn (z 66 0)) (clrD z (cn (z 66 0)), seed, places, z 67 0) (cn (z 66 0))
def settle1 (z : St) (e : Nat) : St := if z 65 e = 0 then u2 z 8 (cn (z 11 (cn (z 61 e)))) (z 8 (cn (z 11 (cn (z 61 e)))) + 1) else u2 (permit z (cn (z 61 e))) 8 (cn (z 11 (cn (z 61 e)))) 0
def settleK (z : St) : Nat → St
  | 0 => z
  | k + 1 => settle1 (settleK z k) k
def wonK (z : St) : Nat → Int32
  | 0 => 0
  | k + 1 => if z 65 k = 0 then wonK z k else wonK z k + 1
theorem settle1_lo (z : St) (e : Nat) {f : Nat} (h : f ≠ 8 ∧ f ≠ 15 ∧ f ≠ 16) : settle1 z e f = z f := by
  unfold settle1 permit
  split
  · rw [u2_f h.1]
  · rw [u2_f h.1, u2_f h.2.2, u2_f h.2.1]
theorem settleK_lo (z : St) (k : Nat) {f : Nat} (h : f ≠ 8 ∧ f ≠ 15 ∧ f ≠ 16) : settleK z k f = z f := by
  induction k with
  | zero => rfl
  | succ k ih => rw [settleK, settle1_lo _ _ h]; exact ih
theorem IO_of {z y : St} (h : IO z) (e : ∀ f, f = 0 ∨ f = 1 ∨ f = 2 ∨ f = 3 ∨ f = 11 ∨ f = 12 ∨ f = 13 → y f = z f) : IO y := by
  unfold IO nA
  rw [e 0 (by omega), e 1 (by omega), e 2 (by omega), e 3 (by omega), e 11 (by omega), e 12 (by omega), e 13 (by omega)]
  exact h
theorem nA_of {z y : St} (e : y 3 = z 3) : nA y = nA z := by unfold nA; rw [e]
theorem cpS_none (z : St) (o1 o2 : Nat) : cpS z o1 o2 (fun _ _ => false) = z := by funext f i; simp [cpS]
theorem cp_start (z : St) (o1 o2 : Nat) (h : o1 ≠ o2) : u2 (u2 (u2 (u2 z (20 * o1 + 0) 0 (z (20 * o2 + 0) 0)) (20 * o1 + 1) 0 (z (20 * o2 + 1) 0)) (20 * o1 + 2) 0 (z (20 * o2 + 2) 0)) (20 * o1 + 3) 0 (z (20 * o2 + 3) 0) = cpS z o1 o2 (fun f i => decide (f < 4 ∧ i = 0) || decide (4 < f ∧ f < 7 ∧ i < 0)) := by
  conv => lhs; rw [← cpS_none z o1 o2]
  rw [cpS_none z o1 o2]
  have e := cpS_u2 (z := z) (o1 := o1) (o2 := o2) (s := fun _ _ => false) (f := 0) (by decide) 0
  rw [cpS_none] at e
  rw [e, cpS_u2 (by decide), cpS_u2 (by decide), cpS_u2 (by decide)]
  refine cpS_congr (fun f i hf => ?_)
  rw [Bool.eq_iff_iff]
  simp
  omega
theorem mem_serve1 {z : St} (h : ∀ c, c < 12 → 0 ≤ z 8 c) (b : Nat) : ∀ c, c < 12 → 0 ≤ serve1 z b 8 c := by
  intro c hc
  unfold serve1 permit u2
  split
  · decide
  · simp; exact h c hc
/-- the first e of n, from e0 on, that is so, or none -/
def fstF (p : Nat → Bool) : Nat → Nat → Int32
  | 0, _ => -6
  | n + 1, e => if p e = true then nI e else fstF p n (e + 1)
theorem fstF_rng (p : Nat → Bool) : ∀ (n e : Nat), fstF p n e = -6 ∨ ∃ j, e ≤ j ∧ j < e + n ∧ fstF p n e = nI j ∧ p j = true := by
  intro n
  induction n with
  | zero => intro e; exact Or.inl rfl
  | succ n ih =>
    intro e
    unfold fstF
    split
    · rename_i h
      exact Or.inr ⟨e, by omega, by omega, rfl, h⟩
    · rcases ih (e + 1) with h | ⟨j, h1, h2, h3, h4⟩
      · exact Or.inl h
      · exact Or.inr ⟨j, by omega, by omega, h3, h4⟩
def entOf (z : St) (x : Int32) : Int32 := fstF (fun e => decide (z 61 e = x)) (cn (z 66 0)) 0
theorem lastD_le {z : St} {a d : Nat} (hd : d < 2 ^ 30) (h : nI d ≤ lastD z a) : d ≤ 59 := by
  have e : lastD z a ≤ 59 := by
    unfold lastD
    split
    · exact Int32.le_refl _
    · rename_i h2; exact Int32.not_lt.mp h2
  have := Int32.le_trans h e
  exact (nI_leI (b := 59) (by omega) (by omega)).mp this
theorem laterF_in (z : St) (a : Nat) (last : Int32) : ∀ (f d : Nat), laterF z a last f d = -6 ∨ ∃ j, j < 60 ∧ laterF z a last f d = nI j ∧ openP z (nI j) := by
  intro f
  induction f with
  | zero => intro d; exact Or.inl rfl
  | succ f ih =>
    intro d
    unfold laterF
    split
    · split
      · rename_i h1 h2
        have h3 := rng0 (n := 60) (by decide) h2.1.2.1.1 h2.1.2.1.2
        refine Or.inr ⟨cn (nI d), h3.2, h3.1, ?_⟩
        rw [← h3.1]; exact h2.1
      · exact ih (d + 1)
    · exact Or.inl rfl
theorem later_in {z : St} {a : Nat} (h : ¬ later z a < 0) : later z a = nI (cn (later z a)) ∧ cn (later z a) < 60 := by
  rcases laterF_in z a (lastD z a) 61 (cn (z 13 a) + 1) with e | ⟨j, h1, h2, -⟩
  · exact absurd (show later z a < 0 by unfold later; rw [e]; decide) h
  · have e : later z a = nI j := h2
    rw [e, cn_nI (by omega)]; exact ⟨rfl, h1⟩
theorem IO_day {z : St} (h : IO z) {a j : Nat} (hj : j < 60) : IO (u2 z 13 a (nI j)) := by
  unfold IO nA
  rw [u2_f (show 0 ≠ 13 by decide), u2_f (show 1 ≠ 13 by decide), u2_f (show 2 ≠ 13 by decide), u2_f (show 3 ≠ 13 by decide), u2_f (show 11 ≠ 13 by decide), u2_f (show 12 ≠ 13 by decide)]
  refine ⟨h.1, h.2.1, h.2.2.1, h.2.2.2.1, fun b hb => ⟨(h.2.2.2.2 b hb).1, (h.2.2.2.2 b hb).2.1, ?_⟩⟩
  by_cases e : b = a
  · subst e; rw [u2_s]; exact ⟨j, hj, rfl⟩
  · rw [u2_i _ e]; exact (h.2.2.2.2 b hb).2.2
theorem IO_move1 {z : St} (h : IO z) (d : Int32) (a : Nat) : IO (move1 z d a) := by
  unfold move1
  split
  · split
    · exact IO_u2 (IO_u2 (IO_u2 h (by omega)) (by omega)) (by omega)
    · rename_i h1 h2
      obtain ⟨e1, e2⟩ := later_in h2
      rw [e1]
      exact IO_u2 (IO_day h e2) (by omega)
  · exact h
theorem move1_lo (z : St) (d : Int32) (a : Nat) {f : Nat} (hf : f ≠ 8 ∧ f ≠ 13 ∧ f ≠ 15 ∧ f ≠ 17 ∧ f ≠ 18) : move1 z d a f = z f := by
  unfold move1 refundZ
  split
  · split
    · rw [u2_f (by omega), u2_f (by omega), u2_f (by omega)]
    · rw [u2_f (by omega), u2_f (by omega)]
  · rfl
theorem IO_strikeZ {z : St} (h : IO z) (i : Nat) (a b : Int32) : IO (strikeZ z i a b) := by
  unfold strikeZ
  split
  · exact IO_u2 (IO_u2 (IO_u2 h (by omega)) (by omega)) (by omega)
  · exact IO_u2 h (by omega)
theorem strikeZ_lo (z : St) (i : Nat) (a b : Int32) {f : Nat} (hf : f ≠ 9 ∧ f ≠ 10) : strikeZ z i a b f = z f := by
  unfold strikeZ
  split
  · rw [u2_f (by omega), u2_f (by omega), u2_f (by omega)]
  · rw [u2_f (by omega)]
theorem IO_judge1 {z : St} (h : IO z) (a : Nat) : IO (judge1 z a) := by
  unfold judge1
  split
  · split
    · exact IO_strikeZ (IO_u2 h (by omega)) _ _ _
    · exact IO_u2 h (by omega)
  · exact h
theorem judge1_lo (z : St) (a : Nat) {f : Nat} (hf : f ≠ 9 ∧ f ≠ 10 ∧ f ≠ 15) : judge1 z a f = z f := by
  unfold judge1
  split
  · split
    · rw [strikeZ_lo _ _ _ _ (by omega), u2_f (by omega)]
    · rw [u2_f (by omega)]
  · rfl
def hq (z : St) (seed places : Int32) (k : Nat) : St × Int32 × Int32 × Int32 := holdK (cn (z 66 0)) (clrD z (cn (z 66 0)), seed, places, z 67 0) k
theorem hq_lo (z : St) (seed places : Int32) (k : Nat) {f : Nat} (h : f ≠ 64 ∧ f ≠ 65) : (hq z seed places k).1 f = z f := by
  unfold hq
  rw [holdK_lo _ _ _ h]
  exact clrD_lo h.1
theorem entS_in (z : St) (x : Int32) {E : Nat} (hE : 0 < E) (hE2 : E < 2 ^ 31) : (entS z x E).2 = nI (cn (entS z x E).2) ∧ cn (entS z x E).2 < E := by
  obtain ⟨j, h1, h2⟩ := entS_rng z x E
  rw [h1, cn_nI (by omega)]
  exact ⟨rfl, by omega⟩
theorem cp_end (z : St) (o1 o2 : Nat) : cpS z o1 o2 (fun f i => decide (f < 4 ∧ i = 0) || decide (4 < f ∧ f < 7 ∧ i < 6) || decide (7 < f ∧ f < 11 ∧ i < 12) || decide (10 < f ∧ f < 20 ∧ i < 40) || decide (f = 7 ∧ i < 60) || decide (f = 4 ∧ i < 6)) = cpAll z o1 o2 := by
  refine cpS_congr (fun f i hf => ?_)
  rw [Bool.eq_iff_iff]
  simp only [Bool.or_eq_true, decide_eq_true_eq]
  unfold limF
  (repeat' split) <;> omega
