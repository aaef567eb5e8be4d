/-! ===== the model's odds and tries, its reader, its puts and loads ===== -/
abbrev inO (z : St) (r d : Int32) (a : Nat) : Prop := onP z a r d ∧ z 15 a = 0 ∧ ¬ d ≤ z 87 (cn (z 11 a))
def odS (z : St) (r d : Int32) (k : Nat) : Int32 := sm (fun a => if inO z r d a then tkt z a else 0) k
def mOdds (z : St) (x : Int32) : Int32 := if ¬ appP z x then -1 else if ¬ z 15 (cn x) = 0 ∨ z 13 (cn x) ≤ z 87 (cn (z 11 (cn x))) then -5 else (1000000 * (tkt z (cn x)).toInt64 / (odS z (z 12 (cn x)) (z 13 (cn x)) (nA z)).toInt64).toInt32
/-- places of a field in the row -/
theorem limF_k {f i : Nat} (hf : f < 20) (hi : i < limF f) : kO f i < 478 ∧ fO (kO f i) = f ∧ iO (kO f i) = i := by
  unfold limF at hi
  unfold kO fO iO
  (repeat' split at hi) <;> (repeat' split) <;> omega
theorem at_k {z y : St} {o : Nat} (h : ∀ k, k < 478 → atF y o k = atF z o k) {f i : Nat} (hf : f < 20) (hi : i < limF f) : y (gO o f) i = z (gO o f) i := by
  obtain ⟨h1, h2, h3⟩ := limF_k hf hi
  have := h _ h1
  unfold atF at this
  rw [h2, h3] at this
  exact this
theorem cpK_s (z : St) {o : Nat} (ho : o < 3) (v : Nat → Int32) {k : Nat} (hk : k < 478) : atF (cpK z o 478 v) o k = v k := by
  unfold atF cpK
  rw [if_pos]
  · rw [kOf_g ho]
  · unfold inK
    simp only [List.any_eq_true, List.mem_range, Bool.and_eq_true, beq_iff_eq]
    exact ⟨k, hk, rfl, rfl⟩
/-- two states have the same cells of office 0, but the seed -/
def SameO (z y : St) : Prop := ∀ k, k < 478 → k ≠ 9 → atF y 0 k = atF z 0 k
theorem same_f {z y : St} (h : SameO z y) {f i : Nat} (hf : f < 20) (hi : i < limF f) (h9 : ¬ (f = 4 ∧ i = 5)) : y (gO 0 f) i = z (gO 0 f) i := by
  obtain ⟨h1, h2, h3⟩ := limF_k hf hi
  have : kO f i ≠ 9 := by
    unfold limF at hi
    unfold kO
    (repeat' split at hi) <;> (repeat' split) <;> omega
  have := h _ h1 this
  unfold atF at this
  rw [h2, h3] at this
  exact this
theorem same_g {z y : St} (h : SameO z y) {f i : Nat} (hf : f < 20 ∧ f ≠ 10) (hi : i < limF f) (h9 : ¬ (f = 4 ∧ i = 5)) : y f i = z f i := by
  have := same_f h hf.1 hi h9
  rw [gO_ne hf.2] at this
  exact this
theorem same_87 {z y : St} (h : SameO z y) {i : Nat} (hi : i < 12) : y 87 i = z 87 i := same_f h (f := 10) (by decide) (by simpa [limF] using hi) (by omega)
theorem same_nA {z y : St} (h : SameO z y) : nA y = nA z := by unfold nA; rw [same_g h (f := 3) (i := 0) (by decide) (by decide) (by decide)]
theorem same_IO {z y : St} (h : SameO z y) (hI : IO z) : IO y := by
  unfold IO
  rw [same_nA h, same_g h (f := 0) (i := 0) (by decide) (by decide) (by decide), same_g h (f := 1) (i := 0) (by decide) (by decide) (by decide), same_g h (f := 2) (i := 0) (by decide) (by decide) (by decide), same_g h (f := 3) (i := 0) (by decide) (by decide) (by decide)]
  refine ⟨hI.1, hI.2.1, hI.2.2.1, hI.2.2.2.1, fun a ha => ?_⟩
  have h40 := (iNa hI).2
  rw [same_g h (f := 11) (i := a) (by decide) (by simp [limF]; omega) (by omega), same_g h (f := 12) (i := a) (by decide) (by simp [limF]; omega) (by omega), same_g h (f := 13) (i := a) (by decide) (by simp [limF]; omega) (by omega)]
  exact hI.2.2.2.2 a ha
theorem drw_lo (r d : Int32) {f : Nat} (h : f ≠ 4 ∧ f ≠ 15 ∧ f ≠ 16 ∧ f ≠ 81) : ∀ (n : Nat) (y : St) (g : Int32), (drw r d n y g).2 f = y f := by
  intro n
  induction n with
  | zero => intro y g; rfl
  | succ n ih =>
    intro y g
    unfold drw
    split
    · rfl
    · rw [ih, drw1_lo _ _ _ h]
theorem drw_seed (r d : Int32) : ∀ (n : Nat) (y : St) (g : Int32), (∃ s, s < 65536 ∧ y 4 5 = nI s) → ∃ s, s < 65536 ∧ (drw r d n y g).2 4 5 = nI s := by
  intro n
  induction n with
  | zero => intro y g h; exact h
  | succ n ih =>
    intro y g h
    unfold drw
    split
    · exact h
    · exact ih _ _ (drw1_seed h r d)
theorem mHold_lo (z : St) (r d : Int32) {f : Nat} (h : f ≠ 4 ∧ f ≠ 8 ∧ f ≠ 15 ∧ f ≠ 16 ∧ f ≠ 81 ∧ f ≠ 82) : (mHold z r d).2 f = z f := by
  unfold mHold
  show remM _ _ f = _
  rw [remM_lo _ _ h.2.1, drw_lo r d ⟨h.1, h.2.2.1, h.2.2.2.1, h.2.2.2.2.1⟩, enterM_lo _ _ _ _ ⟨h.2.2.2.2.2, h.2.2.2.2.1, h.2.2.1⟩]
theorem mHold_seed {z : St} (h : ∃ s, s < 65536 ∧ z 4 5 = nI s) (r d : Int32) : ∃ s, s < 65536 ∧ (mHold z r d).2 4 5 = nI s := by
  unfold mHold
  show ∃ s, s < 65536 ∧ remM _ _ 4 5 = nI s
  rw [remM_lo _ _ (by decide)]
  refine drw_seed r d _ _ _ ?_
  rw [enterM_lo _ _ _ _ (by decide)]
  exact h
/-- a try: the lottery is held, all is as it was but the seed -/
def try1 (y : St) (q : Int32) (d : Int32) : St := u2 (cpK (mHold y q d).2 0 478 (fun j => (mHold y q d).2 80 j)) 4 5 ((mHold y q d).2 4 5)
def tryK (z : St) (q d : Int32) : Nat → St
  | 0 => asK z 478
  | k + 1 => try1 (tryK z q d k) q d
def tryW (z : St) (q d : Int32) (a : Nat) : Nat → Int32
  | 0 => 0
  | k + 1 => tryW z q d a k + (if 0 < (mHold (tryK z q d k) q d).1 ∧ (mHold (tryK z q d k) q d).2 15 a = 1 then 1 else 0)
theorem at9 (z : St) (v : Int32) {k : Nat} (hk : k ≠ 9) : atF (u2 z 4 5 v) 0 k = atF z 0 k := by
  have := atF_u2 z (o := 0) (o2 := 0) (q := 9) v (by decide) (by decide) k
  rw [if_neg (by omega)] at this
  exact this
/-- what holds between the tries -/
def TrI (z y : St) : Prop := SameO z y ∧ (∀ k, k < 478 → y 80 k = atF z 0 k) ∧ (∃ s, s < 65536 ∧ y 4 5 = nI s) ∧ y 68 = z 68 ∧ y 69 = z 69
theorem TrI_0 {z : St} (h : ∃ s, s < 65536 ∧ z 4 5 = nI s) : TrI z (asK z 478) := by
  refine ⟨fun k hk _ => atF_of (by decide) (fun f hf => asK_lo z 478 (by omega)) k, fun k hk => ?_, ?_, asK_lo z 478 (by decide), asK_lo z 478 (by decide)⟩
  · unfold asK; rw [if_pos ⟨rfl, hk⟩]
  · rw [asK_lo z 478 (by decide)]; exact h
theorem TrI_s {z y : St} (h : TrI z y) (q d : Int32) : TrI z (try1 y q d) := by
  obtain ⟨h1, h2, h3, h4, h5⟩ := h
  have hs := mHold_seed h3 q d
  have e80 : (mHold y q d).2 80 = y 80 := mHold_lo y q d (by decide)
  unfold try1
  refine ⟨fun k hk h9 => ?_, fun k hk => ?_, ?_, ?_, ?_⟩
  · rw [at9 _ _ h9, cpK_s _ (by decide) _ hk, e80, h2 k hk]
  · rw [u2_f (by decide), cpK_hi _ (by decide) _ (by decide), e80, h2 k hk]
  · rw [u2_s]; exact hs
  · rw [u2_f (by decide), cpK_hi _ (by decide) _ (by decide), mHold_lo y q d (by decide), h4]
  · rw [u2_f (by decide), cpK_hi _ (by decide) _ (by decide), mHold_lo y q d (by decide), h5]
theorem TrI_IO {z y : St} (h : TrI z y) (hI : IO z) : IO y := same_IO h.1 hI
theorem TrI_16 {z y : St} (h : TrI z y) (hI : IO z) (h16 : ∀ a, a < nA z → (z 15 a = 0 ∨ z 15 a = 2) → z 16 a = 0) : ∀ a, a < nA y → (y 15 a = 0 ∨ y 15 a = 2) → y 16 a = 0 := by
  have h40 := (iNa hI).2
  intro a ha
  rw [same_nA h.1] at ha
  rw [same_g h.1 (f := 15) (i := a) (by decide) (by simp [limF]; omega) (by omega), same_g h.1 (f := 16) (i := a) (by decide) (by simp [limF]; omega) (by omega)]
  exact h16 a ha
theorem TrI_pay {z y : St} (h : TrI z y) (hI : IO z) (hp : ∀ a, a < nA z → 0 < z 4 0 * z 14 a) : ∀ a, a < nA y → 0 < y 4 0 * y 14 a := by
  have h40 := (iNa hI).2
  intro a ha
  rw [same_nA h.1] at ha
  rw [same_g h.1 (f := 14) (i := a) (by decide) (by simp [limF]; omega) (by omega), same_g h.1 (f := 4) (i := 0) (by decide) (by decide) (by decide)]
  exact hp a ha
theorem limF_a {w : Nat} (hw : w < 9) : limF (11 + w) = 40 := by unfold limF; (repeat' split) <;> omega
theorem TrI_a {z y : St} (h : TrI z y) {a w : Nat} (ha : a < 40) (hw : w < 9) : y (11 + w) a = z (11 + w) a := same_g h.1 (f := 11 + w) (i := a) (by omega) (by rw [limF_a hw]; exact ha) (by omega)
def mTries (z : St) (x t : Int32) : Int32 × St := if ¬ appP z x then (-1, z) else if t < 1 ∨ ¬ t ≤ 200 then (-2, z) else if ¬ z 15 (cn x) = 0 ∨ ¬ openP z (z 13 (cn x)) then (-5, z) else
  (tryW z (z 12 (cn x)) (z 13 (cn x)) (cn x) (cn t), cpK (tryK z (z 12 (cn x)) (z 13 (cn x)) (cn t)) 0 478 (fun j => tryK z (z 12 (cn x)) (z 13 (cn x)) (cn t) 80 j))
/-! the reader -/
abbrev spN (z : St) : Nat := cn (z 83 0)
def SP (z : St) : Prop := PO z ∧ z 83 0 = nI (spN z) ∧ spN z ≤ lenN z ∧ (z 84 0 = 0 ∨ z 84 0 = 1)
theorem nxt_in {z : St} {p : Nat} (h : ¬ nxt z p = 0) : p < lenN z := by
  unfold nxt at h
  by_cases e : p < lenN z
  · exact e
  · rw [if_neg e] at h; exact absurd rfl h
theorem nxt_of {z y : St} (h1 : y 68 = z 68) (h2 : y 69 = z 69) (p : Nat) : nxt y p = nxt z p := by unfold nxt lenN; rw [h1, h2]
def needZ (z : St) (s : Int32) : St := if z 84 0 = 0 ∧ nxt z (spN z) = s then u2 (u2 z 84 0 0) 83 0 (nI (spN z + 1)) else u2 z 84 0 1
abbrev okN (z : St) (lo hi : Int32) : Prop := z 84 0 = 0 ∧ 48 + lo ≤ nxt z (spN z) ∧ nxt z (spN z) ≤ (if hi < 9 then 48 + hi else 57)
def numM (z : St) (hi : Int32) : Nat → Int32 → Nat → Int32 × Nat
  | 0, v, p => (v, p)
  | f + 1, v, p => if 0 < v ∧ (48 ≤ nxt z p ∧ nxt z p ≤ 57) ∧ ¬ hi < 10 * v + nxt z p - 48 then numM z hi f (10 * v + nxt z p - 48) (p + 1) else (v, p)
def numR (z : St) (lo hi : Int32) : Int32 := if okN z lo hi then (numM z hi 61 (nxt z (spN z) - 48) (spN z + 1)).1 else 0
def numZ (z : St) (lo hi : Int32) : St := if okN z lo hi then u2 (u2 z 84 0 0) 83 0 (nI (numM z hi 61 (nxt z (spN z) - 48) (spN z + 1)).2) else u2 z 84 0 1
theorem numM_le (z : St) (hi : Int32) : ∀ (f : Nat) (v : Int32) (p : Nat), p ≤ lenN z → p ≤ (numM z hi f v p).2 ∧ (numM z hi f v p).2 ≤ lenN z := by
  intro f
  induction f with
  | zero => intro v p h; exact ⟨Nat.le_refl _, h⟩
  | succ f ih =>
    intro v p h
    unfold numM
    split
    · rename_i h1
      have h2 : p < lenN z := nxt_in (fun e => by rw [e] at h1; exact absurd h1.2.1.1 (by decide))
      have := ih (10 * v + nxt z p - 48) (p + 1) (by omega)
      exact ⟨by omega, this.2⟩
    · exact ⟨Nat.le_refl _, h⟩
theorem SP_of {z y : St} (h : SP z) (e1 : y 68 = z 68) (e2 : y 69 = z 69) (p : Nat) (e3 : y 83 0 = nI p) (hp : p ≤ lenN z) (e4 : y 84 0 = 0 ∨ y 84 0 = 1) : SP y := by
  have hl := (pL h.1).2
  have e5 : spN y = p := by unfold spN; rw [e3, cn_nI (by omega)]
  refine ⟨PO_of h.1 e1 e2, by rw [e5]; exact e3, ?_, e4⟩
  rw [e5]; unfold lenN; rw [e2]; exact hp
theorem SP_need {z : St} (h : SP z) {s : Int32} (hs : ¬ s = 0) : SP (needZ z s) := by
  unfold needZ
  split
  · rename_i h1
    have h2 : spN z < lenN z := nxt_in (fun e => hs (by rw [← h1.2, e]))
    refine SP_of h ?_ ?_ (spN z + 1) (u2_s _ _ _ _) (by omega) ?_
    · rw [u2_f (by decide), u2_f (by decide)]
    · rw [u2_f (by decide), u2_f (by decide)]
    · rw [u2_f (by decide), u2_s]; exact Or.inl rfl
  · refine SP_of h ?_ ?_ (spN z) ?_ h.2.2.1 ?_
    · rw [u2_f (by decide)]
    · rw [u2_f (by decide)]
    · rw [u2_f (by decide)]; exact h.2.1
    · rw [u2_s]; exact Or.inr rfl
theorem okN_in {z : St} {lo hi : Int32} (h0 : 0 < 48 + lo) (h : okN z lo hi) : spN z < lenN z := nxt_in (fun e => by
  have := h.2.1
  rw [e] at this
  exact absurd h0 (Int32.not_lt.mpr this))
theorem SP_num {z : St} (h : SP z) {lo hi : Int32} (h0 : 0 < 48 + lo) : SP (numZ z lo hi) := by
  unfold numZ
  split
  · rename_i h1
    have h2 := okN_in h0 h1
    have h3 := numM_le z hi 61 (nxt z (spN z) - 48) (spN z + 1) (by omega)
    refine SP_of h ?_ ?_ _ (u2_s _ _ _ _) h3.2 ?_
    · rw [u2_f (by decide), u2_f (by decide)]
    · rw [u2_f (by decide), u2_f (by decide)]
    · rw [u2_f (by decide), u2_s]; exact Or.inl rfl
  · refine SP_of h ?_ ?_ (spN z) ?_ h.2.2.1 ?_
    · rw [u2_f (by decide)]
    · rw [u2_f (by decide)]
    · rw [u2_f (by decide)]; exact h.2.1
    · rw [u2_s]; exact Or.inr rfl
theorem SP_u {z : St} (h : SP z) {f i : Nat} {v : Int32} (hf : f ≠ 68 ∧ f ≠ 69 ∧ f ≠ 83 ∧ f ≠ 84) : SP (u2 z f i v) := by
  refine SP_of h ?_ ?_ (spN z) ?_ h.2.2.1 ?_
  · rw [u2_f (by omega)]
  · rw [u2_f (by omega)]
  · rw [u2_f (by omega)]; exact h.2.1
  · rw [u2_f (by omega)]; exact h.2.2.2
theorem SP_up {z : St} (h : SP z) (h2 : spN z < lenN z) : SP (u2 z 83 0 (nI (spN z + 1))) := by
  refine SP_of h ?_ ?_ (spN z + 1) (u2_s _ _ _ _) (by omega) ?_
  · rw [u2_f (by decide)]
  · rw [u2_f (by decide)]
  · rw [u2_f (by decide)]; exact h.2.2.2
theorem needZ_lo (z : St) (s : Int32) {f : Nat} (h : f ≠ 83 ∧ f ≠ 84) : needZ z s f = z f := by
  unfold needZ
  split
  · rw [u2_f h.1, u2_f h.2]
  · rw [u2_f h.2]
theorem numZ_lo (z : St) (lo hi : Int32) {f : Nat} (h : f ≠ 83 ∧ f ≠ 84) : numZ z lo hi f = z f := by
  unfold numZ
  split
  · rw [u2_f h.1, u2_f h.2]
  · rw [u2_f h.2]
/-- a sign and a number behind it, laid at i -/
def rdN (y : St) (s lo hi : Int32) (i : Nat) : St := u2 (numZ (needZ y s) lo hi) 85 i (numR (needZ y s) lo hi)
theorem rdN_lo (y : St) (s lo hi : Int32) (i : Nat) {f : Nat} (h : f ≠ 83 ∧ f ≠ 84 ∧ f ≠ 85) : rdN y s lo hi i f = y f := by
  unfold rdN
  rw [u2_f h.2.2, numZ_lo _ _ _ ⟨h.1, h.2.1⟩, needZ_lo _ _ ⟨h.1, h.2.1⟩]
theorem SP_rd {y : St} (h : SP y) {s lo hi : Int32} (hs : ¬ s = 0) (h0 : 0 < 48 + lo) (i : Nat) : SP (rdN y s lo hi i) := SP_u (SP_num (SP_need h hs) h0) (by decide)
def tA3 (z : St) (m : Nat) : St := rdN (rdN (rdN z 99 0 11 (4 * m)) 114 0 5 (4 * m + 1)) 100 0 59 (4 * m + 2)
def tA4 (z : St) (m : Nat) : St := u2 (tA3 z m) 85 (4 * m + 3) 1
def tAx (y : St) (m : Nat) : St := if y 84 0 = 0 ∧ nxt y (spN y) = 120 then u2 (numZ (u2 y 83 0 (nI (spN y + 1))) 1 4) 85 (4 * m + 3) (numR (u2 y 83 0 (nI (spN y + 1))) 1 4) else y
def tA (z : St) : St := u2 (tAx (tA4 z (cn (z 86 0))) (cn (z 86 0))) 86 0 (nI (cn (z 86 0) + 1))
theorem SP_tA3 {z : St} (h : SP z) (m : Nat) : SP (tA3 z m) := SP_rd (SP_rd (SP_rd h (by decide) (by decide) _) (by decide) (by decide) _) (by decide) (by decide) _
theorem SP_tA4 {z : St} (h : SP z) (m : Nat) : SP (tA4 z m) := SP_u (SP_tA3 h m) (by decide)
theorem SP_tAx {y : St} (h : SP y) (m : Nat) : SP (tAx y m) := by
  unfold tAx
  split
  · rename_i h1
    have h2 : spN y < lenN y := nxt_in (fun e => by rw [e] at h1; exact absurd h1.2 (by decide))
    exact SP_u (SP_num (SP_up h h2) (by decide)) (by decide)
  · exact h
theorem SP_tA {z : St} (h : SP z) : SP (tA z) := SP_u (SP_tAx (SP_tA4 h _) _) (by decide)
theorem tA4_lo (z : St) (m : Nat) {f : Nat} (h : f ≠ 83 ∧ f ≠ 84 ∧ f ≠ 85) : tA4 z m f = z f := by
  unfold tA4 tA3
  rw [u2_f h.2.2, rdN_lo _ _ _ _ _ h, rdN_lo _ _ _ _ _ h, rdN_lo _ _ _ _ _ h]
theorem tAx_lo (z : St) (m : Nat) {f : Nat} (h : f ≠ 83 ∧ f ≠ 84 ∧ f ≠ 85) : tAx z m f = z f := by
  unfold tAx
  split
  · rw [u2_f h.2.2, numZ_lo _ _ _ ⟨h.1, h.2.1⟩, u2_f h.1]
  · rfl
theorem tA_lo (z : St) {f : Nat} (h : f ≠ 83 ∧ f ≠ 84 ∧ f ≠ 85 ∧ f ≠ 86) : tA z f = z f := by
  unfold tA
  rw [u2_f h.2.2.2, tAx_lo _ _ ⟨h.1, h.2.1, h.2.2.1⟩, tA4_lo _ _ ⟨h.1, h.2.1, h.2.2.1⟩]
theorem tA_86 (z : St) : tA z 86 0 = nI (cn (z 86 0) + 1) := u2_s _ _ _ _
theorem lenN_of {z y : St} (e : y 69 = z 69) : lenN y = lenN z := by unfold lenN; rw [e]
/-- how far a step goes that finds no fault -/
theorem need_up {z : St} {s : Int32} (h : SP z) (hs : ¬ s = 0) (h1 : needZ z s 84 0 = 0) : z 84 0 = 0 ∧ nxt z (spN z) = s ∧ spN (needZ z s) = spN z + 1 := by
  unfold needZ at h1 ⊢
  split at h1
  · rename_i h2
    have h3 : spN z < lenN z := nxt_in (fun e => hs (by rw [← h2.2, e]))
    have h4 := (pL h.1).2
    rw [if_pos h2]
    refine ⟨h2.1, h2.2, ?_⟩
    unfold spN; rw [u2_s, cn_nI (by unfold spN at h3; omega)]
  · rw [u2_s] at h1; exact absurd h1 (by decide)
theorem num_up {z : St} {lo hi : Int32} (h : SP z) (h0 : 0 < 48 + lo) (h1 : numZ z lo hi 84 0 = 0) : z 84 0 = 0 ∧ okN z lo hi ∧ spN z + 1 ≤ spN (numZ z lo hi) := by
  unfold numZ at h1 ⊢
  split at h1
  · rename_i h2
    have h3 := okN_in h0 h2
    have h4 := (pL h.1).2
    have h5 := numM_le z hi 61 (nxt z (spN z) - 48) (spN z + 1) (by omega)
    rw [if_pos h2]
    refine ⟨h2.1, h2, ?_⟩
    have : spN (u2 (u2 z 84 0 0) 83 0 (nI (numM z hi 61 (nxt z (spN z) - 48) (spN z + 1)).2)) = (numM z hi 61 (nxt z (spN z) - 48) (spN z + 1)).2 := by
      show cn (u2 _ 83 0 _ 83 0) = _
      rw [u2_s, cn_nI (by omega)]
    rw [this]; exact h5.1
  · rw [u2_s] at h1; exact absurd h1 (by decide)
theorem rd_up {y : St} {s lo hi : Int32} {i : Nat} (h : SP y) (hs : ¬ s = 0) (h0 : 0 < 48 + lo) (h1 : rdN y s lo hi i 84 0 = 0) : y 84 0 = 0 ∧ spN y + 2 ≤ spN (rdN y s lo hi i) := by
  unfold rdN at h1 ⊢
  rw [u2_f (by decide)] at h1
  have a := num_up (SP_need h hs) h0 h1
  have b := need_up h hs a.1
  have : spN (u2 (numZ (needZ y s) lo hi) 85 i (numR (needZ y s) lo hi)) = spN (numZ (needZ y s) lo hi) := by unfold spN; rw [u2_f (by decide)]
  rw [this]
  exact ⟨b.1, by omega⟩
theorem tAx_up {y : St} {m : Nat} (h : SP y) (h1 : tAx y m 84 0 = 0) : y 84 0 = 0 ∧ spN y ≤ spN (tAx y m) := by
  unfold tAx at h1 ⊢
  split at h1
  · rename_i h2
    rw [if_pos h2]
    have h3 : spN y < lenN y := nxt_in (fun e => by rw [e] at h2; exact absurd h2.2 (by decide))
    rw [u2_f (by decide)] at h1
    have a := num_up (SP_up h h3) (by decide) h1
    have h4 := (pL h.1).2
    have e : spN (u2 y 83 0 (nI (spN y + 1))) = spN y + 1 := by unfold spN; rw [u2_s, cn_nI (by unfold spN at h3; omega)]
    refine ⟨h2.1, ?_⟩
    have e2 : spN (u2 (numZ (u2 y 83 0 (nI (spN y + 1))) 1 4) 85 (4 * m + 3) (numR (u2 y 83 0 (nI (spN y + 1))) 1 4)) = spN (numZ (u2 y 83 0 (nI (spN y + 1))) 1 4) := by unfold spN; rw [u2_f (by decide)]
    rw [e2]; omega
  · rename_i h2
    rw [if_neg h2]
    exact ⟨h1, Nat.le_refl _⟩
theorem tA_up {z : St} (h : SP z) (h1 : tA z 84 0 = 0) : z 84 0 = 0 ∧ spN z + 6 ≤ spN (tA z) := by
  unfold tA at h1 ⊢
  rw [u2_f (by decide)] at h1
  have a := tAx_up (SP_tA4 h _) h1
  have a1 := a.1
  unfold tA4 at a1
  rw [u2_f (by decide)] at a1
  have S1 := SP_rd h (s := 99) (lo := 0) (hi := 11) (by decide) (by decide) (4 * cn (z 86 0))
  have S2 := SP_rd S1 (s := 114) (lo := 0) (hi := 5) (by decide) (by decide) (4 * cn (z 86 0) + 1)
  have b := rd_up S2 (by decide) (by decide) a1
  have c := rd_up S1 (by decide) (by decide) b.1
  have d := rd_up h (by decide) (by decide) c.1
  have e : spN (u2 (tAx (tA4 z (cn (z 86 0))) (cn (z 86 0))) 86 0 (nI (cn (z 86 0) + 1))) = spN (tAx (tA4 z (cn (z 86 0))) (cn (z 86 0))) := by
    show cn (u2 _ 86 0 _ 83 0) = _
    rw [u2_f (by decide)]
  have e4 : spN (tA4 z (cn (z 86 0))) = spN (tA3 z (cn (z 86 0))) := by
    show cn (u2 _ 85 _ _ 83 0) = _
    rw [u2_f (by decide)]
  have e3 : spN (tA3 z (cn (z 86 0))) = spN (rdN (rdN (rdN z 99 0 11 (4 * cn (z 86 0))) 114 0 5 (4 * cn (z 86 0) + 1)) 100 0 59 (4 * cn (z 86 0) + 2)) := rfl
  rw [e]
  refine ⟨d.1, ?_⟩
  have := a.2
  omega
def mfK : Nat → St → St
  | 0, y => y
  | n + 1, y => if y 84 0 = 0 ∧ nxt y (spN y) = 59 then mfK n (tA (u2 y 83 0 (nI (spN y + 1)))) else y
def mf0 (z : St) : St := u2 (u2 (u2 z 83 0 0) 84 0 0) 86 0 0
def mfZ (z : St) : St := mfK 61 (tA (mf0 z))
def mFault (z : St) : Int32 × St := (if ¬ mfZ z 84 0 = 0 ∨ spN (mfZ z) < lenN z then mfZ z 83 0 else -6, mfZ z)
theorem SP_mf0 {z : St} (h : PO z) : SP (mf0 z) := by
  have e : mf0 z 83 0 = nI 0 := by unfold mf0; rw [u2_f (by decide), u2_f (by decide), u2_s]; rfl
  have e4 : mf0 z 84 0 = 0 := by unfold mf0; rw [u2_f (by decide), u2_s]
  have e5 : spN (mf0 z) = 0 := by unfold spN; rw [e]; rfl
  refine ⟨PO_of h ?_ ?_, by rw [e5]; exact e, by rw [e5]; exact Nat.zero_le _, Or.inl e4⟩
  · unfold mf0; rw [u2_f (by decide), u2_f (by decide), u2_f (by decide)]
  · unfold mf0; rw [u2_f (by decide), u2_f (by decide), u2_f (by decide)]
/-- what holds where the next application may be read -/
def TI (y : St) : Prop := SP y ∧ ∃ m, m ≤ 9 ∧ y 86 0 = nI m ∧ (y 84 0 = 0 → 7 * m ≤ spN y + 1)
theorem TI_tA {z : St} (h : SP z) {m : Nat} (hm : z 86 0 = nI m) (h7 : 7 * m ≤ spN z) : TI (tA z) := by
  have hl := (pL h.1).2
  have h1 := h.2.2.1
  have e : cn (z 86 0) = m := by rw [hm, cn_nI (by omega)]
  refine ⟨SP_tA h, m + 1, by omega, by rw [tA_86, e], fun h4 => ?_⟩
  have := (tA_up h h4).2
  omega
theorem TI_next {y : St} (h : TI y) (h1 : y 84 0 = 0) (h2 : nxt y (spN y) = 59) : spN y < lenN y ∧ SP (u2 y 83 0 (nI (spN y + 1))) ∧ TI (tA (u2 y 83 0 (nI (spN y + 1)))) ∧ ∃ m, m ≤ 8 ∧ y 86 0 = nI m := by
  obtain ⟨hS, m, hm, h86, h7⟩ := h
  have h3 : spN y < lenN y := nxt_in (fun e => by rw [e] at h2; exact absurd h2 (by decide))
  have h4 := (pL hS.1).2
  have h5 := h7 h1
  have e : spN (u2 y 83 0 (nI (spN y + 1))) = spN y + 1 := by unfold spN; rw [u2_s, cn_nI (by unfold spN at h3; omega)]
  exact ⟨h3, SP_up hS h3, TI_tA (SP_up hS h3) (m := m) (by rw [u2_f (by decide)]; exact h86) (by rw [e]; exact h5), m, by omega, h86⟩
theorem TI_0 {z : St} (h : PO z) : TI (tA (mf0 z)) := TI_tA (SP_mf0 h) (m := 0) (by unfold mf0; rw [u2_s]; rfl) (Nat.zero_le _)
theorem mfK_lo : ∀ (n : Nat) (y : St) {f : Nat}, f ≠ 83 ∧ f ≠ 84 ∧ f ≠ 85 ∧ f ≠ 86 → mfK n y f = y f := by
  intro n
  induction n with
  | zero => intro y f h; rfl
  | succ n ih =>
    intro y f h
    unfold mfK
    split
    · rw [ih _ h, tA_lo _ h, u2_f h.1]
    · rfl
theorem mfZ_lo (z : St) {f : Nat} (h : f ≠ 83 ∧ f ≠ 84 ∧ f ≠ 85 ∧ f ≠ 86) : mfZ z f = z f := by
  unfold mfZ mf0
  rw [mfK_lo _ _ h, tA_lo _ h, u2_f h.2.2.2, u2_f h.2.1, u2_f h.1]
theorem TI_mfK : ∀ (n : Nat) (y : St), TI y → TI (mfK n y) := by
  intro n
  induction n with
  | zero => intro y h; exact h
  | succ n ih =>
    intro y h
    unfold mfK
    split
    · rename_i h1
      exact ih _ (TI_next h h1.1 h1.2).2.2.1
    · exact h
theorem TI_mfZ {z : St} (h : PO z) : TI (mfZ z) := TI_mfK _ _ (TI_0 h)
/-! loads -/
def AI (z : St) : Prop := IO z ∧ (∀ d, d < 60 → z 7 d = 0 ∨ z 7 d = 1) ∧ (∀ c, c < cn (z 2 0) → z 87 c = z 10 c) ∧ (∀ a, a < nA z → ∃ s, s < 7 ∧ z 15 a = nI s) ∧ ∀ a, nA z ≤ a → a < 40 → z 15 a = 0 ∧ z 16 a = 0 ∧ z 17 a = 0 ∧ z 18 a = 0
theorem apply_nA {z : St} (hI : IO z) (c r d p : Int32) : (spApply z c r d p).2 = z ∨ (nA z < 40 ∧ (spApply z c r d p).2 = newApp z c r d p ∧ nA (newApp z c r d p) = nA z + 1) := by
  unfold spApply
  (repeat' split) <;> first | exact Or.inl rfl | skip
  rename_i h4
  have h5 := Decidable.not_not.mp h4
  have hn : nA z < 40 := by
    rw [(iNa hI).1] at h5
    exact (nI_ltI (b := 40) (by have := (iNa hI).2; omega) (by decide)).mp h5
  refine Or.inr ⟨hn, rfl, ?_⟩
  have e3 : newApp z c r d p 3 0 = nI (nA z + 1) := by
    unfold newApp
    rw [u2_s]
    conv => lhs; rw [(iNa hI).1]
    exact nI_1 _
  have h40 := (iNa hI).2
  unfold nA; rw [e3, cn_nI (by omega)]
theorem newApp_lo (z : St) (c r d p : Int32) {f : Nat} (h : f ≠ 3 ∧ f ≠ 11 ∧ f ≠ 12 ∧ f ≠ 13 ∧ f ≠ 14 ∧ f ≠ 19) : newApp z c r d p f = z f := by
  unfold newApp
  rw [u2_f (by omega), u2_f (by omega), u2_f (by omega), u2_f (by omega), u2_f (by omega), u2_f (by omega)]
theorem AI_apply {z : St} (h : AI z) (c r d p : Int32) : AI (spApply z c r d p).2 := by
  obtain ⟨hI, h1, h2, h3, h4⟩ := h
  rcases apply_nA hI c r d p with e | ⟨hn, e, en⟩
  · rw [e]; exact ⟨hI, h1, h2, h3, h4⟩
  · have hIO := IO_apply hI c r d p
    rw [e] at hIO ⊢
    refine ⟨hIO, ?_, ?_, ?_, ?_⟩
    · rw [newApp_lo _ _ _ _ _ (by decide)]; exact h1
    · rw [newApp_lo _ _ _ _ _ (f := 2) (by decide), newApp_lo _ _ _ _ _ (f := 87) (by decide), newApp_lo _ _ _ _ _ (f := 10) (by decide)]; exact h2
    · rw [en, newApp_lo _ _ _ _ _ (f := 15) (by decide)]
      intro a ha
      by_cases e : a = nA z
      · subst e; exact ⟨0, by decide, (h4 _ (Nat.le_refl _) hn).1⟩
      · exact h3 a (by omega)
    · rw [en, newApp_lo _ _ _ _ _ (f := 15) (by decide), newApp_lo _ _ _ _ _ (f := 16) (by decide), newApp_lo _ _ _ _ _ (f := 17) (by decide), newApp_lo _ _ _ _ _ (f := 18) (by decide)]
      intro a ha
      exact h4 a (by omega)
def ml1 (y : St) (n : Nat) : Int32 × St := spApply y (y 85 (4 * n)) (y 85 (4 * n + 1)) (y 85 (4 * n + 2)) (y 85 (4 * n + 3))
def mlK : Nat → St → Nat → Nat × St
  | 0, y, n => (n, y)
  | f + 1, y, n => if n < cn (y 86 0) then (if (ml1 y n).1 < 0 then (n, (ml1 y n).2) else mlK f (ml1 y n).2 (n + 1)) else (n, y)
def mLoad (z : St) : Int32 × St := if ¬ (mFault z).1 = -6 then (-3, mfZ z) else (nI (mlK 10 (mfZ z) 0).1, u2 (mlK 10 (mfZ z) 0).2 69 0 0)
theorem AI_of {z y : St} (h : AI z) (e : ∀ f, f < 20 ∨ f = 87 → y f = z f) : AI y := by
  obtain ⟨hI, h1, h2, h3, h4⟩ := h
  have en : nA y = nA z := nA_of (e 3 (by omega))
  refine ⟨IO_of hI (fun f hf => e f (by omega)), ?_, ?_, ?_, ?_⟩
  · rw [e 7 (by omega)]; exact h1
  · rw [e 2 (by omega), e 87 (by omega), e 10 (by omega)]; exact h2
  · rw [en, e 15 (by omega)]; exact h3
  · rw [en, e 15 (by omega), e 16 (by omega), e 17 (by omega), e 18 (by omega)]; exact h4
theorem ml_lo (y : St) (n : Nat) {f : Nat} (h : 20 ≤ f) : (ml1 y n).2 f = y f := apply_lo _ _ _ _ _ (by omega)
theorem mlK_stop {f : Nat} {y : St} {n : Nat} {R : Nat × St} (hR : mlK f y n = R) (h : ¬ n < cn (y 86 0)) : R = (n, y) := by
  rw [← hR]
  cases f with
  | zero => rfl
  | succ f => rw [mlK, if_neg h]
/-! puts -/
def wrK (z : St) (c : Int64) (n : Nat) : Nat → St
  | 0 => z
  | i + 1 => u2 (wrK z c n i) 68 (lenN z + i) (chrAt c (n - 1 - i))
theorem wrK_lo (z : St) (c : Int64) (n i : Nat) {f : Nat} (h : f ≠ 68) : wrK z c n i f = z f := by
  induction i with
  | zero => rfl
  | succ i ih => rw [wrK, u2_f h, ih]
theorem TrI_K {z : St} (h : ∃ s, s < 65536 ∧ z 4 5 = nI s) (q d : Int32) (k : Nat) : TrI z (tryK z q d k) := by
  induction k with
  | zero => exact TrI_0 h
  | succ k ih => exact TrI_s ih q d
theorem b255 (r : Int64) : ∃ m, m < 256 ∧ r &&& 255 = Int64.ofNat m ∧ (r &&& 255).toInt32 = nI m := by
  have h1 : (r &&& 255).toBitVec.toNat < 256 := by
    show (r.toBitVec &&& 255#64).toNat < 256
    rw [BitVec.toNat_and]
    exact Nat.lt_of_le_of_lt Nat.and_le_right (by decide)
  have e : r &&& 255 = Int64.ofNat (r &&& 255).toBitVec.toNat := by
    apply Int64.toBitVec_inj.mp
    rw [Int64.toBitVec_ofNat']
    simp
  refine ⟨(r &&& 255).toBitVec.toNat, h1, e, ?_⟩
  conv => lhs; rw [e]
  generalize (r &&& 255).toBitVec.toNat = m at h1
  apply Int32.toBitVec_inj.mp
  rw [Int64.toBitVec_toInt32, Int64.toBitVec_ofNat']
  apply BitVec.eq_of_toNat_eq
  rw [pk_tn (by omega), BitVec.signExtend_eq_setWidth_of_le _ (by decide)]
  simp
  omega
theorem in_b (r : Int64) : (33 ≤ (r &&& 255).toInt32 ∧ (r &&& 255).toInt32 ≤ 126) ↔ ¬ (r &&& 255 < 33 ∨ ¬ r &&& 255 ≤ 126) := by
  obtain ⟨m, hm, e1, e2⟩ := b255 r
  rw [e2, e1]
  have a1 : (33 : Int32) ≤ nI m ↔ 33 ≤ m := nI_leI (a := 33) (by omega) (by omega)
  have a2 : nI m ≤ (126 : Int32) ↔ m ≤ 126 := nI_leI (b := 126) (by omega) (by omega)
  have i1 : (Int64.ofNat m).toInt = m := Int64.toInt_ofNat_of_lt (by omega)
  have i33 : (33 : Int64).toInt = 33 := by decide
  have i126 : (126 : Int64).toInt = 126 := by decide
  have b1 : Int64.ofNat m < 33 ↔ m < 33 := by rw [Int64.lt_iff_toInt_lt, i1, i33]; omega
  have b2 : Int64.ofNat m ≤ 126 ↔ m ≤ 126 := by rw [Int64.le_iff_toInt_le, i1, i126]; omega
  rw [a1, a2, b1, b2]
  omega
theorem shr8_nat (r : Int64) : (shr8 r).toUInt64.toNat = r.toUInt64.toNat / 256 := by
  unfold shr8
  have e : ((8 : Int32).toInt64.toUInt64 &&& Int64.toUInt64 63) = 8 := by decide
  rw [e]
  have : (r.toUInt64 >>> 8).toInt64.toUInt64 = r.toUInt64 >>> 8 := by simp
  rw [this, UInt64.toNat_shiftRight]
  have e8 : (8 : UInt64).toNat % 64 = 8 := by decide
  rw [e8, Nat.shiftRight_eq_div_pow]
theorem shr8_lt {r : Int64} {s : Nat} (h : r.toUInt64.toNat < 256 ^ (8 - s)) (hs : s < 8) : (shr8 r).toUInt64.toNat < 256 ^ (8 - (s + 1)) := by
  rw [shr8_nat]
  have : 256 ^ (8 - s) = 256 ^ (8 - (s + 1)) * 256 := by rw [← Nat.pow_succ]; congr 1; omega
  rw [this] at h
  exact (Nat.div_lt_iff_lt_mul (by decide)).mpr h
theorem r_0 {r : Int64} (h : r.toUInt64.toNat < 256 ^ (8 - 8)) : r = 0 := by
  have h1 : r.toUInt64.toNat = 0 := by simp at h; simpa using h
  have h2 : r.toUInt64 = 0 := UInt64.toNat_inj.mp h1
  have : r.toUInt64.toInt64 = (0 : UInt64).toInt64 := by rw [h2]
  simpa using this
theorem r_top (r : Int64) : r.toUInt64.toNat < 256 ^ (8 - 0) := by
  have := UInt64.toNat_lt r.toUInt64
  exact Nat.lt_of_lt_of_le this (by decide)
theorem szK_b0 {r : Int64} {n s : Nat} (h : r &&& 255 = 0) : szK (n + 1) s r = if r = 0 then nI s else 0 := by
  unfold szK
  split
  · rfl
  · rw [if_pos (Or.inl (by rw [h]; decide))]
theorem chr_m (c : Int64) {b : Nat} (hb : b < 8) : (c >>> ((8 * nI b : Int32).toInt64 &&& 63) &&& 255).toInt32 = chrAt c b := by
  unfold chrAt
  have key : ∀ k : Nat, k ≤ 56 → c.toBitVec.sshiftRight k &&& 255#64 = c.toBitVec >>> k &&& 255#64 := by
    intro k hk
    apply BitVec.eq_of_getLsbD_eq
    intro i hi
    rw [BitVec.getLsbD_and, BitVec.getLsbD_and]
    by_cases h8 : i < 8
    · rw [BitVec.getLsbD_sshiftRight, BitVec.getLsbD_ushiftRight]
      have h1 : ¬ 64 ≤ i := by omega
      have h2 : k + i < 64 := by omega
      simp [h1, h2]
    · have : (255#64).getLsbD i = false := by
        have e : (255#64 : BitVec 64) = BitVec.ofNat 64 (2 ^ 8 - 1) := by decide
        rw [e, BitVec.getLsbD_ofNat]
        rw [Nat.testBit_two_pow_sub_one]
        simp [h8]
      simp [this]
  have key2 : ∀ k : Nat, k ≤ 56 → ∀ (a : Int64) (b : UInt64), a.toBitVec.toNat = k → b.toBitVec.toNat = k → (c >>> a &&& 255) = ((c.toUInt64 >>> b).toInt64 &&& 255) := by
    intro k hk a b ha hb
    apply Int64.toBitVec_inj.mp
    rw [Int64.toBitVec_and, Int64.toBitVec_and, Int64.toBitVec_shiftRight]
    have e1 : (a.toBitVec.smod 64) = a.toBitVec := by
      apply BitVec.eq_of_toInt_eq
      rw [BitVec.toInt_smod]
      have : a.toBitVec.toInt = k := by rw [BitVec.toInt_eq_toNat_cond, ha, if_pos (by omega)]
      rw [this]
      have : (64 : BitVec 64).toInt = 64 := by decide
      rw [this]
      exact Int.fmod_eq_of_lt (by omega) (by omega)
    have e2 : (c.toUInt64 >>> b).toInt64.toBitVec = c.toBitVec >>> k := by
      show (c.toUInt64 >>> b).toBitVec = _
      rw [UInt64.toBitVec_shiftRight]
      show c.toBitVec >>> (b.toBitVec % 64#64) = _
      have : (b.toBitVec % 64#64).toNat = k := by
        rw [BitVec.toNat_umod, hb]
        have : (64#64 : BitVec 64).toNat = 64 := by decide
        rw [this]; omega
      apply BitVec.eq_of_toNat_eq
      simp only [BitVec.ushiftRight_eq', BitVec.toNat_ushiftRight, this]
    rw [e1, e2]
    show BitVec.sshiftRight _ (a.toBitVec.toNat) &&& _ = _
    rw [ha]
    exact key k hk
  have hm : ∀ m : Int64, (∃ n, n < 256 ∧ m.toInt32 = nI n) → m.toInt32 = (m.toInt32.toUInt32 % 65536).toInt32 := by
    rintro m ⟨n, hn, e⟩
    rw [e, pk_char, pk_tn (by omega), show n % 65536 = n from by omega]
  have e : (c >>> ((8 * nI b : Int32).toInt64 &&& 63) &&& 255) = ((c.toUInt64 >>> ((8 * nI b : Int32).toInt64.toUInt64 &&& Int64.toUInt64 63)).toInt64 &&& 255) := by
    have : b = 0 ∨ b = 1 ∨ b = 2 ∨ b = 3 ∨ b = 4 ∨ b = 5 ∨ b = 6 ∨ b = 7 := by omega
    refine key2 (8 * b) (by omega) _ _ ?_ ?_ <;> (rcases this with rfl | rfl | rfl | rfl | rfl | rfl | rfl | rfl <;> decide)
  rw [e]
  obtain ⟨m, h1, -, h3⟩ := b255 (c.toUInt64 >>> ((8 * nI b : Int32).toInt64.toUInt64 &&& Int64.toUInt64 63)).toInt64
  exact hm _ ⟨m, h1, h3⟩
theorem u2_sw (z : St) (i j : Nat) (a b v : Int32) : u2 (u2 (u2 z 69 0 a) 68 i v) 69 0 b = u2 (u2 z 68 i v) 69 0 b := by
  funext g k
  unfold u2
  (repeat' split) <;> first | rfl | omega
theorem apd_wr {z : St} {c : Int64} {n : Nat} (h69 : z 69 0 = nI (lenN z)) (hn : lenN z + n ≤ 60) : apd c n z = u2 (wrK z c n n) 69 0 (nI (lenN z + n)) := by
  have key : ∀ b, b ≤ n → apd c b (u2 (wrK z c n (n - b)) 69 0 (nI (lenN z + (n - b)))) = u2 (wrK z c n n) 69 0 (nI (lenN z + n)) := by
    intro b
    induction b with
    | zero => intro _; rfl
    | succ b ih =>
      intro hb
      rw [apd]
      have el : lenN (u2 (wrK z c n (n - (b + 1))) 69 0 (nI (lenN z + (n - (b + 1))))) = lenN z + (n - (b + 1)) := by rw [len_u69, cn_nI (by omega)]
      rw [el, u2_s, u2_sw _ _ 0, nI_1, ← ih (by omega)]
      have e2 : n - b = n - (b + 1) + 1 := by omega
      have e3 : n - 1 - (n - (b + 1)) = b := by omega
      rw [e2, wrK, e3]
      rfl
  have := key n (Nat.le_refl _)
  rw [Nat.sub_self] at this
  rw [← this]
  congr 1
  rw [Nat.add_zero, ← h69]
  exact (u2_self rfl).symm
theorem SP_w {z : St} (h : SP z) : SP (u2 z 84 0 0) := SP_of h (u2_f (by decide)) (u2_f (by decide)) (spN z) (by rw [u2_f (by decide)]; exact h.2.1) h.2.2.1 (by rw [u2_s]; exact Or.inl rfl)
theorem nxt_w (z : St) (v : Int32) : nxt (u2 z 84 0 v) (spN (u2 z 84 0 v)) = nxt z (spN z) := by
  have : spN (u2 z 84 0 v) = spN z := by unfold spN; rw [u2_f (by decide)]
  rw [this]
  exact nxt_of (u2_f (by decide)) (u2_f (by decide)) _
theorem SP_p {z : St} (h : SP z) {p : Nat} (hp : p ≤ lenN z) : SP (u2 (u2 z 84 0 0) 83 0 (nI p)) :=
  SP_of h (by rw [u2_f (by decide), u2_f (by decide)]) (by rw [u2_f (by decide), u2_f (by decide)]) p (u2_s _ _ _ _) hp (by rw [u2_f (by decide), u2_s]; exact Or.inl rfl)
theorem nxt_p {z : St} (h : SP z) {p : Nat} (hp : p ≤ lenN z) : nxt (u2 (u2 z 84 0 0) 83 0 (nI p)) (spN (u2 (u2 z 84 0 0) 83 0 (nI p))) = nxt z p := by
  have hl := (pL h.1).2
  have : spN (u2 (u2 z 84 0 0) 83 0 (nI p)) = p := by unfold spN; rw [u2_s, cn_nI (by omega)]
  rw [this]
  exact nxt_of (by rw [u2_f (by decide), u2_f (by decide)]) (by rw [u2_f (by decide), u2_f (by decide)]) _
theorem sp1 {y : St} (h : SP y) : y 83 0 + 1 = nI (spN y + 1) := by
  conv => lhs; rw [h.2.1]
  exact nI_1 _
theorem mul4 {x : Int32} (h : x = nI (cn x)) : 4 * x = nI (4 * cn x) := by
  conv => lhs; rw [h]
  exact pk_mul 4 _
theorem ix_rd (n w : Nat) : (4 : Int32) * nI n + nI w = nI (4 * n + w) := by
  show nI 4 * nI n + nI w = _
  rw [pk_mul, nI_add]
theorem mf0_86 (z : St) : mf0 z 86 0 = nI (cn (mf0 z 86 0)) ∧ cn (mf0 z 86 0) ≤ 8 := by
  have : mf0 z 86 0 = nI 0 := by unfold mf0; rw [u2_s]; rfl
  rw [this, cn_nI (by decide)]
  exact ⟨rfl, by decide⟩
theorem mfK_stop {y : St} (h : ¬ (y 84 0 = 0 ∧ nxt y (spN y) = 59)) (f : Nat) : mfK f y = y := by
  cases f with
  | zero => rfl
  | succ f => rw [mfK, if_neg h]
theorem TI_86 {y : St} (h : TI y) : y 86 0 = nI (cn (y 86 0)) ∧ cn (y 86 0) ≤ 9 := by
  obtain ⟨-, m, h1, h2, -⟩ := h
  rw [h2, cn_nI (by omega)]
  exact ⟨rfl, h1⟩
theorem TI_86b {y : St} (h : TI y) (h1 : y 84 0 = 0) (h2 : nxt y (spN y) = 59) : u2 y 83 0 (nI (spN y + 1)) 86 0 = nI (cn (u2 y 83 0 (nI (spN y + 1)) 86 0)) ∧ cn (u2 y 83 0 (nI (spN y + 1)) 86 0) ≤ 8 := by
  obtain ⟨-, -, -, m, h3, h4⟩ := TI_next h h1 h2
  rw [u2_f (by decide), h4, cn_nI (by omega)]
  exact ⟨rfl, h3⟩
theorem TI_fuel {y : St} (h : TI y) (h1 : y 84 0 = 0) (h2 : nxt y (spN y) = 59) {f : Nat} (hf : y 84 0 = 0 → 61 ≤ f + spN y) : 0 < f ∧ (tA (u2 y 83 0 (nI (spN y + 1))) 84 0 = 0 → 61 ≤ f - 1 + spN (tA (u2 y 83 0 (nI (spN y + 1))))) := by
  obtain ⟨h3, h4, -, -⟩ := TI_next h h1 h2
  have hl := (pL h.1.1).2
  have h5 := hf h1
  refine ⟨by omega, fun h6 => ?_⟩
  have := (tA_up h4 h6).2
  have e : spN (u2 y 83 0 (nI (spN y + 1))) = spN y + 1 := by unfold spN; rw [u2_s, cn_nI (by unfold spN at h3; omega)]
  omega
theorem pr_eq {p : Int32 × St} {c : Int32} {y : St} (h : p = (c, y)) : c = p.1 ∧ y = p.2 := by rw [h]; exact ⟨rfl, rfl⟩
