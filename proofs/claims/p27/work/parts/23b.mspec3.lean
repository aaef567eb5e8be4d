/-! ===== the model's day's end, its barred cells ===== -/
def judgeM1 (z : St) (a : Nat) : St := if z 15 a = 1 ∧ z 13 a = z 0 0 then (if z 18 a = 0 then strikeM (u2 z 15 a 6) (cn (z 11 a)) (z 4 2) (z 0 0 + z 4 3) else u2 z 15 a 5) else z
def judgeM (z : St) : Nat → St
  | 0 => z
  | k + 1 => judgeM1 (judgeM z k) k
def missedM (z : St) : Nat → Int32
  | 0 => 0
  | k + 1 => missedM z k + missed1 (judgeM z k) k
def mEnd (z : St) : Int32 × St := if ¬ z 0 0 < 59 then (-5, z) else (missedM z (nA z), u2 (loseK (judgeM z (nA z)) (-1) (z 0 0) (nA z)) 0 0 (z 0 0 + 1))
theorem strikeM_lo (z : St) (i : Nat) (a b : Int32) {f : Nat} (hf : f ≠ 9 ∧ f ≠ 87) : strikeM z i a b f = z f := by
  unfold strikeM
  split
  · rw [u2_f (by omega), u2_f (by omega), u2_f (by omega)]
  · rw [u2_f (by omega)]
theorem judgeM1_lo (z : St) (a : Nat) {f : Nat} (hf : f ≠ 9 ∧ f ≠ 87 ∧ f ≠ 15) : judgeM1 z a f = z f := by
  unfold judgeM1
  split
  · split
    · rw [strikeM_lo _ _ _ _ (by omega), u2_f (by omega)]
    · rw [u2_f (by omega)]
  · rfl
theorem judgeM_lo (z : St) (k : Nat) {f : Nat} (hf : f ≠ 9 ∧ f ≠ 87 ∧ f ≠ 15) : judgeM z k f = z f := by
  induction k with
  | zero => rfl
  | succ k ih => rw [judgeM, judgeM1_lo _ _ hf]; exact ih
theorem open_m {z : St} (hI : IO z) (hcl : ∀ d, d < 60 → z 7 d = 0 ∨ z 7 d = 1) {d : Int32} (hd : d = nI (cn d) ∧ cn d < 60) (ht : z 0 0 ≤ d) : openP z d ↔ ¬ z 7 (cn d) = 1 := by
  have hcc := cl_iff (hcl _ hd.2)
  have a1 : (0 : Int32) ≤ d := by rw [hd.1]; exact nI_pos' (by omega)
  have a2 : d < 60 := by rw [hd.1]; exact (nI_ltI (b := 60) (by omega) (by decide)).mpr hd.2
  simp [openP, dayP, a1, a2, ht, hcc]
def yC (z : St) (a : Nat) : St := u2 (u2 z 15 a 3) 17 a (backNow z a)
theorem yC_lo (z : St) (a : Nat) {f : Nat} (h : f ≠ 15 ∧ f ≠ 17) : yC z a f = z f := by unfold yC; rw [u2_f h.2, u2_f h.1]
theorem yC_16 {z : St} (h : ∀ a, a < nA z → (z 15 a = 0 ∨ z 15 a = 2) → z 16 a = 0) (b : Nat) : ∀ a, a < nA (yC z b) → (yC z b 15 a = 0 ∨ yC z b 15 a = 2) → yC z b 16 a = 0 := by
  intro a ha
  rw [nA_of (yC_lo z b (by decide))] at ha
  rw [yC_lo z b (f := 16) (by decide)]
  by_cases e : a = b
  · subst e
    unfold yC
    rw [u2_f (show 15 ≠ 17 by decide), u2_s]
    intro h1; exact absurd h1 (by decide)
  · unfold yC
    rw [u2_f (show 15 ≠ 17 by decide), u2_i _ e]
    exact h a ha
theorem cancel_m {z : St} {x : Int32} (hI : IO z) (hcl : ∀ d, d < 60 → z 7 d = 0 ∨ z 7 d = 1) (h1 : appP z x) (h2 : aliveP z (cn x)) (h3 : z 15 (cn x) = 1) (ht : z 0 0 ≤ z 13 (cn x)) :
    (spCancel z x).1 = backNow z (cn x) ∧ (spCancel z x).2 = (if yC z (cn x) 7 (cn (z 13 (cn x))) = 1 then yC z (cn x) else serve (nI (cn (z 12 (cn x)))) (nI (cn (z 13 (cn x)))) (nA (yC z (cn x))) (yC z (cn x))) := by
  have ha := appP_in hI h1
  have hR := iR hI ha.2.1
  have hD := iD hI ha.2.1
  have hIy : IO (yC z (cn x)) := IO_u2 (IO_u2 hI (by decide)) (by decide)
  have hop : openP (yC z (cn x)) (z 13 (cn x)) ↔ ¬ yC z (cn x) 7 (cn (z 13 (cn x))) = 1 := by
    refine open_m hIy ?_ hD ?_
    · rw [yC_lo _ _ (by decide)]; exact hcl
    · rw [yC_lo _ _ (by decide)]; exact ht
  have e := cancel_won h1 h2 h3 hR.1
  rw [e]
  refine ⟨rfl, ?_⟩
  show (if openP (yC z (cn x)) (z 13 (cn x)) then serve (nI (cn (z 12 (cn x)))) (z 13 (cn x)) (nA (yC z (cn x))) (yC z (cn x)) else yC z (cn x)) = _
  rw [← hD.1]
  by_cases h : yC z (cn x) 7 (cn (z 13 (cn x))) = 1
  · rw [if_pos h, if_neg (fun q => hop.mp q h)]
  · rw [if_neg h, if_pos (hop.mpr h)]
