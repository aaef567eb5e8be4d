/-! ===== the calls ===== -/
theorem routeP_in {z : St} (hI : IO z) {r : Int32} (h : routeP z r) : r = nI (cn r) ∧ cn r < 6 := by
  obtain ⟨e, h6⟩ := iNr hI
  have h2 := h.2
  rw [e] at h2
  have := rng0 (n := cn (z 1 0)) (by omega) h.1 h2
  exact ⟨this.1, by omega⟩
theorem climP_in {z : St} (hI : IO z) {r : Int32} (h : climP z r) : r = nI (cn r) ∧ cn r < cn (z 2 0) ∧ cn r < 12 := by
  obtain ⟨e, h6⟩ := iNc hI
  have h2 := h.2
  rw [e] at h2
  have := rng0 (n := cn (z 2 0)) (by omega) h.1 h2
  exact ⟨this.1, this.2, by omega⟩
theorem appP_in {z : St} (hI : IO z) {r : Int32} (h : appP z r) : r = nI (cn r) ∧ cn r < nA z ∧ cn r < 40 := by
  obtain ⟨e, h6⟩ := iNa hI
  have h2 := h.2
  rw [e] at h2
  have := rng0 (n := nA z) (by omega) h.1 h2
  exact ⟨this.1, this.2, by omega⟩
theorem dayP_in {d : Int32} (h : dayP d) : d = nI (cn d) ∧ cn d < 60 := rng0 (n := 60) (by decide) h.1 h.2
theorem not_m1 {x : Int32} (h : 0 ≤ x) : ¬ x = -1 := by rintro rfl; revert h; decide
def spRoute (z : St) (l b : Int32) : Int32 × St := if l < 1 ∨ 12 < l ∨ b < 0 ∨ ¬ b ≤ l then (-2, z) else if ¬ z 1 0 < 6 then (-4, z) else (z 1 0, u2 (u2 (u2 z 5 (cn (z 1 0)) l) 6 (cn (z 1 0)) b) 1 0 (z 1 0 + 1))
def spBuffer (z : St) (r b : Int32) : Int32 × St := if ¬ routeP z r then (-1, z) else if b < 0 ∨ ¬ b ≤ z 5 (cn r) then (-2, z) else (z 6 (cn r), u2 z 6 (cn r) b)
def spJoin (z : St) : Int32 × St := if ¬ z 2 0 < 12 then (-4, z) else (z 2 0, u2 z 2 0 (z 2 0 + 1))
def spSet (z : St) (s v : Int32) : Int32 × St := if s < 0 ∨ 6 ≤ s ∨ v < fLOW (cn s) ∨ ¬ v ≤ fHIGH (cn s) then (-2, z) else (z 4 (cn s), u2 z 4 (cn s) v)
def newApp (z : St) (c r d p : Int32) : St := u2 (u2 (u2 (u2 (u2 (u2 z 11 (nA z) c) 12 (nA z) r) 13 (nA z) d) 19 (nA z) d) 14 (nA z) p) 3 0 (z 3 0 + 1)
def spApply (z : St) (c r d p : Int32) : Int32 × St := if ¬ climP z c ∨ ¬ (routeP z r ∧ dayP d) then (-1, z) else if p < 1 ∨ ¬ p ≤ 4 then (-2, z) else if ¬ openP z d ∨ hasOne z c r d = true ∨ d ≤ z 10 (cn c) then (-5, z) else if ¬ z 3 0 < 40 then (-4, z) else (z 3 0, newApp z c r d p)
def spCancel (z : St) (a : Int32) : Int32 × St := if ¬ appP z a then (-1, z) else if ¬ aliveP z (cn a) then (-5, z) else if z 15 (cn a) = 1 then
  (let y := u2 (u2 z 15 (cn a) 3) 17 (cn a) (backNow z (cn a))
   (backNow z (cn a), if openP y (z 13 (cn a)) then serve (z 12 (cn a)) (z 13 (cn a)) (nA z) y else y)) else (0, u2 z 15 (cn a) 3)
def spClose (z : St) (d : Int32) : Int32 × St := if ¬ dayP d then (-1, z) else if ¬ openP z d then (-5, z) else
  (let y := u2 z 7 (cn d) 1
   (movedK y d (nA z), loseK (moveK y d (nA z)) (-1) d (nA z)))
def spStandby (z : St) (a : Int32) : Int32 × St := if ¬ appP z a then (-1, z) else if ¬ z 15 (cn a) = 2 ∨ ¬ z 13 (cn a) = z 0 0 ∨ ¬ openP z (z 13 (cn a)) ∨ brdP z (cn a) ∨ ¬ z 14 (cn a) ≤ freeP z (z 12 (cn a)) (z 13 (cn a)) then (-5, z) else (z 4 0 * z 14 (cn a), permit z (cn a))
def spShow (z : St) (a : Int32) : Int32 × St := if ¬ appP z a then (-1, z) else if ¬ z 15 (cn a) = 1 ∨ ¬ z 13 (cn a) = z 0 0 ∨ ¬ z 18 (cn a) = 0 then (-5, z) else (1, u2 z 18 (cn a) 1)
def spEnd (z : St) : Int32 × St := if ¬ z 0 0 < 59 then (-5, z) else (missedK z (nA z), u2 (loseK (judgeK z (nA z)) (-1) (z 0 0) (nA z)) 0 0 (z 0 0 + 1))
def spOnRoute (z : St) (r d w : Int32) : Int32 := if ¬ (routeP z r ∧ dayP d) then -1 else if w = 0 then z 5 (cn r) else if w = 1 then z 6 (cn r) else if w = 2 then taken z r d else if w = 3 then (if 0 < leftP z r d then leftP z r d else 0) else if w = 4 then inSt z r d 0 else if w = 5 then inSt z r d 2 else -2
def spClimber (z : St) (c w : Int32) : Int32 := if ¬ climP z c then -1 else if w = 0 then z 8 (cn c) else if w = 1 then z 9 (cn c) else if w = 2 then z 10 (cn c) else if w = 3 then cntIn z c 1 else if w = 4 then paidBy z c else if w = 5 then backTo z c else if w = 6 then cntBy z c else -2
def spApp (z : St) (a w : Int32) : Int32 := if ¬ appP z a then -1 else if w = 0 then z 11 (cn a) else if w = 1 then z 12 (cn a) else if w = 2 then z 13 (cn a) else if w = 3 then z 14 (cn a) else if w = 4 then z 15 (cn a) else if w = 5 then z 16 (cn a) else if w = 6 then z 17 (cn a) else if w = 7 then (if z 18 (cn a) = 0 then 0 else 1) else if w = 8 then z 19 (cn a) else if w = 9 then tkt z (cn a) else -2
def spCount (z : St) (w : Int32) : Int32 := if ¬ w < 4 ∧ ¬ 10 < w then cntIn z (-1) (w - 4) else if ¬ w < 15 ∧ ¬ 20 < w then z 4 (cn (w - 15)) else if w = 0 then z 0 0 else if w = 1 then z 1 0 else if w = 2 then z 2 0 else if w = 3 then z 3 0 else if w = 11 then paidBy z (-1) else if w = 12 then backTo z (-1) else if w = 13 then closedN z else if w = 14 then z 69 0 else -2
def spNext (z : St) (r d : Int32) : Int32 := if ¬ (routeP z r ∧ dayP d) then -1 else if ¬ openP z d then -6 else fw z r d (leftP z r d + 1)
def spSave (z : St) (s : Int32) : Int32 × St := if s < 0 ∨ ¬ s < 2 then (-2, z) else (z 0 0, u2 (cpAll z (cn s + 1) 0) 60 (cn s) 1)
def spRestore (z : St) (s : Int32) : Int32 × St := if s < 0 ∨ ¬ s < 2 then (-2, z) else if z 60 (cn s) = 0 then (-5, z) else (cpAll z 0 (cn s + 1) 0 0, cpAll z 0 (cn s + 1))
def spWipe (z : St) : Int32 × St := (z 69 0, u2 z 69 0 0)
theorem sub15 {w : Int32} (h1 : ¬ w < 15) (h2 : ¬ 20 < w) : w - 15 = nI (cn (w - 15)) ∧ cn (w - 15) < 6 := by
  have a := Int32.not_lt.mp h1
  have b := Int32.not_lt.mp h2
  have a2 := Int32.le_iff_toInt_le.mp a
  have b2 := Int32.le_iff_toInt_le.mp b
  have e15 : (15 : Int32).toInt = 15 := by decide
  have e20 : (20 : Int32).toInt = 20 := by decide
  obtain ⟨j, hj, rfl⟩ := nI_of (x := w) (by rw [Int32.lt_iff_toInt_lt]; have : (0 : Int32).toInt = 0 := by decide
                                            omega)
  rw [nI_toInt hj] at a2 b2
  have e : nI j - 15 = nI (j - 15) := pk_sub (a := j) (b := 15) (by omega)
  rw [e, cn_nI (by omega)]
  exact ⟨rfl, by omega⟩
theorem IO_moveK {z : St} (h : IO z) (d : Int32) (k : Nat) : IO (moveK z d k) := by
  induction k with
  | zero => exact h
  | succ k ih => exact IO_move1 ih d k
theorem moveK_lo (z : St) (d : Int32) (k : Nat) {f : Nat} (hf : f ≠ 8 ∧ f ≠ 13 ∧ f ≠ 15 ∧ f ≠ 17 ∧ f ≠ 18) : moveK z d k f = z f := by
  induction k with
  | zero => rfl
  | succ k ih => rw [moveK, move1_lo _ _ _ hf]; exact ih
theorem IO_judgeK {z : St} (h : IO z) (k : Nat) : IO (judgeK z k) := by
  induction k with
  | zero => exact h
  | succ k ih => exact IO_judge1 ih k
theorem judgeK_lo (z : St) (k : Nat) {f : Nat} (hf : f ≠ 9 ∧ f ≠ 10 ∧ f ≠ 15) : judgeK z k f = z f := by
  induction k with
  | zero => rfl
  | succ k ih => rw [judgeK, judge1_lo _ _ hf]; exact ih
theorem serve1_lo (z : St) (b : Nat) {f : Nat} (h : f ≠ 8 ∧ f ≠ 15 ∧ f ≠ 16) : serve1 z b f = z f := by
  unfold serve1 permit
  rw [u2_f h.1, u2_f h.2.2, u2_f h.2.1]
theorem serve_lo (r d : Int32) : ∀ (k : Nat) (z : St) {f : Nat}, f ≠ 8 ∧ f ≠ 15 ∧ f ≠ 16 → serve r d k z f = z f := by
  intro k
  induction k with
  | zero => intro z f h; rfl
  | succ k ih =>
    intro z f h
    unfold serve
    split
    · rfl
    · rw [ih _ h, serve1_lo _ _ h]
theorem cancel_won {z : St} {a : Int32} {q : Nat} (h1 : appP z a) (h2 : aliveP z (cn a)) (h3 : z 15 (cn a) = 1) (hR : z 12 (cn a) = nI q) : spCancel z a = (backNow z (cn a), if openP (u2 (u2 z 15 (cn a) 3) 17 (cn a) (backNow z (cn a))) (z 13 (cn a)) then serve (nI q) (z 13 (cn a)) (nA (u2 (u2 z 15 (cn a) 3) 17 (cn a) (backNow z (cn a)))) (u2 (u2 z 15 (cn a) 3) 17 (cn a) (backNow z (cn a))) else u2 (u2 z 15 (cn a) 3) 17 (cn a) (backNow z (cn a))) := by
  unfold spCancel
  rw [if_neg (not_not_intro h1), if_neg (not_not_intro h2), if_pos h3, hR]
  rfl
theorem cpAll_0 (z : St) (q i : Nat) : cpAll z (q + 1) 0 0 i = z 0 i := by
  unfold cpAll cpS
  rw [if_neg]
  omega
