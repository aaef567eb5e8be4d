/-! ===== the model's cells ===== -/
def fO (k : Nat) : Nat := if k < 4 then k else if k < 10 then 4 else if k < 22 then 5 + (k - 10) % 2 else if k < 82 then 7 else if k < 118 then 8 + (k - 82) % 3 else 11 + (k - 118) % 9
def iO (k : Nat) : Nat := if k < 4 then 0 else if k < 10 then k - 4 else if k < 22 then (k - 10) / 2 else if k < 82 then k - 22 else if k < 118 then (k - 82) / 3 else (k - 118) / 9
def gO (o f : Nat) : Nat := if f = 10 then 87 + o else if o = 0 then f else 80 + 20 * o + f
def atF (z : St) (o k : Nat) : Int32 := z (gO o (fO k)) (iO k)
theorem fO_lt (k : Nat) : fO k < 20 := by unfold fO; (repeat' split) <;> omega
def kO (f i : Nat) : Nat := if f < 4 then f else if f = 4 then 4 + i else if f < 7 then 10 + 2 * i + (f - 5) else if f = 7 then 22 + i else if f < 11 then 82 + 3 * i + (f - 8) else 118 + 9 * i + (f - 11)
theorem kO_k (k : Nat) : kO (fO k) (iO k) = k := by
  unfold fO iO
  by_cases a1 : k < 4
  · simp only [a1, if_true, kO]
  by_cases a2 : k < 10
  · simp only [a1, a2, if_true, if_false, kO]; simp; omega
  by_cases a3 : k < 22
  · simp only [a1, a2, a3, if_true, if_false]
    have h1 : ¬ 5 + (k - 10) % 2 < 4 := by omega
    have h2 : ¬ 5 + (k - 10) % 2 = 4 := by omega
    have h3 : 5 + (k - 10) % 2 < 7 := by omega
    simp only [kO, h1, h2, h3, if_true, if_false]; omega
  by_cases a4 : k < 82
  · simp only [a1, a2, a3, a4, if_true, if_false, kO]; simp; omega
  by_cases a5 : k < 118
  · simp only [a1, a2, a3, a4, a5, if_true, if_false]
    have h1 : ¬ 8 + (k - 82) % 3 < 4 := by omega
    have h2 : ¬ 8 + (k - 82) % 3 = 4 := by omega
    have h3 : ¬ 8 + (k - 82) % 3 < 7 := by omega
    have h4 : ¬ 8 + (k - 82) % 3 = 7 := by omega
    have h5 : 8 + (k - 82) % 3 < 11 := by omega
    simp only [kO, h1, h2, h3, h4, h5, if_true, if_false]; omega
  · simp only [a1, a2, a3, a4, a5, if_false]
    have h1 : ¬ 11 + (k - 118) % 9 < 4 := by omega
    have h2 : ¬ 11 + (k - 118) % 9 = 4 := by omega
    have h3 : ¬ 11 + (k - 118) % 9 < 7 := by omega
    have h4 : ¬ 11 + (k - 118) % 9 = 7 := by omega
    have h5 : ¬ 11 + (k - 118) % 9 < 11 := by omega
    simp only [kO, h1, h2, h3, h4, h5, if_false]; omega
theorem fi_inj {k j : Nat} (hf : fO k = fO j) (hi : iO k = iO j) : k = j := by
  rw [← kO_k k, ← kO_k j, hf, hi]
theorem fO_r {r : Nat} (h : r < 6) : fO (10 + 2 * r) = 5 ∧ iO (10 + 2 * r) = r ∧ fO (11 + 2 * r) = 6 ∧ iO (11 + 2 * r) = r := by
  unfold fO iO
  refine ⟨?_, ?_, ?_, ?_⟩ <;> (repeat' split) <;> omega
theorem fO_d {d : Nat} (h : d < 60) : fO (22 + d) = 7 ∧ iO (22 + d) = d := by
  unfold fO iO
  refine ⟨?_, ?_⟩ <;> (repeat' split) <;> omega
theorem fO_c {c q : Nat} (h : c < 12) (hq : q < 3) : fO (82 + 3 * c + q) = 8 + q ∧ iO (82 + 3 * c + q) = c := by
  unfold fO iO
  refine ⟨?_, ?_⟩ <;> (repeat' split) <;> omega
theorem fO_a {a q : Nat} (hq : q < 9) : fO (118 + 9 * a + q) = 11 + q ∧ iO (118 + 9 * a + q) = a := by
  unfold fO iO
  refine ⟨?_, ?_⟩ <;> (repeat' split) <;> omega
theorem fO_s {q : Nat} (hq : q < 6) : fO (4 + q) = 4 ∧ iO (4 + q) = q := by
  unfold fO iO
  refine ⟨?_, ?_⟩ <;> (repeat' split) <;> omega
theorem gO_inj {o o2 f g : Nat} (ho : o < 3) (ho2 : o2 < 3) (hf : f < 20) (hg : g < 20) (h : gO o f = gO o2 g) : o = o2 ∧ f = g := by
  unfold gO at h
  (repeat' split at h) <;> omega
theorem gO_lt {o f : Nat} (ho : o < 3) (hf : f < 20) : gO o f < 20 ∨ (87 ≤ gO o f ∧ gO o f < 140) := by unfold gO; (repeat' split) <;> omega
theorem atF_ne (z : St) {o f : Nat} (i : Nat) (v : Int32) (ho : o < 3) (hf : 60 ≤ f ∧ f < 87) (k : Nat) : atF (u2 z f i v) o k = atF z o k := by
  have h := gO_lt ho (fO_lt k)
  have : gO o (fO k) ≠ f := by omega
  simp [atF, u2_f this]
theorem atF_u2 (z : St) {o o2 q : Nat} (v : Int32) (ho : o < 3) (ho2 : o2 < 3) (k : Nat) : atF (u2 z (gO o (fO q)) (iO q) v) o2 k = if o2 = o ∧ k = q then v else atF z o2 k := by
  by_cases h : o2 = o ∧ k = q
  · obtain ⟨rfl, rfl⟩ := h
    simp [atF, u2_s]
  · rw [if_neg h]
    show u2 z _ _ v _ _ = _
    unfold u2
    rw [if_neg]
    · rfl
    · rintro ⟨h1, h2⟩
      obtain ⟨h3, h4⟩ := gO_inj ho2 ho (fO_lt k) (fO_lt q) h1
      exact h ⟨h3, fi_inj h4 h2⟩
def cfM (G : MG) (z : St) (k : Nat) : va_E :=
  if k = 0 then .inr (7, [.ref (G.2.2 1), .ref (G.2.2 2), .ref (G.2.2 3), .ref (G.2.2 4), .ref (G.2.2 5), .int (z 69 0), .ref (G.2.2 6), .ref (G.2.2 7), .int (z 83 0), .int (z 84 0), .ref (G.2.2 8), .int (z 86 0)])
  else if k = 1 then .inl (G.2.1 0, 478, .inl (fun j => atF z 0 j))
  else if k = 2 then .inl (G.2.1 0, 478, .inl (z 80))
  else if k = 3 then .inl (G.2.1 0, 956, .inl (fun j => if j < 956 then atF z (j / 478 + 1) (j % 478) else 0))
  else if k = 4 then .inl (G.2.1 1, 2, .inl (z 60))
  else if k = 5 then .inl (G.2.1 0, 60, .inl (z 68))
  else if k = 6 then .inl (G.2.1 0, 40, .inl (z 81))
  else if k = 7 then .inl (G.2.1 1, 40, .inl (z 82))
  else .inl (G.2.1 0, 48, .inl (z 85))
theorem k9 {k : Nat} (h : k < 9) : k = 0 ∨ k = 1 ∨ k = 2 ∨ k = 3 ∨ k = 4 ∨ k = 5 ∨ k = 6 ∨ k = 7 ∨ k = 8 := by omega
theorem slF_ne (z : St) {f : Nat} (i : Nat) (v : Int32) (hf : 60 ≤ f ∧ f < 87) : (fun j => if j < 956 then atF (u2 z f i v) (j / 478 + 1) (j % 478) else 0) = fun j => if j < 956 then atF z (j / 478 + 1) (j % 478) else 0 := by
  funext j
  by_cases h : j < 956
  · simp only [h, if_true]
    exact atF_ne z i v (by omega) hf _
  · simp only [h, if_false]
theorem atF_nef (z : St) {f : Nat} (i : Nat) (v : Int32) (hf : 60 ≤ f ∧ f < 87) : (fun j => atF (u2 z f i v) 0 j) = fun j => atF z 0 j := by
  funext j
  exact atF_ne z i v (by omega) hf _
theorem mq_69 (G : MG) (z : St) (v : Int32) : ∀ k, k < 9 → cfM G (u2 z 69 0 v) k = va_up (cfM G z) 0 (.inr (7, [.ref (G.2.2 1), .ref (G.2.2 2), .ref (G.2.2 3), .ref (G.2.2 4), .ref (G.2.2 5), .int v, .ref (G.2.2 6), .ref (G.2.2 7), .int (z 83 0), .int (z 84 0), .ref (G.2.2 8), .int (z 86 0)])) k := by
  intro k hk
  rcases k9 hk with rfl | rfl | rfl | rfl | rfl | rfl | rfl | rfl | rfl <;> simp only [cfM, va_up, atF_nef z (f := 69) 0 v (by omega), slF_ne z (f := 69) 0 v (by omega)] <;> simp [u2_f, u2_s]
theorem mq_83 (G : MG) (z : St) (v : Int32) : ∀ k, k < 9 → cfM G (u2 z 83 0 v) k = va_up (cfM G z) 0 (.inr (7, [.ref (G.2.2 1), .ref (G.2.2 2), .ref (G.2.2 3), .ref (G.2.2 4), .ref (G.2.2 5), .int (z 69 0), .ref (G.2.2 6), .ref (G.2.2 7), .int v, .int (z 84 0), .ref (G.2.2 8), .int (z 86 0)])) k := by
  intro k hk
  rcases k9 hk with rfl | rfl | rfl | rfl | rfl | rfl | rfl | rfl | rfl <;> simp only [cfM, va_up, atF_nef z (f := 83) 0 v (by omega), slF_ne z (f := 83) 0 v (by omega)] <;> simp [u2_f, u2_s]
theorem mq_84 (G : MG) (z : St) (v : Int32) : ∀ k, k < 9 → cfM G (u2 z 84 0 v) k = va_up (cfM G z) 0 (.inr (7, [.ref (G.2.2 1), .ref (G.2.2 2), .ref (G.2.2 3), .ref (G.2.2 4), .ref (G.2.2 5), .int (z 69 0), .ref (G.2.2 6), .ref (G.2.2 7), .int (z 83 0), .int v, .ref (G.2.2 8), .int (z 86 0)])) k := by
  intro k hk
  rcases k9 hk with rfl | rfl | rfl | rfl | rfl | rfl | rfl | rfl | rfl <;> simp only [cfM, va_up, atF_nef z (f := 84) 0 v (by omega), slF_ne z (f := 84) 0 v (by omega)] <;> simp [u2_f, u2_s]
theorem mq_86 (G : MG) (z : St) (v : Int32) : ∀ k, k < 9 → cfM G (u2 z 86 0 v) k = va_up (cfM G z) 0 (.inr (7, [.ref (G.2.2 1), .ref (G.2.2 2), .ref (G.2.2 3), .ref (G.2.2 4), .ref (G.2.2 5), .int (z 69 0), .ref (G.2.2 6), .ref (G.2.2 7), .int (z 83 0), .int (z 84 0), .ref (G.2.2 8), .int v])) k := by
  intro k hk
  rcases k9 hk with rfl | rfl | rfl | rfl | rfl | rfl | rfl | rfl | rfl <;> simp only [cfM, va_up, atF_nef z (f := 86) 0 v (by omega), slF_ne z (f := 86) 0 v (by omega)] <;> simp [u2_f, u2_s]
theorem mq_80 (G : MG) (z : St) (i : Nat) (v : Int32) : ∀ k, k < 9 → cfM G (u2 z 80 i v) k = va_up (cfM G z) 2 (.inl (G.2.1 0, 478, .inl (upd (z 80) i v))) k := by
  intro k hk
  rcases k9 hk with rfl | rfl | rfl | rfl | rfl | rfl | rfl | rfl | rfl <;> simp only [cfM, va_up, atF_nef z (f := 80) i v (by omega), slF_ne z (f := 80) i v (by omega)] <;> simp [u2_f, u2_ff]
theorem mq_60 (G : MG) (z : St) (i : Nat) (v : Int32) : ∀ k, k < 9 → cfM G (u2 z 60 i v) k = va_up (cfM G z) 4 (.inl (G.2.1 1, 2, .inl (upd (z 60) i v))) k := by
  intro k hk
  rcases k9 hk with rfl | rfl | rfl | rfl | rfl | rfl | rfl | rfl | rfl <;> simp only [cfM, va_up, atF_nef z (f := 60) i v (by omega), slF_ne z (f := 60) i v (by omega)] <;> simp [u2_f, u2_ff]
theorem mq_68 (G : MG) (z : St) (i : Nat) (v : Int32) : ∀ k, k < 9 → cfM G (u2 z 68 i v) k = va_up (cfM G z) 5 (.inl (G.2.1 0, 60, .inl (upd (z 68) i v))) k := by
  intro k hk
  rcases k9 hk with rfl | rfl | rfl | rfl | rfl | rfl | rfl | rfl | rfl <;> simp only [cfM, va_up, atF_nef z (f := 68) i v (by omega), slF_ne z (f := 68) i v (by omega)] <;> simp [u2_f, u2_ff]
theorem mq_81 (G : MG) (z : St) (i : Nat) (v : Int32) : ∀ k, k < 9 → cfM G (u2 z 81 i v) k = va_up (cfM G z) 6 (.inl (G.2.1 0, 40, .inl (upd (z 81) i v))) k := by
  intro k hk
  rcases k9 hk with rfl | rfl | rfl | rfl | rfl | rfl | rfl | rfl | rfl <;> simp only [cfM, va_up, atF_nef z (f := 81) i v (by omega), slF_ne z (f := 81) i v (by omega)] <;> simp [u2_f, u2_ff]
theorem mq_82 (G : MG) (z : St) (i : Nat) (v : Int32) : ∀ k, k < 9 → cfM G (u2 z 82 i v) k = va_up (cfM G z) 7 (.inl (G.2.1 1, 40, .inl (upd (z 82) i v))) k := by
  intro k hk
  rcases k9 hk with rfl | rfl | rfl | rfl | rfl | rfl | rfl | rfl | rfl <;> simp only [cfM, va_up, atF_nef z (f := 82) i v (by omega), slF_ne z (f := 82) i v (by omega)] <;> simp [u2_f, u2_ff]
theorem mq_85 (G : MG) (z : St) (i : Nat) (v : Int32) : ∀ k, k < 9 → cfM G (u2 z 85 i v) k = va_up (cfM G z) 8 (.inl (G.2.1 0, 48, .inl (upd (z 85) i v))) k := by
  intro k hk
  rcases k9 hk with rfl | rfl | rfl | rfl | rfl | rfl | rfl | rfl | rfl <;> simp only [cfM, va_up, atF_nef z (f := 85) i v (by omega), slF_ne z (f := 85) i v (by omega)] <;> simp [u2_f, u2_ff]
theorem mq_at (G : MG) (z : St) (q : Nat) (v : Int32) : ∀ k, k < 9 → cfM G (u2 z (gO 0 (fO q)) (iO q) v) k = va_up (cfM G z) 1 (.inl (G.2.1 0, 478, .inl (upd (fun j => atF z 0 j) q v))) k := by
  intro k hk
  have h := gO_lt (o := 0) (by omega) (fO_lt q)
  have hg : ∀ g, 60 ≤ g ∧ g < 87 → u2 z (gO 0 (fO q)) (iO q) v g = z g := fun g hg => u2_f (by omega)
  have e1 : (fun j => atF (u2 z (gO 0 (fO q)) (iO q) v) 0 j) = upd (fun j => atF z 0 j) q v := by
    funext j
    rw [atF_u2 z v (by omega) (by omega)]
    simp [upd]
  have e2 : (fun j => if j < 956 then atF (u2 z (gO 0 (fO q)) (iO q) v) (j / 478 + 1) (j % 478) else 0) = fun j => if j < 956 then atF z (j / 478 + 1) (j % 478) else 0 := by
    funext j
    by_cases h : j < 956
    · simp only [h, if_true]
      rw [atF_u2 z v (by omega) (by omega), if_neg (by omega)]
    · simp only [h, if_false]
  rcases k9 hk with rfl | rfl | rfl | rfl | rfl | rfl | rfl | rfl | rfl <;> simp only [cfM, va_up, e1, e2] <;> simp [hg]
theorem mq_sl (G : MG) (z : St) {q : Nat} (hq : q < 956) (v : Int32) : ∀ k, k < 9 → cfM G (u2 z (gO (q / 478 + 1) (fO (q % 478))) (iO (q % 478)) v) k = va_up (cfM G z) 3 (.inl (G.2.1 0, 956, .inl (upd (fun j => if j < 956 then atF z (j / 478 + 1) (j % 478) else 0) q v))) k := by
  intro k hk
  have h := gO_lt (o := q / 478 + 1) (by omega) (fO_lt (q % 478))
  have hg : ∀ g, 60 ≤ g ∧ g < 87 → u2 z (gO (q / 478 + 1) (fO (q % 478))) (iO (q % 478)) v g = z g := fun g hg => u2_f (by omega)
  have e1 : (fun j => atF (u2 z (gO (q / 478 + 1) (fO (q % 478))) (iO (q % 478)) v) 0 j) = fun j => atF z 0 j := by
    funext j
    rw [atF_u2 z v (by omega) (by omega), if_neg (by omega)]
  have e2 : (fun j => if j < 956 then atF (u2 z (gO (q / 478 + 1) (fO (q % 478))) (iO (q % 478)) v) (j / 478 + 1) (j % 478) else 0) = upd (fun j => if j < 956 then atF z (j / 478 + 1) (j % 478) else 0) q v := by
    funext j
    by_cases h : j < 956
    · simp only [h, if_true, upd]
      rw [atF_u2 z v (by omega) (by omega)]
      by_cases hj : j = q
      · subst hj; simp
      · have : ¬ (j / 478 + 1 = q / 478 + 1 ∧ j % 478 = q % 478) := by omega
        rw [if_neg this, if_neg hj]
    · have : ¬ j = q := by omega
      simp only [h, if_false, upd, this]
  rcases k9 hk with rfl | rfl | rfl | rfl | rfl | rfl | rfl | rfl | rfl <;> simp only [cfM, va_up, e1, e2] <;> simp [hg]
section MR
variable {X : GC} {l : Launch} {R : Room} {cc : ByteArray} {nL : Nat} {Ts : List Cond} {own : String} {z : St} {pc index : Nat} {lv : List (Nat × Value)} {st : List Value} {G : MG} {Ex : State → Prop}
theorem m_g_0 (hX : GX X l R cc nL Ts own (AA 9 G.2.2) (PW 9 G cfM) (KQ G Ex))  (hin : ∀ w ∈ wsX70, w ∈ Ts) (hl : Cond.fieldLink own index "ClimbPermitsModel" "at" "[I" ∈ Ts) (hd : decode cc pc = .ok (.getfield index, 3)) (kk : Go X z (pc + 3) lv (.ref (G.2.2 1) :: st)) : Go X z pc lv (.ref (G.2.2 (0)) :: st) :=
  w_get hX (0) (by decide) (rfl) rfl hin 0 (by decide) hl rfl rfl hd kk
theorem m_g_1 (hX : GX X l R cc nL Ts own (AA 9 G.2.2) (PW 9 G cfM) (KQ G Ex))  (hin : ∀ w ∈ wsX70, w ∈ Ts) (hl : Cond.fieldLink own index "ClimbPermitsModel" "aside" "[I" ∈ Ts) (hd : decode cc pc = .ok (.getfield index, 3)) (kk : Go X z (pc + 3) lv (.ref (G.2.2 2) :: st)) : Go X z pc lv (.ref (G.2.2 (0)) :: st) :=
  w_get hX (0) (by decide) (rfl) rfl hin 1 (by decide) hl rfl rfl hd kk
theorem m_g_2 (hX : GX X l R cc nL Ts own (AA 9 G.2.2) (PW 9 G cfM) (KQ G Ex))  (hin : ∀ w ∈ wsX70, w ∈ Ts) (hl : Cond.fieldLink own index "ClimbPermitsModel" "slots" "[I" ∈ Ts) (hd : decode cc pc = .ok (.getfield index, 3)) (kk : Go X z (pc + 3) lv (.ref (G.2.2 3) :: st)) : Go X z pc lv (.ref (G.2.2 (0)) :: st) :=
  w_get hX (0) (by decide) (rfl) rfl hin 2 (by decide) hl rfl rfl hd kk
theorem m_g_3 (hX : GX X l R cc nL Ts own (AA 9 G.2.2) (PW 9 G cfM) (KQ G Ex))  (hin : ∀ w ∈ wsX70, w ∈ Ts) (hl : Cond.fieldLink own index "ClimbPermitsModel" "isSaved" "[Z" ∈ Ts) (hd : decode cc pc = .ok (.getfield index, 3)) (kk : Go X z (pc + 3) lv (.ref (G.2.2 4) :: st)) : Go X z pc lv (.ref (G.2.2 (0)) :: st) :=
  w_get hX (0) (by decide) (rfl) rfl hin 3 (by decide) hl rfl rfl hd kk
theorem m_g_4 (hX : GX X l R cc nL Ts own (AA 9 G.2.2) (PW 9 G cfM) (KQ G Ex))  (hin : ∀ w ∈ wsX70, w ∈ Ts) (hl : Cond.fieldLink own index "ClimbPermitsModel" "pad" "[I" ∈ Ts) (hd : decode cc pc = .ok (.getfield index, 3)) (kk : Go X z (pc + 3) lv (.ref (G.2.2 5) :: st)) : Go X z pc lv (.ref (G.2.2 (0)) :: st) :=
  w_get hX (0) (by decide) (rfl) rfl hin 4 (by decide) hl rfl rfl hd kk
theorem m_g_5 (hX : GX X l R cc nL Ts own (AA 9 G.2.2) (PW 9 G cfM) (KQ G Ex))  (hin : ∀ w ∈ wsX70, w ∈ Ts) (hl : Cond.fieldLink own index "ClimbPermitsModel" "padMany" "I" ∈ Ts) (hd : decode cc pc = .ok (.getfield index, 3)) (kk : Go X z (pc + 3) lv (.int (z 69 0) :: st)) : Go X z pc lv (.ref (G.2.2 (0)) :: st) :=
  w_get hX (0) (by decide) (rfl) rfl hin 5 (by decide) hl rfl rfl hd kk
theorem m_p_5 (hX : GX X l R cc nL Ts own (AA 9 G.2.2) (PW 9 G cfM) (KQ G Ex)) (hA : Ap 9 G.2.2)  {v : Int32} (hin : ∀ w ∈ wsX70, w ∈ Ts) (hl : Cond.fieldLink own index "ClimbPermitsModel" "padMany" "I" ∈ Ts) (hd : decode cc pc = .ok (.putfield index, 3)) (kk : Go X (u2 z 69 0 v) (pc + 3) lv st) : Go X z pc lv (.int v :: .ref (G.2.2 (0)) :: st) :=
  w_put (z2 := u2 z 69 0 v) (ty := .int) hX hA (0) (by decide) (rfl) rfl hin tyX7 tyX7_ok nmX7 5 (by decide) hl rfl rfl (by decide +kernel) rfl rfl (Nat.le_of_ble_eq_true rfl) (mq_69 G z v) hd kk
theorem m_g_6 (hX : GX X l R cc nL Ts own (AA 9 G.2.2) (PW 9 G cfM) (KQ G Ex))  (hin : ∀ w ∈ wsX70, w ∈ Ts) (hl : Cond.fieldLink own index "ClimbPermitsModel" "tickets" "[I" ∈ Ts) (hd : decode cc pc = .ok (.getfield index, 3)) (kk : Go X z (pc + 3) lv (.ref (G.2.2 6) :: st)) : Go X z pc lv (.ref (G.2.2 (0)) :: st) :=
  w_get hX (0) (by decide) (rfl) rfl hin 6 (by decide) hl rfl rfl hd kk
theorem m_g_7 (hX : GX X l R cc nL Ts own (AA 9 G.2.2) (PW 9 G cfM) (KQ G Ex))  (hin : ∀ w ∈ wsX70, w ∈ Ts) (hl : Cond.fieldLink own index "ClimbPermitsModel" "isIn" "[Z" ∈ Ts) (hd : decode cc pc = .ok (.getfield index, 3)) (kk : Go X z (pc + 3) lv (.ref (G.2.2 7) :: st)) : Go X z pc lv (.ref (G.2.2 (0)) :: st) :=
  w_get hX (0) (by decide) (rfl) rfl hin 7 (by decide) hl rfl rfl hd kk
theorem m_g_8 (hX : GX X l R cc nL Ts own (AA 9 G.2.2) (PW 9 G cfM) (KQ G Ex))  (hin : ∀ w ∈ wsX70, w ∈ Ts) (hl : Cond.fieldLink own index "ClimbPermitsModel" "spot" "I" ∈ Ts) (hd : decode cc pc = .ok (.getfield index, 3)) (kk : Go X z (pc + 3) lv (.int (z 83 0) :: st)) : Go X z pc lv (.ref (G.2.2 (0)) :: st) :=
  w_get hX (0) (by decide) (rfl) rfl hin 8 (by decide) hl rfl rfl hd kk
theorem m_p_8 (hX : GX X l R cc nL Ts own (AA 9 G.2.2) (PW 9 G cfM) (KQ G Ex)) (hA : Ap 9 G.2.2)  {v : Int32} (hin : ∀ w ∈ wsX70, w ∈ Ts) (hl : Cond.fieldLink own index "ClimbPermitsModel" "spot" "I" ∈ Ts) (hd : decode cc pc = .ok (.putfield index, 3)) (kk : Go X (u2 z 83 0 v) (pc + 3) lv st) : Go X z pc lv (.int v :: .ref (G.2.2 (0)) :: st) :=
  w_put (z2 := u2 z 83 0 v) (ty := .int) hX hA (0) (by decide) (rfl) rfl hin tyX7 tyX7_ok nmX7 8 (by decide) hl rfl rfl (by decide +kernel) rfl rfl (Nat.le_of_ble_eq_true rfl) (mq_83 G z v) hd kk
theorem m_g_9 (hX : GX X l R cc nL Ts own (AA 9 G.2.2) (PW 9 G cfM) (KQ G Ex))  (hin : ∀ w ∈ wsX70, w ∈ Ts) (hl : Cond.fieldLink own index "ClimbPermitsModel" "isWrong" "Z" ∈ Ts) (hd : decode cc pc = .ok (.getfield index, 3)) (kk : Go X z (pc + 3) lv (.int (z 84 0) :: st)) : Go X z pc lv (.ref (G.2.2 (0)) :: st) :=
  w_get hX (0) (by decide) (rfl) rfl hin 9 (by decide) hl rfl rfl hd kk
theorem m_p_9 (hX : GX X l R cc nL Ts own (AA 9 G.2.2) (PW 9 G cfM) (KQ G Ex)) (hA : Ap 9 G.2.2)  {v : Int32} (hb : v = 0 ∨ v = 1) (hin : ∀ w ∈ wsX70, w ∈ Ts) (hl : Cond.fieldLink own index "ClimbPermitsModel" "isWrong" "Z" ∈ Ts) (hd : decode cc pc = .ok (.putfield index, 3)) (kk : Go X (u2 z 84 0 v) (pc + 3) lv st) : Go X z pc lv (.int v :: .ref (G.2.2 (0)) :: st) :=
  w_put (z2 := u2 z 84 0 v) (ty := .boolean) hX hA (0) (by decide) (rfl) rfl hin tyX7 tyX7_ok nmX7 9 (by decide) hl rfl rfl (by decide +kernel) (by rcases hb with rfl | rfl <;> rfl) (by rcases hb with rfl | rfl <;> rfl) (Nat.le_of_ble_eq_true rfl) (mq_84 G z v) hd kk
theorem m_g_10 (hX : GX X l R cc nL Ts own (AA 9 G.2.2) (PW 9 G cfM) (KQ G Ex))  (hin : ∀ w ∈ wsX70, w ∈ Ts) (hl : Cond.fieldLink own index "ClimbPermitsModel" "read" "[I" ∈ Ts) (hd : decode cc pc = .ok (.getfield index, 3)) (kk : Go X z (pc + 3) lv (.ref (G.2.2 8) :: st)) : Go X z pc lv (.ref (G.2.2 (0)) :: st) :=
  w_get hX (0) (by decide) (rfl) rfl hin 10 (by decide) hl rfl rfl hd kk
theorem m_g_11 (hX : GX X l R cc nL Ts own (AA 9 G.2.2) (PW 9 G cfM) (KQ G Ex))  (hin : ∀ w ∈ wsX70, w ∈ Ts) (hl : Cond.fieldLink own index "ClimbPermitsModel" "readMany" "I" ∈ Ts) (hd : decode cc pc = .ok (.getfield index, 3)) (kk : Go X z (pc + 3) lv (.int (z 86 0) :: st)) : Go X z pc lv (.ref (G.2.2 (0)) :: st) :=
  w_get hX (0) (by decide) (rfl) rfl hin 11 (by decide) hl rfl rfl hd kk
theorem m_p_11 (hX : GX X l R cc nL Ts own (AA 9 G.2.2) (PW 9 G cfM) (KQ G Ex)) (hA : Ap 9 G.2.2)  {v : Int32} (hin : ∀ w ∈ wsX70, w ∈ Ts) (hl : Cond.fieldLink own index "ClimbPermitsModel" "readMany" "I" ∈ Ts) (hd : decode cc pc = .ok (.putfield index, 3)) (kk : Go X (u2 z 86 0 v) (pc + 3) lv st) : Go X z pc lv (.int v :: .ref (G.2.2 (0)) :: st) :=
  w_put (z2 := u2 z 86 0 v) (ty := .int) hX hA (0) (by decide) (rfl) rfl hin tyX7 tyX7_ok nmX7 11 (by decide) hl rfl rfl (by decide +kernel) rfl rfl (Nat.le_of_ble_eq_true rfl) (mq_86 G z v) hd kk
theorem m_ld_at (hX : GX X l R cc nL Ts own (AA 9 G.2.2) (PW 9 G cfM) (KQ G Ex)) {i : Int32} (q : Nat) (hi : i = nI q) (hq : q < 478) (hd : decode cc pc = .ok (.iaload, 1)) {v : Int32} (hv : atF z 0 q = v) (kk : Go X z (pc + 1) lv (.int v :: st)) : Go X z pc lv (.int i :: .ref (G.2.2 1) :: st) :=
  w_iald (f := fun j => atF z 0 j) hX 1 (by decide) rfl q hi hq (by decide) hd (by simpa only [hv] using kk)
theorem m_st_at (hX : GX X l R cc nL Ts own (AA 9 G.2.2) (PW 9 G cfM) (KQ G Ex)) (hA : Ap 9 G.2.2) {i x : Int32} (q : Nat) (hi : i = nI q) (hq : q < 478) (hd : decode cc pc = .ok (.iastore, 1)) (kk : Go X (u2 z (gO 0 (fO q)) (iO q) x) (pc + 1) lv st) : Go X z pc lv (.int x :: .int i :: .ref (G.2.2 1) :: st) :=
  w_iast (f := fun j => atF z 0 j) (z2 := u2 z (gO 0 (fO q)) (iO q) x) hX hA 1 (by decide) rfl q hi hq (by decide) (mq_at G z q x) hd kk
theorem m_ld_slots (hX : GX X l R cc nL Ts own (AA 9 G.2.2) (PW 9 G cfM) (KQ G Ex)) {i : Int32} (q : Nat) (hi : i = nI q) (hq : q < 956) (hd : decode cc pc = .ok (.iaload, 1)) (kk : Go X z (pc + 1) lv (.int (atF z (q / 478 + 1) (q % 478)) :: st)) : Go X z pc lv (.int i :: .ref (G.2.2 3) :: st) :=
  w_iald (f := fun j => if j < 956 then atF z (j / 478 + 1) (j % 478) else 0) hX 3 (by decide) rfl q hi hq (by decide) hd (by simpa only [hq, if_true] using kk)
theorem m_st_slots (hX : GX X l R cc nL Ts own (AA 9 G.2.2) (PW 9 G cfM) (KQ G Ex)) (hA : Ap 9 G.2.2) {i x : Int32} (q : Nat) (hi : i = nI q) (hq : q < 956) (hd : decode cc pc = .ok (.iastore, 1)) (kk : Go X (u2 z (gO (q / 478 + 1) (fO (q % 478))) (iO (q % 478)) x) (pc + 1) lv st) : Go X z pc lv (.int x :: .int i :: .ref (G.2.2 3) :: st) :=
  w_iast (f := fun j => if j < 956 then atF z (j / 478 + 1) (j % 478) else 0) (z2 := u2 z (gO (q / 478 + 1) (fO (q % 478))) (iO (q % 478)) x) hX hA 3 (by decide) rfl q hi hq (by decide) (mq_sl G z hq x) hd kk
theorem m_ld_aside (hX : GX X l R cc nL Ts own (AA 9 G.2.2) (PW 9 G cfM) (KQ G Ex)) {i : Int32} (q : Nat) (hi : i = nI q) (hq : q < 478) (hd : decode cc pc = .ok (.iaload, 1)) (kk : Go X z (pc + 1) lv (.int (z 80 q) :: st)) : Go X z pc lv (.int i :: .ref (G.2.2 2) :: st) :=
  w_iald (f := z 80) hX 2 (by decide) rfl q hi hq (by decide) hd kk
theorem m_st_aside (hX : GX X l R cc nL Ts own (AA 9 G.2.2) (PW 9 G cfM) (KQ G Ex)) (hA : Ap 9 G.2.2) {i x : Int32} (q : Nat) (hi : i = nI q) (hq : q < 478) (hd : decode cc pc = .ok (.iastore, 1)) (kk : Go X (u2 z 80 q x) (pc + 1) lv st) : Go X z pc lv (.int x :: .int i :: .ref (G.2.2 2) :: st) :=
  w_iast (x := x) (f := z 80) (z2 := u2 z 80 q x) hX hA 2 (by decide) rfl q hi hq (by decide) (mq_80 G z q x) hd kk
theorem m_ld_isSaved (hX : GX X l R cc nL Ts own (AA 9 G.2.2) (PW 9 G cfM) (KQ G Ex)) {i : Int32} (q : Nat) (hi : i = nI q) (hq : q < 2) (hd : decode cc pc = .ok (.baload, 1)) (kk : Go X z (pc + 1) lv (.int (z 60 q) :: st)) : Go X z pc lv (.int i :: .ref (G.2.2 4) :: st) :=
  w_zald (f := z 60) hX 4 (by decide) rfl q hi hq (by decide) hd kk
theorem m_st_isSaved (hX : GX X l R cc nL Ts own (AA 9 G.2.2) (PW 9 G cfM) (KQ G Ex)) (hA : Ap 9 G.2.2) {i x : Int32} (q : Nat) (hi : i = nI q) (hq : q < 2) (hb : x = 0 ∨ x = 1) (hd : decode cc pc = .ok (.bastore, 1)) (kk : Go X (u2 z 60 q x) (pc + 1) lv st) : Go X z pc lv (.int x :: .int i :: .ref (G.2.2 4) :: st) :=
  w_zast (x := x) (f := z 60) (z2 := u2 z 60 q x) hX hA 4 (by decide) rfl q hi hq (by decide) ((by rw [show vp_nar .boolean x = x from (by rcases hb with rfl | rfl <;> rfl)]; exact mq_60 G z q x)) hd kk
theorem m_ld_pad (hX : GX X l R cc nL Ts own (AA 9 G.2.2) (PW 9 G cfM) (KQ G Ex)) {i : Int32} (q : Nat) (hi : i = nI q) (hq : q < 60) (hd : decode cc pc = .ok (.iaload, 1)) (kk : Go X z (pc + 1) lv (.int (z 68 q) :: st)) : Go X z pc lv (.int i :: .ref (G.2.2 5) :: st) :=
  w_iald (f := z 68) hX 5 (by decide) rfl q hi hq (by decide) hd kk
theorem m_st_pad (hX : GX X l R cc nL Ts own (AA 9 G.2.2) (PW 9 G cfM) (KQ G Ex)) (hA : Ap 9 G.2.2) {i x : Int32} (q : Nat) (hi : i = nI q) (hq : q < 60) (hd : decode cc pc = .ok (.iastore, 1)) (kk : Go X (u2 z 68 q x) (pc + 1) lv st) : Go X z pc lv (.int x :: .int i :: .ref (G.2.2 5) :: st) :=
  w_iast (x := x) (f := z 68) (z2 := u2 z 68 q x) hX hA 5 (by decide) rfl q hi hq (by decide) (mq_68 G z q x) hd kk
theorem m_ld_tickets (hX : GX X l R cc nL Ts own (AA 9 G.2.2) (PW 9 G cfM) (KQ G Ex)) {i : Int32} (q : Nat) (hi : i = nI q) (hq : q < 40) (hd : decode cc pc = .ok (.iaload, 1)) (kk : Go X z (pc + 1) lv (.int (z 81 q) :: st)) : Go X z pc lv (.int i :: .ref (G.2.2 6) :: st) :=
  w_iald (f := z 81) hX 6 (by decide) rfl q hi hq (by decide) hd kk
theorem m_st_tickets (hX : GX X l R cc nL Ts own (AA 9 G.2.2) (PW 9 G cfM) (KQ G Ex)) (hA : Ap 9 G.2.2) {i x : Int32} (q : Nat) (hi : i = nI q) (hq : q < 40) (hd : decode cc pc = .ok (.iastore, 1)) (kk : Go X (u2 z 81 q x) (pc + 1) lv st) : Go X z pc lv (.int x :: .int i :: .ref (G.2.2 6) :: st) :=
  w_iast (x := x) (f := z 81) (z2 := u2 z 81 q x) hX hA 6 (by decide) rfl q hi hq (by decide) (mq_81 G z q x) hd kk
theorem m_ld_isIn (hX : GX X l R cc nL Ts own (AA 9 G.2.2) (PW 9 G cfM) (KQ G Ex)) {i : Int32} (q : Nat) (hi : i = nI q) (hq : q < 40) (hd : decode cc pc = .ok (.baload, 1)) (kk : Go X z (pc + 1) lv (.int (z 82 q) :: st)) : Go X z pc lv (.int i :: .ref (G.2.2 7) :: st) :=
  w_zald (f := z 82) hX 7 (by decide) rfl q hi hq (by decide) hd kk
theorem m_st_isIn (hX : GX X l R cc nL Ts own (AA 9 G.2.2) (PW 9 G cfM) (KQ G Ex)) (hA : Ap 9 G.2.2) {i x : Int32} (q : Nat) (hi : i = nI q) (hq : q < 40) (hb : x = 0 ∨ x = 1) (hd : decode cc pc = .ok (.bastore, 1)) (kk : Go X (u2 z 82 q x) (pc + 1) lv st) : Go X z pc lv (.int x :: .int i :: .ref (G.2.2 7) :: st) :=
  w_zast (x := x) (f := z 82) (z2 := u2 z 82 q x) hX hA 7 (by decide) rfl q hi hq (by decide) ((by rw [show vp_nar .boolean x = x from (by rcases hb with rfl | rfl <;> rfl)]; exact mq_82 G z q x)) hd kk
theorem m_ld_read (hX : GX X l R cc nL Ts own (AA 9 G.2.2) (PW 9 G cfM) (KQ G Ex)) {i : Int32} (q : Nat) (hi : i = nI q) (hq : q < 48) (hd : decode cc pc = .ok (.iaload, 1)) (kk : Go X z (pc + 1) lv (.int (z 85 q) :: st)) : Go X z pc lv (.int i :: .ref (G.2.2 8) :: st) :=
  w_iald (f := z 85) hX 8 (by decide) rfl q hi hq (by decide) hd kk
theorem m_st_read (hX : GX X l R cc nL Ts own (AA 9 G.2.2) (PW 9 G cfM) (KQ G Ex)) (hA : Ap 9 G.2.2) {i x : Int32} (q : Nat) (hi : i = nI q) (hq : q < 48) (hd : decode cc pc = .ok (.iastore, 1)) (kk : Go X (u2 z 85 q x) (pc + 1) lv st) : Go X z pc lv (.int x :: .int i :: .ref (G.2.2 8) :: st) :=
  w_iast (x := x) (f := z 85) (z2 := u2 z 85 q x) hX hA 8 (by decide) rfl q hi hq (by decide) (mq_85 G z q x) hd kk
theorem rc_Model : RC (PW 9 G cfM) (KQ G Ex) z RX7 (G.2.2 0) := w_rec (T := TX7) 0 (by decide) rfl rfl
end MR
