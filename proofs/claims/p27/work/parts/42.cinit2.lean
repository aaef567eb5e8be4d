def gW (ct : Nat → va_E) (b : Nat) (f : Nat → va_E) (i : Nat) : va_E := if i < b then ct i else f (i - b)
theorem gW_at (ct : Nat → va_E) (b : Nat) (f : Nat → va_E) (k : Nat) : gW ct b f (b + k) = f k := by
  unfold gW
  rw [if_neg (by omega), Nat.add_sub_cancel_left]
theorem gW_0 (ct : Nat → va_E) (b : Nat) (f : Nat → va_E) : gW ct b f b = f 0 := gW_at ct b f 0
theorem gW_lt {ct : Nat → va_E} {b : Nat} {f : Nat → va_E} {i : Nat} (h : i < b) : gW ct b f i = ct i := if_pos h
theorem gW_up {ct : Nat → va_E} {b : Nat} {f f2 : Nat → va_E} (k : Nat) (e : va_E) (hk : f2 k = e) (ho : ∀ j, j ≠ k → f2 j = f j) (i : Nat) : gW ct b f2 i = va_up (gW ct b f) (b + k) e i := by
  unfold va_up
  by_cases h : i = b + k
  · rw [if_pos h, h, gW_at, hk]
  · rw [if_neg h]
    unfold gW
    by_cases h2 : i < b
    · rw [if_pos h2, if_pos h2]
    · rw [if_neg h2, if_neg h2, ho _ (by omega)]
theorem gW_cg {ct : Nat → va_E} {b n : Nat} {f f2 : Nat → va_E} (h : ∀ k, b + k < n → f2 k = f k) (i : Nat) (hi : i < n) : gW ct b f2 i = gW ct b f i := by
  unfold gW
  by_cases h2 : i < b
  · rw [if_pos h2, if_pos h2]
  · rw [if_neg h2, if_neg h2, h _ (by omega)]
def drwE (G : MG) (ad : Nat → Nat) (b m : Nat) (k : Nat) : va_E :=
  if k = 0 then .inr (2, [rf5 ad b m 0, rf5 ad b m 1, rf5 ad b m 2, rf5 ad b m 3, rf5 ad b m 4, .int 0, .int 0])
  else if k < 4 then .inl (G.2.1 0, 40, .inl (fun _ => 0)) else .inl (G.2.1 1, 40, .inl (fun _ => 0))
theorem drwE_cg {G : MG} {ad ad' : Nat → Nat} {b m nw : Nat} (h : ∀ i, i < nw → ad' i = ad i) (hm : b + m < nw) (k : Nat) : drwE G ad' b m k = drwE G ad b m k := by
  unfold drwE
  rw [rf5_cg h hm, rf5_cg h hm, rf5_cg h hm, rf5_cg h hm, rf5_cg h hm]
theorem drwE_f {G : MG} {ct : Nat → va_E} {ad : Nat → Nat} {b m : Nat} (hm : m < 5) (i : Nat) : gW ct b (drwE G ad b (m + 1)) i = va_up (gW ct b (drwE G ad b m)) b (.inr (2, ([rf5 ad b m 0, rf5 ad b m 1, rf5 ad b m 2, rf5 ad b m 3, rf5 ad b m 4, .int 0, .int 0] : List Value).set m (.ref (ad (b + 1 + m))))) i := by
  refine gW_up 0 _ ?_ ?_ i
  · have : m = 0 ∨ m = 1 ∨ m = 2 ∨ m = 3 ∨ m = 4 := by omega
    rcases this with rfl | rfl | rfl | rfl | rfl <;> rfl
  · intro j hj
    simp only [drwE, hj, if_false]
def padE (G : MG) (ad : Nat → Nat) (b m : Nat) (k : Nat) : va_E :=
  if k = 0 then .inr (4, [rf5 ad b m 0, .int 0, .int 0, .int 0, .int 0, .int 0, .int 0]) else .inl (G.2.1 2, 60, .inl (fun _ => 0))
theorem padE_cg {G : MG} {ad ad' : Nat → Nat} {b m nw : Nat} (h : ∀ i, i < nw → ad' i = ad i) (hm : b + m < nw) (k : Nat) : padE G ad' b m k = padE G ad b m k := by
  unfold padE
  rw [rf5_cg h hm]
set_option maxHeartbeats 4000000 in
set_option maxRecDepth 100000 in
theorem c_X2_init (l : Launch) (G : MG) (A : Nat → Prop) (b : Nat) (ad0 : Nat → Nat) (ct0 : Nat → va_E) (h0 : ct0 b = drwE G ad0 b 0 0) : CKi l G A yX2_init wsX2_init rm_X2_init (ad0 b) (b + 1) ad0 ct0 (b + 6) (fun ad' => gW ct0 b (drwE G ad' b 5)) 5 200 := by
  refine ck_of (own := RX2) (cc := cX2_init) (maxL := 1) (by decide +kernel) rfl rfl rfl (Nat.le_of_ble_eq_true rfl) (KQ_mv (ExI_mv A)) ?_
  intro X hX hNm ret
  refine n_lv (lv' := [(0, .ref (ad0 b))]) rfl ?_
  refine n_aload_n hX 0 dX2_init_0 rfl ?_
  refine n_obj hX (List.mem_of_getElem? (i := 1) rfl) (List.mem_of_getElem? (i := 2) rfl) (List.mem_of_getElem? (i := 3) rfl) (by decide) (Nat.le_of_ble_eq_true rfl) dX2_init_1 ?_
  refine n_w (ad2 := ad0) (ct2 := gW ct0 b (drwE G ad0 b 0)) rfl (fun _ _ => rfl) (fun i hi => ?_) ?_
  · unfold gW; by_cases h : i < b
    · rw [if_pos h]
    · have : i = b := by omega
      subst this; rw [if_neg h, Nat.sub_self, h0]
  refine n_aload_n hX 0 dX2_init_4 rfl ?_
  refine n_bipush hX 40 dX2_init_5 (by decide) ?_
  refine n_newa hX (atype := .int) (ty := .int) (N := 40) (a0 := (40, .inl (fun _ => 0))) 0 (fun ad' => gW ct0 b (drwE G ad' b 0)) (fun _ _ => rfl) rfl (List.mem_of_getElem? (i := 4) rfl) rfl (fun _ => rfl) (by decide) (by decide) (Nat.le_of_ble_eq_true rfl) (Nat.le_of_ble_eq_true rfl) (Nat.le_of_ble_eq_true rfl) dX2_init_7 (fun ad' h => ⟨fun i hi => gW_cg (n := b + 1) (fun k _ => drwE_cg h (by omega) k) i hi, gW_at ct0 b (drwE G ad' b 0) 1⟩) (fun ad1 h1 => ?_)
  have hb1 : ad1 b = ad0 b := h1 b (by omega)
  refine n_putF hX hNm (ty := .array .int) b (gW ct0 b (drwE G ad1 b 1)) (by omega) hb1 (gW_0 ct0 b (drwE G ad1 b 0)) rfl (fun w h => List.mem_cons_of_mem _ (List.mem_append_right _ h)) tyX2 tyX2_ok nmX2 0 (by decide) (List.mem_of_getElem? (i := 5) rfl) rfl rfl rfl (by decide +kernel) rfl rfl (Nat.le_of_ble_eq_true rfl) dX2_init_9 (fun i _ => drwE_f (by decide) i) ?_
  refine n_aload_n hX 0 dX2_init_12 rfl ?_
  refine n_bipush hX 40 dX2_init_13 (by decide) ?_
  refine n_newa hX (atype := .int) (ty := .int) (N := 40) (a0 := (40, .inl (fun _ => 0))) 0 (fun ad' => gW ct0 b (drwE G ad' b 1)) (fun _ _ => rfl) rfl (List.mem_of_getElem? (i := 4) rfl) rfl (fun _ => rfl) (by decide) (by decide) (Nat.le_of_ble_eq_true rfl) (Nat.le_of_ble_eq_true rfl) (Nat.le_of_ble_eq_true rfl) dX2_init_15 (fun ad' h => ⟨fun i hi => gW_cg (n := b + 2) (fun k _ => drwE_cg h (by omega) k) i hi, gW_at ct0 b (drwE G ad' b 1) 2⟩) (fun ad2 h2 => ?_)
  have hb2 : ad2 b = ad0 b := (h2 b (by omega)).trans hb1
  refine n_putF hX hNm (ty := .array .int) b (gW ct0 b (drwE G ad2 b 2)) (by omega) hb2 (gW_0 ct0 b (drwE G ad2 b 1)) rfl (fun w h => List.mem_cons_of_mem _ (List.mem_append_right _ h)) tyX2 tyX2_ok nmX2 1 (by decide) (List.mem_of_getElem? (i := 6) rfl) rfl rfl rfl (by decide +kernel) rfl rfl (Nat.le_of_ble_eq_true rfl) dX2_init_17 (fun i _ => drwE_f (by decide) i) ?_
  refine n_aload_n hX 0 dX2_init_20 rfl ?_
  refine n_bipush hX 40 dX2_init_21 (by decide) ?_
  refine n_newa hX (atype := .int) (ty := .int) (N := 40) (a0 := (40, .inl (fun _ => 0))) 0 (fun ad' => gW ct0 b (drwE G ad' b 2)) (fun _ _ => rfl) rfl (List.mem_of_getElem? (i := 4) rfl) rfl (fun _ => rfl) (by decide) (by decide) (Nat.le_of_ble_eq_true rfl) (Nat.le_of_ble_eq_true rfl) (Nat.le_of_ble_eq_true rfl) dX2_init_23 (fun ad' h => ⟨fun i hi => gW_cg (n := b + 3) (fun k _ => drwE_cg h (by omega) k) i hi, gW_at ct0 b (drwE G ad' b 2) 3⟩) (fun ad3 h3 => ?_)
  have hb3 : ad3 b = ad0 b := (h3 b (by omega)).trans hb2
  refine n_putF hX hNm (ty := .array .int) b (gW ct0 b (drwE G ad3 b 3)) (by omega) hb3 (gW_0 ct0 b (drwE G ad3 b 2)) rfl (fun w h => List.mem_cons_of_mem _ (List.mem_append_right _ h)) tyX2 tyX2_ok nmX2 2 (by decide) (List.mem_of_getElem? (i := 7) rfl) rfl rfl rfl (by decide +kernel) rfl rfl (Nat.le_of_ble_eq_true rfl) dX2_init_25 (fun i _ => drwE_f (by decide) i) ?_
  refine n_aload_n hX 0 dX2_init_28 rfl ?_
  refine n_bipush hX 40 dX2_init_29 (by decide) ?_
  refine n_newa hX (atype := .boolean) (ty := .boolean) (N := 40) (a0 := (40, .inl (fun _ => 0))) 1 (fun ad' => gW ct0 b (drwE G ad' b 3)) (fun _ _ => rfl) rfl (List.mem_of_getElem? (i := 8) rfl) rfl (fun _ => rfl) (by decide) (by decide) (Nat.le_of_ble_eq_true rfl) (Nat.le_of_ble_eq_true rfl) (Nat.le_of_ble_eq_true rfl) dX2_init_31 (fun ad' h => ⟨fun i hi => gW_cg (n := b + 4) (fun k _ => drwE_cg h (by omega) k) i hi, gW_at ct0 b (drwE G ad' b 3) 4⟩) (fun ad4 h4 => ?_)
  have hb4 : ad4 b = ad0 b := (h4 b (by omega)).trans hb3
  refine n_putF hX hNm (ty := .array .boolean) b (gW ct0 b (drwE G ad4 b 4)) (by omega) hb4 (gW_0 ct0 b (drwE G ad4 b 3)) rfl (fun w h => List.mem_cons_of_mem _ (List.mem_append_right _ h)) tyX2 tyX2_ok nmX2 3 (by decide) (List.mem_of_getElem? (i := 9) rfl) rfl rfl rfl (by decide +kernel) rfl rfl (Nat.le_of_ble_eq_true rfl) dX2_init_33 (fun i _ => drwE_f (by decide) i) ?_
  refine n_aload_n hX 0 dX2_init_36 rfl ?_
  refine n_bipush hX 40 dX2_init_37 (by decide) ?_
  refine n_newa hX (atype := .boolean) (ty := .boolean) (N := 40) (a0 := (40, .inl (fun _ => 0))) 1 (fun ad' => gW ct0 b (drwE G ad' b 4)) (fun _ _ => rfl) rfl (List.mem_of_getElem? (i := 8) rfl) rfl (fun _ => rfl) (by decide) (by decide) (Nat.le_of_ble_eq_true rfl) (Nat.le_of_ble_eq_true rfl) (Nat.le_of_ble_eq_true rfl) dX2_init_39 (fun ad' h => ⟨fun i hi => gW_cg (n := b + 5) (fun k _ => drwE_cg h (by omega) k) i hi, gW_at ct0 b (drwE G ad' b 4) 5⟩) (fun ad5 h5 => ?_)
  have hb5 : ad5 b = ad0 b := (h5 b (by omega)).trans hb4
  refine n_putF hX hNm (ty := .array .boolean) b (gW ct0 b (drwE G ad5 b 5)) (by omega) hb5 (gW_0 ct0 b (drwE G ad5 b 4)) rfl (fun w h => List.mem_cons_of_mem _ (List.mem_append_right _ h)) tyX2 tyX2_ok nmX2 4 (by decide) (List.mem_of_getElem? (i := 10) rfl) rfl rfl rfl (by decide +kernel) rfl rfl (Nat.le_of_ble_eq_true rfl) dX2_init_41 (fun i _ => drwE_f (by decide) i) ?_
  exact ret ad5 _ _ dX2_init_44 (fun i hi => ((((h5 i (by omega)).trans (h4 i (by omega))).trans (h3 i (by omega))).trans (h2 i (by omega))).trans (h1 i (by omega)))
set_option maxHeartbeats 4000000 in
set_option maxRecDepth 100000 in
theorem c_X4_init (l : Launch) (G : MG) (A : Nat → Prop) (b : Nat) (ad0 : Nat → Nat) (ct0 : Nat → va_E) (h0 : ct0 b = padE G ad0 b 0 0) : CKi l G A yX4_init wsX4_init rm_X4_init (ad0 b) (b + 1) ad0 ct0 (b + 2) (fun ad' => gW ct0 b (padE G ad' b 1)) 1 60 := by
  refine ck_of (own := RX4) (cc := cX4_init) (maxL := 1) (by decide +kernel) rfl rfl rfl (Nat.le_of_ble_eq_true rfl) (KQ_mv (ExI_mv A)) ?_
  intro X hX hNm ret
  refine n_lv (lv' := [(0, .ref (ad0 b))]) rfl ?_
  refine n_aload_n hX 0 dX4_init_0 rfl ?_
  refine n_obj hX (List.mem_of_getElem? (i := 1) rfl) (List.mem_of_getElem? (i := 2) rfl) (List.mem_of_getElem? (i := 3) rfl) (by decide) (Nat.le_of_ble_eq_true rfl) dX4_init_1 ?_
  refine n_w (ad2 := ad0) (ct2 := gW ct0 b (padE G ad0 b 0)) rfl (fun _ _ => rfl) (fun i hi => ?_) ?_
  · unfold gW; by_cases h : i < b
    · rw [if_pos h]
    · have : i = b := by omega
      subst this; rw [if_neg h, Nat.sub_self, h0]
  refine n_aload_n hX 0 dX4_init_4 rfl ?_
  refine n_bipush hX 60 dX4_init_5 (by decide) ?_
  refine n_newa hX (atype := .char) (ty := .char) (N := 60) (a0 := (60, .inl (fun _ => 0))) 2 (fun ad' => gW ct0 b (padE G ad' b 0)) (fun _ _ => rfl) rfl (List.mem_of_getElem? (i := 4) rfl) rfl (fun _ => rfl) (by decide) (by decide) (Nat.le_of_ble_eq_true rfl) (Nat.le_of_ble_eq_true rfl) (Nat.le_of_ble_eq_true rfl) dX4_init_7 (fun ad' h => ⟨fun i hi => gW_cg (n := b + 1) (fun k _ => padE_cg h (by omega) k) i hi, gW_at ct0 b (padE G ad' b 0) 1⟩) (fun ad1 h1 => ?_)
  have hb1 : ad1 b = ad0 b := h1 b (by omega)
  refine n_putF hX hNm (ty := .array .char) b (gW ct0 b (padE G ad1 b 1)) (by omega) hb1 (gW_0 ct0 b (padE G ad1 b 0)) rfl (fun w h => List.mem_cons_of_mem _ (List.mem_append_right _ h)) tyX4 tyX4_ok nmX4 0 (by decide) (List.mem_of_getElem? (i := 5) rfl) rfl rfl rfl (by decide +kernel) rfl rfl (Nat.le_of_ble_eq_true rfl) dX4_init_9 (fun i _ => gW_up 0 _ rfl (fun j hj => by simp only [padE, hj, if_false]) i) ?_
  exact ret ad1 _ _ dX4_init_12 (fun i hi => h1 i (by omega))
set_option maxHeartbeats 4000000 in
set_option maxRecDepth 100000 in
def mP (j : Nat) : Nat := if j = 0 then 1 else if j = 1 then 65 else if j = 2 then 194 else if j = 3 then 195 else 201
def mF (ad : Nat → Nat) (b m j : Nat) : Value := if j < m then .ref (ad (b + mP j)) else .null
def maE (G : MG) (ad : Nat → Nat) (b m s : Nat) (k : Nat) : va_E :=
  if k = 0 then .inr (6, [mF ad b m 0, mF ad b m 1, mF ad b m 2, mF ad b m 3, mF ad b m 4])
  else if k < 65 then offE G ad (b + 1) 5 6 12 40 6 (k - 1)
  else if k = 65 then .inl (G.2.1 6, 2, .inr (.inr (.inr (.inr (fun j => if j < s then some (ad (b + 66 + 64 * j)) else none)))))
  else if k < 130 then offE G ad (b + 66) 5 6 12 40 6 (k - 66)
  else if k < 194 then offE G ad (b + 130) 5 6 12 40 6 (k - 130)
  else if k = 194 then .inl (G.2.1 1, 2, .inl (fun _ => 0))
  else if k < 201 then drwE G ad (b + 195) 5 (k - 195)
  else padE G ad (b + 201) 1 (k - 201)
theorem mF_cg {ad ad' : Nat → Nat} {b m nw : Nat} (h : ∀ i, i < nw → ad' i = ad i) (hm : ∀ j, j < m → b + mP j < nw) (j : Nat) : mF ad' b m j = mF ad b m j := by
  unfold mF
  split
  · rename_i q; rw [h _ (hm j q)]
  · rfl
theorem sl_cg {ad ad' : Nat → Nat} {b s nw : Nat} (h : ∀ i, i < nw → ad' i = ad i) (hs : ∀ j, j < s → b + 66 + 64 * j < nw) : (fun j => if j < s then some (ad' (b + 66 + 64 * j)) else none) = (fun j => if j < s then some (ad (b + 66 + 64 * j)) else none) := by
  funext j
  split
  · rename_i q; rw [h _ (hs j q)]
  · rfl
/-- where a part's cells are all there -/
def Cpl (b nw k : Nat) : Prop := (0 < k → k < 65 → b + 65 ≤ nw) ∧ (65 < k → k < 130 → b + 130 ≤ nw) ∧ (129 < k → k < 194 → b + 194 ≤ nw) ∧ (194 < k → k < 201 → b + 201 ≤ nw) ∧ (200 < k → b + 203 ≤ nw)
theorem maE_cg {G : MG} {ad ad' : Nat → Nat} {b m s nw : Nat} (h : ∀ i, i < nw → ad' i = ad i) (hm : ∀ j, j < m → b + mP j < nw) (hs : ∀ j, j < s → b + 66 + 64 * j < nw) {k : Nat} (hk : Cpl b nw k) : maE G ad' b m s k = maE G ad b m s k := by
  obtain ⟨h1, h2, h3, h4, h5⟩ := hk
  unfold maE
  rw [mF_cg h hm, mF_cg h hm, mF_cg h hm, mF_cg h hm, mF_cg h hm, sl_cg h hs]
  split
  · rfl
  · split
    · have := h1 (by omega) (by omega)
      exact offE_cg h (by omega) (Or.inr (by omega)) (Or.inr (by omega)) (Or.inr (by omega)) _
    · split
      · rfl
      · split
        · have := h2 (by omega) (by omega)
          exact offE_cg h (by omega) (Or.inr (by omega)) (Or.inr (by omega)) (Or.inr (by omega)) _
        · split
          · have := h3 (by omega) (by omega)
            exact offE_cg h (by omega) (Or.inr (by omega)) (Or.inr (by omega)) (Or.inr (by omega)) _
          · split
            · rfl
            · split
              · have := h4 (by omega) (by omega)
                exact drwE_cg h (by omega) _
              · have := h5 (by omega)
                exact padE_cg h (by omega) _
theorem mP_lt {m b nw : Nat} (h : m = 0 ∨ (m = 1 ∧ b + 1 < nw) ∨ (m = 2 ∧ b + 65 < nw) ∨ (m = 3 ∧ b + 194 < nw) ∨ (m = 4 ∧ b + 195 < nw) ∨ (m = 5 ∧ b + 201 < nw)) (j : Nat) (hj : j < m) : b + mP j < nw := by
  unfold mP
  (repeat' split) <;> omega
theorem maE_f {G : MG} {ct : Nat → va_E} {ad : Nat → Nat} {b m s : Nat} (hm : m < 5) (i : Nat) : gW ct b (maE G ad b (m + 1) s) i = va_up (gW ct b (maE G ad b m s)) b (.inr (6, ([mF ad b m 0, mF ad b m 1, mF ad b m 2, mF ad b m 3, mF ad b m 4] : List Value).set m (.ref (ad (b + mP m))))) i := by
  refine gW_up 0 _ ?_ ?_ i
  · have : m = 0 ∨ m = 1 ∨ m = 2 ∨ m = 3 ∨ m = 4 := by omega
    rcases this with rfl | rfl | rfl | rfl | rfl <;> rfl
  · intro j hj
    simp only [maE, hj, if_false]
theorem maE_s {G : MG} {ct : Nat → va_E} {ad : Nat → Nat} {b m s : Nat} (i : Nat) : gW ct b (maE G ad b m (s + 1)) i = va_up (gW ct b (maE G ad b m s)) (b + 65) (.inl (G.2.1 6, 2, .inr (.inr (.inr (.inr (va_up (fun j => if j < s then some (ad (b + 66 + 64 * j)) else none) s (some (ad (b + 66 + 64 * s))))))))) i := by
  refine gW_up 65 _ ?_ ?_ i
  · show Sum.inl (_, _, Sum.inr (Sum.inr (Sum.inr (Sum.inr _)))) = _
    congr 7
    funext j
    unfold va_up
    by_cases h : j = s
    · subst h; rw [if_pos (by omega), if_pos rfl]
    · rw [if_neg h]
      dsimp only
      by_cases h2 : j < s
      · rw [if_pos h2, if_pos (by omega)]
      · rw [if_neg h2, if_neg (by omega)]
  · intro j hj
    simp only [maE, hj, if_false]
/-- an office, a draw, a pad made behind what is there -/
theorem maE_o {G : MG} {ct ct1 : Nat → va_E} {ad ad1 : Nat → Nat} {b m s c : Nat} (hc : (c = 1 ∨ c = 66) ∨ c = 130) (h1 : ∀ i, i < b + c → ct1 i = gW ct b (maE G ad b m s) i) (i : Nat) (hi : i < b + c + 64) (h2 : ∀ k, k < c → maE G ad1 b m s k = maE G ad b m s k) : gW ct b (maE G ad1 b m s) i = cW G ct1 (b + c) 5 6 12 40 6 ad1 i := by
  unfold cW
  by_cases h : i < b + c
  · rw [if_pos h, h1 i h]
    unfold gW
    by_cases hb : i < b
    · rw [if_pos hb, if_pos hb]
    · rw [if_neg hb, if_neg hb, h2 _ (by omega)]
  · rw [if_neg h]
    unfold gW
    rw [if_neg (by omega)]
    unfold maE
    rcases hc with (rfl | rfl) | rfl
    · rw [if_neg (by omega), if_pos (by omega)]
      congr 1 <;> omega
    · rw [if_neg (by omega), if_neg (by omega), if_neg (by omega), if_pos (by omega)]
      congr 1 <;> omega
    · rw [if_neg (by omega), if_neg (by omega), if_neg (by omega), if_neg (by omega), if_pos (by omega)]
      congr 1 <;> omega
theorem n_st {X : GC} {D : va_G} {nw kc ks pc : Nat} {ad : Nat → Nat} {ct : Nat → va_E} {lv : List (Nat × Value)} {st st2 : List Value} (h : st = st2) (k : GN X D nw ad ct kc ks pc lv st2) : GN X D nw ad ct kc ks pc lv st := h ▸ k
set_option maxHeartbeats 4000000 in
set_option maxRecDepth 100000 in
theorem c_X6_init (l : Launch) (G : MG) (A : Nat → Prop) (b : Nat) (ad0 : Nat → Nat) (ct0 : Nat → va_E) (h0 : ct0 b = maE G ad0 b 0 0 0) : CKi l G A yX6_init wsX6_init rm_X6_init (ad0 b) (b + 1) ad0 ct0 (b + 203) (fun ad' => gW ct0 b (maE G ad' b 5 2)) 202 1901 := by
  refine ck_of (own := RX6) (cc := cX6_init) (maxL := 1) (by decide +kernel) rfl rfl rfl (Nat.le_of_ble_eq_true rfl) (KQ_mv (ExI_mv A)) ?_
  intro X hX hNm ret
  refine n_lv (lv' := [(0, .ref (ad0 b))]) rfl ?_
  refine n_aload_n hX 0 dX6_init_0 rfl ?_
  refine n_obj hX (List.mem_of_getElem? (i := 1) rfl) (List.mem_of_getElem? (i := 2) rfl) (List.mem_of_getElem? (i := 3) rfl) (by decide) (Nat.le_of_ble_eq_true rfl) dX6_init_1 ?_
  refine n_w (ad2 := ad0) (ct2 := gW ct0 b (maE G ad0 b 0 0)) rfl (fun _ _ => rfl) (fun i hi => ?_) ?_
  · unfold gW; by_cases h : i < b
    · rw [if_pos h]
    · have : i = b := by omega
      subst this; rw [if_neg h, Nat.sub_self, h0]
  refine n_aload_n hX 0 dX6_init_4 rfl ?_
  refine n_new hX (ci := 3) (fs := [.int 0, .int 0, .int 0, .int 0, .null, .null, .null, .null, .null]) (fun ad' => va_up (gW ct0 b (maE G ad' b 0 0)) (b + 1) (.inr (3, [.int 0, .int 0, .int 0, .int 0, .null, .null, .null, .null, .null]))) (fun w h => List.mem_cons_of_mem _ (List.mem_append_left _ (List.mem_append_left _ (List.mem_append_left _ (List.mem_append_left _ (List.mem_append_left _ (List.mem_append_left _ (List.mem_append_right _ h)))))))) tyX3 tyX3_ok (List.mem_of_getElem? (i := 4) rfl) (List.mem_of_getElem? (i := 5) rfl) (List.mem_of_getElem? (i := 6) rfl) rfl (by decide) (Nat.le_of_ble_eq_true rfl) (Nat.le_of_ble_eq_true rfl) dX6_init_5 (fun ad' h => ⟨fun i hi => by unfold va_up; rw [if_neg (by omega)]; exact gW_cg (n := b + 1) (fun k hk => maE_cg h (mP_lt (by omega)) (fun j hj => by omega) (by unfold Cpl; omega)) i hi, by simp [va_up]⟩) (fun ad1 h1 => ?_)
  refine n_dup hX dX6_init_8 rfl ?_
  refine n_init hX (index := 9) (c_X3_init l G A (b + 1) ad1 (va_up (gW ct0 b (maE G ad1 b 0 0)) (b + 1) (.inr (3, [.int 0, .int 0, .int 0, .int 0, .null, .null, .null, .null, .null]))) (by unfold va_up; rw [if_pos rfl]; rfl)) gX6_init_X3_init rfl rfl rfl (List.mem_of_getElem? (i := 6) rfl) (List.mem_of_getElem? (i := 19) rfl) (List.mem_of_getElem? (i := 20) rfl) rfl ⟨by decide +kernel, by decide +kernel, by decide +kernel⟩ ⟨by decide, by decide⟩ (Nat.le_of_ble_eq_true rfl) ⟨Nat.le_of_ble_eq_true rfl, Nat.le_of_ble_eq_true rfl⟩ dX6_init_9 (fun ad2 h2 => ?_)
  refine n_w (ad2 := ad2) (ct2 := gW ct0 b (maE G ad2 b 0 0)) rfl (fun _ _ => rfl) (fun i hi => maE_o (ad := ad1) (c := 1) (by omega) (fun i hi => by unfold va_up; rw [if_neg (by omega)]) i (by omega) (fun k hk => maE_cg h2 (mP_lt (by omega)) (fun j hj => by omega) (by unfold Cpl; omega))) ?_
  refine n_st (st2 := [.ref (ad2 (b + mP 0)), .ref (ad0 b)]) (by rw [show mP 0 = 1 from rfl, h2 _ (by omega)]) ?_
  have hb0 : ad2 b = ad0 b := (h2 b (by omega)).trans (h1 b (by omega))
  refine n_putF hX hNm (ty := .object "ClimbPermits$Office") b (gW ct0 b (maE G ad2 b 1 0)) (by omega) hb0 (gW_0 ct0 b (maE G ad2 b 0 0)) rfl (fun w h => List.mem_cons_of_mem _ (List.mem_append_left _ (List.mem_append_left _ (List.mem_append_left _ (List.mem_append_left _ (List.mem_append_left _ (List.mem_append_right _ h))))))) tyX6 tyX6_ok nmX6 0 (by decide) (List.mem_of_getElem? (i := 7) rfl) rfl rfl rfl (by decide +kernel) rfl rfl (Nat.le_of_ble_eq_true rfl) dX6_init_12 (fun i _ => maE_f (m := 0) (by decide) i) ?_
  refine n_aload_n hX 0 dX6_init_15 rfl ?_
  refine n_iconst hX 2 dX6_init_16 (by decide) ?_
  refine n_newq hX (N := 2) 6 (fun ad' => gW ct0 b (maE G ad' b 1 0)) rfl (List.mem_of_getElem? (i := 4) rfl) (fun U h => h.2.2.2.1) (by decide) (by decide) (Nat.le_of_ble_eq_true rfl) (Nat.le_of_ble_eq_true rfl) (Nat.le_of_ble_eq_true rfl) dX6_init_17 (fun ad' h => ⟨fun i hi => gW_cg (n := b + 65) (fun k hk => maE_cg h (mP_lt (by omega)) (fun j hj => by omega) (by unfold Cpl; omega)) i hi, gW_at ct0 b (maE G ad' b 1 0) 65⟩) (fun ad3 h3 => ?_)
  refine n_dup hX dX6_init_20 rfl ?_
  refine n_iconst hX 0 dX6_init_21 (by decide) ?_
  refine n_new hX (ci := 3) (fs := [.int 0, .int 0, .int 0, .int 0, .null, .null, .null, .null, .null]) (fun ad' => va_up (gW ct0 b (maE G ad' b 1 0)) (b + 66) (.inr (3, [.int 0, .int 0, .int 0, .int 0, .null, .null, .null, .null, .null]))) (fun w h => List.mem_cons_of_mem _ (List.mem_append_left _ (List.mem_append_left _ (List.mem_append_left _ (List.mem_append_left _ (List.mem_append_left _ (List.mem_append_left _ (List.mem_append_right _ h)))))))) tyX3 tyX3_ok (List.mem_of_getElem? (i := 4) rfl) (List.mem_of_getElem? (i := 5) rfl) (List.mem_of_getElem? (i := 6) rfl) rfl (by decide) (Nat.le_of_ble_eq_true rfl) (Nat.le_of_ble_eq_true rfl) dX6_init_22 (fun ad' h => ⟨fun i hi => by unfold va_up; rw [if_neg (by omega)]; exact gW_cg (n := b + 66) (fun k hk => maE_cg h (mP_lt (by omega)) (fun j hj => by omega) (by unfold Cpl; omega)) i hi, by simp [va_up]⟩) (fun ad4 h4 => ?_)
  refine n_dup hX dX6_init_25 rfl ?_
  refine n_init hX (index := 9) (c_X3_init l G A (b + 66) ad4 (va_up (gW ct0 b (maE G ad4 b 1 0)) (b + 66) (.inr (3, [.int 0, .int 0, .int 0, .int 0, .null, .null, .null, .null, .null]))) (by unfold va_up; rw [if_pos rfl]; rfl)) gX6_init_X3_init rfl rfl rfl (List.mem_of_getElem? (i := 6) rfl) (List.mem_of_getElem? (i := 19) rfl) (List.mem_of_getElem? (i := 20) rfl) rfl ⟨by decide +kernel, by decide +kernel, by decide +kernel⟩ ⟨by decide, by decide⟩ (Nat.le_of_ble_eq_true rfl) ⟨Nat.le_of_ble_eq_true rfl, Nat.le_of_ble_eq_true rfl⟩ dX6_init_26 (fun ad5 h5 => ?_)
  refine n_w (ad2 := ad5) (ct2 := gW ct0 b (maE G ad5 b 1 0)) rfl (fun _ _ => rfl) (fun i hi => maE_o (ad := ad4) (c := 66) (by omega) (fun i hi => by unfold va_up; rw [if_neg (by omega)]) i (by omega) (fun k hk => maE_cg h5 (mP_lt (by omega)) (fun j hj => by omega) (by unfold Cpl; omega))) ?_
  refine n_astq hX (b + 65) 6 (b + 66) (gW ct0 b (maE G ad5 b 1 1)) (by omega) ((h5 (b + 65) (by omega)).trans (h4 (b + 65) (by omega))) (gW_at ct0 b (maE G ad5 b 1 0) 65) rfl (by omega) (h5 _ (by omega)) ((gW_at ct0 b (maE G ad5 b 1 0) 66).trans (by unfold maE; rfl)) rfl 0 rfl (by decide) (by decide) dX6_init_29 (fun i _ => by have e := maE_s (G := G) (ct := ct0) (ad := ad5) (b := b) (m := 1) (s := 0) i; rw [show b + 66 + 64 * 0 = b + 66 from by omega, h5 (b + 66) (by omega)] at e; exact e) ?_
  refine n_dup hX dX6_init_30 rfl ?_
  refine n_iconst hX 1 dX6_init_31 (by decide) ?_
  refine n_new hX (ci := 3) (fs := [.int 0, .int 0, .int 0, .int 0, .null, .null, .null, .null, .null]) (fun ad' => va_up (gW ct0 b (maE G ad' b 1 1)) (b + 130) (.inr (3, [.int 0, .int 0, .int 0, .int 0, .null, .null, .null, .null, .null]))) (fun w h => List.mem_cons_of_mem _ (List.mem_append_left _ (List.mem_append_left _ (List.mem_append_left _ (List.mem_append_left _ (List.mem_append_left _ (List.mem_append_left _ (List.mem_append_right _ h)))))))) tyX3 tyX3_ok (List.mem_of_getElem? (i := 4) rfl) (List.mem_of_getElem? (i := 5) rfl) (List.mem_of_getElem? (i := 6) rfl) rfl (by decide) (Nat.le_of_ble_eq_true rfl) (Nat.le_of_ble_eq_true rfl) dX6_init_32 (fun ad' h => ⟨fun i hi => by unfold va_up; rw [if_neg (by omega)]; exact gW_cg (n := b + 130) (fun k hk => maE_cg h (mP_lt (by omega)) (fun j hj => by omega) (by unfold Cpl; omega)) i hi, by simp [va_up]⟩) (fun ad6 h6 => ?_)
  refine n_dup hX dX6_init_35 rfl ?_
  refine n_init hX (index := 9) (c_X3_init l G A (b + 130) ad6 (va_up (gW ct0 b (maE G ad6 b 1 1)) (b + 130) (.inr (3, [.int 0, .int 0, .int 0, .int 0, .null, .null, .null, .null, .null]))) (by unfold va_up; rw [if_pos rfl]; rfl)) gX6_init_X3_init rfl rfl rfl (List.mem_of_getElem? (i := 6) rfl) (List.mem_of_getElem? (i := 19) rfl) (List.mem_of_getElem? (i := 20) rfl) rfl ⟨by decide +kernel, by decide +kernel, by decide +kernel⟩ ⟨by decide, by decide⟩ (Nat.le_of_ble_eq_true rfl) ⟨Nat.le_of_ble_eq_true rfl, Nat.le_of_ble_eq_true rfl⟩ dX6_init_36 (fun ad7 h7 => ?_)
  refine n_w (ad2 := ad7) (ct2 := gW ct0 b (maE G ad7 b 1 1)) rfl (fun _ _ => rfl) (fun i hi => maE_o (ad := ad6) (c := 130) (by omega) (fun i hi => by unfold va_up; rw [if_neg (by omega)]) i (by omega) (fun k hk => maE_cg h7 (mP_lt (by omega)) (fun j hj => by omega) (by unfold Cpl; omega))) ?_
  refine n_astq hX (b + 65) 6 (b + 130) (gW ct0 b (maE G ad7 b 1 2)) (by omega) ((((h7 (b + 65) (by omega)).trans (h6 (b + 65) (by omega))).trans (h5 (b + 65) (by omega))).trans (h4 (b + 65) (by omega))) (gW_at ct0 b (maE G ad7 b 1 1) 65) rfl (by omega) (h7 _ (by omega)) ((gW_at ct0 b (maE G ad7 b 1 1) 130).trans (by unfold maE; rfl)) rfl 1 rfl (by decide) (by decide) dX6_init_39 (fun i _ => by have e := maE_s (G := G) (ct := ct0) (ad := ad7) (b := b) (m := 1) (s := 1) i; rw [show b + 66 + 64 * 1 = b + 130 from by omega, h7 (b + 130) (by omega)] at e; exact e) ?_
  refine n_st (st2 := [.ref (ad7 (b + mP 1)), .ref (ad0 b)]) (by rw [show mP 1 = 65 from rfl, (((h7 (b + 65) (by omega)).trans (h6 (b + 65) (by omega))).trans (h5 (b + 65) (by omega))).trans (h4 (b + 65) (by omega))]) ?_
  have hb1 : ad7 b = ad0 b := ((((((h7 b (by omega)).trans (h6 b (by omega))).trans (h5 b (by omega))).trans (h4 b (by omega))).trans (h3 b (by omega))).trans (h2 b (by omega))).trans (h1 b (by omega))
  refine n_putF hX hNm (ty := .array (.object "ClimbPermits$Office")) b (gW ct0 b (maE G ad7 b 2 2)) (by omega) hb1 (gW_0 ct0 b (maE G ad7 b 1 2)) rfl (fun w h => List.mem_cons_of_mem _ (List.mem_append_left _ (List.mem_append_left _ (List.mem_append_left _ (List.mem_append_left _ (List.mem_append_left _ (List.mem_append_right _ h))))))) tyX6 tyX6_ok nmX6 1 (by decide) (List.mem_of_getElem? (i := 8) rfl) rfl rfl rfl (by decide +kernel) rfl rfl (Nat.le_of_ble_eq_true rfl) dX6_init_40 (fun i _ => maE_f (m := 1) (by decide) i) ?_
  refine n_aload_n hX 0 dX6_init_43 rfl ?_
  refine n_iconst hX 2 dX6_init_44 (by decide) ?_
  refine n_newa hX (atype := .boolean) (ty := .boolean) (N := 2) (a0 := (2, .inl (fun _ => 0))) 1 (fun ad' => gW ct0 b (maE G ad' b 2 2)) (fun _ _ => rfl) rfl (List.mem_of_getElem? (i := 9) rfl) rfl (fun _ => rfl) (by decide) (by decide) (Nat.le_of_ble_eq_true rfl) (Nat.le_of_ble_eq_true rfl) (Nat.le_of_ble_eq_true rfl) dX6_init_45 (fun ad' h => ⟨fun i hi => gW_cg (n := b + 194) (fun k hk => maE_cg h (mP_lt (by omega)) (fun j hj => by omega) (by unfold Cpl; omega)) i hi, gW_at ct0 b (maE G ad' b 2 2) 194⟩) (fun ad8 h8 => ?_)
  have hb2 : ad8 b = ad0 b := (((((((h8 b (by omega)).trans (h7 b (by omega))).trans (h6 b (by omega))).trans (h5 b (by omega))).trans (h4 b (by omega))).trans (h3 b (by omega))).trans (h2 b (by omega))).trans (h1 b (by omega))
  refine n_putF hX hNm (ty := .array .boolean) b (gW ct0 b (maE G ad8 b 3 2)) (by omega) hb2 (gW_0 ct0 b (maE G ad8 b 2 2)) rfl (fun w h => List.mem_cons_of_mem _ (List.mem_append_left _ (List.mem_append_left _ (List.mem_append_left _ (List.mem_append_left _ (List.mem_append_left _ (List.mem_append_right _ h))))))) tyX6 tyX6_ok nmX6 2 (by decide) (List.mem_of_getElem? (i := 10) rfl) rfl rfl rfl (by decide +kernel) rfl rfl (Nat.le_of_ble_eq_true rfl) dX6_init_47 (fun i _ => maE_f (m := 2) (by decide) i) ?_
  refine n_aload_n hX 0 dX6_init_50 rfl ?_
  refine n_new hX (ci := 2) (fs := [.null, .null, .null, .null, .null, .int 0, .int 0]) (fun ad' => va_up (gW ct0 b (maE G ad' b 3 2)) (b + 195) (.inr (2, [.null, .null, .null, .null, .null, .int 0, .int 0]))) (fun w h => List.mem_cons_of_mem _ (List.mem_append_left _ (List.mem_append_left _ (List.mem_append_left _ (List.mem_append_left _ (List.mem_append_right _ h)))))) tyX2 tyX2_ok (List.mem_of_getElem? (i := 11) rfl) (List.mem_of_getElem? (i := 12) rfl) (List.mem_of_getElem? (i := 13) rfl) rfl (by decide) (Nat.le_of_ble_eq_true rfl) (Nat.le_of_ble_eq_true rfl) dX6_init_51 (fun ad' h => ⟨fun i hi => by unfold va_up; rw [if_neg (by omega)]; exact gW_cg (n := b + 195) (fun k hk => maE_cg h (mP_lt (by omega)) (fun j hj => by omega) (by unfold Cpl; omega)) i hi, by simp [va_up]⟩) (fun ad9 h9 => ?_)
  refine n_dup hX dX6_init_54 rfl ?_
  refine n_initN hX (index := 26) (host := "ClimbPermits") (c_X2_init l G A (b + 195) ad9 (va_up (gW ct0 b (maE G ad9 b 3 2)) (b + 195) (.inr (2, [.null, .null, .null, .null, .null, .int 0, .int 0]))) (by unfold va_up; rw [if_pos rfl]; rfl)) gX6_init_X2_init_n26 rfl rfl rfl (List.mem_of_getElem? (i := 13) rfl) (fun U h => h.2.2.2.2.2.2.2.2.1) (List.mem_of_getElem? (i := 48) rfl) rfl ⟨by decide +kernel, by decide +kernel, by decide +kernel⟩ ⟨by decide, by decide⟩ (Nat.le_of_ble_eq_true rfl) ⟨Nat.le_of_ble_eq_true rfl, Nat.le_of_ble_eq_true rfl⟩ dX6_init_55 (fun ad10 h10 => ?_)
  refine n_w (ad2 := ad10) (ct2 := gW ct0 b (maE G ad10 b 3 2)) rfl (fun _ _ => rfl) (fun i hi => ?_) ?_
  · show _ = gW _ (b + 195) _ i
    by_cases q : i < b + 195
    · rw [gW_lt (b := b + 195) q]; unfold va_up; rw [if_neg (by omega)]; exact gW_cg (n := b + 195) (fun k hk => maE_cg h10 (mP_lt (by omega)) (fun j hj => by omega) (by unfold Cpl; omega)) i q
    · obtain ⟨k, rfl⟩ : ∃ k, i = b + 195 + k := ⟨i - (b + 195), by omega⟩
      rw [gW_at, Nat.add_assoc, gW_at]
      unfold maE
      rw [if_neg (by omega), if_neg (by omega), if_neg (by omega), if_neg (by omega), if_neg (by omega), if_neg (by omega), if_pos (by omega), Nat.add_sub_cancel_left]
  refine n_st (st2 := [.ref (ad10 (b + mP 3)), .ref (ad0 b)]) (by rw [show mP 3 = 195 from rfl, h10 _ (by omega)]) ?_
  have hb3 : ad10 b = ad0 b := (((((((((h10 b (by omega)).trans (h9 b (by omega))).trans (h8 b (by omega))).trans (h7 b (by omega))).trans (h6 b (by omega))).trans (h5 b (by omega))).trans (h4 b (by omega))).trans (h3 b (by omega))).trans (h2 b (by omega))).trans (h1 b (by omega))
  refine n_putF hX hNm (ty := .object "ClimbPermits$Draw") b (gW ct0 b (maE G ad10 b 4 2)) (by omega) hb3 (gW_0 ct0 b (maE G ad10 b 3 2)) rfl (fun w h => List.mem_cons_of_mem _ (List.mem_append_left _ (List.mem_append_left _ (List.mem_append_left _ (List.mem_append_left _ (List.mem_append_left _ (List.mem_append_right _ h))))))) tyX6 tyX6_ok nmX6 3 (by decide) (List.mem_of_getElem? (i := 14) rfl) rfl rfl rfl (by decide +kernel) rfl rfl (Nat.le_of_ble_eq_true rfl) dX6_init_58 (fun i _ => maE_f (m := 3) (by decide) i) ?_
  refine n_aload_n hX 0 dX6_init_61 rfl ?_
  refine n_new hX (ci := 4) (fs := [.null, .int 0, .int 0, .int 0, .int 0, .int 0, .int 0]) (fun ad' => va_up (gW ct0 b (maE G ad' b 4 2)) (b + 201) (.inr (4, [.null, .int 0, .int 0, .int 0, .int 0, .int 0, .int 0]))) (fun w h => List.mem_cons_of_mem _ (List.mem_append_left _ (List.mem_append_left _ (List.mem_append_left _ (List.mem_append_right _ h))))) tyX4 tyX4_ok (List.mem_of_getElem? (i := 15) rfl) (List.mem_of_getElem? (i := 16) rfl) (List.mem_of_getElem? (i := 17) rfl) rfl (by decide) (Nat.le_of_ble_eq_true rfl) (Nat.le_of_ble_eq_true rfl) dX6_init_62 (fun ad' h => ⟨fun i hi => by unfold va_up; rw [if_neg (by omega)]; exact gW_cg (n := b + 201) (fun k hk => maE_cg h (mP_lt (by omega)) (fun j hj => by omega) (by unfold Cpl; omega)) i hi, by simp [va_up]⟩) (fun ad11 h11 => ?_)
  refine n_dup hX dX6_init_65 rfl ?_
  refine n_initN hX (index := 33) (host := "ClimbPermits") (c_X4_init l G A (b + 201) ad11 (va_up (gW ct0 b (maE G ad11 b 4 2)) (b + 201) (.inr (4, [.null, .int 0, .int 0, .int 0, .int 0, .int 0, .int 0]))) (by unfold va_up; rw [if_pos rfl]; rfl)) gX6_init_X4_init_n33 rfl rfl rfl (List.mem_of_getElem? (i := 17) rfl) (fun U h => h.2.2.2.2.2.2.2.2.2.1) (List.mem_of_getElem? (i := 56) rfl) rfl ⟨by decide +kernel, by decide +kernel, by decide +kernel⟩ ⟨by decide, by decide⟩ (Nat.le_of_ble_eq_true rfl) ⟨Nat.le_of_ble_eq_true rfl, Nat.le_of_ble_eq_true rfl⟩ dX6_init_66 (fun ad12 h12 => ?_)
  refine n_w (ad2 := ad12) (ct2 := gW ct0 b (maE G ad12 b 4 2)) rfl (fun _ _ => rfl) (fun i hi => ?_) ?_
  · show _ = gW _ (b + 201) _ i
    by_cases q : i < b + 201
    · rw [gW_lt (b := b + 201) q]; unfold va_up; rw [if_neg (by omega)]; exact gW_cg (n := b + 201) (fun k hk => maE_cg h12 (mP_lt (by omega)) (fun j hj => by omega) (by unfold Cpl; omega)) i q
    · obtain ⟨k, rfl⟩ : ∃ k, i = b + 201 + k := ⟨i - (b + 201), by omega⟩
      rw [gW_at, Nat.add_assoc, gW_at]
      unfold maE
      rw [if_neg (by omega), if_neg (by omega), if_neg (by omega), if_neg (by omega), if_neg (by omega), if_neg (by omega), if_neg (by omega), Nat.add_sub_cancel_left]
  refine n_st (st2 := [.ref (ad12 (b + mP 4)), .ref (ad0 b)]) (by rw [show mP 4 = 201 from rfl, h12 _ (by omega)]) ?_
  have hb4 : ad12 b = ad0 b := (((((((((((h12 b (by omega)).trans (h11 b (by omega))).trans (h10 b (by omega))).trans (h9 b (by omega))).trans (h8 b (by omega))).trans (h7 b (by omega))).trans (h6 b (by omega))).trans (h5 b (by omega))).trans (h4 b (by omega))).trans (h3 b (by omega))).trans (h2 b (by omega))).trans (h1 b (by omega))
  refine n_putF hX hNm (ty := .object "ClimbPermits$Pad") b (gW ct0 b (maE G ad12 b 5 2)) (by omega) hb4 (gW_0 ct0 b (maE G ad12 b 4 2)) rfl (fun w h => List.mem_cons_of_mem _ (List.mem_append_left _ (List.mem_append_left _ (List.mem_append_left _ (List.mem_append_left _ (List.mem_append_left _ (List.mem_append_right _ h))))))) tyX6 tyX6_ok nmX6 4 (by decide) (List.mem_of_getElem? (i := 18) rfl) rfl rfl rfl (by decide +kernel) rfl rfl (Nat.le_of_ble_eq_true rfl) dX6_init_69 (fun i _ => maE_f (m := 4) (by decide) i) ?_
  refine n_wid (kc2 := 202) (ks2 := 1901) (by decide) (by decide) ?_
  exact ret ad12 _ _ dX6_init_72 (fun i hi => (((((((((((h12 i (by omega)).trans (h11 i (by omega))).trans (h10 i (by omega))).trans (h9 i (by omega))).trans (h8 i (by omega))).trans (h7 i (by omega))).trans (h6 i (by omega))).trans (h5 i (by omega))).trans (h4 i (by omega))).trans (h3 i (by omega))).trans (h2 i (by omega))).trans (h1 i (by omega)))
