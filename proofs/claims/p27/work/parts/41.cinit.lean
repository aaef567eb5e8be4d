def rm_X0_init : Room := { frames := 1, cells := 0, slots := 0, locals := 16 }
def rm_X5_init : Room := { frames := 1, cells := 0, slots := 0, locals := 16 }
def rm_X1_init : Room := { frames := 1, cells := 0, slots := 0, locals := 16 }
def rm_X2_init : Room := { frames := 1, cells := 5, slots := 200, locals := 16 }
def rm_X4_init : Room := { frames := 1, cells := 1, slots := 60, locals := 16 }
def rm_X3_init : Room := { frames := 2, cells := 63, slots := 532, locals := 40 }
def rm_X6_init : Room := { frames := 3, cells := 202, slots := 1901, locals := 64 }
set_option maxHeartbeats 4000000 in
set_option maxRecDepth 100000 in
theorem c_X0_init (l : Launch) (G : MG) (A : Nat → Prop) (b nw : Nat) (ad : Nat → Nat) (ct : Nat → va_E) : CKi l G A yX0_init wsX0_init rm_X0_init b nw ad ct nw (fun _ => ct) 0 0 := by
  refine ck_of (own := RX0) (cc := cX0_init) (maxL := 1) (by decide +kernel) rfl rfl rfl (Nat.le_of_ble_eq_true rfl) (KQ_mv (ExI_mv A)) ?_
  intro X hX hNm ret
  refine n_lv (lv' := [(0, .ref b)]) rfl ?_
  refine n_aload_n hX 0 dX0_init_0 rfl ?_
  refine n_obj hX (List.mem_of_getElem? (i := 1) rfl) (List.mem_of_getElem? (i := 2) rfl) (List.mem_of_getElem? (i := 3) rfl) (by decide) (Nat.le_of_ble_eq_true rfl) dX0_init_1 ?_
  exact ret ad _ _ dX0_init_4 (fun _ _ => rfl)
set_option maxHeartbeats 4000000 in
set_option maxRecDepth 100000 in
theorem c_X5_init (l : Launch) (G : MG) (A : Nat → Prop) (b nw : Nat) (ad : Nat → Nat) (ct : Nat → va_E) : CKi l G A yX5_init wsX5_init rm_X5_init b nw ad ct nw (fun _ => ct) 0 0 := by
  refine ck_of (own := RX5) (cc := cX5_init) (maxL := 1) (by decide +kernel) rfl rfl rfl (Nat.le_of_ble_eq_true rfl) (KQ_mv (ExI_mv A)) ?_
  intro X hX hNm ret
  refine n_lv (lv' := [(0, .ref b)]) rfl ?_
  refine n_aload_n hX 0 dX5_init_0 rfl ?_
  refine n_obj hX (List.mem_of_getElem? (i := 1) rfl) (List.mem_of_getElem? (i := 2) rfl) (List.mem_of_getElem? (i := 3) rfl) (by decide) (Nat.le_of_ble_eq_true rfl) dX5_init_1 ?_
  exact ret ad _ _ dX5_init_4 (fun _ _ => rfl)
set_option maxHeartbeats 4000000 in
set_option maxRecDepth 100000 in
theorem c_X1_init (l : Launch) (G : MG) (A : Nat → Prop) (k nw : Nat) (ad : Nat → Nat) (ct : Nat → va_E) (hk : k < nw) (he : ct k = .inr (1, [.int 0, .int 0, .int 0])) : CKi l G A yX1_init wsX1_init rm_X1_init (ad k) nw ad ct nw (fun _ => va_up ct k (.inr (1, [.int 0, .int 0, .int (-6)]))) 0 0 := by
  refine ck_of (own := RX1) (cc := cX1_init) (maxL := 1) (by decide +kernel) rfl rfl rfl (Nat.le_of_ble_eq_true rfl) (KQ_mv (ExI_mv A)) ?_
  intro X hX hNm ret
  refine n_lv (lv' := [(0, .ref (ad k))]) rfl ?_
  refine n_aload_n hX 0 dX1_init_0 rfl ?_
  refine n_obj hX (List.mem_of_getElem? (i := 1) rfl) (List.mem_of_getElem? (i := 2) rfl) (List.mem_of_getElem? (i := 3) rfl) (by decide) (Nat.le_of_ble_eq_true rfl) dX1_init_1 ?_
  refine n_aload_n hX 0 dX1_init_4 rfl ?_
  refine n_bipush hX (-6) dX1_init_5 (by decide) ?_
  refine n_put hX (ty := .int) k _ hk rfl he rfl (fun w h => List.mem_cons_of_mem _ (List.mem_append_right _ h)) tyX1 tyX1_ok nmX1 2 (by decide) (List.mem_of_getElem? (i := 4) rfl) rfl rfl (by decide +kernel) rfl rfl (Nat.le_of_ble_eq_true rfl) dX1_init_7 (fun _ _ => rfl) ?_
  exact ret ad _ _ dX1_init_10 (fun _ _ => rfl)
/-! the cells of an office while it is made: m arrays, r routes, c climbers, a applications, s settings are there -/
def rf5 (ad : Nat → Nat) (b m j : Nat) : Value := if j < m then .ref (ad (b + 1 + j)) else .null
def offE (G : MG) (ad : Nat → Nat) (b m r c a s : Nat) (k : Nat) : va_E :=
  if k = 0 then .inr (3, [.int 0, .int 0, .int 0, .int 0, rf5 ad b m 0, rf5 ad b m 1, rf5 ad b m 2, rf5 ad b m 3, rf5 ad b m 4])
  else if k = 1 then .inl (G.2.1 3, 6, .inr (.inr (.inr (.inr (fun j => if j < r then some (ad (b + 6 + j)) else none)))))
  else if k = 2 then .inl (G.2.1 4, 12, .inr (.inr (.inr (.inr (fun j => if j < c then some (ad (b + 12 + j)) else none)))))
  else if k = 3 then .inl (G.2.1 5, 40, .inr (.inr (.inr (.inr (fun j => if j < a then some (ad (b + 24 + j)) else none)))))
  else if k = 4 then .inl (G.2.1 1, 60, .inl (fun _ => 0))
  else if k = 5 then .inl (G.2.1 0, 6, .inl (fun j => if j < s then fFIRST j else 0))
  else if k < 12 then .inr (5, [.int 0, .int 0])
  else if k < 24 then .inr (1, [.int 0, .int 0, .int (-6)])
  else .inr (0, [.int 0, .int 0, .int 0, .int 0, .int 0, .int 0, .int 0, .int 0, .int 0])
theorem rf5_cg {ad ad' : Nat → Nat} {b m nw : Nat} (h : ∀ i, i < nw → ad' i = ad i) (hm : b + m < nw) (j : Nat) : rf5 ad' b m j = rf5 ad b m j := by
  unfold rf5
  split
  · rw [h _ (by omega)]
  · rfl
theorem arr_cg {ad ad' : Nat → Nat} {b p nw : Nat} (h : ∀ i, i < nw → ad' i = ad i) (hp : p = 0 ∨ b + p ≤ nw) : (fun j => if j < p then some (ad' (b + j)) else none) = (fun j => if j < p then some (ad (b + j)) else none) := by
  funext j
  split
  · rw [h _ (by omega)]
  · rfl
theorem offE_cg {G : MG} {ad ad' : Nat → Nat} {b m r c a s nw : Nat} (h : ∀ i, i < nw → ad' i = ad i) (hm : b + m < nw) (hr : r = 0 ∨ b + 6 + r ≤ nw) (hc : c = 0 ∨ b + 12 + c ≤ nw) (ha : a = 0 ∨ b + 24 + a ≤ nw) (k : Nat) : offE G ad' b m r c a s k = offE G ad b m r c a s k := by
  unfold offE
  rw [rf5_cg h hm, rf5_cg h hm, rf5_cg h hm, rf5_cg h hm, rf5_cg h hm, arr_cg h hr, arr_cg h hc, arr_cg h ha]
def cW (G : MG) (ct : Nat → va_E) (b : Nat) (m r c a s : Nat) (ad : Nat → Nat) (i : Nat) : va_E := if i < b then ct i else offE G ad b m r c a s (i - b)
theorem cW_cg {G : MG} {ct : Nat → va_E} {ad ad' : Nat → Nat} {b m r c a s nw : Nat} (h : ∀ i, i < nw → ad' i = ad i) (hm : b + m < nw) (hr : r = 0 ∨ b + 6 + r ≤ nw) (hc : c = 0 ∨ b + 12 + c ≤ nw) (ha : a = 0 ∨ b + 24 + a ≤ nw) (i : Nat) : cW G ct b m r c a s ad' i = cW G ct b m r c a s ad i := by
  unfold cW
  rw [offE_cg h hm hr hc ha]
theorem cW_at (G : MG) (ct : Nat → va_E) (b m r c a s : Nat) (ad : Nat → Nat) (k : Nat) : cW G ct b m r c a s ad (b + k) = offE G ad b m r c a s k := by
  unfold cW
  rw [if_neg (by omega), Nat.add_sub_cancel_left]
theorem cW_0 (G : MG) (ct : Nat → va_E) (b m r c a s : Nat) (ad : Nat → Nat) : cW G ct b m r c a s ad b = .inr (3, [.int 0, .int 0, .int 0, .int 0, rf5 ad b m 0, rf5 ad b m 1, rf5 ad b m 2, rf5 ad b m 3, rf5 ad b m 4]) := cW_at G ct b m r c a s ad 0
/-- one cell of the office changes -/
theorem cW_up {G : MG} {ct : Nat → va_E} {ad : Nat → Nat} {b m r c a s m2 r2 c2 a2 s2 : Nat} (k : Nat) (e : va_E) (hk : offE G ad b m2 r2 c2 a2 s2 k = e) (ho : ∀ j, j ≠ k → offE G ad b m2 r2 c2 a2 s2 j = offE G ad b m r c a s j) (i : Nat) : cW G ct b m2 r2 c2 a2 s2 ad i = va_up (cW G ct b m r c a s ad) (b + k) e i := by
  unfold va_up
  by_cases h : i = b + k
  · rw [if_pos h, h, cW_at, hk]
  · rw [if_neg h]
    unfold cW
    by_cases h2 : i < b
    · rw [if_pos h2, if_pos h2]
    · rw [if_neg h2, if_neg h2, ho _ (by omega)]
theorem offE_ge {G : MG} {ad : Nat → Nat} {b m r c a s m2 r2 c2 a2 s2 k : Nat} (h : 6 ≤ k) : offE G ad b m r c a s k = offE G ad b m2 r2 c2 a2 s2 k := by
  have h0 : ¬ k = 0 := by omega
  have h1 : ¬ k = 1 := by omega
  have h2 : ¬ k = 2 := by omega
  have h3 : ¬ k = 3 := by omega
  have h4 : ¬ k = 4 := by omega
  have h5 : ¬ k = 5 := by omega
  simp only [offE, h0, h1, h2, h3, h4, h5, if_false]
theorem up_id {f : Nat → va_E} {k : Nat} {e e2 : va_E} (h : f k = e2) (i : Nat) : f i = va_up (va_up f k e) k e2 i := by
  unfold va_up
  by_cases q : i = k
  · rw [if_pos q, q, h]
  · rw [if_neg q, if_neg q]
/-- a field of the office gets its row -/
theorem cW_f {G : MG} {ct : Nat → va_E} {ad : Nat → Nat} {b m : Nat} (hm : m < 5) (i : Nat) : cW G ct b (m + 1) 0 0 0 0 ad i = va_up (cW G ct b m 0 0 0 0 ad) b (.inr (3, ([.int 0, .int 0, .int 0, .int 0, rf5 ad b m 0, rf5 ad b m 1, rf5 ad b m 2, rf5 ad b m 3, rf5 ad b m 4] : List Value).set (4 + m) (.ref (ad (b + 1 + m))))) i := by
  refine cW_up (G := G) (ct := ct) 0 _ ?_ ?_ i
  · have : m = 0 ∨ m = 1 ∨ m = 2 ∨ m = 3 ∨ m = 4 := by omega
    rcases this with rfl | rfl | rfl | rfl | rfl <;> rfl
  · intro j hj
    simp only [offE, hj, if_false]
theorem cW_r {G : MG} {ct : Nat → va_E} {ad : Nat → Nat} {b m r c a s : Nat} (i : Nat) : cW G ct b m (r + 1) c a s ad i = va_up (cW G ct b m r c a s ad) (b + 1) (.inl (G.2.1 3, 6, .inr (.inr (.inr (.inr (va_up (fun j => if j < r then some (ad (b + 6 + j)) else none) r (some (ad (b + 6 + r))))))))) i := by
  refine cW_up (G := G) (ct := ct) 1 _ ?_ ?_ i
  · show Sum.inl (_, _, Sum.inr (Sum.inr (Sum.inr (Sum.inr _)))) = _
    congr 7
    funext j
    unfold va_up
    by_cases h : j = r
    · subst h; rw [if_pos (by omega), if_pos rfl]
    · rw [if_neg h]
      dsimp only
      by_cases h2 : j < r
      · rw [if_pos h2, if_pos (by omega)]
      · rw [if_neg h2, if_neg (by omega)]
  · intro j hj
    simp only [offE, hj, if_false]
theorem cW_c {G : MG} {ct : Nat → va_E} {ad : Nat → Nat} {b m r c a s : Nat} (i : Nat) : cW G ct b m r (c + 1) a s ad i = va_up (cW G ct b m r c a s ad) (b + 2) (.inl (G.2.1 4, 12, .inr (.inr (.inr (.inr (va_up (fun j => if j < c then some (ad (b + 12 + j)) else none) c (some (ad (b + 12 + c))))))))) i := by
  refine cW_up (G := G) (ct := ct) 2 _ ?_ ?_ i
  · show Sum.inl (_, _, Sum.inr (Sum.inr (Sum.inr (Sum.inr _)))) = _
    congr 7
    funext j
    unfold va_up
    by_cases h : j = c
    · subst h; rw [if_pos (by omega), if_pos rfl]
    · rw [if_neg h]
      dsimp only
      by_cases h2 : j < c
      · rw [if_pos h2, if_pos (by omega)]
      · rw [if_neg h2, if_neg (by omega)]
  · intro j hj
    simp only [offE, hj, if_false]
theorem cW_a {G : MG} {ct : Nat → va_E} {ad : Nat → Nat} {b m r c a s : Nat} (i : Nat) : cW G ct b m r c (a + 1) s ad i = va_up (cW G ct b m r c a s ad) (b + 3) (.inl (G.2.1 5, 40, .inr (.inr (.inr (.inr (va_up (fun j => if j < a then some (ad (b + 24 + j)) else none) a (some (ad (b + 24 + a))))))))) i := by
  refine cW_up (G := G) (ct := ct) 3 _ ?_ ?_ i
  · show Sum.inl (_, _, Sum.inr (Sum.inr (Sum.inr (Sum.inr _)))) = _
    congr 7
    funext j
    unfold va_up
    by_cases h : j = a
    · subst h; rw [if_pos (by omega), if_pos rfl]
    · rw [if_neg h]
      dsimp only
      by_cases h2 : j < a
      · rw [if_pos h2, if_pos (by omega)]
      · rw [if_neg h2, if_neg (by omega)]
  · intro j hj
    simp only [offE, hj, if_false]
theorem cW_s {G : MG} {ct : Nat → va_E} {ad : Nat → Nat} {b m r c a s : Nat} (i : Nat) : cW G ct b m r c a (s + 1) ad i = va_up (cW G ct b m r c a s ad) (b + 5) (.inl (G.2.1 0, 6, .inl (upd (fun j => if j < s then fFIRST j else 0) s (fFIRST s)))) i := by
  refine cW_up (G := G) (ct := ct) 5 _ ?_ ?_ i
  · show Sum.inl (_, _, Sum.inl _) = _
    congr 4
    funext j
    unfold upd
    by_cases h : j = s
    · subst h; rw [if_pos (by omega), if_pos rfl]
    · rw [if_neg h]
      dsimp only
      by_cases h2 : j < s
      · rw [if_pos h2, if_pos (by omega)]
      · rw [if_neg h2, if_neg (by omega)]
  · intro j hj
    simp only [offE, hj, if_false]
set_option maxHeartbeats 4000000 in
set_option maxRecDepth 100000 in
theorem c_X3_init (l : Launch) (G : MG) (A : Nat → Prop) (b : Nat) (ad0 : Nat → Nat) (ct0 : Nat → va_E) (h0 : ct0 b = offE G ad0 b 0 0 0 0 0 0) : CKi l G A yX3_init wsX3_init rm_X3_init (ad0 b) (b + 1) ad0 ct0 (b + 64) (fun ad' => cW G ct0 b 5 6 12 40 6 ad') 63 532 := by
  refine ck_of (own := RX3) (cc := cX3_init) (maxL := 2) (by decide +kernel) rfl rfl rfl (Nat.le_of_ble_eq_true rfl) (KQ_mv (ExI_mv A)) ?_
  intro X hX hNm ret
  refine n_lv (lv' := [(0, .ref (ad0 b))]) rfl ?_
  obtain ⟨t, gs, tl, ti⟩ := n_first hX (fun U h => h.2.2.2.2.1) (fun U h => by obtain ⟨t1, _, _, h1, _⟩ := h.2.2.2.2.2.2.2.2.2.2.2; exact ⟨t1, h1⟩)
  refine n_aload_n hX 0 dX3_init_0 rfl ?_
  refine n_obj hX (List.mem_of_getElem? (i := 1) rfl) (List.mem_of_getElem? (i := 2) rfl) (List.mem_of_getElem? (i := 3) rfl) (by decide) (Nat.le_of_ble_eq_true rfl) dX3_init_1 ?_
  refine n_w (ad2 := ad0) (ct2 := cW G ct0 b 0 0 0 0 0 ad0) rfl (fun _ _ => rfl) (fun i hi => ?_) ?_
  · unfold cW; by_cases h : i < b
    · rw [if_pos h]
    · have : i = b := by omega
      subst this; rw [if_neg h, Nat.sub_self, h0]
  refine n_aload_n hX 0 dX3_init_4 rfl ?_
  refine n_bipush hX 6 dX3_init_5 (by decide) ?_
  refine n_newq hX (N := 6) 3 (cW G ct0 b 0 0 0 0 0) rfl (List.mem_of_getElem? (i := 4) rfl) (fun U h => h.1) (by decide) (by decide) (Nat.le_of_ble_eq_true rfl) (Nat.le_of_ble_eq_true rfl) (Nat.le_of_ble_eq_true rfl) dX3_init_7 (fun ad' h => ⟨fun i hi => cW_cg h (by omega) (Or.inl rfl) (Or.inl rfl) (Or.inl rfl) i, cW_at G ct0 b 0 0 0 0 0 ad' 1⟩) (fun ad1 h1 => ?_)
  have hb1 : ad1 b = ad0 b := h1 b (by omega)
  refine n_putF hX hNm (ty := .array (.object "ClimbPermits$Route")) b (cW G ct0 b 1 0 0 0 0 ad1) (by omega) hb1 (cW_0 G ct0 b 0 0 0 0 0 ad1) rfl (fun w h => List.mem_cons_of_mem _ (List.mem_append_left _ (List.mem_append_left _ (List.mem_append_left _ (List.mem_append_right _ h))))) tyX3 tyX3_ok nmX3 4 (by decide) (List.mem_of_getElem? (i := 5) rfl) rfl rfl rfl (by decide +kernel) rfl rfl (Nat.le_of_ble_eq_true rfl) dX3_init_10 (fun i _ => cW_f (by decide) i) ?_
  refine n_aload_n hX 0 dX3_init_13 rfl ?_
  refine n_bipush hX 12 dX3_init_14 (by decide) ?_
  refine n_newq hX (N := 12) 4 (cW G ct0 b 1 0 0 0 0) rfl (List.mem_of_getElem? (i := 6) rfl) (fun U h => h.2.1) (by decide) (by decide) (Nat.le_of_ble_eq_true rfl) (Nat.le_of_ble_eq_true rfl) (Nat.le_of_ble_eq_true rfl) dX3_init_16 (fun ad' h => ⟨fun i hi => cW_cg h (by omega) (Or.inl rfl) (Or.inl rfl) (Or.inl rfl) i, cW_at G ct0 b 1 0 0 0 0 ad' 2⟩) (fun ad2 h2 => ?_)
  have hb2 : ad2 b = ad0 b := (h2 b (by omega)).trans hb1
  refine n_putF hX hNm (ty := .array (.object "ClimbPermits$Climber")) b (cW G ct0 b 2 0 0 0 0 ad2) (by omega) hb2 (cW_0 G ct0 b 1 0 0 0 0 ad2) rfl (fun w h => List.mem_cons_of_mem _ (List.mem_append_left _ (List.mem_append_left _ (List.mem_append_left _ (List.mem_append_right _ h))))) tyX3 tyX3_ok nmX3 5 (by decide) (List.mem_of_getElem? (i := 7) rfl) rfl rfl rfl (by decide +kernel) rfl rfl (Nat.le_of_ble_eq_true rfl) dX3_init_19 (fun i _ => cW_f (by decide) i) ?_
  refine n_aload_n hX 0 dX3_init_22 rfl ?_
  refine n_bipush hX 40 dX3_init_23 (by decide) ?_
  refine n_newq hX (N := 40) 5 (cW G ct0 b 2 0 0 0 0) rfl (List.mem_of_getElem? (i := 8) rfl) (fun U h => h.2.2.1) (by decide) (by decide) (Nat.le_of_ble_eq_true rfl) (Nat.le_of_ble_eq_true rfl) (Nat.le_of_ble_eq_true rfl) dX3_init_25 (fun ad' h => ⟨fun i hi => cW_cg h (by omega) (Or.inl rfl) (Or.inl rfl) (Or.inl rfl) i, cW_at G ct0 b 2 0 0 0 0 ad' 3⟩) (fun ad3 h3 => ?_)
  have hb3 : ad3 b = ad0 b := (h3 b (by omega)).trans hb2
  refine n_putF hX hNm (ty := .array (.object "ClimbPermits$Application")) b (cW G ct0 b 3 0 0 0 0 ad3) (by omega) hb3 (cW_0 G ct0 b 2 0 0 0 0 ad3) rfl (fun w h => List.mem_cons_of_mem _ (List.mem_append_left _ (List.mem_append_left _ (List.mem_append_left _ (List.mem_append_right _ h))))) tyX3 tyX3_ok nmX3 6 (by decide) (List.mem_of_getElem? (i := 9) rfl) rfl rfl rfl (by decide +kernel) rfl rfl (Nat.le_of_ble_eq_true rfl) dX3_init_28 (fun i _ => cW_f (by decide) i) ?_
  refine n_aload_n hX 0 dX3_init_31 rfl ?_
  refine n_bipush hX 60 dX3_init_32 (by decide) ?_
  refine n_newa hX (atype := .boolean) (ty := .boolean) (N := 60) (a0 := (60, .inl (fun _ => 0))) 1 (cW G ct0 b 3 0 0 0 0) (fun _ _ => rfl) rfl (List.mem_of_getElem? (i := 10) rfl) rfl (fun _ => rfl) (by decide) (by decide) (Nat.le_of_ble_eq_true rfl) (Nat.le_of_ble_eq_true rfl) (Nat.le_of_ble_eq_true rfl) dX3_init_34 (fun ad' h => ⟨fun i hi => cW_cg h (by omega) (Or.inl rfl) (Or.inl rfl) (Or.inl rfl) i, cW_at G ct0 b 3 0 0 0 0 ad' 4⟩) (fun ad4 h4 => ?_)
  have hb4 : ad4 b = ad0 b := (h4 b (by omega)).trans hb3
  refine n_putF hX hNm (ty := .array .boolean) b (cW G ct0 b 4 0 0 0 0 ad4) (by omega) hb4 (cW_0 G ct0 b 3 0 0 0 0 ad4) rfl (fun w h => List.mem_cons_of_mem _ (List.mem_append_left _ (List.mem_append_left _ (List.mem_append_left _ (List.mem_append_right _ h))))) tyX3 tyX3_ok nmX3 7 (by decide) (List.mem_of_getElem? (i := 11) rfl) rfl rfl rfl (by decide +kernel) rfl rfl (Nat.le_of_ble_eq_true rfl) dX3_init_36 (fun i _ => cW_f (by decide) i) ?_
  refine n_aload_n hX 0 dX3_init_39 rfl ?_
  refine gs _ _ _ _ _ _ _ _ dX3_init_40 ?_
  refine tl _ _ _ _ _ _ _ _ dX3_init_43 ?_
  refine n_newa hX (atype := .int) (ty := .int) (N := 6) (a0 := (6, .inl (fun _ => 0))) 0 (cW G ct0 b 4 0 0 0 0) (fun _ _ => rfl) rfl (List.mem_of_getElem? (i := 12) rfl) rfl (fun _ => rfl) (by decide) (by decide) (Nat.le_of_ble_eq_true rfl) (Nat.le_of_ble_eq_true rfl) (Nat.le_of_ble_eq_true rfl) dX3_init_44 (fun ad' h => ⟨fun i hi => cW_cg h (by omega) (Or.inl rfl) (Or.inl rfl) (Or.inl rfl) i, cW_at G ct0 b 4 0 0 0 0 ad' 5⟩) (fun ad5 h5 => ?_)
  have hb5 : ad5 b = ad0 b := (h5 b (by omega)).trans hb4
  refine n_putF hX hNm (ty := .array .int) b (cW G ct0 b 5 0 0 0 0 ad5) (by omega) hb5 (cW_0 G ct0 b 4 0 0 0 0 ad5) rfl (fun w h => List.mem_cons_of_mem _ (List.mem_append_left _ (List.mem_append_left _ (List.mem_append_left _ (List.mem_append_right _ h))))) tyX3 tyX3_ok nmX3 8 (by decide) (List.mem_of_getElem? (i := 13) rfl) rfl rfl rfl (by decide +kernel) rfl rfl (Nat.le_of_ble_eq_true rfl) dX3_init_46 (fun i _ => cW_f (by decide) i) ?_
  refine n_iconst hX 0 dX3_init_49 (by decide) ?_
  refine n_istore_n hX [(1, .int 0), (0, .ref (ad0 b))] dX3_init_50 (by decide) rfl ?_
  have loop51 : ∀ (nf r : Nat) (ad : Nat → Nat), 6 < r + nf → r ≤ 6 → ad b = ad0 b → (∀ i, i < b → ad i = ad0 i) → (∀ ad', ad' b = ad0 b → (∀ i, i < b → ad' i = ad0 i) → GN X G.1 (b + 6 + 6) ad' (cW G ct0 b 5 6 0 0 0 ad') (5 + 6) (124 + 2 * 6) 79 [(0, .ref (ad0 b))] []) → GN X G.1 (b + 6 + r) ad (cW G ct0 b 5 r 0 0 0 ad) (5 + r) (124 + 2 * r) 51 [(0, .ref (ad0 b)), (1, .int (nI r))] [] := by
    intro nf
    induction nf with
    | zero => intro r ad h1 h2; omega
    | succ nf ih =>
      intro r ad h1 h2 hb hlo kk
      refine n_iload_n hX 1 dX3_init_51 rfl ?_
      refine n_aload_n hX 0 dX3_init_52 rfl ?_
      refine n_get hX b (by omega) hb (cW_0 G ct0 b 5 r 0 0 0 ad) rfl (fun w h => List.mem_cons_of_mem _ (List.mem_append_left _ (List.mem_append_left _ (List.mem_append_left _ (List.mem_append_right _ h))))) 4 (by decide) (List.mem_of_getElem? (i := 5) rfl) rfl rfl dX3_init_53 ?_
      refine n_alen hX (b + 1) (by omega) rfl 3 (cW_at G ct0 b 5 r 0 0 0 ad 1) rfl rfl dX3_init_56 ?_
      refine n_ic_ge hX 79 dX3_init_57 (by decide) (fun c1 => ?_) (fun c1 => ?_)
      · have hr : r = 6 := by
          have := (nI_leI (a := 6) (by omega) (by omega)).mp c1; omega
        subst hr
        refine n_sub [0] [(0, .ref (ad0 b))] rfl ?_
        exact kk ad hb hlo
      · have hr : r < 6 := Nat.lt_of_not_le (fun q => c1 (nI_le (a := 6) q (by omega)))
        refine n_aload_n hX 0 dX3_init_60 rfl ?_
        refine n_get hX b (by omega) hb (cW_0 G ct0 b 5 r 0 0 0 ad) rfl (fun w h => List.mem_cons_of_mem _ (List.mem_append_left _ (List.mem_append_left _ (List.mem_append_left _ (List.mem_append_right _ h))))) 4 (by decide) (List.mem_of_getElem? (i := 5) rfl) rfl rfl dX3_init_61 ?_
        refine n_iload_n hX 1 dX3_init_64 rfl ?_
        have e0 : ¬ 6 + r = 0 := by omega
        have e1 : ¬ 6 + r = 1 := by omega
        have e2 : ¬ 6 + r = 2 := by omega
        have e3 : ¬ 6 + r = 3 := by omega
        have e4 : ¬ 6 + r = 4 := by omega
        have e5 : ¬ 6 + r = 5 := by omega
        have e12 : 6 + r < 12 := by omega
        have hnew : ∀ ad', cW G ct0 b 5 r 0 0 0 ad' (b + 6 + r) = .inr (5, [.int 0, .int 0]) := fun ad' => by rw [Nat.add_assoc, cW_at]; simp only [offE, e0, e1, e2, e3, e4, e5, e12, if_true, if_false]
        refine n_new hX (ci := 5) (fs := [.int 0, .int 0]) (cW G ct0 b 5 r 0 0 0) (fun w h => List.mem_cons_of_mem _ (List.mem_append_left _ (List.mem_append_left _ (List.mem_append_right _ h)))) tyX5 tyX5_ok (List.mem_of_getElem? (i := 4) rfl) (List.mem_of_getElem? (i := 14) rfl) (List.mem_of_getElem? (i := 15) rfl) rfl (by decide) (by show 5 + r + 1 ≤ 63; omega) (by show 124 + 2 * r + 2 ≤ 532; omega) dX3_init_65 (fun ad' h => ⟨fun i hi => cW_cg h (by omega) (Or.inr (by omega)) (Or.inl rfl) (Or.inl rfl) i, hnew ad'⟩) (fun ad' h => ?_)
        refine n_dup hX dX3_init_68 rfl ?_
        refine n_initN hX (index := 40) (host := "ClimbPermits") (c_X5_init l G A _ _ _ _) gX3_init_X5_init_n40 rfl rfl rfl (List.mem_of_getElem? (i := 15) rfl) (fun U h => h.2.2.2.2.2.1) (List.mem_of_getElem? (i := 20) rfl) rfl ⟨by decide +kernel, by decide +kernel, by decide +kernel⟩ ⟨by decide, by decide⟩ (Nat.le_of_ble_eq_true rfl) ⟨by show 5 + r + 1 + 0 ≤ 63; omega, by show 124 + 2 * r + 2 + 0 ≤ 532; omega⟩ dX3_init_69 (fun ad'' h' => ?_)
        refine n_w (ad2 := ad') (ct2 := cW G ct0 b 5 r 0 0 0 ad') rfl (fun i hi => (h' i hi).symm) (fun i hi => rfl) ?_
        refine n_astq hX (b + 1) 3 (b + 6 + r) (cW G ct0 b 5 (r + 1) 0 0 0 ad') (by omega) (h _ (by omega)) (cW_at G ct0 b 5 r 0 0 0 ad' 1) rfl (by omega) rfl (hnew ad') rfl r rfl hr (by decide) dX3_init_72 (fun i _ => cW_r i) ?_
        refine n_iinc hX (nI (r + 1)) 1 [(1, .int (nI (r + 1))), (0, .ref (ad0 b))] dX3_init_73 rfl (nI_1 r) (by decide) rfl ?_
        refine n_goto hX 51 dX3_init_76 (by decide) ?_
        refine n_sub [1, 0] [(0, .ref (ad0 b)), (1, .int (nI (r + 1)))] rfl ?_
        refine n_wid (kc2 := 5 + (r + 1)) (ks2 := 124 + 2 * (r + 1)) (by omega) (by omega) ?_
        exact ih (r + 1) ad' (by omega) (by omega) ((h b (by omega)).trans hb) (fun i hi => (h i (by omega)).trans (hlo i hi)) kk
  have loop81 : ∀ (nf r : Nat) (ad : Nat → Nat), 12 < r + nf → r ≤ 12 → ad b = ad0 b → (∀ i, i < b → ad i = ad0 i) → (∀ ad', ad' b = ad0 b → (∀ i, i < b → ad' i = ad0 i) → GN X G.1 (b + 12 + 12) ad' (cW G ct0 b 5 6 12 0 0 ad') (11 + 12) (136 + 3 * 12) 109 [(0, .ref (ad0 b))] []) → GN X G.1 (b + 12 + r) ad (cW G ct0 b 5 6 r 0 0 ad) (11 + r) (136 + 3 * r) 81 [(0, .ref (ad0 b)), (1, .int (nI r))] [] := by
    intro nf
    induction nf with
    | zero => intro r ad h1 h2; omega
    | succ nf ih =>
      intro r ad h1 h2 hb hlo kk
      refine n_iload_n hX 1 dX3_init_81 rfl ?_
      refine n_aload_n hX 0 dX3_init_82 rfl ?_
      refine n_get hX b (by omega) hb (cW_0 G ct0 b 5 6 r 0 0 ad) rfl (fun w h => List.mem_cons_of_mem _ (List.mem_append_left _ (List.mem_append_left _ (List.mem_append_left _ (List.mem_append_right _ h))))) 5 (by decide) (List.mem_of_getElem? (i := 7) rfl) rfl rfl dX3_init_83 ?_
      refine n_alen hX (b + 2) (by omega) rfl 4 (cW_at G ct0 b 5 6 r 0 0 ad 2) rfl rfl dX3_init_86 ?_
      refine n_ic_ge hX 109 dX3_init_87 (by decide) (fun c1 => ?_) (fun c1 => ?_)
      · have hr : r = 12 := by
          have := (nI_leI (a := 12) (by omega) (by omega)).mp c1; omega
        subst hr
        refine n_sub [0] [(0, .ref (ad0 b))] rfl ?_
        exact kk ad hb hlo
      · have hr : r < 12 := Nat.lt_of_not_le (fun q => c1 (nI_le (a := 12) q (by omega)))
        refine n_aload_n hX 0 dX3_init_90 rfl ?_
        refine n_get hX b (by omega) hb (cW_0 G ct0 b 5 6 r 0 0 ad) rfl (fun w h => List.mem_cons_of_mem _ (List.mem_append_left _ (List.mem_append_left _ (List.mem_append_left _ (List.mem_append_right _ h))))) 5 (by decide) (List.mem_of_getElem? (i := 7) rfl) rfl rfl dX3_init_91 ?_
        refine n_iload_n hX 1 dX3_init_94 rfl ?_
        have e0 : ¬ 12 + r = 0 := by omega
        have e1 : ¬ 12 + r = 1 := by omega
        have e2 : ¬ 12 + r = 2 := by omega
        have e3 : ¬ 12 + r = 3 := by omega
        have e4 : ¬ 12 + r = 4 := by omega
        have e5 : ¬ 12 + r = 5 := by omega
        have e12 : ¬ 12 + r < 12 := by omega
        have e24 : 12 + r < 24 := by omega
        have hnew : ∀ ad', cW G ct0 b 5 6 r 0 0 ad' (b + 12 + r) = .inr (1, [.int 0, .int 0, .int (-6)]) := fun ad' => by rw [Nat.add_assoc, cW_at]; simp only [offE, e0, e1, e2, e3, e4, e5, e12, e24, if_true, if_false]
        refine n_new hX (ci := 1) (fs := [.int 0, .int 0, .int 0]) (fun ad' => va_up (cW G ct0 b 5 6 r 0 0 ad') (b + 12 + r) (.inr (1, [.int 0, .int 0, .int 0]))) (fun w h => List.mem_cons_of_mem _ (List.mem_append_left _ (List.mem_append_right _ h))) tyX1 tyX1_ok (List.mem_of_getElem? (i := 6) rfl) (List.mem_of_getElem? (i := 16) rfl) (List.mem_of_getElem? (i := 17) rfl) rfl (by decide) (by show 11 + r + 1 ≤ 63; omega) (by show 136 + 3 * r + 3 ≤ 532; omega) dX3_init_95 (fun ad' h => ⟨fun i hi => by unfold va_up; rw [if_neg (by omega)]; exact cW_cg h (by omega) (Or.inr (by omega)) (Or.inr (by omega)) (Or.inl rfl) i, by simp [va_up]⟩) (fun ad' h => ?_)
        refine n_dup hX dX3_init_98 rfl ?_
        refine n_initN hX (index := 41) (host := "ClimbPermits") (c_X1_init l G A (b + 12 + r) _ _ _ (by omega) (by simp [va_up])) gX3_init_X1_init_n41 rfl rfl rfl (List.mem_of_getElem? (i := 17) rfl) (fun U h => h.2.2.2.2.2.2.1) (List.mem_of_getElem? (i := 23) rfl) rfl ⟨by decide +kernel, by decide +kernel, by decide +kernel⟩ ⟨by decide, by decide⟩ (Nat.le_of_ble_eq_true rfl) ⟨by show 11 + r + 1 + 0 ≤ 63; omega, by show 136 + 3 * r + 3 + 0 ≤ 532; omega⟩ dX3_init_99 (fun ad'' h' => ?_)
        refine n_w (ad2 := ad') (ct2 := cW G ct0 b 5 6 r 0 0 ad') rfl (fun i hi => (h' i hi).symm) (fun i hi => up_id (hnew ad') i) ?_
        refine n_astq hX (b + 2) 4 (b + 12 + r) (cW G ct0 b 5 6 (r + 1) 0 0 ad') (by omega) (h _ (by omega)) (cW_at G ct0 b 5 6 r 0 0 ad' 2) rfl (by omega) rfl (hnew ad') rfl r rfl hr (by decide) dX3_init_102 (fun i _ => cW_c i) ?_
        refine n_iinc hX (nI (r + 1)) 1 [(1, .int (nI (r + 1))), (0, .ref (ad0 b))] dX3_init_103 rfl (nI_1 r) (by decide) rfl ?_
        refine n_goto hX 81 dX3_init_106 (by decide) ?_
        refine n_sub [1, 0] [(0, .ref (ad0 b)), (1, .int (nI (r + 1)))] rfl ?_
        refine n_wid (kc2 := 11 + (r + 1)) (ks2 := 136 + 3 * (r + 1)) (by omega) (by omega) ?_
        exact ih (r + 1) ad' (by omega) (by omega) ((h b (by omega)).trans hb) (fun i hi => (h i (by omega)).trans (hlo i hi)) kk
  have loop111 : ∀ (nf r : Nat) (ad : Nat → Nat), 40 < r + nf → r ≤ 40 → ad b = ad0 b → (∀ i, i < b → ad i = ad0 i) → (∀ ad', ad' b = ad0 b → (∀ i, i < b → ad' i = ad0 i) → GN X G.1 (b + 24 + 40) ad' (cW G ct0 b 5 6 12 40 0 ad') (23 + 40) (172 + 9 * 40) 139 [(0, .ref (ad0 b))] []) → GN X G.1 (b + 24 + r) ad (cW G ct0 b 5 6 12 r 0 ad) (23 + r) (172 + 9 * r) 111 [(0, .ref (ad0 b)), (1, .int (nI r))] [] := by
    intro nf
    induction nf with
    | zero => intro r ad h1 h2; omega
    | succ nf ih =>
      intro r ad h1 h2 hb hlo kk
      refine n_iload_n hX 1 dX3_init_111 rfl ?_
      refine n_aload_n hX 0 dX3_init_112 rfl ?_
      refine n_get hX b (by omega) hb (cW_0 G ct0 b 5 6 12 r 0 ad) rfl (fun w h => List.mem_cons_of_mem _ (List.mem_append_left _ (List.mem_append_left _ (List.mem_append_left _ (List.mem_append_right _ h))))) 6 (by decide) (List.mem_of_getElem? (i := 9) rfl) rfl rfl dX3_init_113 ?_
      refine n_alen hX (b + 3) (by omega) rfl 5 (cW_at G ct0 b 5 6 12 r 0 ad 3) rfl rfl dX3_init_116 ?_
      refine n_ic_ge hX 139 dX3_init_117 (by decide) (fun c1 => ?_) (fun c1 => ?_)
      · have hr : r = 40 := by
          have := (nI_leI (a := 40) (by omega) (by omega)).mp c1; omega
        subst hr
        refine n_sub [0] [(0, .ref (ad0 b))] rfl ?_
        exact kk ad hb hlo
      · have hr : r < 40 := Nat.lt_of_not_le (fun q => c1 (nI_le (a := 40) q (by omega)))
        refine n_aload_n hX 0 dX3_init_120 rfl ?_
        refine n_get hX b (by omega) hb (cW_0 G ct0 b 5 6 12 r 0 ad) rfl (fun w h => List.mem_cons_of_mem _ (List.mem_append_left _ (List.mem_append_left _ (List.mem_append_left _ (List.mem_append_right _ h))))) 6 (by decide) (List.mem_of_getElem? (i := 9) rfl) rfl rfl dX3_init_121 ?_
        refine n_iload_n hX 1 dX3_init_124 rfl ?_
        have e0 : ¬ 24 + r = 0 := by omega
        have e1 : ¬ 24 + r = 1 := by omega
        have e2 : ¬ 24 + r = 2 := by omega
        have e3 : ¬ 24 + r = 3 := by omega
        have e4 : ¬ 24 + r = 4 := by omega
        have e5 : ¬ 24 + r = 5 := by omega
        have e12 : ¬ 24 + r < 12 := by omega
        have e24 : ¬ 24 + r < 24 := by omega
        have hnew : ∀ ad', cW G ct0 b 5 6 12 r 0 ad' (b + 24 + r) = .inr (0, [.int 0, .int 0, .int 0, .int 0, .int 0, .int 0, .int 0, .int 0, .int 0]) := fun ad' => by rw [Nat.add_assoc, cW_at]; simp only [offE, e0, e1, e2, e3, e4, e5, e12, e24, if_true, if_false]
        refine n_new hX (ci := 0) (fs := [.int 0, .int 0, .int 0, .int 0, .int 0, .int 0, .int 0, .int 0, .int 0]) (cW G ct0 b 5 6 12 r 0) (fun w h => List.mem_cons_of_mem _ (List.mem_append_right _ h)) tyX0 tyX0_ok (List.mem_of_getElem? (i := 8) rfl) (List.mem_of_getElem? (i := 18) rfl) (List.mem_of_getElem? (i := 19) rfl) rfl (by decide) (by show 23 + r + 1 ≤ 63; omega) (by show 172 + 9 * r + 9 ≤ 532; omega) dX3_init_125 (fun ad' h => ⟨fun i hi => cW_cg h (by omega) (Or.inr (by omega)) (Or.inr (by omega)) (Or.inr (by omega)) i, hnew ad'⟩) (fun ad' h => ?_)
        refine n_dup hX dX3_init_128 rfl ?_
        refine n_initN hX (index := 42) (host := "ClimbPermits") (c_X0_init l G A _ _ _ _) gX3_init_X0_init_n42 rfl rfl rfl (List.mem_of_getElem? (i := 19) rfl) (fun U h => h.2.2.2.2.2.2.2.1) (List.mem_of_getElem? (i := 27) rfl) rfl ⟨by decide +kernel, by decide +kernel, by decide +kernel⟩ ⟨by decide, by decide⟩ (Nat.le_of_ble_eq_true rfl) ⟨by show 23 + r + 1 + 0 ≤ 63; omega, by show 172 + 9 * r + 9 + 0 ≤ 532; omega⟩ dX3_init_129 (fun ad'' h' => ?_)
        refine n_w (ad2 := ad') (ct2 := cW G ct0 b 5 6 12 r 0 ad') rfl (fun i hi => (h' i hi).symm) (fun i hi => rfl) ?_
        refine n_astq hX (b + 3) 5 (b + 24 + r) (cW G ct0 b 5 6 12 (r + 1) 0 ad') (by omega) (h _ (by omega)) (cW_at G ct0 b 5 6 12 r 0 ad' 3) rfl (by omega) rfl (hnew ad') rfl r rfl hr (by decide) dX3_init_132 (fun i _ => cW_a i) ?_
        refine n_iinc hX (nI (r + 1)) 1 [(1, .int (nI (r + 1))), (0, .ref (ad0 b))] dX3_init_133 rfl (nI_1 r) (by decide) rfl ?_
        refine n_goto hX 111 dX3_init_136 (by decide) ?_
        refine n_sub [1, 0] [(0, .ref (ad0 b)), (1, .int (nI (r + 1)))] rfl ?_
        refine n_wid (kc2 := 23 + (r + 1)) (ks2 := 172 + 9 * (r + 1)) (by omega) (by omega) ?_
        exact ih (r + 1) ad' (by omega) (by omega) ((h b (by omega)).trans hb) (fun i hi => (h i (by omega)).trans (hlo i hi)) kk
  refine n_sub [1, 0] [(0, .ref (ad0 b)), (1, .int (nI 0))] rfl ?_
  refine n_wid (kc2 := 5 + 0) (ks2 := 124 + 2 * 0) (by decide) (by decide) ?_
  refine loop51 7 0 ad5 (by omega) (by omega) hb5 (fun i hi => (h5 i (by omega)).trans ((h4 i (by omega)).trans ((h3 i (by omega)).trans ((h2 i (by omega)).trans (h1 i (by omega)))))) (fun ad6 hb6 hl6 => ?_)
  refine n_iconst hX 0 dX3_init_79 (by decide) ?_
  refine n_istore_n hX [(1, .int 0), (0, .ref (ad0 b))] dX3_init_80 (by decide) rfl ?_
  refine n_sub [1, 0] [(0, .ref (ad0 b)), (1, .int (nI 0))] rfl ?_
  refine loop81 13 0 ad6 (by omega) (by omega) hb6 hl6 (fun ad7 hb7 hl7 => ?_)
  refine n_iconst hX 0 dX3_init_109 (by decide) ?_
  refine n_istore_n hX [(1, .int 0), (0, .ref (ad0 b))] dX3_init_110 (by decide) rfl ?_
  refine n_sub [1, 0] [(0, .ref (ad0 b)), (1, .int (nI 0))] rfl ?_
  refine loop111 41 0 ad7 (by omega) (by omega) hb7 hl7 (fun ad8 hb8 hl8 => ?_)
  refine n_iconst hX 0 dX3_init_139 (by decide) ?_
  refine n_istore_n hX [(1, .int 0), (0, .ref (ad0 b))] dX3_init_140 (by decide) rfl ?_
  have loop141 : ∀ (nf s : Nat), 6 < s + nf → s ≤ 6 → GN X G.1 (b + 64) ad8 (cW G ct0 b 5 6 12 40 s ad8) 63 532 141 [(0, .ref (ad0 b)), (1, .int (nI s))] [] := by
    intro nf
    induction nf with
    | zero => intro s h1 h2; omega
    | succ nf ih =>
      intro s h1 h2
      refine n_iload_n hX 1 dX3_init_141 rfl ?_
      refine n_aload_n hX 0 dX3_init_142 rfl ?_
      refine n_get hX b (by omega) hb8 (cW_0 G ct0 b 5 6 12 40 s ad8) rfl (fun w h => List.mem_cons_of_mem _ (List.mem_append_left _ (List.mem_append_left _ (List.mem_append_left _ (List.mem_append_right _ h))))) 8 (by decide) (List.mem_of_getElem? (i := 13) rfl) rfl rfl dX3_init_143 ?_
      refine n_alen hX (b + 5) (by omega) rfl 0 (cW_at G ct0 b 5 6 12 40 s ad8 5) rfl rfl dX3_init_146 ?_
      refine n_ic_ge hX 167 dX3_init_147 (by decide) (fun c1 => ?_) (fun c1 => ?_)
      · have hr : s = 6 := by
          have := (nI_leI (a := 6) (by omega) (by omega)).mp c1; omega
        subst hr
        exact ret ad8 _ _ dX3_init_167 (fun i hi => by
          by_cases q : i = b
          · subst q; exact hb8
          · exact hl8 i (by omega))
      · have hr : s < 6 := Nat.lt_of_not_le (fun q => c1 (nI_le (a := 6) q (by omega)))
        refine n_aload_n hX 0 dX3_init_150 rfl ?_
        refine n_get hX b (by omega) hb8 (cW_0 G ct0 b 5 6 12 40 s ad8) rfl (fun w h => List.mem_cons_of_mem _ (List.mem_append_left _ (List.mem_append_left _ (List.mem_append_left _ (List.mem_append_right _ h))))) 8 (by decide) (List.mem_of_getElem? (i := 13) rfl) rfl rfl dX3_init_151 ?_
        refine n_iload_n hX 1 dX3_init_154 rfl ?_
        refine gs _ _ _ _ _ _ _ _ dX3_init_155 ?_
        refine n_iload_n hX 1 dX3_init_158 rfl ?_
        refine ti _ _ _ _ _ _ _ _ _ s rfl hr dX3_init_159 ?_
        refine n_iast hX (b + 5) (cW G ct0 b 5 6 12 40 (s + 1) ad8) (by omega) rfl (cW_at G ct0 b 5 6 12 40 s ad8 5) s rfl hr (by decide) dX3_init_160 (fun i _ => cW_s i) ?_
        refine n_iinc hX (nI (s + 1)) 1 [(1, .int (nI (s + 1))), (0, .ref (ad0 b))] dX3_init_161 rfl (nI_1 s) (by decide) rfl ?_
        refine n_goto hX 141 dX3_init_164 (by decide) ?_
        refine n_sub [1, 0] [(0, .ref (ad0 b)), (1, .int (nI (s + 1)))] rfl ?_
        exact ih (s + 1) (by omega) (by omega)
  refine n_sub [1, 0] [(0, .ref (ad0 b)), (1, .int (nI 0))] rfl ?_
  exact loop141 7 0 (by omega) (by omega)
