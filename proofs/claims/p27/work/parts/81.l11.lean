/-! ===== the law's own: an application told in text ===== -/
theorem szC : ∀ c, c < 10 → szK 8 0 ((nI (48 + c)).toInt64 ||| 25344) = 2 ∧ chrAt ((nI (48 + c)).toInt64 ||| 25344) 1 = 99 ∧ chrAt ((nI (48 + c)).toInt64 ||| 25344) 0 = nI (48 + c) := by decide +kernel
theorem szR : ∀ c, c < 10 → szK 8 0 ((nI (48 + c)).toInt64 ||| 29184) = 2 ∧ chrAt ((nI (48 + c)).toInt64 ||| 29184) 1 = 114 ∧ chrAt ((nI (48 + c)).toInt64 ||| 29184) 0 = nI (48 + c) := by decide +kernel
theorem szX : ∀ c, c < 10 → szK 8 0 ((nI (48 + c)).toInt64 ||| 30720) = 2 ∧ chrAt ((nI (48 + c)).toInt64 ||| 30720) 1 = 120 ∧ chrAt ((nI (48 + c)).toInt64 ||| 30720) 0 = nI (48 + c) := by decide +kernel
theorem szD : ∀ c, c < 10 → szK 8 0 ((nI (48 + c)).toInt64 ||| 13568 ||| 6553600) = 3 ∧ chrAt ((nI (48 + c)).toInt64 ||| 13568 ||| 6553600) 2 = 100 ∧ chrAt ((nI (48 + c)).toInt64 ||| 13568 ||| 6553600) 1 = 53 ∧ chrAt ((nI (48 + c)).toInt64 ||| 13568 ||| 6553600) 0 = nI (48 + c) := by decide +kernel
theorem spPut_lo (z : St) (c : Int64) {f : Nat} (h1 : f ≠ 68) (h2 : f ≠ 69) : (spPut z c).2 f = z f := by
  unfold spPut
  (repeat' split) <;> first | rfl | (dsimp only; exact apd_lo _ _ _ h1 h2)
theorem JI_put {z : St} {b : Nat} (h : JI z b) (hb : b + 100 ≤ 50000) (c : Int64) : JI (spPut z c).2 (b + 100) := ⟨Inv_p (pair_put h.inv c), hb, J_cg h.io (fun f hf => spPut_lo z c (by omega) (by omega)) h.j⟩
theorem put_n {y : St} {k : Int64} {L n : Nat} (h69 : y 69 0 = nI L) (hL : L + n ≤ 60) (h0 : 0 < n) (hs : szK 8 0 k = nI n) : (spPut y k).2 = u2 (wrK y k n n) 69 0 (nI (L + n)) := by
  have el : lenN y = L := by unfold lenN; rw [h69, cn_nI (by omega)]
  have e0 : ¬ szK 8 0 k = 0 := fun q => by
    rw [hs] at q
    have := (nI_eq (b := 0) (by omega) (by decide)).mp q
    omega
  have e1 : y 69 0 + szK 8 0 k ≤ 60 := by
    rw [h69, hs, nI_add]
    exact (nI_leI (b := 60) (by omega) (by decide)).mpr hL
  unfold spPut
  rw [if_neg e0, if_neg (not_not_intro e1), hs, cn_nI (by omega)]
  show apd k n y = _
  rw [apd_wr (by rw [el]; exact h69) (by omega), el]
theorem put2 {y : St} {k : Int64} {L : Nat} {A B : Int32} (h69 : y 69 0 = nI L) (hL : L + 2 ≤ 60) (hs : szK 8 0 k = 2) (hA : chrAt k 1 = A) (hB : chrAt k 0 = B) : (spPut y k).2 69 0 = nI (L + 2) ∧ (spPut y k).2 68 L = A ∧ (spPut y k).2 68 (L + 1) = B ∧ ∀ i, i < L → (spPut y k).2 68 i = y 68 i := by
  have el : lenN y = L := by unfold lenN; rw [h69, cn_nI (by omega)]
  rw [put_n h69 hL (by decide) hs]
  refine ⟨u2_s _ _ _ _, ?_, ?_, fun i hi => ?_⟩
  · rw [u2_f (by decide), wrK, wrK, el, u2_i _ (by omega), Nat.add_zero, u2_s]; exact hA
  · rw [u2_f (by decide), wrK, el, u2_s]; exact hB
  · rw [u2_f (by decide), wrK, wrK, el, u2_i _ (by omega), u2_i _ (by omega)]; rfl
theorem put3 {y : St} {k : Int64} {L : Nat} {A B C : Int32} (h69 : y 69 0 = nI L) (hL : L + 3 ≤ 60) (hs : szK 8 0 k = 3) (hA : chrAt k 2 = A) (hB : chrAt k 1 = B) (hC : chrAt k 0 = C) : (spPut y k).2 69 0 = nI (L + 3) ∧ (spPut y k).2 68 L = A ∧ (spPut y k).2 68 (L + 1) = B ∧ (spPut y k).2 68 (L + 2) = C ∧ ∀ i, i < L → (spPut y k).2 68 i = y 68 i := by
  have el : lenN y = L := by unfold lenN; rw [h69, cn_nI (by omega)]
  rw [put_n h69 hL (by decide) hs]
  refine ⟨u2_s _ _ _ _, ?_, ?_, ?_, fun i hi => ?_⟩
  · rw [u2_f (by decide), wrK, wrK, wrK, el, u2_i _ (by omega), u2_i _ (by omega), Nat.add_zero, u2_s]; exact hA
  · rw [u2_f (by decide), wrK, wrK, el, u2_i _ (by omega), u2_s]; exact hB
  · rw [u2_f (by decide), wrK, el, u2_s]; exact hC
  · rw [u2_f (by decide), wrK, wrK, wrK, el, u2_i _ (by omega), u2_i _ (by omega), u2_i _ (by omega)]; rfl
/-- the pad holds one application -/
def TXT (y : St) (c r d x : Nat) : Prop := y 69 0 = 9 ∧ y 68 0 = 99 ∧ y 68 1 = nI (48 + c) ∧ y 68 2 = 114 ∧ y 68 3 = nI (48 + r) ∧ y 68 4 = 100 ∧ y 68 5 = 53 ∧ y 68 6 = nI (48 + d) ∧ y 68 7 = 120 ∧ y 68 8 = nI (48 + x)
theorem TXT_of {y z : St} {c r d x : Nat} (h : TXT z c r d x) (e1 : y 68 = z 68) (e2 : y 69 = z 69) : TXT y c r d x := by
  unfold TXT at *; rw [e1, e2]; exact h
theorem dig_at {y : St} {p c : Nat} (hp : p < lenN y) (h : y 68 p = nI (48 + c)) (hc : c < 10) : digP y p = nI c := by
  unfold digP
  rw [h, if_pos ⟨hp, (nI_leI (a := 48) (by decide) (by omega)).mpr (by omega), (nI_leI (b := 57) (by omega) (by decide)).mpr (by omega)⟩]
  have e := pk_sub (a := 48 + c) (b := 48) (by omega)
  rw [show 48 + c - 48 = c from by omega] at e
  exact e
theorem dig_no {y : St} {p k : Nat} (h : y 68 p = nI k) (hk : 57 < k) (hk2 : k < 128) : digP y p = -1 := by
  unfold digP
  rw [if_neg]
  rintro ⟨-, -, q⟩
  rw [h] at q
  have := (nI_leI (b := 57) (by omega) (by decide)).mp q
  omega
theorem num_1 {y : St} {lo hi p c : Nat} (hd : digP y p = nI c) (hc : c < 10) (h1 : lo ≤ c) (h2 : c ≤ hi) (hh : hi < 100) (hn : digP y (p + 1) = -1) : numP y (nI lo) (nI hi) p = (nI c, p + 1) := by
  unfold numP
  rw [hd, if_neg (fun q => ?_)]
  · cases 61 - p with
    | zero => rfl
    | succ f =>
      rw [numL, hn]
      split
      · rw [if_pos rfl]
      · rfl
  · rcases q with q | q | q
    · exact nI_nm (n := c) (by omega) (by decide) q
    · have := (nI_ltI (by omega) (by omega)).mp q; omega
    · have := (nI_ltI (by omega) (by omega)).mp q; omega
theorem dig_end {y : St} {p : Nat} (h : lenN y ≤ p) : digP y p = -1 := by
  unfold digP
  rw [if_neg (fun q => by have := q.1; omega)]
theorem txt_ap {y : St} {c r d x : Nat} (h : TXT y c r d x) (hc : c < 10) (hr : r < 6) (hd : d < 10) (hx1 : 1 ≤ x) (hx4 : x ≤ 4) : apR y 0 = (1, PS y 9 (nI c) (nI r) (nI (50 + d)) (nI x)) := by
  obtain ⟨h69, h0, h1, h2, h3, h4, h5, h6, h7, h8⟩ := h
  have el : lenN y = 9 := by unfold lenN; rw [h69]; rfl
  have s0 : sgnP y 99 0 := ⟨by omega, h0⟩
  have a1 : q1 y 0 = (nI c, 2) := num_1 (lo := 0) (hi := 11) (p := 1) (dig_at (by omega) h1 hc) hc (by omega) (by omega) (by decide) (dig_no (k := 114) h2 (by decide) (by decide))
  have s1 : sgnP y 114 2 := ⟨by omega, h2⟩
  have a2 : q2 y 0 = (nI r, 4) := by
    unfold q2; rw [a1]
    exact num_1 (lo := 0) (hi := 5) (p := 3) (dig_at (by omega) h3 (by omega)) (by omega) (by omega) (by omega) (by decide) (dig_no (k := 100) h4 (by decide) (by decide))
  have s2 : sgnP y 100 4 := ⟨by omega, h4⟩
  have a3 : q3 y 0 = (nI (50 + d), 7) := by
    unfold q3; rw [a2]
    show numP y 0 59 5 = _
    have g5 : digP y 5 = nI 5 := dig_at (c := 5) (by omega) h5 (by decide)
    have g6 : digP y 6 = nI d := dig_at (by omega) h6 hd
    have g7 : digP y 7 = -1 := dig_no (k := 120) h7 (by decide) (by decide)
    unfold numP
    rw [g5, if_neg (by decide)]
    show numL y 59 (55 + 1) (nI 5) 6 = _
    rw [numL, if_pos ⟨by decide, by omega⟩, g6, if_neg (nI_nm (n := d) (by omega) (by decide))]
    have e50 : 10 * nI 5 + nI d = nI (50 + d) := nI_add 50 d
    rw [e50, if_neg (fun q => by have := (nI_ltI (a := 59) (by decide) (by omega)).mp q; omega)]
    show numL y 59 (54 + 1) (nI (50 + d)) 7 = _
    rw [numL, g7]
    split
    · rw [if_pos rfl]
    · rfl
  have s3 : sgnP y 120 7 := ⟨by omega, h7⟩
  have a4 : q4 y 0 = (nI x, 9) := by
    unfold q4; rw [a3]
    exact num_1 (lo := 1) (hi := 4) (p := 8) (dig_at (by omega) h8 (by omega)) (by omega) (by omega) (by omega) (by decide) (dig_end (by omega))
  unfold apR
  rw [a1, a2, a3, a4, if_neg (not_not_intro s0), if_neg (fun q => q.elim (fun w => nI_nm (n := c) (by omega) (by decide) w) (fun w => w s1)), if_neg (fun q => q.elim (fun w => nI_nm (n := r) (by omega) (by decide) w) (fun w => w s2)), if_neg (fun w => nI_nm (n := 50 + d) (by omega) (by decide) w), if_neg (not_not_intro s3), if_neg (fun w => nI_nm (n := x) (by omega) (by decide) w)]
theorem txt_fault {y : St} {c r d x : Nat} (h : TXT y c r d x) (hc : c < 10) (hr : r < 6) (hd : d < 10) (hx1 : 1 ≤ x) (hx4 : x ≤ 4) : (spFault y).1 = -6 := by
  have h' : TXT (u2 y 70 0 0) c r d x := TXT_of h (u2_f (by decide)) (u2_f (by decide))
  have e := txt_ap h' hc hr hd hx1 hx4
  have el : lenN (u2 y 70 0 0) = 9 := by unfold lenN; rw [h'.1]; rfl
  have eE : apE (u2 y 70 0 0) 0 = 9 := by unfold apE; rw [e]; rfl
  unfold spFault
  rw [ffK, if_neg (by rw [e]; exact fun q => absurd (show (1 : Int32) = 0 from q) (by decide)), if_pos (by rw [eE, el])]
theorem txt_load {y : St} {c r d x : Nat} (h : TXT y c r d x) (hc : c < 10) (hr : r < 6) (hd : d < 10) (hx1 : 1 ≤ x) (hx4 : x ≤ 4) : ∃ s : St, (∀ f, f < 70 ∨ 75 ≤ f → s f = y f) ∧ spLoad y = (if (spApply s (nI c) (nI r) (nI (50 + d)) (nI x)).1 < 0 then 0 else 1, u2 (spApply s (nI c) (nI r) (nI (50 + d)) (nI x)).2 69 0 0) := by
  have hf := txt_fault h hc hr hd hx1 hx4
  have fl : ∀ f, f < 70 ∨ 75 ≤ f → (spFault y).2 f = y f := fun f hf => by
    rcases hf with q | q
    · exact fault_lo y q
    · unfold spFault; rw [ffK_hi _ _ _ q, u2_f (by omega)]
  have h' : TXT (u2 (spFault y).2 70 0 0) c r d x := TXT_of h (by rw [u2_f (by decide)]; exact fl 68 (by decide)) (by rw [u2_f (by decide)]; exact fl 69 (by decide))
  have e := txt_ap h' hc hr hd hx1 hx4
  have el : lenN y = 9 := by unfold lenN; rw [h.1]; rfl
  have el2 : lenN (u2 (spFault y).2 70 0 0) = 9 := by unfold lenN; rw [h'.1]; rfl
  have eE : apE (u2 (spFault y).2 70 0 0) 0 = 9 := by unfold apE; rw [e]; rfl
  refine ⟨PS (u2 (spFault y).2 70 0 0) 9 (nI c) (nI r) (nI (50 + d)) (nI x), fun f hf => ?_, ?_⟩
  · rw [PS_lo _ _ _ _ _ _ (by omega), u2_f (by omega)]; exact fl f hf
  · have eA : ldA (u2 (spFault y).2 70 0 0) 0 = spApply (PS (u2 (spFault y).2 70 0 0) 9 (nI c) (nI r) (nI (50 + d)) (nI x)) (nI c) (nI r) (nI (50 + d)) (nI x) := by
      unfold ldA; rw [e]; rfl
    unfold spLoad
    rw [if_neg (not_not_intro hf), el]
    show ((ldK (8 + 1) _ _ _).1, u2 (ldK (8 + 1) _ _ _).2 69 0 0) = _
    rw [ldK, eE, eA, if_neg (show ¬ sgnP (u2 (spFault y).2 70 0 0) 59 9 from fun q => by have := q.1; omega)]
    split
    · rfl
    · rfl
theorem apply_two {z : St} {b : Nat} (h : JI z b) (c r d p : Int32) : (∃ v, v < 0 ∧ spApply z c r d p = (v, z)) ∨ (spApply z c r d p = (nI (nA z), newApp z c r d p) ∧ nA z < 40 ∧ climP z c ∧ dayP d) := by
  unfold spApply
  split
  · exact Or.inl ⟨_, by decide, rfl⟩
  · rename_i h0
    split
    · exact Or.inl ⟨_, by decide, rfl⟩
    · split
      · exact Or.inl ⟨_, by decide, rfl⟩
      · split
        · exact Or.inl ⟨_, by decide, rfl⟩
        · rename_i h4
          refine Or.inr ⟨by rw [← h.na.1], ?_, Decidable.not_not.mp (fun q => h0 (Or.inl q)), Decidable.not_not.mp (fun q => h0 (Or.inr (fun w => q w.2)))⟩
          have h5 := Decidable.not_not.mp h4
          rw [h.na.1] at h5
          exact (nI_ltI (b := 40) (by have := h.na.2; omega) (by decide)).mp h5
/-- what apply answers is told by the places of office 0 -/
theorem apply_off {y z : St} {b : Nat} (h : OffL y z) (hz : JI z b) {c d : Nat} (hc : c < 12) (hd : d < 60) (r p : Int32) : (spApply y (nI c) r (nI d) p).1 = (spApply z (nI c) r (nI d) p).1 := by
  have hh : hasOne y (nI c) r (nI d) = hasOne z (nI c) r (nI d) := by
    unfold hasOne
    rw [h.n]
    refine anyN_congr (fun a ha => ?_)
    unfold onP aliveP
    rw [h.a hz (by decide) (by decide) ha, h.a hz (by decide) (by decide) ha, h.a hz (by decide) (by decide) ha, h.a hz (by decide) (by decide) ha]
  have cc : cn (nI c) = c := cn_nI (by omega)
  have cd : cn (nI d) = d := cn_nI (by omega)
  unfold spApply climP routeP openP
  rw [hh, cc, cd, h 0 0 (by decide) (by decide), h 1 0 (by decide) (by decide), h 2 0 (by decide) (by decide), h 3 0 (by decide) (by decide), h 7 d (by decide) hd, h 10 c (by decide) hc]
  (repeat' split) <;> rfl
theorem pend_new {z y : St} {b : Nat} (h : JI z b) (hn : nA z < 40) {c r d p : Int32} (hy : ∀ f, f < 20 → y f = newApp z c r d p f) : nA y = nA z + 1 ∧ a_s y (nA z) = 0 ∧ a_d y (nA z) = cn d ∧ a_p y (nA z) = cn p := by
  obtain ⟨n1, n2, n3, n4, n5⟩ := nwA_new z c r d p
  obtain ⟨f15, -, -, -⟩ := h.oi.fra (nA z) (Nat.le_refl _) hn
  refine ⟨?_, ?_, ?_, ?_⟩
  · rw [← nwA_n h.io c r d p]; unfold nA; rw [hy 3 (by decide)]
  · unfold a_s; rw [hy 15 (by decide), nwA_lo _ _ _ _ _ (by decide), f15]; decide
  · unfold a_d; rw [hy 13 (by decide), n3]
  · unfold a_p; rw [hy 14 (by decide), n4]

def rm_L_told : Room := { frames := 6, cells := 0, slots := 0, locals := 137 }
theorem k_L_told_L_up : CT3 rm_L_told wsL_told RL 22 yL_up cL_up 2 (some .int) wsL_up rm_L_up 0 0 2 := ⟨gL_told_L_up, ⟨_, rfl⟩, rfl, rfl, ⟨by decide +kernel, by decide +kernel, by decide +kernel⟩, by decide, by decide⟩
theorem k_L_told_X6_application : CW rm_L_told wsL_told RL RX6 68 yX6_application cX6_application 4 (some .int) wsX6_application rm_X6_application 2 := ⟨gL_told_X6_application, ⟨_, rfl⟩, rfl, rfl, ⟨rfl, by decide +kernel, by decide +kernel, by decide +kernel⟩, by decide, by decide⟩
theorem k_L_told_X6_apply : CW rm_L_told wsL_told RL RX6 61 yX6_apply cX6_apply 5 (some .int) wsX6_apply rm_X6_apply 4 := ⟨gL_told_X6_apply, ⟨_, rfl⟩, rfl, rfl, ⟨rfl, by decide +kernel, by decide +kernel, by decide +kernel⟩, by decide, by decide⟩
theorem k_L_told_X6_cancel : CW rm_L_told wsL_told RL RX6 75 yX6_cancel cX6_cancel 4 (some .int) wsX6_cancel rm_X6_cancel 1 := ⟨gL_told_X6_cancel, ⟨_, rfl⟩, rfl, rfl, ⟨rfl, by decide +kernel, by decide +kernel, by decide +kernel⟩, by decide, by decide⟩
theorem k_L_told_X6_count : CW rm_L_told wsL_told RL RX6 57 yX6_count cX6_count 2 (some .int) wsX6_count rm_X6_count 1 := ⟨gL_told_X6_count, ⟨_, rfl⟩, rfl, rfl, ⟨rfl, by decide +kernel, by decide +kernel, by decide +kernel⟩, by decide, by decide⟩
theorem k_L_told_X6_fault : CW rm_L_told wsL_told RL RX6 137 yX6_fault cX6_fault 1 (some .int) wsX6_fault rm_X6_fault 0 := ⟨gL_told_X6_fault, ⟨_, rfl⟩, rfl, rfl, ⟨rfl, by decide +kernel, by decide +kernel, by decide +kernel⟩, by decide, by decide⟩
theorem k_L_told_X6_load : CW rm_L_told wsL_told RL RX6 140 yX6_load cX6_load 4 (some .int) wsX6_load rm_X6_load 0 := ⟨gL_told_X6_load, ⟨_, rfl⟩, rfl, rfl, ⟨rfl, by decide +kernel, by decide +kernel, by decide +kernel⟩, by decide, by decide⟩
theorem k_L_told_X6_put : CW rm_L_told wsL_told RL RX6 125 yX6_put cX6_put 4 (some .int) wsX6_put rm_X6_put 1 := ⟨gL_told_X6_put, ⟨_, rfl⟩, rfl, rfl, ⟨rfl, by decide +kernel, by decide +kernel, by decide +kernel⟩, by decide, by decide⟩
theorem k_L_told_X6_restore : CW rm_L_told wsL_told RL RX6 117 yX6_restore cX6_restore 2 (some .int) wsX6_restore rm_X6_restore 1 := ⟨gL_told_X6_restore, ⟨_, rfl⟩, rfl, rfl, ⟨rfl, by decide +kernel, by decide +kernel, by decide +kernel⟩, by decide, by decide⟩
theorem k_L_told_X6_save : CW rm_L_told wsL_told RL RX6 113 yX6_save cX6_save 2 (some .int) wsX6_save rm_X6_save 1 := ⟨gL_told_X6_save, ⟨_, rfl⟩, rfl, rfl, ⟨rfl, by decide +kernel, by decide +kernel, by decide +kernel⟩, by decide, by decide⟩
theorem k_L_told_X6_wipe : CW rm_L_told wsL_told RL RX6 120 yX6_wipe cX6_wipe 2 (some .int) wsX6_wipe rm_X6_wipe 0 := ⟨gL_told_X6_wipe, ⟨_, rfl⟩, rfl, rfl, ⟨rfl, by decide +kernel, by decide +kernel, by decide +kernel⟩, by decide, by decide⟩
set_option maxHeartbeats 4000000 in
set_option maxRecDepth 100000 in
theorem c_L_told (l : Launch) (G : MG) (B : Nat) (E : State → Prop) (hG : GB B G) (hE : KMv (AB B) E) (z : St) {v : Int32} {b : Nat} (hJ : JI z b) (hb : b + 1500 ≤ 50000) : CL l G B E yL_told wsL_told rm_L_told [.ref (G.2.2 192), .int v] z (fun ρ ζ => ρ = 1 ∧ JI ζ (b + 1500)) 0 0 := by
  refine cl_of (own := RL) (cc := cL_told) (maxL := 9) (ret := .boolean) hG hE (by decide +kernel) rfl rfl ?_ (Nat.le_of_ble_eq_true rfl) ?_
  · rintro v z' ⟨rfl, -⟩; rfl
  · intro X hX ret
    refine q_lv (lv' := [(0, .ref (G.2.2 192)), (1, .int v)]) rfl ?_
    have hT := hJ.t0.2
    obtain ⟨-, hN6, hN1⟩ := hJ.nr
    obtain ⟨-, hC12, hC1⟩ := hJ.nc
    obtain ⟨-, hA40⟩ := hJ.na
    refine q_iload_n hX 1 dL_told_0 rfl ?_
    refine q_bipush hX 10 dL_told_1 (by decide) ?_
    refine q_ctE hX hG (by decide) (by decide) (As := [.int v, .int 10]) (rest := []) (c_L_up l G B E hG hE z (v := v) (m := 10) (by decide)) k_L_told_L_up rfl rfl (Nat.le_of_ble_eq_true rfl) dL_told_3 ?_
    obtain ⟨qc, hqc, eqc⟩ := up_in (v := v) (m := 10) (by omega) (by omega)
    refine q_top (nI qc) eqc ?_
    refine q_istore_n hX [(2, .int (nI qc)), (0, .ref (G.2.2 192)), (1, .int v)] dL_told_6 (by decide) rfl ?_
    refine q_iload_n hX 2 dL_told_7 rfl ?_
    refine q_iconst hX 4 dL_told_8 (by decide) ?_
    refine q_ishr hX dL_told_9 ?_
    refine q_bipush hX 6 dL_told_10 (by decide) ?_
    refine q_ctE hX hG (by decide) (by decide) (As := [.int (v >>> (4 &&& 31)), .int 6]) (rest := []) (c_L_up l G B E hG hE z (v := (v >>> (4 &&& 31))) (m := 6) (by decide)) k_L_told_L_up rfl rfl (Nat.le_of_ble_eq_true rfl) dL_told_12 ?_
    obtain ⟨qr, hqr, eqr⟩ := up_in (v := (v >>> (4 &&& 31))) (m := 6) (by omega) (by omega)
    refine q_top (nI qr) eqr ?_
    refine q_istore_n hX [(3, .int (nI qr)), (2, .int (nI qc)), (0, .ref (G.2.2 192)), (1, .int v)] dL_told_15 (by decide) rfl ?_
    refine q_iload_n hX 3 dL_told_16 rfl ?_
    refine q_bipush hX 7 dL_told_17 (by decide) ?_
    refine q_ishr hX dL_told_19 ?_
    refine q_bipush hX 10 dL_told_20 (by decide) ?_
    refine q_ctE hX hG (by decide) (by decide) (As := [.int (v >>> (7 &&& 31)), .int 10]) (rest := []) (c_L_up l G B E hG hE z (v := (v >>> (7 &&& 31))) (m := 10) (by decide)) k_L_told_L_up rfl rfl (Nat.le_of_ble_eq_true rfl) dL_told_22 ?_
    obtain ⟨qd, hqd, eqd⟩ := up_in (v := (v >>> (7 &&& 31))) (m := 10) (by omega) (by omega)
    refine q_top (nI qd) eqd ?_
    refine q_istore hX [(4, .int (nI qd)), (3, .int (nI qr)), (2, .int (nI qc)), (0, .ref (G.2.2 192)), (1, .int v)] dL_told_25 (by decide) rfl ?_
    refine q_iconst hX 1 dL_told_27 (by decide) ?_
    refine q_iload_n hX 4 dL_told_28 rfl ?_
    refine q_bipush hX 11 dL_told_29 (by decide) ?_
    refine q_ishr hX dL_told_31 ?_
    refine q_iconst hX 4 dL_told_32 (by decide) ?_
    refine q_ctE hX hG (by decide) (by decide) (As := [.int (v >>> (11 &&& 31)), .int 4]) (rest := [.int 1]) (c_L_up l G B E hG hE z (v := (v >>> (11 &&& 31))) (m := 4) (by decide)) k_L_told_L_up rfl rfl (Nat.le_of_ble_eq_true rfl) dL_told_33 ?_
    obtain ⟨qx, hqx, eqx⟩ := up_in (v := (v >>> (11 &&& 31))) (m := 4) (by omega) (by omega)
    refine q_top (nI qx) eqx ?_
    refine q_iadd hX dL_told_36 ?_
    refine q_top (nI (1 + qx)) (nI_add 1 qx) ?_
    refine q_istore hX [(5, .int (nI (1 + qx))), (4, .int (nI qd)), (3, .int (nI qr)), (2, .int (nI qc)), (0, .ref (G.2.2 192)), (1, .int v)] dL_told_37 (by decide) rfl ?_
    refine q_aload_n hX 4 dL_told_39 rfl ?_
    refine q_iconst hX 0 dL_told_40 (by decide) ?_
    refine q_cv hX hG (by decide) (by decide) (As := [.int 0]) (rest := []) (c_X6_save l G hG.1 z (s := 0) (hb := hJ.inv.2.2.1) (hcl := hJ.inv.2.2.2.1)) k_L_told_X6_save (fun i hi => absurd hi (Nat.not_lt_zero _)) rfl rfl (Nat.le_of_ble_eq_true rfl) dL_told_41 ?_
    obtain ⟨y0, hd0, -, hy0, gT, g20, -, gsv⟩ := save_step hJ (by omega) (s := 0) (by decide)
    refine q_cg (z2 := y0) hd0 (fun i hi => absurd hi (Nat.not_lt_zero _)) ?_
    refine q_top (nI (TN z)) gT ?_
    have en0 : nA y0 = nA z := by unfold nA; rw [g20 3 (by omega)]
    have hA0 := hy0.na.2
    have o0 : OffL y0 z := fun f i hf _ => by rw [g20 f (by omega)]
    refine q_istore hX [(6, .int (nI (TN z))), (5, .int (nI (1 + qx))), (4, .int (nI qd)), (3, .int (nI qr)), (2, .int (nI qc)), (0, .ref (G.2.2 192)), (1, .int v)] dL_told_44 (by decide) rfl ?_
    refine q_aload_n hX 5 dL_told_46 rfl ?_
    refine q_iload_n hX 4 dL_told_47 rfl ?_
    refine q_iload_n hX 3 dL_told_48 rfl ?_
    refine q_bipush hX 50 dL_told_49 (by decide) ?_
    refine q_iload hX 2 dL_told_51 rfl ?_
    refine q_iadd hX dL_told_53 ?_
    refine q_top (nI (50 + qd)) (nI_add 50 qd) ?_
    refine q_iload hX 1 dL_told_54 rfl ?_
    refine q_cv hX hG (by decide) (by decide) (As := [.int (nI qc), .int (nI qr), .int (nI (50 + qd)), .int (nI (1 + qx))]) (rest := []) (c_X6_apply l G hG.1 y0 (c := (nI qc)) (r := (nI qr)) (d := (nI (50 + qd))) (p := (nI (1 + qx))) (hI := hy0.io)) k_L_told_X6_apply (fun i hi => absurd hi (Nat.not_lt_zero _)) rfl rfl (Nat.le_of_ble_eq_true rfl) dL_told_56 ?_
    have hy1 := JI_apply hy0 (by omega) (nI qc) (nI qr) (nI (50 + qd)) (nI (1 + qx))
    have hk1 : ∀ f, 20 ≤ f → f < 61 → (spApply y0 (nI qc) (nI qr) (nI (50 + qd)) (nI (1 + qx))).2 f = y0 f := fun f h1 h2 => apply_lo _ _ _ _ _ (by omega)
    have eO := (apply_off o0 hJ (c := qc) (d := 50 + qd) (by omega) (by omega) (nI qr) (nI (1 + qx)))
    rcases apply_two hy0 (nI qc) (nI qr) (nI (50 + qd)) (nI (1 + qx)) with ⟨v0, hv0, eA⟩ | ⟨eA, hn0, hcl, -⟩
    · -- case
      obtain ⟨y1, hd1⟩ : ∃ s_ : St, s_ = (spApply y0 (nI qc) (nI qr) (nI (50 + qd)) (nI (1 + qx))).2 := ⟨_, rfl⟩
      refine q_z (z2 := y1) hd1.symm ?_
      rw [← hd1] at hy1 hk1
      rw [eA] at hd1 eO
      refine q_top v0 (by rw [eA]) ?_
      have en1 : nA y1 = nA z := by rw [hd1]; exact en0
      refine q_istore hX [(7, .int v0), (6, .int (nI (TN z))), (5, .int (nI (1 + qx))), (4, .int (nI qd)), (3, .int (nI qr)), (2, .int (nI qc)), (0, .ref (G.2.2 192)), (1, .int v)] dL_told_59 (by decide) rfl ?_
      refine q_aload_n hX 6 dL_told_61 rfl ?_
      refine q_iconst hX 3 dL_told_62 (by decide) ?_
      refine q_cv hX hG (by decide) (by decide) (As := [.int 3]) (rest := []) (c_X6_count l G y1 (w := 3) (hI := hy1.io)) k_L_told_X6_count (fun _ _ => rfl) rfl rfl (Nat.le_of_ble_eq_true rfl) dL_told_63 ?_
      refine q_top (nI (nA y1)) (ct3 hy1) ?_
      refine q_istore hX [(8, .int (nI (nA y1))), (7, .int v0), (6, .int (nI (TN z))), (5, .int (nI (1 + qx))), (4, .int (nI qd)), (3, .int (nI qr)), (2, .int (nI qc)), (0, .ref (G.2.2 192)), (1, .int v)] dL_told_66 (by decide) rfl ?_
      refine q_aload_n hX 7 dL_told_68 rfl ?_
      refine q_iconst hX 0 dL_told_69 (by decide) ?_
      refine q_cv hX hG (by decide) (by decide) (As := [.int 0]) (rest := []) (c_X6_restore l G hG.1 y1 (s := 0) (hb := hy1.inv.2.2.1) (hcl := hy1.inv.2.2.2.1)) k_L_told_X6_restore (fun i hi => absurd hi (Nat.not_lt_zero _)) rfl rfl (Nat.le_of_ble_eq_true rfl) dL_told_70 ?_
      have hsv : SV y1 0 z := ⟨fun f i hf hi => by rw [hk1 _ (by omega) (by omega)]; exact gsv.1 f i hf hi, by rw [hk1 60 (by decide) (by decide)]; exact gsv.2⟩
      obtain ⟨y2, hd2, -, hy2, gR, oR, -⟩ := restore_step hy1 (by omega) (s := 0) (by decide) hJ hsv
      refine q_cg (z2 := y2) hd2 (fun i hi => absurd hi (Nat.not_lt_zero _)) ?_
      refine q_top (nI (TN z)) gR ?_
      have en2 := oR.n
      have eO2 := (apply_off oR hJ (c := qc) (d := 50 + qd) (by omega) (by omega) (nI qr) (nI (1 + qx))).trans eO.symm
      refine q_iload hX 2 dL_told_73 rfl ?_
      refine q_ic_eq hX 80 dL_told_75 (by decide) (fun c1 => ?_) (fun c1 => ?_)
      · -- jump 80
        refine q_aload_n hX 7 dL_told_80 rfl ?_
        refine q_cv hX hG (by decide) (by decide) (As := []) (rest := []) (c_X6_wipe l G hG.1 y2  ) k_L_told_X6_wipe (fun i hi => absurd hi (Nat.not_lt_zero _)) rfl rfl (Nat.le_of_ble_eq_true rfl) dL_told_81 ?_
        obtain ⟨y3, hd3⟩ : ∃ s_ : St, s_ = (spWipe y2).2 := ⟨_, rfl⟩
        refine q_z (z2 := y3) hd3.symm ?_
        have hy3 : JI y3 (b + 100 + 100 + 100 + 100) := by rw [hd3]; exact JI_wipe hy2 (by omega)
        have l3 : y3 69 0 = nI 0 := by rw [hd3]; show u2 y2 69 0 0 69 0 = _; rw [u2_s]; rfl
        have k3 : ∀ f, f < 20 → y3 f = y2 f := fun f hf => by rw [hd3]; exact u2_f (by omega)
        refine q_pop hX dL_told_84 rfl ?_
        refine q_aload_n hX 7 dL_told_85 rfl ?_
        refine q_bipush hX 48 dL_told_86 (by decide) ?_
        refine q_iload_n hX 6 dL_told_88 rfl ?_
        refine q_iadd hX dL_told_89 ?_
        refine q_top (nI (48 + qc)) (nI_add 48 qc) ?_
        refine q_i2l hX dL_told_90 ?_
        refine q_ldc2 hX 25344 dL_told_91 (List.mem_of_getElem? (i := 1) rfl) ?_
        refine q_lor hX dL_told_94 ?_
        refine q_cv hX hG (by decide) (by decide) (As := [.long (((nI (48 + qc)).toInt64) ||| 25344)]) (rest := []) (c_X6_put l G hG.1 y3 (c := (((nI (48 + qc)).toInt64) ||| 25344)) (hP := hy3.po)) k_L_told_X6_put (fun i hi => absurd hi (Nat.not_lt_zero _)) rfl rfl (Nat.le_of_ble_eq_true rfl) dL_told_95 ?_
        obtain ⟨y4, hd4⟩ : ∃ s_ : St, s_ = (spPut y3 (((nI (48 + qc)).toInt64) ||| 25344)).2 := ⟨_, rfl⟩
        refine q_z (z2 := y4) hd4.symm ?_
        have hy4 : JI y4 (b + 500) := by rw [hd4]; exact JI_put hy3 (by omega) _
        have k4 : ∀ f, f < 20 → y4 f = y2 f := fun f hf => by rw [hd4, spPut_lo _ _ (by omega) (by omega)]; exact k3 f hf
        have g1 := szC qc hqc
        obtain ⟨l4, a0, a1, -⟩ := put2 l3 (by decide) g1.1 g1.2.1 g1.2.2
        rw [← hd4] at l4 a0 a1
        refine q_pop hX dL_told_98 rfl ?_
        refine q_aload_n hX 7 dL_told_99 rfl ?_
        refine q_bipush hX 48 dL_told_100 (by decide) ?_
        refine q_iload_n hX 5 dL_told_102 rfl ?_
        refine q_iadd hX dL_told_103 ?_
        refine q_top (nI (48 + qr)) (nI_add 48 qr) ?_
        refine q_i2l hX dL_told_104 ?_
        refine q_ldc2 hX 29184 dL_told_105 (List.mem_of_getElem? (i := 2) rfl) ?_
        refine q_lor hX dL_told_108 ?_
        refine q_cv hX hG (by decide) (by decide) (As := [.long (((nI (48 + qr)).toInt64) ||| 29184)]) (rest := []) (c_X6_put l G hG.1 y4 (c := (((nI (48 + qr)).toInt64) ||| 29184)) (hP := hy4.po)) k_L_told_X6_put (fun i hi => absurd hi (Nat.not_lt_zero _)) rfl rfl (Nat.le_of_ble_eq_true rfl) dL_told_109 ?_
        obtain ⟨y5, hd5⟩ : ∃ s_ : St, s_ = (spPut y4 (((nI (48 + qr)).toInt64) ||| 29184)).2 := ⟨_, rfl⟩
        refine q_z (z2 := y5) hd5.symm ?_
        have hy5 : JI y5 (b + 600) := by rw [hd5]; exact JI_put hy4 (by omega) _
        have k5 : ∀ f, f < 20 → y5 f = y2 f := fun f hf => by rw [hd5, spPut_lo _ _ (by omega) (by omega)]; exact k4 f hf
        have g2 := szR qr (by omega)
        obtain ⟨l5, b0, b1, b2⟩ := put2 l4 (by decide) g2.1 g2.2.1 g2.2.2
        rw [← hd5] at l5 b0 b1 b2
        refine q_pop hX dL_told_112 rfl ?_
        refine q_aload_n hX 7 dL_told_113 rfl ?_
        refine q_bipush hX 48 dL_told_114 (by decide) ?_
        refine q_iload hX 4 dL_told_116 rfl ?_
        refine q_iadd hX dL_told_118 ?_
        refine q_top (nI (48 + qd)) (nI_add 48 qd) ?_
        refine q_i2l hX dL_told_119 ?_
        refine q_ldc2 hX 13568 dL_told_120 (List.mem_of_getElem? (i := 3) rfl) ?_
        refine q_lor hX dL_told_123 ?_
        refine q_ldc2 hX 6553600 dL_told_124 (List.mem_of_getElem? (i := 4) rfl) ?_
        refine q_lor hX dL_told_127 ?_
        refine q_cv hX hG (by decide) (by decide) (As := [.long ((((nI (48 + qd)).toInt64) ||| 13568) ||| 6553600)]) (rest := []) (c_X6_put l G hG.1 y5 (c := ((((nI (48 + qd)).toInt64) ||| 13568) ||| 6553600)) (hP := hy5.po)) k_L_told_X6_put (fun i hi => absurd hi (Nat.not_lt_zero _)) rfl rfl (Nat.le_of_ble_eq_true rfl) dL_told_128 ?_
        obtain ⟨y6, hd6⟩ : ∃ s_ : St, s_ = (spPut y5 ((((nI (48 + qd)).toInt64) ||| 13568) ||| 6553600)).2 := ⟨_, rfl⟩
        refine q_z (z2 := y6) hd6.symm ?_
        have hy6 : JI y6 (b + 700) := by rw [hd6]; exact JI_put hy5 (by omega) _
        have k6 : ∀ f, f < 20 → y6 f = y2 f := fun f hf => by rw [hd6, spPut_lo _ _ (by omega) (by omega)]; exact k5 f hf
        have g3 := szD qd hqd
        obtain ⟨l6, e0, e1, e2, e3⟩ := put3 l5 (by decide) g3.1 g3.2.1 g3.2.2.1 g3.2.2.2
        rw [← hd6] at l6 e0 e1 e2 e3
        refine q_pop hX dL_told_131 rfl ?_
        refine q_aload_n hX 7 dL_told_132 rfl ?_
        refine q_bipush hX 48 dL_told_133 (by decide) ?_
        refine q_iload hX 3 dL_told_135 rfl ?_
        refine q_iadd hX dL_told_137 ?_
        refine q_top (nI (48 + (1 + qx))) (nI_add 48 (1 + qx)) ?_
        refine q_i2l hX dL_told_138 ?_
        refine q_ldc2 hX 30720 dL_told_139 (List.mem_of_getElem? (i := 5) rfl) ?_
        refine q_lor hX dL_told_142 ?_
        refine q_cv hX hG (by decide) (by decide) (As := [.long (((nI (48 + (1 + qx))).toInt64) ||| 30720)]) (rest := []) (c_X6_put l G hG.1 y6 (c := (((nI (48 + (1 + qx))).toInt64) ||| 30720)) (hP := hy6.po)) k_L_told_X6_put (fun i hi => absurd hi (Nat.not_lt_zero _)) rfl rfl (Nat.le_of_ble_eq_true rfl) dL_told_143 ?_
        obtain ⟨y7, hd7⟩ : ∃ s_ : St, s_ = (spPut y6 (((nI (48 + (1 + qx))).toInt64) ||| 30720)).2 := ⟨_, rfl⟩
        refine q_z (z2 := y7) hd7.symm ?_
        have hy7 : JI y7 (b + 800) := by rw [hd7]; exact JI_put hy6 (by omega) _
        have k7 : ∀ f, f < 20 → y7 f = y2 f := fun f hf => by rw [hd7, spPut_lo _ _ (by omega) (by omega)]; exact k6 f hf
        have g4 := szX (1 + qx) (by omega)
        obtain ⟨l7, i0, i1, i2⟩ := put2 l6 (by decide) g4.1 g4.2.1 g4.2.2
        rw [← hd7] at l7 i0 i1 i2
        have hT7 : TXT y7 qc qr qd (1 + qx) := ⟨l7, by rw [i2 0 (by decide), e3 0 (by decide), b2 0 (by decide)]; exact a0, by rw [i2 1 (by decide), e3 1 (by decide), b2 1 (by decide)]; exact a1, by rw [i2 2 (by decide), e3 2 (by decide)]; exact b0, by rw [i2 3 (by decide), e3 3 (by decide)]; exact b1, by rw [i2 4 (by decide)]; exact e0, by rw [i2 5 (by decide)]; exact e1, by rw [i2 6 (by decide)]; exact e2, i0, i1⟩
        refine q_pop hX dL_told_146 rfl ?_
        refine q_aload_n hX 7 dL_told_147 rfl ?_
        refine q_bipush hX 14 dL_told_148 (by decide) ?_
        refine q_cv hX hG (by decide) (by decide) (As := [.int 14]) (rest := []) (c_X6_count l G y7 (w := 14) (hI := hy7.io)) k_L_told_X6_count (fun _ _ => rfl) rfl rfl (Nat.le_of_ble_eq_true rfl) dL_told_150 ?_
        refine q_top (9) ((ct14 hy7).trans hT7.1) ?_
        refine q_bipush hX 9 dL_told_153 (by decide) ?_
        refine q_ic_ne hX 167 dL_told_155 (by decide) (fun c2 => ?_) (fun c2 => ?_)
        · -- jump 167
          exact absurd c2 (by decide)
        · -- on 158
          refine q_aload_n hX 7 dL_told_158 rfl ?_
          refine q_cv hX hG (by decide) (by decide) (As := []) (rest := []) (c_X6_fault l G hG.1 y7  (hP := hy7.po)) k_L_told_X6_fault (fun i hi => absurd hi (Nat.not_lt_zero _)) rfl rfl (Nat.le_of_ble_eq_true rfl) dL_told_159 ?_
          have hf7 := txt_fault hT7 hqc hqr hqd (by omega) (by omega)
          obtain ⟨y8, hd8⟩ : ∃ s_ : St, s_ = (spFault y7).2 := ⟨_, rfl⟩
          refine q_z (z2 := y8) hd8.symm ?_
          refine q_top (-6) hf7 ?_
          have f8 : ∀ f, f < 70 ∨ 75 ≤ f → y8 f = y7 f := fun f hf => by
            rw [hd8]
            rcases hf with q | q
            · exact fault_lo y7 q
            · unfold spFault; rw [ffK_hi _ _ _ q, u2_f (by omega)]
          have hy8 : JI y8 (b + 800) := JI_cg hy7 (fun f hf => f8 f (by omega))
          have hT8 : TXT y8 qc qr qd (1 + qx) := TXT_of hT7 (f8 68 (by decide)) (f8 69 (by decide))
          refine q_bipush hX (-6) dL_told_162 (by decide) ?_
          refine q_ic_eq hX 169 dL_told_164 (by decide) (fun c3 => ?_) (fun c3 => ?_)
          · -- jump 169
            refine q_aload_n hX 7 dL_told_169 rfl ?_
            refine q_cv hX hG (by decide) (by decide) (As := []) (rest := []) (c_X6_load l G hG.1 y8  (hI := hy8.io) (hP := hy8.po)) k_L_told_X6_load (fun i hi => absurd hi (Nat.not_lt_zero _)) rfl rfl (Nat.le_of_ble_eq_true rfl) dL_told_170 ?_
            obtain ⟨s9, f9, eL⟩ := txt_load hT8 hqc hqr hqd (by omega) (by omega)
            have hs9 : JI s9 (b + 800) := JI_cg hy8 (fun f hf => f9 f (by omega))
            have ha9 := JI_apply hs9 (by omega) (nI qc) (nI qr) (nI (50 + qd)) (nI (1 + qx))
            obtain ⟨c9, -⟩ := spApply_cg (y := s9) (w := y2) (fun f hf => by rw [f9 f (by omega), f8 f (by omega)]; exact k7 f hf) (nI qc) (nI qr) (nI (50 + qd)) (nI (1 + qx))
            have e9 := c9.trans eO2
            have hn9 : nA s9 = nA z := by rw [← en2]; unfold nA; rw [f9 3 (by decide), f8 3 (by decide), k7 3 (by decide)]
            obtain ⟨y9, hd9⟩ : ∃ s_ : St, s_ = (spLoad y8).2 := ⟨_, rfl⟩
            refine q_z (z2 := y9) hd9.symm ?_
            rw [eL] at hd9
            have m9 : y9 69 0 = 0 := by rw [hd9]; show u2 (spApply s9 (nI qc) (nI qr) (nI (50 + qd)) (nI (1 + qx))).2 69 0 0 69 0 = _; rw [u2_s]
            have k9 : ∀ f, f < 69 → y9 f = (spApply s9 (nI qc) (nI qr) (nI (50 + qd)) (nI (1 + qx))).2 f := fun f hf => by rw [hd9]; exact u2_f (by omega)
            have hy9 : JI y9 (b + 1100) := by
              rw [hd9]
              exact (JI_wipe ha9 (by omega)).mono (by omega) (by omega)
            rw [show (spApply s9 (nI qc) (nI qr) (nI (50 + qd)) (nI (1 + qx))).1 = v0 from e9] at eL
            refine q_top 0 (by rw [eL, if_pos hv0]) ?_
            have en9 : nA y9 = nA z := by
              rcases apply_two hs9 (nI qc) (nI qr) (nI (50 + qd)) (nI (1 + qx)) with ⟨v1, hv1, eB⟩ | ⟨eB, -⟩
              · unfold nA; rw [k9 3 (by decide), eB]; exact hn9
              · exfalso
                rw [eB] at e9
                have e9' : nI (nA s9) = v0 := e9
                rw [← e9'] at hv0
                exact nI_pos (by omega) hv0
            refine q_iload hX 1 dL_told_173 rfl ?_
            refine q_if_ge hX 182 dL_told_175 (by decide) (fun c4 => ?_) (fun c4 => ?_)
            · -- jump 182
              exact absurd hv0 (Int32.not_lt.mpr c4)
            · -- on 178
              refine q_iconst hX 0 dL_told_178 (by decide) ?_
              refine q_goto hX 183 dL_told_179 (by decide) ?_
              refine q_ic_ne hX 205 dL_told_183 (by decide) (fun c5 => ?_) (fun c5 => ?_)
              · -- jump 205
                exact absurd c5 (by decide)
              · -- on 186
                refine q_aload_n hX 7 dL_told_186 rfl ?_
                refine q_iconst hX 3 dL_told_187 (by decide) ?_
                refine q_cv hX hG (by decide) (by decide) (As := [.int 3]) (rest := []) (c_X6_count l G y9 (w := 3) (hI := hy9.io)) k_L_told_X6_count (fun _ _ => rfl) rfl rfl (Nat.le_of_ble_eq_true rfl) dL_told_188 ?_
                refine q_top (nI (nA y9)) (ct3 hy9) ?_
                refine q_iload hX 0 dL_told_191 rfl ?_
                refine q_ic_ne hX 205 dL_told_193 (by decide) (fun c6 => ?_) (fun c6 => ?_)
                · -- jump 205
                  have nc6 : ¬ ((nA y9 : Nat) = nA y1) := fun q => c6 ((nI_eq (a := nA y9) (b := nA y1) (by omega) (by omega)).mpr q)
                  exfalso; omega
                · -- on 196
                  have nc6 : ((nA y9 : Nat) = nA y1) := (nI_eq (a := nA y9) (b := nA y1) (by omega) (by omega)).mp (Decidable.not_not.mp c6)
                  refine q_aload_n hX 7 dL_told_196 rfl ?_
                  refine q_bipush hX 14 dL_told_197 (by decide) ?_
                  refine q_cv hX hG (by decide) (by decide) (As := [.int 14]) (rest := []) (c_X6_count l G y9 (w := 14) (hI := hy9.io)) k_L_told_X6_count (fun _ _ => rfl) rfl rfl (Nat.le_of_ble_eq_true rfl) dL_told_199 ?_
                  refine q_top (0) ((ct14 hy9).trans m9) ?_
                  refine q_if_eq hX 207 dL_told_202 (by decide) (fun c7 => ?_) (fun c7 => ?_)
                  · -- jump 207
                    refine q_iload hX 1 dL_told_207 rfl ?_
                    refine q_if_lt hX 248 dL_told_209 (by decide) (fun c8 => ?_) (fun c8 => ?_)
                    · -- jump 248
                      refine q_iconst hX 1 dL_told_248 (by decide) ?_
                      refine q_goto hX 253 dL_told_249 (by decide) ?_
                      refine ret _ _ _ _ _ _ (by decide) (by decide) dL_told_253 ?_
                      exact ⟨rfl, hy9.mono (by omega) (by omega)⟩
                    · -- on 212
                      exact absurd hv0 c8
                  · -- on 205
                    exact absurd c7 (by decide)
          · -- on 167
            exact absurd c3 (by decide)
      · -- on 78
        exact absurd rfl c1
    · -- case
      obtain ⟨y1, hd1⟩ : ∃ s_ : St, s_ = (spApply y0 (nI qc) (nI qr) (nI (50 + qd)) (nI (1 + qx))).2 := ⟨_, rfl⟩
      refine q_z (z2 := y1) hd1.symm ?_
      rw [← hd1] at hy1 hk1
      rw [eA] at hd1 eO
      refine q_top (nI (nA z)) (by rw [eA, en0]) ?_
      have en1 : nA y1 = nA z + 1 := by rw [hd1, ← en0]; exact nwA_n hy0.io _ _ _ _
      refine q_istore hX [(7, .int (nI (nA z))), (6, .int (nI (TN z))), (5, .int (nI (1 + qx))), (4, .int (nI qd)), (3, .int (nI qr)), (2, .int (nI qc)), (0, .ref (G.2.2 192)), (1, .int v)] dL_told_59 (by decide) rfl ?_
      refine q_aload_n hX 6 dL_told_61 rfl ?_
      refine q_iconst hX 3 dL_told_62 (by decide) ?_
      refine q_cv hX hG (by decide) (by decide) (As := [.int 3]) (rest := []) (c_X6_count l G y1 (w := 3) (hI := hy1.io)) k_L_told_X6_count (fun _ _ => rfl) rfl rfl (Nat.le_of_ble_eq_true rfl) dL_told_63 ?_
      refine q_top (nI (nA y1)) (ct3 hy1) ?_
      refine q_istore hX [(8, .int (nI (nA y1))), (7, .int (nI (nA z))), (6, .int (nI (TN z))), (5, .int (nI (1 + qx))), (4, .int (nI qd)), (3, .int (nI qr)), (2, .int (nI qc)), (0, .ref (G.2.2 192)), (1, .int v)] dL_told_66 (by decide) rfl ?_
      refine q_aload_n hX 7 dL_told_68 rfl ?_
      refine q_iconst hX 0 dL_told_69 (by decide) ?_
      refine q_cv hX hG (by decide) (by decide) (As := [.int 0]) (rest := []) (c_X6_restore l G hG.1 y1 (s := 0) (hb := hy1.inv.2.2.1) (hcl := hy1.inv.2.2.2.1)) k_L_told_X6_restore (fun i hi => absurd hi (Nat.not_lt_zero _)) rfl rfl (Nat.le_of_ble_eq_true rfl) dL_told_70 ?_
      have hsv : SV y1 0 z := ⟨fun f i hf hi => by rw [hk1 _ (by omega) (by omega)]; exact gsv.1 f i hf hi, by rw [hk1 60 (by decide) (by decide)]; exact gsv.2⟩
      obtain ⟨y2, hd2, -, hy2, gR, oR, -⟩ := restore_step hy1 (by omega) (s := 0) (by decide) hJ hsv
      refine q_cg (z2 := y2) hd2 (fun i hi => absurd hi (Nat.not_lt_zero _)) ?_
      refine q_top (nI (TN z)) gR ?_
      have en2 := oR.n
      have eO2 := (apply_off oR hJ (c := qc) (d := 50 + qd) (by omega) (by omega) (nI qr) (nI (1 + qx))).trans eO.symm
      refine q_iload hX 2 dL_told_73 rfl ?_
      refine q_ic_eq hX 80 dL_told_75 (by decide) (fun c9 => ?_) (fun c9 => ?_)
      · -- jump 80
        refine q_aload_n hX 7 dL_told_80 rfl ?_
        refine q_cv hX hG (by decide) (by decide) (As := []) (rest := []) (c_X6_wipe l G hG.1 y2  ) k_L_told_X6_wipe (fun i hi => absurd hi (Nat.not_lt_zero _)) rfl rfl (Nat.le_of_ble_eq_true rfl) dL_told_81 ?_
        obtain ⟨y3, hd3⟩ : ∃ s_ : St, s_ = (spWipe y2).2 := ⟨_, rfl⟩
        refine q_z (z2 := y3) hd3.symm ?_
        have hy3 : JI y3 (b + 100 + 100 + 100 + 100) := by rw [hd3]; exact JI_wipe hy2 (by omega)
        have l3 : y3 69 0 = nI 0 := by rw [hd3]; show u2 y2 69 0 0 69 0 = _; rw [u2_s]; rfl
        have k3 : ∀ f, f < 20 → y3 f = y2 f := fun f hf => by rw [hd3]; exact u2_f (by omega)
        refine q_pop hX dL_told_84 rfl ?_
        refine q_aload_n hX 7 dL_told_85 rfl ?_
        refine q_bipush hX 48 dL_told_86 (by decide) ?_
        refine q_iload_n hX 6 dL_told_88 rfl ?_
        refine q_iadd hX dL_told_89 ?_
        refine q_top (nI (48 + qc)) (nI_add 48 qc) ?_
        refine q_i2l hX dL_told_90 ?_
        refine q_ldc2 hX 25344 dL_told_91 (List.mem_of_getElem? (i := 1) rfl) ?_
        refine q_lor hX dL_told_94 ?_
        refine q_cv hX hG (by decide) (by decide) (As := [.long (((nI (48 + qc)).toInt64) ||| 25344)]) (rest := []) (c_X6_put l G hG.1 y3 (c := (((nI (48 + qc)).toInt64) ||| 25344)) (hP := hy3.po)) k_L_told_X6_put (fun i hi => absurd hi (Nat.not_lt_zero _)) rfl rfl (Nat.le_of_ble_eq_true rfl) dL_told_95 ?_
        obtain ⟨y4, hd4⟩ : ∃ s_ : St, s_ = (spPut y3 (((nI (48 + qc)).toInt64) ||| 25344)).2 := ⟨_, rfl⟩
        refine q_z (z2 := y4) hd4.symm ?_
        have hy4 : JI y4 (b + 500) := by rw [hd4]; exact JI_put hy3 (by omega) _
        have k4 : ∀ f, f < 20 → y4 f = y2 f := fun f hf => by rw [hd4, spPut_lo _ _ (by omega) (by omega)]; exact k3 f hf
        have g1 := szC qc hqc
        obtain ⟨l4, a0, a1, -⟩ := put2 l3 (by decide) g1.1 g1.2.1 g1.2.2
        rw [← hd4] at l4 a0 a1
        refine q_pop hX dL_told_98 rfl ?_
        refine q_aload_n hX 7 dL_told_99 rfl ?_
        refine q_bipush hX 48 dL_told_100 (by decide) ?_
        refine q_iload_n hX 5 dL_told_102 rfl ?_
        refine q_iadd hX dL_told_103 ?_
        refine q_top (nI (48 + qr)) (nI_add 48 qr) ?_
        refine q_i2l hX dL_told_104 ?_
        refine q_ldc2 hX 29184 dL_told_105 (List.mem_of_getElem? (i := 2) rfl) ?_
        refine q_lor hX dL_told_108 ?_
        refine q_cv hX hG (by decide) (by decide) (As := [.long (((nI (48 + qr)).toInt64) ||| 29184)]) (rest := []) (c_X6_put l G hG.1 y4 (c := (((nI (48 + qr)).toInt64) ||| 29184)) (hP := hy4.po)) k_L_told_X6_put (fun i hi => absurd hi (Nat.not_lt_zero _)) rfl rfl (Nat.le_of_ble_eq_true rfl) dL_told_109 ?_
        obtain ⟨y5, hd5⟩ : ∃ s_ : St, s_ = (spPut y4 (((nI (48 + qr)).toInt64) ||| 29184)).2 := ⟨_, rfl⟩
        refine q_z (z2 := y5) hd5.symm ?_
        have hy5 : JI y5 (b + 600) := by rw [hd5]; exact JI_put hy4 (by omega) _
        have k5 : ∀ f, f < 20 → y5 f = y2 f := fun f hf => by rw [hd5, spPut_lo _ _ (by omega) (by omega)]; exact k4 f hf
        have g2 := szR qr (by omega)
        obtain ⟨l5, b0, b1, b2⟩ := put2 l4 (by decide) g2.1 g2.2.1 g2.2.2
        rw [← hd5] at l5 b0 b1 b2
        refine q_pop hX dL_told_112 rfl ?_
        refine q_aload_n hX 7 dL_told_113 rfl ?_
        refine q_bipush hX 48 dL_told_114 (by decide) ?_
        refine q_iload hX 4 dL_told_116 rfl ?_
        refine q_iadd hX dL_told_118 ?_
        refine q_top (nI (48 + qd)) (nI_add 48 qd) ?_
        refine q_i2l hX dL_told_119 ?_
        refine q_ldc2 hX 13568 dL_told_120 (List.mem_of_getElem? (i := 3) rfl) ?_
        refine q_lor hX dL_told_123 ?_
        refine q_ldc2 hX 6553600 dL_told_124 (List.mem_of_getElem? (i := 4) rfl) ?_
        refine q_lor hX dL_told_127 ?_
        refine q_cv hX hG (by decide) (by decide) (As := [.long ((((nI (48 + qd)).toInt64) ||| 13568) ||| 6553600)]) (rest := []) (c_X6_put l G hG.1 y5 (c := ((((nI (48 + qd)).toInt64) ||| 13568) ||| 6553600)) (hP := hy5.po)) k_L_told_X6_put (fun i hi => absurd hi (Nat.not_lt_zero _)) rfl rfl (Nat.le_of_ble_eq_true rfl) dL_told_128 ?_
        obtain ⟨y6, hd6⟩ : ∃ s_ : St, s_ = (spPut y5 ((((nI (48 + qd)).toInt64) ||| 13568) ||| 6553600)).2 := ⟨_, rfl⟩
        refine q_z (z2 := y6) hd6.symm ?_
        have hy6 : JI y6 (b + 700) := by rw [hd6]; exact JI_put hy5 (by omega) _
        have k6 : ∀ f, f < 20 → y6 f = y2 f := fun f hf => by rw [hd6, spPut_lo _ _ (by omega) (by omega)]; exact k5 f hf
        have g3 := szD qd hqd
        obtain ⟨l6, e0, e1, e2, e3⟩ := put3 l5 (by decide) g3.1 g3.2.1 g3.2.2.1 g3.2.2.2
        rw [← hd6] at l6 e0 e1 e2 e3
        refine q_pop hX dL_told_131 rfl ?_
        refine q_aload_n hX 7 dL_told_132 rfl ?_
        refine q_bipush hX 48 dL_told_133 (by decide) ?_
        refine q_iload hX 3 dL_told_135 rfl ?_
        refine q_iadd hX dL_told_137 ?_
        refine q_top (nI (48 + (1 + qx))) (nI_add 48 (1 + qx)) ?_
        refine q_i2l hX dL_told_138 ?_
        refine q_ldc2 hX 30720 dL_told_139 (List.mem_of_getElem? (i := 5) rfl) ?_
        refine q_lor hX dL_told_142 ?_
        refine q_cv hX hG (by decide) (by decide) (As := [.long (((nI (48 + (1 + qx))).toInt64) ||| 30720)]) (rest := []) (c_X6_put l G hG.1 y6 (c := (((nI (48 + (1 + qx))).toInt64) ||| 30720)) (hP := hy6.po)) k_L_told_X6_put (fun i hi => absurd hi (Nat.not_lt_zero _)) rfl rfl (Nat.le_of_ble_eq_true rfl) dL_told_143 ?_
        obtain ⟨y7, hd7⟩ : ∃ s_ : St, s_ = (spPut y6 (((nI (48 + (1 + qx))).toInt64) ||| 30720)).2 := ⟨_, rfl⟩
        refine q_z (z2 := y7) hd7.symm ?_
        have hy7 : JI y7 (b + 800) := by rw [hd7]; exact JI_put hy6 (by omega) _
        have k7 : ∀ f, f < 20 → y7 f = y2 f := fun f hf => by rw [hd7, spPut_lo _ _ (by omega) (by omega)]; exact k6 f hf
        have g4 := szX (1 + qx) (by omega)
        obtain ⟨l7, i0, i1, i2⟩ := put2 l6 (by decide) g4.1 g4.2.1 g4.2.2
        rw [← hd7] at l7 i0 i1 i2
        have hT7 : TXT y7 qc qr qd (1 + qx) := ⟨l7, by rw [i2 0 (by decide), e3 0 (by decide), b2 0 (by decide)]; exact a0, by rw [i2 1 (by decide), e3 1 (by decide), b2 1 (by decide)]; exact a1, by rw [i2 2 (by decide), e3 2 (by decide)]; exact b0, by rw [i2 3 (by decide), e3 3 (by decide)]; exact b1, by rw [i2 4 (by decide)]; exact e0, by rw [i2 5 (by decide)]; exact e1, by rw [i2 6 (by decide)]; exact e2, i0, i1⟩
        refine q_pop hX dL_told_146 rfl ?_
        refine q_aload_n hX 7 dL_told_147 rfl ?_
        refine q_bipush hX 14 dL_told_148 (by decide) ?_
        refine q_cv hX hG (by decide) (by decide) (As := [.int 14]) (rest := []) (c_X6_count l G y7 (w := 14) (hI := hy7.io)) k_L_told_X6_count (fun _ _ => rfl) rfl rfl (Nat.le_of_ble_eq_true rfl) dL_told_150 ?_
        refine q_top (9) ((ct14 hy7).trans hT7.1) ?_
        refine q_bipush hX 9 dL_told_153 (by decide) ?_
        refine q_ic_ne hX 167 dL_told_155 (by decide) (fun c10 => ?_) (fun c10 => ?_)
        · -- jump 167
          exact absurd c10 (by decide)
        · -- on 158
          refine q_aload_n hX 7 dL_told_158 rfl ?_
          refine q_cv hX hG (by decide) (by decide) (As := []) (rest := []) (c_X6_fault l G hG.1 y7  (hP := hy7.po)) k_L_told_X6_fault (fun i hi => absurd hi (Nat.not_lt_zero _)) rfl rfl (Nat.le_of_ble_eq_true rfl) dL_told_159 ?_
          have hf7 := txt_fault hT7 hqc hqr hqd (by omega) (by omega)
          obtain ⟨y8, hd8⟩ : ∃ s_ : St, s_ = (spFault y7).2 := ⟨_, rfl⟩
          refine q_z (z2 := y8) hd8.symm ?_
          refine q_top (-6) hf7 ?_
          have f8 : ∀ f, f < 70 ∨ 75 ≤ f → y8 f = y7 f := fun f hf => by
            rw [hd8]
            rcases hf with q | q
            · exact fault_lo y7 q
            · unfold spFault; rw [ffK_hi _ _ _ q, u2_f (by omega)]
          have hy8 : JI y8 (b + 800) := JI_cg hy7 (fun f hf => f8 f (by omega))
          have hT8 : TXT y8 qc qr qd (1 + qx) := TXT_of hT7 (f8 68 (by decide)) (f8 69 (by decide))
          refine q_bipush hX (-6) dL_told_162 (by decide) ?_
          refine q_ic_eq hX 169 dL_told_164 (by decide) (fun c11 => ?_) (fun c11 => ?_)
          · -- jump 169
            refine q_aload_n hX 7 dL_told_169 rfl ?_
            refine q_cv hX hG (by decide) (by decide) (As := []) (rest := []) (c_X6_load l G hG.1 y8  (hI := hy8.io) (hP := hy8.po)) k_L_told_X6_load (fun i hi => absurd hi (Nat.not_lt_zero _)) rfl rfl (Nat.le_of_ble_eq_true rfl) dL_told_170 ?_
            obtain ⟨s9, f9, eL⟩ := txt_load hT8 hqc hqr hqd (by omega) (by omega)
            have hs9 : JI s9 (b + 800) := JI_cg hy8 (fun f hf => f9 f (by omega))
            have ha9 := JI_apply hs9 (by omega) (nI qc) (nI qr) (nI (50 + qd)) (nI (1 + qx))
            obtain ⟨c9, -⟩ := spApply_cg (y := s9) (w := y2) (fun f hf => by rw [f9 f (by omega), f8 f (by omega)]; exact k7 f hf) (nI qc) (nI qr) (nI (50 + qd)) (nI (1 + qx))
            have e9 := c9.trans eO2
            have hn9 : nA s9 = nA z := by rw [← en2]; unfold nA; rw [f9 3 (by decide), f8 3 (by decide), k7 3 (by decide)]
            obtain ⟨y9, hd9⟩ : ∃ s_ : St, s_ = (spLoad y8).2 := ⟨_, rfl⟩
            refine q_z (z2 := y9) hd9.symm ?_
            rw [eL] at hd9
            have m9 : y9 69 0 = 0 := by rw [hd9]; show u2 (spApply s9 (nI qc) (nI qr) (nI (50 + qd)) (nI (1 + qx))).2 69 0 0 69 0 = _; rw [u2_s]
            have k9 : ∀ f, f < 69 → y9 f = (spApply s9 (nI qc) (nI qr) (nI (50 + qd)) (nI (1 + qx))).2 f := fun f hf => by rw [hd9]; exact u2_f (by omega)
            have hy9 : JI y9 (b + 1100) := by
              rw [hd9]
              exact (JI_wipe ha9 (by omega)).mono (by omega) (by omega)
            rw [show (spApply s9 (nI qc) (nI qr) (nI (50 + qd)) (nI (1 + qx))).1 = nI (nA y0) from e9] at eL
            refine q_top 1 (by rw [eL, if_neg (nI_pos (by omega))]) ?_
            have hp9 : nA y9 = nA s9 + 1 ∧ a_s y9 (nA s9) = 0 ∧ a_d y9 (nA s9) = 50 + qd ∧ a_p y9 (nA s9) = 1 + qx := by
              rcases apply_two hs9 (nI qc) (nI qr) (nI (50 + qd)) (nI (1 + qx)) with ⟨v1, hv1, eB⟩ | ⟨eB, h40, -⟩
              · exfalso
                rw [eB] at e9
                have e9' : v1 = nI (nA y0) := e9
                rw [e9'] at hv1
                exact nI_pos (by omega) hv1
              · have := pend_new hs9 h40 (y := y9) (fun f hf => by rw [k9 f (by omega), eB])
                rwa [cn_nI (by omega), cn_nI (by omega)] at this
            rw [hn9] at hp9
            obtain ⟨en9, s9s, s9d, s9p⟩ := hp9
            refine q_iload hX 1 dL_told_173 rfl ?_
            refine q_if_ge hX 182 dL_told_175 (by decide) (fun c12 => ?_) (fun c12 => ?_)
            · -- jump 182
              have nc12 : ((0 : Nat) ≤ nA z) := (nI_leI (a := 0) (b := nA z) (by omega) (by omega)).mp c12
              refine q_iconst hX 1 dL_told_182 (by decide) ?_
              refine q_ic_ne hX 205 dL_told_183 (by decide) (fun c13 => ?_) (fun c13 => ?_)
              · -- jump 205
                exact absurd c13 (by decide)
              · -- on 186
                refine q_aload_n hX 7 dL_told_186 rfl ?_
                refine q_iconst hX 3 dL_told_187 (by decide) ?_
                refine q_cv hX hG (by decide) (by decide) (As := [.int 3]) (rest := []) (c_X6_count l G y9 (w := 3) (hI := hy9.io)) k_L_told_X6_count (fun _ _ => rfl) rfl rfl (Nat.le_of_ble_eq_true rfl) dL_told_188 ?_
                refine q_top (nI (nA y9)) (ct3 hy9) ?_
                refine q_iload hX 0 dL_told_191 rfl ?_
                refine q_ic_ne hX 205 dL_told_193 (by decide) (fun c14 => ?_) (fun c14 => ?_)
                · -- jump 205
                  have nc14 : ¬ ((nA y9 : Nat) = nA y1) := fun q => c14 ((nI_eq (a := nA y9) (b := nA y1) (by omega) (by omega)).mpr q)
                  exfalso; omega
                · -- on 196
                  have nc14 : ((nA y9 : Nat) = nA y1) := (nI_eq (a := nA y9) (b := nA y1) (by omega) (by omega)).mp (Decidable.not_not.mp c14)
                  refine q_aload_n hX 7 dL_told_196 rfl ?_
                  refine q_bipush hX 14 dL_told_197 (by decide) ?_
                  refine q_cv hX hG (by decide) (by decide) (As := [.int 14]) (rest := []) (c_X6_count l G y9 (w := 14) (hI := hy9.io)) k_L_told_X6_count (fun _ _ => rfl) rfl rfl (Nat.le_of_ble_eq_true rfl) dL_told_199 ?_
                  refine q_top (0) ((ct14 hy9).trans m9) ?_
                  refine q_if_eq hX 207 dL_told_202 (by decide) (fun c15 => ?_) (fun c15 => ?_)
                  · -- jump 207
                    refine q_iload hX 1 dL_told_207 rfl ?_
                    refine q_if_lt hX 248 dL_told_209 (by decide) (fun c16 => ?_) (fun c16 => ?_)
                    · -- jump 248
                      have nc16 : ((nA z : Nat) < 0) := (nI_ltI (a := nA z) (b := 0) (by omega) (by omega)).mp c16
                      exfalso; omega
                    · -- on 212
                      have nc16 : ¬ ((nA z : Nat) < 0) := fun q => c16 ((nI_ltI (a := nA z) (b := 0) (by omega) (by omega)).mpr q)
                      refine q_aload_n hX 7 dL_told_212 rfl ?_
                      refine q_iload hX 1 dL_told_213 rfl ?_
                      refine q_iconst hX 2 dL_told_215 (by decide) ?_
                      refine q_cv hX hG (by decide) (by decide) (As := [.int (nI (nA z)), .int 2]) (rest := []) (c_X6_application l G y9 (a := (nI (nA z))) (w := 2) (hI := hy9.io)) k_L_told_X6_application (fun _ _ => rfl) rfl rfl (Nat.le_of_ble_eq_true rfl) dL_told_216 ?_
                      refine q_top (nI (a_d y9 (nA z))) (ap2 hy9 (a := (nA z)) (by omega)) ?_
                      refine q_bipush hX 50 dL_told_219 (by decide) ?_
                      refine q_iload hX 4 dL_told_221 rfl ?_
                      refine q_iadd hX dL_told_223 ?_
                      refine q_top (nI (50 + qd)) (nI_add 50 qd) ?_
                      refine q_ic_ne hX 252 dL_told_224 (by decide) (fun c17 => ?_) (fun c17 => ?_)
                      · -- jump 252
                        have nc17 : ¬ ((a_d y9 (nA z) : Nat) = 50 + qd) := fun q => c17 ((nI_eq (a := a_d y9 (nA z)) (b := 50 + qd) (by omega) (by omega)).mpr q)
                        exfalso; omega
                      · -- on 227
                        have nc17 : ((a_d y9 (nA z) : Nat) = 50 + qd) := (nI_eq (a := a_d y9 (nA z)) (b := 50 + qd) (by omega) (by omega)).mp (Decidable.not_not.mp c17)
                        refine q_aload_n hX 7 dL_told_227 rfl ?_
                        refine q_iload hX 1 dL_told_228 rfl ?_
                        refine q_iconst hX 3 dL_told_230 (by decide) ?_
                        refine q_cv hX hG (by decide) (by decide) (As := [.int (nI (nA z)), .int 3]) (rest := []) (c_X6_application l G y9 (a := (nI (nA z))) (w := 3) (hI := hy9.io)) k_L_told_X6_application (fun _ _ => rfl) rfl rfl (Nat.le_of_ble_eq_true rfl) dL_told_231 ?_
                        refine q_top (nI (a_p y9 (nA z))) (ap3 hy9 (a := (nA z)) (by omega)) ?_
                        refine q_iload hX 3 dL_told_234 rfl ?_
                        refine q_ic_ne hX 252 dL_told_236 (by decide) (fun c18 => ?_) (fun c18 => ?_)
                        · -- jump 252
                          have nc18 : ¬ ((a_p y9 (nA z) : Nat) = 1 + qx) := fun q => c18 ((nI_eq (a := a_p y9 (nA z)) (b := 1 + qx) (by omega) (by omega)).mpr q)
                          exfalso; omega
                        · -- on 239
                          have nc18 : ((a_p y9 (nA z) : Nat) = 1 + qx) := (nI_eq (a := a_p y9 (nA z)) (b := 1 + qx) (by omega) (by omega)).mp (Decidable.not_not.mp c18)
                          refine q_aload_n hX 7 dL_told_239 rfl ?_
                          refine q_iload hX 1 dL_told_240 rfl ?_
                          refine q_cv hX hG (by decide) (by decide) (As := [.int (nI (nA z))]) (rest := []) (c_X6_cancel l G hG.1 y9 (a := (nI (nA z))) (hI := hy9.io) (hm := hy9.m0) (h17 := hy9.h17)) k_L_told_X6_cancel (fun i hi => absurd hi (Nat.not_lt_zero _)) rfl rfl (Nat.le_of_ble_eq_true rfl) dL_told_242 ?_
                          obtain ⟨y10, eC, hy10, -⟩ := (cancel_step hy9 (by omega) (a := nA z) (by omega)).2 (by omega)
                          rw [if_pos (by omega)] at eC
                          refine q_z (z2 := y10) (by rw [eC]) ?_
                          refine q_top 0 (by rw [eC]) ?_
                          refine q_if_ne hX 252 dL_told_245 (by decide) (fun c19 => ?_) (fun c19 => ?_)
                          · -- jump 252
                            exact absurd c19 (by decide)
                          · -- on 248
                            refine q_iconst hX 1 dL_told_248 (by decide) ?_
                            refine q_goto hX 253 dL_told_249 (by decide) ?_
                            refine ret _ _ _ _ _ _ (by decide) (by decide) dL_told_253 ?_
                            exact ⟨rfl, hy10.mono (by omega) (by omega)⟩
                  · -- on 205
                    exact absurd c15 (by decide)
            · -- on 178
              have nc12 : ¬ ((0 : Nat) ≤ nA z) := fun q => c12 ((nI_leI (a := 0) (b := nA z) (by omega) (by omega)).mpr q)
              exfalso; omega
          · -- on 167
            exact absurd c11 (by decide)
      · -- on 78
        exact absurd rfl c9
