/-! ===== the law's own: saving and restoring ===== -/
def SV (y : St) (s : Nat) (z : St) : Prop := (∀ f i, f < 20 → i < limF f → y (20 * (s + 1) + f) i = z f i) ∧ y 60 s = 1
def OffL (y z : St) : Prop := ∀ f i, f < 20 → i < limF f → y f i = z f i
theorem save_step {z : St} {b : Nat} (h : JI z b) (hb : b + 100 ≤ 50000) {s : Nat} (hs : s < 2) : ∃ y, (∀ f, f < 75 → y f = (spSave z (nI s)).2 f) ∧ (∀ i, i < 3 → y (75 + i) = z (75 + i)) ∧ JI y (b + 100) ∧ (spSave z (nI s)).1 = nI (TN z) ∧ (∀ f, f < 20 ∨ (61 ≤ f ∧ f < 75) → y f = z f) ∧ (∀ t, t < 2 → t ≠ s → (∀ f, f < 20 → y (20 * (t + 1) + f) = z (20 * (t + 1) + f)) ∧ y 60 t = z 60 t) ∧ SV y s z := by
  have hInv := nrm_inv (pair_save h.inv (nI s))
  have hcs : cn (nI s) = s := cn_nI (by omega)
  have hc : ¬ (nI s < 0 ∨ ¬ nI s < 2) := fun q => q.elim (nI_pos (by omega)) (fun w => w ((nI_ltI (b := 2) (by omega) (by decide)).mpr hs))
  have eF : spSave z (nI s) = (z 0 0, u2 (cpAll z (s + 1) 0) 60 s 1) := by
    unfold spSave; rw [if_neg hc, hcs]
  rw [eF] at hInv ⊢
  generalize mSave z (nI s) = Gm at *
  have lo : ∀ f, f < 87 → nrm (u2 (cpAll z (s + 1) 0) 60 s 1) Gm.2 f = u2 (cpAll z (s + 1) 0) 60 s 1 f := fun f hf => nrm_lo _ _ hf
  have o : ∀ f, ¬ (20 * (s + 1) ≤ f ∧ f < 20 * (s + 1) + 20) → f < 87 → f ≠ 60 → nrm (u2 (cpAll z (s + 1) 0) 60 s 1) Gm.2 f = z f := fun f h1 h2 h3 => by
    rw [lo f h2, u2_f h3]; exact cpAll_o z h1
  refine ⟨nrm (u2 (cpAll z (s + 1) 0) 60 s 1) Gm.2, fun f hf => lo f (by omega), fun i hi => o _ (by omega) (by omega) (by omega), ⟨hInv, hb, J_cg h.io (fun f hf => o f (by omega) (by omega) (by omega)) h.j⟩, h.t0.1, fun f hf => o f (by omega) (by omega) (by omega), fun t ht hts => ⟨fun f hf => o _ (by omega) (by omega) (by omega), ?_⟩, fun f i hf hi => ?_, ?_⟩
  · rw [lo 60 (by decide), u2_i _ hts]
    exact congrFun (cpAll_o z (by omega)) t
  · rw [lo _ (by omega), u2_f (by omega), cpAll_v z hf hi]
    show z (20 * 0 + f) i = z f i
    rw [Nat.mul_zero, Nat.zero_add]
  · rw [lo 60 (by decide), u2_s]
theorem restore_step {w z : St} {b b0 : Nat} (h : JI w b) (hb : b + 100 ≤ 50000) {s : Nat} (hs : s < 2) (hz : JI z b0) (hv : SV w s z) : ∃ y, (∀ f, f < 75 → y f = (spRestore w (nI s)).2 f) ∧ (∀ i, i < 3 → y (75 + i) = w (75 + i)) ∧ JI y (b + 100) ∧ (spRestore w (nI s)).1 = nI (TN z) ∧ OffL y z ∧ (∀ f, 20 ≤ f → f < 75 → y f = w f) := by
  have hInv := nrm_inv (pair_restore h.inv (nI s))
  have hcs : cn (nI s) = s := cn_nI (by omega)
  have hc : ¬ (nI s < 0 ∨ ¬ nI s < 2) := fun q => q.elim (nI_pos (by omega)) (fun w => w ((nI_ltI (b := 2) (by omega) (by decide)).mpr hs))
  have eF : spRestore w (nI s) = (cpAll w 0 (s + 1) 0 0, cpAll w 0 (s + 1)) := by
    unfold spRestore; rw [if_neg hc, hcs, if_neg (by rw [hv.2]; decide)]
  rw [eF] at hInv ⊢
  generalize mRestore w (nI s) = Gm at *
  have lo : ∀ f, f < 87 → nrm (cpAll w 0 (s + 1)) Gm.2 f = cpAll w 0 (s + 1) f := fun f hf => nrm_lo _ _ hf
  have at_ : ∀ f i, f < 20 → i < limF f → cpAll w 0 (s + 1) f i = z f i := fun f i hf hi => by
    have e := cpAll_v w (o1 := 0) (o2 := s + 1) hf hi
    rw [Nat.mul_zero, Nat.zero_add] at e
    rw [e]; exact hv.1 f i hf hi
  have oo : OffL (nrm (cpAll w 0 (s + 1)) Gm.2) z := fun f i hf hi => by rw [lo f (by omega)]; exact at_ f i hf hi
  refine ⟨nrm (cpAll w 0 (s + 1)) Gm.2, fun f hf => lo f (by omega), fun i hi => ?_, ⟨hInv, hb, J_in hz.io oo hz.j⟩, ?_, oo, fun f h1 h2 => ?_⟩
  · rw [lo _ (by omega)]; exact cpAll_o w (by omega)
  · rw [at_ 0 0 (by decide) (by decide)]; exact hz.t0.1
  · rw [lo f (by omega)]; exact cpAll_o w (by omega)
section OFF
variable {y z : St} {b : Nat} (h : OffL y z) (hz : JI z b)
theorem OffL.t (h : OffL y z) : TN y = TN z := by unfold TN; rw [h 0 0 (by decide) (by decide)]
theorem OffL.r (h : OffL y z) : NR y = NR z := by unfold NR; rw [h 1 0 (by decide) (by decide)]
theorem OffL.c (h : OffL y z) : NC y = NC z := by unfold NC; rw [h 2 0 (by decide) (by decide)]
theorem OffL.n (h : OffL y z) : nA y = nA z := by unfold nA; rw [h 3 0 (by decide) (by decide)]
theorem OffL.a (h : OffL y z) (hz : JI z b) {f a : Nat} (h1 : 11 ≤ f) (h2 : f < 20) (ha : a < nA z) : y f a = z f a := h f a h2 (lim_a h1 h2 (by have := hz.na.2; omega))
theorem OffL.s (h : OffL y z) (hz : JI z b) {a : Nat} (ha : a < nA z) : a_s y a = a_s z a := by unfold a_s; rw [h.a hz (by decide) (by decide) ha]
theorem OffL.paid (h : OffL y z) (hz : JI z b) : paidBy y (-1) = paidBy z (-1) := by
  unfold paidBy
  rw [h.n]
  refine sm_congr (fun a ha => ?_)
  rw [if_pos (Or.inl rfl), if_pos (Or.inl rfl)]
  exact h.a hz (by decide) (by decide) ha
theorem OffL.closed (h : OffL y z) : closedN y = closedN z := by
  unfold closedN
  exact sm_congr (fun d hd => by rw [h 7 d (by decide) hd])
end OFF
theorem JI_lot {z : St} {b : Nat} (h : JI z b) (hb : b + 100 ≤ 50000) {r d : Nat} (hr : r < NR z) (hd : d < 60) (hT : TN z ≤ d) : ∃ y, (∀ f, f < 75 → y f = (cLottery z (nI r) (nI d)).2 f) ∧ JI y (b + 100) := by
  by_cases h0 : stN z r d 0 = 0
  · refine ⟨z, fun f _ => ?_, h.mono (by omega) hb⟩
    rw [(lot_open h hr hd hT).1 h0]
  · obtain ⟨y, y1, -, y3, -⟩ := lot_step h hb hr hd hT (by omega)
    exact ⟨y, y1, y3⟩
theorem JI_end {z : St} {b : Nat} (h : JI z b) (hb : b + 100 ≤ 50000) : ∃ y, (∀ f, f < 75 → y f = (spEnd z).2 f) ∧ JI y (b + 100) := by
  by_cases h0 : TN z < 59
  · obtain ⟨y, y1, -, y3, -⟩ := end_step h hb h0
    exact ⟨y, y1, y3⟩
  · exact ⟨z, fun f _ => by rw [end_59 h h0], h.mono (by omega) hb⟩
theorem spSet_lo (z : St) (s v : Int32) {f : Nat} (hf : f ≠ 4) : (spSet z s v).2 f = z f := by
  unfold spSet; split
  · rfl
  · exact u2_f hf
theorem spBuffer_lo (z : St) (s v : Int32) {f : Nat} (hf : f ≠ 6) : (spBuffer z s v).2 f = z f := by
  unfold spBuffer; split
  · rfl
  · split
    · rfl
    · exact u2_f hf

def rm_L_kept : Room := { frames := 6, cells := 0, slots := 0, locals := 138 }
theorem k_L_kept_L_up : CT3 rm_L_kept wsL_kept RL 22 yL_up cL_up 2 (some .int) wsL_up rm_L_up 0 0 2 := ⟨gL_kept_L_up, ⟨_, rfl⟩, rfl, rfl, ⟨by decide +kernel, by decide +kernel, by decide +kernel⟩, by decide, by decide⟩
theorem k_L_kept_X6_application : CW rm_L_kept wsL_kept RL RX6 68 yX6_application cX6_application 4 (some .int) wsX6_application rm_X6_application 2 := ⟨gL_kept_X6_application, ⟨_, rfl⟩, rfl, rfl, ⟨rfl, by decide +kernel, by decide +kernel, by decide +kernel⟩, by decide, by decide⟩
theorem k_L_kept_X6_apply : CW rm_L_kept wsL_kept RL RX6 61 yX6_apply cX6_apply 5 (some .int) wsX6_apply rm_X6_apply 4 := ⟨gL_kept_X6_apply, ⟨_, rfl⟩, rfl, rfl, ⟨rfl, by decide +kernel, by decide +kernel, by decide +kernel⟩, by decide, by decide⟩
theorem k_L_kept_X6_buffer : CW rm_L_kept wsL_kept RL RX6 143 yX6_buffer cX6_buffer 5 (some .int) wsX6_buffer rm_X6_buffer 2 := ⟨gL_kept_X6_buffer, ⟨_, rfl⟩, rfl, rfl, ⟨rfl, by decide +kernel, by decide +kernel, by decide +kernel⟩, by decide, by decide⟩
theorem k_L_kept_X6_climber : CW rm_L_kept wsL_kept RL RX6 65 yX6_climber cX6_climber 3 (some .int) wsX6_climber rm_X6_climber 2 := ⟨gL_kept_X6_climber, ⟨_, rfl⟩, rfl, rfl, ⟨rfl, by decide +kernel, by decide +kernel, by decide +kernel⟩, by decide, by decide⟩
theorem k_L_kept_X6_close : CW rm_L_kept wsL_kept RL RX6 101 yX6_close cX6_close 3 (some .int) wsX6_close rm_X6_close 1 := ⟨gL_kept_X6_close, ⟨_, rfl⟩, rfl, rfl, ⟨rfl, by decide +kernel, by decide +kernel, by decide +kernel⟩, by decide, by decide⟩
theorem k_L_kept_X6_count : CW rm_L_kept wsL_kept RL RX6 57 yX6_count cX6_count 2 (some .int) wsX6_count rm_X6_count 1 := ⟨gL_kept_X6_count, ⟨_, rfl⟩, rfl, rfl, ⟨rfl, by decide +kernel, by decide +kernel, by decide +kernel⟩, by decide, by decide⟩
theorem k_L_kept_X6_end : CW rm_L_kept wsL_kept RL RX6 107 yX6_end cX6_end 2 (some .int) wsX6_end rm_X6_end 0 := ⟨gL_kept_X6_end, ⟨_, rfl⟩, rfl, rfl, ⟨rfl, by decide +kernel, by decide +kernel, by decide +kernel⟩, by decide, by decide⟩
theorem k_L_kept_X6_lottery : CW rm_L_kept wsL_kept RL RX6 97 yX6_lottery cX6_lottery 3 (some .int) wsX6_lottery rm_X6_lottery 2 := ⟨gL_kept_X6_lottery, ⟨_, rfl⟩, rfl, rfl, ⟨rfl, by decide +kernel, by decide +kernel, by decide +kernel⟩, by decide, by decide⟩
theorem k_L_kept_X6_restore : CW rm_L_kept wsL_kept RL RX6 117 yX6_restore cX6_restore 2 (some .int) wsX6_restore rm_X6_restore 1 := ⟨gL_kept_X6_restore, ⟨_, rfl⟩, rfl, rfl, ⟨rfl, by decide +kernel, by decide +kernel, by decide +kernel⟩, by decide, by decide⟩
theorem k_L_kept_X6_save : CW rm_L_kept wsL_kept RL RX6 113 yX6_save cX6_save 2 (some .int) wsX6_save rm_X6_save 1 := ⟨gL_kept_X6_save, ⟨_, rfl⟩, rfl, rfl, ⟨rfl, by decide +kernel, by decide +kernel, by decide +kernel⟩, by decide, by decide⟩
theorem k_L_kept_X6_set : CW rm_L_kept wsL_kept RL RX6 33 yX6_set cX6_set 4 (some .int) wsX6_set rm_X6_set 2 := ⟨gL_kept_X6_set, ⟨_, rfl⟩, rfl, rfl, ⟨rfl, by decide +kernel, by decide +kernel, by decide +kernel⟩, by decide, by decide⟩
set_option maxHeartbeats 4000000 in
set_option maxRecDepth 100000 in
theorem c_L_kept (l : Launch) (G : MG) (B : Nat) (E : State → Prop) (hG : GB B G) (hE : KMv (AB B) E) (z : St) {v : Int32} {b : Nat} (hJ : JI z b) (hb : b + 1000 ≤ 50000) : CL l G B E yL_kept wsL_kept rm_L_kept [.ref (G.2.2 192), .int v] z (fun ρ ζ => ρ = 1 ∧ JI ζ (b + 1000)) 0 0 := by
  refine cl_of (own := RL) (cc := cL_kept) (maxL := 8) (ret := .boolean) hG hE (by decide +kernel) rfl rfl ?_ (Nat.le_of_ble_eq_true rfl) ?_
  · rintro v z' ⟨rfl, -⟩; rfl
  · intro X hX ret
    refine q_lv (lv' := [(0, .ref (G.2.2 192)), (1, .int v)]) rfl ?_
    have hT := hJ.t0.2
    obtain ⟨-, hN6, hN1⟩ := hJ.nr
    obtain ⟨-, hC12, hC1⟩ := hJ.nc
    obtain ⟨-, hA40⟩ := hJ.na
    refine q_aload_n hX 0 dL_kept_0 rfl ?_
    refine q_iconst hX 1 dL_kept_1 (by decide) ?_
    refine q_cv hX hG (by decide) (by decide) (As := [.int 1]) (rest := []) (c_X6_save l G hG.1 z (s := 1) (hb := hJ.inv.2.2.1) (hcl := hJ.inv.2.2.2.1)) k_L_kept_X6_save (fun i hi => absurd hi (Nat.not_lt_zero _)) rfl rfl (Nat.le_of_ble_eq_true rfl) dL_kept_2 ?_
    obtain ⟨y0, hd0, -, hy0, gT, g20, -, gsv⟩ := save_step hJ (by omega) (s := 1) (by decide)
    refine q_cg (z2 := y0) hd0 (fun i hi => absurd hi (Nat.not_lt_zero _)) ?_
    refine q_top (nI (TN z)) gT ?_
    have eT0 : TN y0 = TN z := by unfold TN; rw [g20 0 (by omega)]
    have en0 : nA y0 = nA z := by unfold nA; rw [g20 3 (by omega)]
    have hc1 := hy0.nc.2.2
    have hA0 := hy0.na.2
    have o0 : OffL y0 z := fun f i hf _ => by rw [g20 f (by omega)]
    refine q_istore_n hX [(2, .int (nI (TN z))), (0, .ref (G.2.2 192)), (1, .int v)] dL_kept_5 (by decide) rfl ?_
    refine q_aload_n hX 1 dL_kept_6 rfl ?_
    refine q_iconst hX 3 dL_kept_7 (by decide) ?_
    refine q_cv hX hG (by decide) (by decide) (As := [.int 3]) (rest := []) (c_X6_count l G y0 (w := 3) (hI := hy0.io)) k_L_kept_X6_count (fun _ _ => rfl) rfl rfl (Nat.le_of_ble_eq_true rfl) dL_kept_8 ?_
    refine q_top (nI (nA y0)) (ct3 hy0) ?_
    refine q_istore_n hX [(3, .int (nI (nA y0))), (2, .int (nI (TN z))), (0, .ref (G.2.2 192)), (1, .int v)] dL_kept_11 (by decide) rfl ?_
    refine q_aload_n hX 2 dL_kept_12 rfl ?_
    refine q_bipush hX 11 dL_kept_13 (by decide) ?_
    refine q_cv hX hG (by decide) (by decide) (As := [.int 11]) (rest := []) (c_X6_count l G y0 (w := 11) (hI := hy0.io)) k_L_kept_X6_count (fun _ _ => rfl) rfl rfl (Nat.le_of_ble_eq_true rfl) dL_kept_15 ?_
    refine q_top (paidBy y0 (-1)) (ct11 hy0) ?_
    refine q_istore hX [(4, .int (paidBy y0 (-1))), (3, .int (nI (nA y0))), (2, .int (nI (TN z))), (0, .ref (G.2.2 192)), (1, .int v)] dL_kept_18 (by decide) rfl ?_
    refine q_aload_n hX 3 dL_kept_20 rfl ?_
    refine q_bipush hX 13 dL_kept_21 (by decide) ?_
    refine q_cv hX hG (by decide) (by decide) (As := [.int 13]) (rest := []) (c_X6_count l G y0 (w := 13) (hI := hy0.io)) k_L_kept_X6_count (fun _ _ => rfl) rfl rfl (Nat.le_of_ble_eq_true rfl) dL_kept_23 ?_
    refine q_top (closedN y0) (ct13 hy0) ?_
    refine q_istore hX [(5, .int (closedN y0)), (4, .int (paidBy y0 (-1))), (3, .int (nI (nA y0))), (2, .int (nI (TN z))), (0, .ref (G.2.2 192)), (1, .int v)] dL_kept_26 (by decide) rfl ?_
    refine q_aload_n hX 4 dL_kept_28 rfl ?_
    refine q_iconst hX 0 dL_kept_29 (by decide) ?_
    refine q_iconst hX 0 dL_kept_30 (by decide) ?_
    refine q_cv hX hG (by decide) (by decide) (As := [.int 0, .int 0]) (rest := []) (c_X6_climber l G y0 (c := 0) (w := 0) (hI := hy0.io)) k_L_kept_X6_climber (fun _ _ => rfl) rfl rfl (Nat.le_of_ble_eq_true rfl) dL_kept_31 ?_
    refine q_top (y0 8 0) (cl0 hy0 (c := 0) (by omega)) ?_
    refine q_istore hX [(6, .int (y0 8 0)), (5, .int (closedN y0)), (4, .int (paidBy y0 (-1))), (3, .int (nI (nA y0))), (2, .int (nI (TN z))), (0, .ref (G.2.2 192)), (1, .int v)] dL_kept_34 (by decide) rfl ?_
    obtain ⟨fs, hfs⟩ : ∃ fs : Nat, fs = if nA y0 = 0 then 0 else a_s y0 0 := ⟨_, rfl⟩
    have hfs7 : fs < 7 := by
      rw [hfs]; split
      · omega
      · exact (hy0.ap (a := 0) (by omega)).2.2.2.2.1.2
    have km1 : LG X B 0 (fun _ => 0) G 0 0 y0 50 [(6, .int (y0 8 0)), (5, .int (closedN y0)), (4, .int (paidBy y0 (-1))), (3, .int (nI (nA y0))), (2, .int (nI (TN z))), (0, .ref (G.2.2 192)), (1, .int v)] [.int (nI fs)] := by
      refine q_istore hX [(7, .int (nI fs)), (6, .int (y0 8 0)), (5, .int (closedN y0)), (4, .int (paidBy y0 (-1))), (3, .int (nI (nA y0))), (2, .int (nI (TN z))), (0, .ref (G.2.2 192)), (1, .int v)] dL_kept_50 (by decide) rfl ?_
      refine q_aload_n hX 6 dL_kept_52 rfl ?_
      refine q_iconst hX 0 dL_kept_53 (by decide) ?_
      refine q_sipush hX 1000 dL_kept_54 (by decide) ?_
      refine q_cv hX hG (by decide) (by decide) (As := [.int 0, .int 1000]) (rest := []) (c_X6_set l G hG.1 y0 (x := 0) (y := 1000) ) k_L_kept_X6_set (fun i hi => absurd hi (Nat.not_lt_zero _)) rfl rfl (Nat.le_of_ble_eq_true rfl) dL_kept_57 ?_
      obtain ⟨y1, hd1⟩ : ∃ s_ : St, s_ = (spSet y0 0 1000).2 := ⟨_, rfl⟩
      refine q_z (z2 := y1) hd1.symm ?_
      have hy1 : JI y1 (b + 200) := by rw [hd1]; exact JI_set hy0 (by omega) _ _
      have hk1 : ∀ f, 20 ≤ f → f < 61 → y1 f = y0 f := fun f h1 h2 => by rw [hd1]; exact spSet_lo _ _ _ (by omega)
      refine q_pop hX dL_kept_60 rfl ?_
      refine q_aload_n hX 6 dL_kept_61 rfl ?_
      refine q_iconst hX 0 dL_kept_62 (by decide) ?_
      refine q_iconst hX 0 dL_kept_63 (by decide) ?_
      refine q_cv hX hG (by decide) (by decide) (As := [.int 0, .int 0]) (rest := []) (c_X6_buffer l G hG.1 y1 (x := 0) (y := 0) (hI := hy1.io)) k_L_kept_X6_buffer (fun i hi => absurd hi (Nat.not_lt_zero _)) rfl rfl (Nat.le_of_ble_eq_true rfl) dL_kept_64 ?_
      obtain ⟨y2, hd2⟩ : ∃ s_ : St, s_ = (spBuffer y1 0 0).2 := ⟨_, rfl⟩
      refine q_z (z2 := y2) hd2.symm ?_
      have hy2 : JI y2 (b + 300) := by rw [hd2]; exact JI_buffer hy1 (by omega) _ _
      have hk2 : ∀ f, 20 ≤ f → f < 61 → y2 f = y1 f := fun f h1 h2 => by rw [hd2]; exact spBuffer_lo _ _ _ (by omega)
      refine q_pop hX dL_kept_67 rfl ?_
      refine q_aload_n hX 6 dL_kept_68 rfl ?_
      refine q_iconst hX 0 dL_kept_69 (by decide) ?_
      refine q_iconst hX 0 dL_kept_70 (by decide) ?_
      refine q_iload_n hX 5 dL_kept_71 rfl ?_
      refine q_iconst hX 1 dL_kept_72 (by decide) ?_
      refine q_cv hX hG (by decide) (by decide) (As := [.int 0, .int 0, .int (nI (TN z)), .int 1]) (rest := []) (c_X6_apply l G hG.1 y2 (c := 0) (r := 0) (d := (nI (TN z))) (p := 1) (hI := hy2.io)) k_L_kept_X6_apply (fun i hi => absurd hi (Nat.not_lt_zero _)) rfl rfl (Nat.le_of_ble_eq_true rfl) dL_kept_73 ?_
      obtain ⟨y3, hd3⟩ : ∃ s_ : St, s_ = (spApply y2 0 0 (nI (TN z)) 1).2 := ⟨_, rfl⟩
      refine q_z (z2 := y3) hd3.symm ?_
      have hy3 : JI y3 (b + 400) := by rw [hd3]; exact JI_apply hy2 (by omega) _ _ _ _
      have hk3 : ∀ f, 20 ≤ f → f < 61 → y3 f = y2 f := fun f h1 h2 => by rw [hd3]; exact apply_lo _ _ _ _ _ (by omega)
      refine q_pop hX dL_kept_76 rfl ?_
      refine q_aload_n hX 6 dL_kept_77 rfl ?_
      have eT3 : TN y3 = TN z := by unfold TN; rw [hd3, apply_lo _ _ _ _ _ (by decide), hd2, spBuffer_lo _ _ _ (by decide), hd1, spSet_lo _ _ _ (by decide), g20 0 (by omega)]
      refine q_iconst hX 0 dL_kept_78 (by decide) ?_
      refine q_iload_n hX 5 dL_kept_79 rfl ?_
      refine q_cv hX hG (by decide) (by decide) (As := [.int 0, .int (nI (TN z))]) (rest := []) (c_X6_lottery l G hG.1 y3 (r := 0) (d := (nI (TN z))) (hI := hy3.io)) k_L_kept_X6_lottery (fun i hi => absurd hi (Nat.not_lt_zero _)) rfl rfl (Nat.le_of_ble_eq_true rfl) dL_kept_80 ?_
      obtain ⟨y4, hd4, hy4⟩ := JI_lot hy3 (by omega) (r := 0) (d := TN z) (by have := hy3.nr.2.2; omega) hT (by omega)
      refine q_cg (z2 := y4) hd4 (fun i hi => absurd hi (Nat.not_lt_zero _)) ?_
      have hk4 : ∀ f, 20 ≤ f → f < 61 → y4 f = y3 f := fun f h1 h2 => by rw [hd4 f (by omega)]; exact lot_hi hy3 _ _ (by omega) (by omega)
      refine q_pop hX dL_kept_83 rfl ?_
      refine q_aload_n hX 6 dL_kept_84 rfl ?_
      have km2 : LG X B 0 (fun _ => 0) G 0 0 y4 101 [(7, .int (nI fs)), (6, .int (y0 8 0)), (5, .int (closedN y0)), (4, .int (paidBy y0 (-1))), (3, .int (nI (nA y0))), (2, .int (nI (TN z))), (0, .ref (G.2.2 192)), (1, .int v)] [.int (nI (min (TN z + 1) 59)), .ref (G.2.2 192)] := by
        refine q_cv hX hG (by decide) (by decide) (As := [.int (nI (min (TN z + 1) 59))]) (rest := []) (c_X6_close l G hG.1 y4 (d := (nI (min (TN z + 1) 59))) (hI := hy4.io) (hs := hy4.oi.sh)) k_L_kept_X6_close (fun i hi => absurd hi (Nat.not_lt_zero _)) rfl rfl (Nat.le_of_ble_eq_true rfl) dL_kept_101 ?_
        obtain ⟨y5, hd5⟩ : ∃ s_ : St, s_ = (spClose y4 (nI (min (TN z + 1) 59))).2 := ⟨_, rfl⟩
        refine q_z (z2 := y5) hd5.symm ?_
        have hy5 : JI y5 (b + 600) := by rw [hd5]; exact JI_close hy4 (by omega) (by omega)
        have hk5 : ∀ f, 20 ≤ f → f < 61 → y5 f = y4 f := fun f h1 h2 => by rw [hd5]; exact spClose_hi _ _ (by omega)
        refine q_pop hX dL_kept_104 rfl ?_
        refine q_aload_n hX 6 dL_kept_105 rfl ?_
        refine q_cv hX hG (by decide) (by decide) (As := []) (rest := []) (c_X6_end l G hG.1 y5  (hI := hy5.io)) k_L_kept_X6_end (fun i hi => absurd hi (Nat.not_lt_zero _)) rfl rfl (Nat.le_of_ble_eq_true rfl) dL_kept_106 ?_
        obtain ⟨y6, hd6, hy6⟩ := JI_end hy5 (by omega)
        refine q_cg (z2 := y6) hd6 (fun i hi => absurd hi (Nat.not_lt_zero _)) ?_
        have hk6 : ∀ f, 20 ≤ f → f < 61 → y6 f = y5 f := fun f h1 h2 => by rw [hd6 f (by omega)]; exact spEnd_hi _ (by omega)
        refine q_pop hX dL_kept_109 rfl ?_
        refine q_aload_n hX 6 dL_kept_110 rfl ?_
        refine q_iconst hX 1 dL_kept_111 (by decide) ?_
        refine q_iconst hX 0 dL_kept_112 (by decide) ?_
        refine q_bipush hX 59 dL_kept_113 (by decide) ?_
        refine q_iconst hX 1 dL_kept_115 (by decide) ?_
        refine q_iload_n hX 7 dL_kept_116 rfl ?_
        refine q_iconst hX 4 dL_kept_117 (by decide) ?_
        refine q_ctE hX hG (by decide) (by decide) (As := [.int v, .int 4]) (rest := [.int 1, .int 59, .int 0, .int 1, .ref (G.2.2 192)]) (c_L_up l G B E hG hE y6 (v := v) (m := 4) (by decide)) k_L_kept_L_up rfl rfl (Nat.le_of_ble_eq_true rfl) dL_kept_118 ?_
        refine q_iadd hX dL_kept_121 ?_
        refine q_cv hX hG (by decide) (by decide) (As := [.int 1, .int 0, .int 59, .int (1 + (upf v 4))]) (rest := []) (c_X6_apply l G hG.1 y6 (c := 1) (r := 0) (d := 59) (p := (1 + (upf v 4))) (hI := hy6.io)) k_L_kept_X6_apply (fun i hi => absurd hi (Nat.not_lt_zero _)) rfl rfl (Nat.le_of_ble_eq_true rfl) dL_kept_122 ?_
        obtain ⟨y7, hd7⟩ : ∃ s_ : St, s_ = (spApply y6 1 0 59 (1 + (upf v 4))).2 := ⟨_, rfl⟩
        refine q_z (z2 := y7) hd7.symm ?_
        have hy7 : JI y7 (b + 800) := by rw [hd7]; exact JI_apply hy6 (by omega) _ _ _ _
        have hk7 : ∀ f, 20 ≤ f → f < 61 → y7 f = y6 f := fun f h1 h2 => by rw [hd7]; exact apply_lo _ _ _ _ _ (by omega)
        refine q_pop hX dL_kept_125 rfl ?_
        refine q_aload_n hX 6 dL_kept_126 rfl ?_
        refine q_iconst hX 0 dL_kept_127 (by decide) ?_
        refine q_bipush hX 59 dL_kept_128 (by decide) ?_
        refine q_cv hX hG (by decide) (by decide) (As := [.int 0, .int 59]) (rest := []) (c_X6_lottery l G hG.1 y7 (r := 0) (d := 59) (hI := hy7.io)) k_L_kept_X6_lottery (fun i hi => absurd hi (Nat.not_lt_zero _)) rfl rfl (Nat.le_of_ble_eq_true rfl) dL_kept_130 ?_
        obtain ⟨y8, hd8, hy8⟩ := JI_lot hy7 (by omega) (r := 0) (d := 59) (by have := hy7.nr.2.2; omega) (by decide) (by have := hy7.t0.2; omega)
        refine q_cg (z2 := y8) hd8 (fun i hi => absurd hi (Nat.not_lt_zero _)) ?_
        have hk8 : ∀ f, 20 ≤ f → f < 61 → y8 f = y7 f := fun f h1 h2 => by rw [hd8 f (by omega)]; exact lot_hi hy7 _ _ (by omega) (by omega)
        refine q_pop hX dL_kept_133 rfl ?_
        refine q_aload_n hX 6 dL_kept_134 rfl ?_
        refine q_iconst hX 1 dL_kept_135 (by decide) ?_
        refine q_cv hX hG (by decide) (by decide) (As := [.int 1]) (rest := []) (c_X6_restore l G hG.1 y8 (s := 1) (hb := hy8.inv.2.2.1) (hcl := hy8.inv.2.2.2.1)) k_L_kept_X6_restore (fun i hi => absurd hi (Nat.not_lt_zero _)) rfl rfl (Nat.le_of_ble_eq_true rfl) dL_kept_136 ?_
        have hsv : SV y8 1 z := by
          have hch : ∀ f, 20 ≤ f → f < 61 → y8 f = y0 f := fun f h1 h2 => by rw [hk8 f h1 h2, hk7 f h1 h2, hk6 f h1 h2, hk5 f h1 h2, hk4 f h1 h2, hk3 f h1 h2, hk2 f h1 h2, hk1 f h1 h2]
          exact ⟨fun f i hf hi => by rw [hch _ (by omega) (by omega)]; exact gsv.1 f i hf hi, by rw [hch 60 (by decide) (by decide)]; exact gsv.2⟩
        obtain ⟨y, hdy, -, hy, gR, oR, -⟩ := restore_step hy8 (by omega) (s := 1) (by decide) hJ hsv
        refine q_cg (z2 := y) hdy (fun i hi => absurd hi (Nat.not_lt_zero _)) ?_
        refine q_top (nI (TN z)) gR ?_
        have eTy := oR.t
        have eny := oR.n
        have hcy := hy.nc.2.2
        have hTy := hy.t0.2
        refine q_iload_n hX 5 dL_kept_139 rfl ?_
        refine q_ic_ne hX 213 dL_kept_140 (by decide) (fun c3 => ?_) (fun c3 => ?_)
        · -- jump 213
          exact absurd rfl c3
        · -- on 143
          refine q_aload_n hX 6 dL_kept_143 rfl ?_
          refine q_iconst hX 0 dL_kept_144 (by decide) ?_
          refine q_cv hX hG (by decide) (by decide) (As := [.int 0]) (rest := []) (c_X6_count l G y (w := 0) (hI := hy.io)) k_L_kept_X6_count (fun _ _ => rfl) rfl rfl (Nat.le_of_ble_eq_true rfl) dL_kept_145 ?_
          refine q_top (nI (TN y)) (ct0 hy) ?_
          refine q_iload_n hX 5 dL_kept_148 rfl ?_
          refine q_ic_ne hX 213 dL_kept_149 (by decide) (fun c4 => ?_) (fun c4 => ?_)
          · -- jump 213
            have nc4 : ¬ ((TN y : Nat) = TN z) := fun q => c4 ((nI_eq (a := TN y) (b := TN z) (by omega) (by omega)).mpr q)
            refine q_iconst hX 0 dL_kept_213 (by decide) ?_
            exfalso
            omega
          · -- on 152
            have nc4 : ((TN y : Nat) = TN z) := (nI_eq (a := TN y) (b := TN z) (by omega) (by omega)).mp (Decidable.not_not.mp c4)
            refine q_aload_n hX 6 dL_kept_152 rfl ?_
            refine q_iconst hX 3 dL_kept_153 (by decide) ?_
            refine q_cv hX hG (by decide) (by decide) (As := [.int 3]) (rest := []) (c_X6_count l G y (w := 3) (hI := hy.io)) k_L_kept_X6_count (fun _ _ => rfl) rfl rfl (Nat.le_of_ble_eq_true rfl) dL_kept_154 ?_
            refine q_top (nI (nA y)) (ct3 hy) ?_
            refine q_iload_n hX 4 dL_kept_157 rfl ?_
            refine q_ic_ne hX 213 dL_kept_158 (by decide) (fun c5 => ?_) (fun c5 => ?_)
            · -- jump 213
              have nc5 : ¬ ((nA y : Nat) = nA y0) := fun q => c5 ((nI_eq (a := nA y) (b := nA y0) (by omega) (by omega)).mpr q)
              refine q_iconst hX 0 dL_kept_213 (by decide) ?_
              exfalso
              omega
            · -- on 161
              have nc5 : ((nA y : Nat) = nA y0) := (nI_eq (a := nA y) (b := nA y0) (by omega) (by omega)).mp (Decidable.not_not.mp c5)
              refine q_aload_n hX 6 dL_kept_161 rfl ?_
              refine q_bipush hX 11 dL_kept_162 (by decide) ?_
              refine q_cv hX hG (by decide) (by decide) (As := [.int 11]) (rest := []) (c_X6_count l G y (w := 11) (hI := hy.io)) k_L_kept_X6_count (fun _ _ => rfl) rfl rfl (Nat.le_of_ble_eq_true rfl) dL_kept_164 ?_
              refine q_top (paidBy y (-1)) (ct11 hy) ?_
              refine q_iload hX 3 dL_kept_167 rfl ?_
              refine q_ic_ne hX 213 dL_kept_169 (by decide) (fun c6 => ?_) (fun c6 => ?_)
              · -- jump 213
                exact absurd ((oR.paid hJ).trans (o0.paid hJ).symm) c6
              · -- on 172
                refine q_aload_n hX 6 dL_kept_172 rfl ?_
                refine q_bipush hX 13 dL_kept_173 (by decide) ?_
                refine q_cv hX hG (by decide) (by decide) (As := [.int 13]) (rest := []) (c_X6_count l G y (w := 13) (hI := hy.io)) k_L_kept_X6_count (fun _ _ => rfl) rfl rfl (Nat.le_of_ble_eq_true rfl) dL_kept_175 ?_
                refine q_top (closedN y) (ct13 hy) ?_
                refine q_iload hX 2 dL_kept_178 rfl ?_
                refine q_ic_ne hX 213 dL_kept_180 (by decide) (fun c7 => ?_) (fun c7 => ?_)
                · -- jump 213
                  exact absurd (oR.closed.trans o0.closed.symm) c7
                · -- on 183
                  refine q_aload_n hX 6 dL_kept_183 rfl ?_
                  refine q_iconst hX 0 dL_kept_184 (by decide) ?_
                  refine q_iconst hX 0 dL_kept_185 (by decide) ?_
                  refine q_cv hX hG (by decide) (by decide) (As := [.int 0, .int 0]) (rest := []) (c_X6_climber l G y (c := 0) (w := 0) (hI := hy.io)) k_L_kept_X6_climber (fun _ _ => rfl) rfl rfl (Nat.le_of_ble_eq_true rfl) dL_kept_186 ?_
                  refine q_top (y 8 0) (cl0 hy (c := 0) (by omega)) ?_
                  refine q_iload hX 1 dL_kept_189 rfl ?_
                  refine q_ic_ne hX 213 dL_kept_191 (by decide) (fun c8 => ?_) (fun c8 => ?_)
                  · -- jump 213
                    exact absurd ((oR 8 0 (by decide) (by decide)).trans (o0 8 0 (by decide) (by decide)).symm) c8
                  · -- on 194
                    refine q_iload_n hX 4 dL_kept_194 rfl ?_
                    refine q_if_eq hX 209 dL_kept_195 (by decide) (fun c9 => ?_) (fun c9 => ?_)
                    · -- jump 209
                      have nc9 : ((nA y0 : Nat) = 0) := (nI_eq (a := nA y0) (b := 0) (by omega) (by omega)).mp c9
                      refine q_iconst hX 1 dL_kept_209 (by decide) ?_
                      refine q_goto hX 214 dL_kept_210 (by decide) ?_
                      refine ret _ _ _ _ _ _ (by decide) (by decide) dL_kept_214 ?_
                      exact ⟨rfl, hy⟩
                    · -- on 198
                      have nc9 : ¬ ((nA y0 : Nat) = 0) := fun q => c9 ((nI_eq (a := nA y0) (b := 0) (by omega) (by omega)).mpr q)
                      have hs1 := oR.s hJ (a := 0) (by omega)
                      have hs2 := o0.s hJ (a := 0) (by omega)
                      have hs3 := (hy.ap (a := 0) (by omega)).2.2.2.2.1.2
                      rw [if_neg (by omega)] at hfs
                      refine q_aload_n hX 6 dL_kept_198 rfl ?_
                      refine q_iconst hX 0 dL_kept_199 (by decide) ?_
                      refine q_iconst hX 4 dL_kept_200 (by decide) ?_
                      refine q_cv hX hG (by decide) (by decide) (As := [.int 0, .int 4]) (rest := []) (c_X6_application l G y (a := 0) (w := 4) (hI := hy.io)) k_L_kept_X6_application (fun _ _ => rfl) rfl rfl (Nat.le_of_ble_eq_true rfl) dL_kept_201 ?_
                      refine q_top (nI (a_s y 0)) (ap4 hy (a := 0) (by omega)) ?_
                      refine q_iload hX 0 dL_kept_204 rfl ?_
                      refine q_ic_ne hX 213 dL_kept_206 (by decide) (fun c10 => ?_) (fun c10 => ?_)
                      · -- jump 213
                        have nc10 : ¬ ((a_s y 0 : Nat) = fs) := fun q => c10 ((nI_eq (a := a_s y 0) (b := fs) (by omega) (by omega)).mpr q)
                        refine q_iconst hX 0 dL_kept_213 (by decide) ?_
                        exfalso
                        omega
                      · -- on 209
                        have nc10 : ((a_s y 0 : Nat) = fs) := (nI_eq (a := a_s y 0) (b := fs) (by omega) (by omega)).mp (Decidable.not_not.mp c10)
                        refine q_iconst hX 1 dL_kept_209 (by decide) ?_
                        refine q_goto hX 214 dL_kept_210 (by decide) ?_
                        refine ret _ _ _ _ _ _ (by decide) (by decide) dL_kept_214 ?_
                        exact ⟨rfl, hy⟩
      refine q_iload_n hX 5 dL_kept_85 rfl ?_
      refine q_iconst hX 1 dL_kept_86 (by decide) ?_
      refine q_iadd hX dL_kept_87 ?_
      refine q_top (nI (TN z + 1)) (nI_add (TN z) 1) ?_
      refine q_bipush hX 59 dL_kept_88 (by decide) ?_
      refine q_ic_le hX 98 dL_kept_90 (by decide) (fun c11 => ?_) (fun c11 => ?_)
      · -- jump 98
        have nc11 : ((TN z + 1 : Nat) ≤ 59) := (nI_leI (a := TN z + 1) (b := 59) (by omega) (by omega)).mp c11
        refine q_iload_n hX 5 dL_kept_98 rfl ?_
        refine q_iconst hX 1 dL_kept_99 (by decide) ?_
        refine q_iadd hX dL_kept_100 ?_
        refine q_top (nI (TN z + 1)) (nI_add (TN z) 1) ?_
        refine q_top (nI (min (TN z + 1) 59)) (by
          first | (rw [show min (TN z + 1) 59 = TN z + 1 from by omega]) | (rw [show min (TN z + 1) 59 = 59 from by omega]; rfl)) ?_
        refine q_sub [0, 1, 2, 3, 4, 5, 6, 7] [(7, .int (nI fs)), (6, .int (y0 8 0)), (5, .int (closedN y0)), (4, .int (paidBy y0 (-1))), (3, .int (nI (nA y0))), (2, .int (nI (TN z))), (0, .ref (G.2.2 192)), (1, .int v)] rfl ?_
        exact km2
      · -- on 93
        have nc11 : ¬ ((TN z + 1 : Nat) ≤ 59) := fun q => c11 ((nI_leI (a := TN z + 1) (b := 59) (by omega) (by omega)).mpr q)
        refine q_bipush hX 59 dL_kept_93 (by decide) ?_
        refine q_goto hX 101 dL_kept_95 (by decide) ?_
        refine q_top (nI (min (TN z + 1) 59)) (by
          first | (rw [show min (TN z + 1) 59 = TN z + 1 from by omega]) | (rw [show min (TN z + 1) 59 = 59 from by omega]; rfl)) ?_
        refine q_sub [0, 1, 2, 3, 4, 5, 6, 7] [(7, .int (nI fs)), (6, .int (y0 8 0)), (5, .int (closedN y0)), (4, .int (paidBy y0 (-1))), (3, .int (nI (nA y0))), (2, .int (nI (TN z))), (0, .ref (G.2.2 192)), (1, .int v)] rfl ?_
        exact km2
    refine q_iload_n hX 3 dL_kept_36 rfl ?_
    refine q_if_ne hX 44 dL_kept_37 (by decide) (fun c12 => ?_) (fun c12 => ?_)
    · -- jump 44
      have nc12 : ¬ ((nA y0 : Nat) = 0) := fun q => c12 ((nI_eq (a := nA y0) (b := 0) (by omega) (by omega)).mpr q)
      refine q_aload_n hX 5 dL_kept_44 rfl ?_
      refine q_iconst hX 0 dL_kept_45 (by decide) ?_
      refine q_iconst hX 4 dL_kept_46 (by decide) ?_
      refine q_cv hX hG (by decide) (by decide) (As := [.int 0, .int 4]) (rest := []) (c_X6_application l G y0 (a := 0) (w := 4) (hI := hy0.io)) k_L_kept_X6_application (fun _ _ => rfl) rfl rfl (Nat.le_of_ble_eq_true rfl) dL_kept_47 ?_
      refine q_top (nI (a_s y0 0)) (ap4 hy0 (a := 0) (by omega)) ?_
      refine q_top (nI fs) (by
        first | (rw [hfs, if_pos (by omega)]; done) | (rw [hfs, if_pos (by omega)]; rfl) | (rw [hfs, if_neg (by omega)])) ?_
      refine q_sub [0, 1, 2, 3, 4, 5, 6] [(6, .int (y0 8 0)), (5, .int (closedN y0)), (4, .int (paidBy y0 (-1))), (3, .int (nI (nA y0))), (2, .int (nI (TN z))), (0, .ref (G.2.2 192)), (1, .int v)] rfl ?_
      exact km1
    · -- on 40
      have nc12 : ((nA y0 : Nat) = 0) := (nI_eq (a := nA y0) (b := 0) (by omega) (by omega)).mp (Decidable.not_not.mp c12)
      refine q_iconst hX 0 dL_kept_40 (by decide) ?_
      refine q_goto hX 50 dL_kept_41 (by decide) ?_
      refine q_top (nI fs) (by
        first | (rw [hfs, if_pos (by omega)]; done) | (rw [hfs, if_pos (by omega)]; rfl) | (rw [hfs, if_neg (by omega)])) ?_
      refine q_sub [0, 1, 2, 3, 4, 5, 6] [(6, .int (y0 8 0)), (5, .int (closedN y0)), (4, .int (paidBy y0 (-1))), (3, .int (nI (nA y0))), (2, .int (nI (TN z))), (0, .ref (G.2.2 192)), (1, .int v)] rfl ?_
      exact km1
