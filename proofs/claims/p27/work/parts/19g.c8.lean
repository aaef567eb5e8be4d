def rm_X4_findFault : Room := { frames := 3, cells := 0, slots := 0, locals := 65 }
theorem i_X4_findFault_wsX40 : ∀ w ∈ wsX40, w ∈ wsX4_findFault := fun w h => List.mem_cons_of_mem _ (List.mem_append_right _ h)
theorem k_X4_findFault_X4_readApplication : CW rm_X4_findFault wsX4_findFault RX4 RX4 28 yX4_readApplication cX4_readApplication 1 (some .boolean) wsX4_readApplication rm_X4_readApplication 0 := ⟨gX4_findFault_X4_readApplication, ⟨_, rfl⟩, rfl, rfl, ⟨rfl, by decide +kernel, by decide +kernel, by decide +kernel⟩, by decide, by decide⟩
theorem k_X4_findFault_X4_readSign : CW rm_X4_findFault wsX4_findFault RX4 RX4 32 yX4_readSign cX4_readSign 2 (some .boolean) wsX4_readSign rm_X4_readSign 1 := ⟨gX4_findFault_X4_readSign, ⟨_, rfl⟩, rfl, rfl, ⟨rfl, by decide +kernel, by decide +kernel, by decide +kernel⟩, by decide, by decide⟩
set_option maxHeartbeats 4000000 in
set_option maxRecDepth 100000 in
theorem c_X4_findFault (l : Launch) (G : MG) (hA : Ap 203 G.2.2) (z : St)  (hP : PO z) : CIc l G yX4_findFault wsX4_findFault rm_X4_findFault [.ref (G.2.2 201)] z (fun ρ ζ => ρ = (spFault z).1 ∧ ζ = (spFault z).2) := by
  refine ci_of (own := RX4) (cc := cX4_findFault) (maxL := 2) (ret := .int) (by decide +kernel) rfl rfl ?_ (Nat.le_of_ble_eq_true rfl) (KQ_mv (ExC_mv G)) ?_
  · intro v z' _; rfl
  · intro X hX ret
    refine g_lv (lv' := [(0, .ref (G.2.2 201))]) rfl ?_
    obtain ⟨e69, h60⟩ := pL hP
    refine g_aload_n hX 0 dX4_findFault_0 rfl ?_
    refine g_iconst hX 0 dX4_findFault_1 (by decide) ?_
    refine c_p_Pad_2 hX hA i_X4_findFault_wsX40 (List.mem_of_getElem? (i := 1) rfl) dX4_findFault_2 ?_
    refine g_iconst hX 0 dX4_findFault_5 (by decide) ?_
    refine g_istore_n hX [(1, .int 0), (0, .ref (G.2.2 201))] dX4_findFault_6 (by decide) rfl ?_
    have loop7 : ∀ (nf : Nat) (k : Nat) (y : St) (p : Nat), ((lenN z + 1) < k + nf) → (k ≤ lenN z + 1) → (PO y) → (y 69 = z 69) → (y 70 0 = nI p) → (p ≤ lenN z) → (ffK (lenN z + 1 - k) y p = spFault z) → Go X (y) 7 [(0, .ref (G.2.2 201)), (1, .int (nI k))] [] := by
      intro nf
      induction nf with
      | zero =>
        intro k y p hmu hk hyP hyl hyp hpl hr
        exfalso; omega
      | succ nf ih =>
        intro k y p hmu hk hyP hyl hyp hpl hr
        have hyn : lenN y = lenN z := by unfold lenN; rw [hyl]
        have hy69 : y 69 0 = nI (lenN z) := by rw [hyl]; exact e69
        refine g_iload_n hX 1 dX4_findFault_7 rfl ?_
        refine g_aload_n hX 0 dX4_findFault_8 rfl ?_
        refine c_g_Pad_1 hX i_X4_findFault_wsX40 (List.mem_of_getElem? (i := 2) rfl) dX4_findFault_9 ?_
        refine g_ic_gt hX 61 dX4_findFault_12 (by decide) (fun c1 => ?_) (fun c1 => ?_)
        · -- jump 61
          have hke : k = lenN z + 1 := by
            rw [hy69] at c1; have := (nI_ltI (a := lenN z) (b := k) (by omega) (by omega)).mp c1; omega
          refine g_aload_n hX 0 dX4_findFault_61 rfl ?_
          refine c_g_Pad_2 hX i_X4_findFault_wsX40 (List.mem_of_getElem? (i := 1) rfl) dX4_findFault_62 ?_
          refine ret _ _ _ _ dX4_findFault_65 ?_
          rw [← hr, hke, Nat.sub_self]; exact ⟨hyp, rfl⟩
        · -- on 15
          have hkn : k < lenN z + 1 := by
            rw [hy69] at c1; have := (nI_leI (a := k) (b := lenN z) (by omega) (by omega)).mp (Int32.not_lt.mp c1); omega
          refine g_aload_n hX 0 dX4_findFault_15 rfl ?_
          refine g_cvE hX (As := []) (rest := []) (c_X4_readApplication l G hA y (p := p) (hP := hyP) (hp := hyp) (hpl := (by omega))) k_X4_findFault_X4_readApplication rc_Pad rfl rfl (Nat.le_of_ble_eq_true rfl) dX4_findFault_16 ?_
          obtain ⟨q, c, r, d, x, hq, hpq, hql, hq1⟩ := apR_PS (y := y) (p := p) (by omega)
          have hE : apE y p = q := by unfold apE; rw [hq, PS_70, cn_nI (by omega)]
          refine g_z (z2 := PS y q c r d x) (hq) ?_
          refine g_if_ne hX 27 dX4_findFault_19 (by decide) (fun c2 => ?_) (fun c2 => ?_)
          · -- jump 27
            have hok := c2
            refine g_aload_n hX 0 dX4_findFault_27 rfl ?_
            refine c_g_Pad_2 hX i_X4_findFault_wsX40 (List.mem_of_getElem? (i := 1) rfl) dX4_findFault_28 ?_
            refine g_top (nI q) (rfl) ?_
            refine g_aload_n hX 0 dX4_findFault_31 rfl ?_
            refine c_g_Pad_1 hX i_X4_findFault_wsX40 (List.mem_of_getElem? (i := 2) rfl) dX4_findFault_32 ?_
            refine g_top (nI (lenN z)) (by rw [PS_lo _ _ _ _ _ _ (by omega), hy69]) ?_
            refine g_ic_ne hX 41 dX4_findFault_35 (by decide) (fun c3 => ?_) (fun c3 => ?_)
            · -- jump 41
              have hne : ¬ q = lenN y := fun e => c3 (by rw [e, hyn])
              refine g_aload_n hX 0 dX4_findFault_41 rfl ?_
              refine g_bipush hX 59 dX4_findFault_42 (by decide) ?_
              refine g_cvE hX (As := [.int 59]) (rest := []) (c_X4_readSign l G hA (PS y q c r d x) (s := 59) (p := q) (hP := (PO_PS hyP _ _ _ _ _)) (hp := (PS_70 _ _ _ _ _ _)) (hpl := (by rw [len_PS]; omega))) k_X4_findFault_X4_readSign rc_Pad rfl rfl (Nat.le_of_ble_eq_true rfl) dX4_findFault_44 ?_
              refine g_z (z2 := if sgnP y 59 q then PS y (q + 1) c r d x else PS y q c r d x) (by simp only [sgn_PS, PS_u70]) ?_
              refine g_top (bi (sgnP y 59 q)) (by simp only [sgn_PS]) ?_
              refine g_bi_ne hX 55 dX4_findFault_47 (by decide) (fun c4 => ?_) (fun c4 => ?_)
              · -- jump 55
                refine g_z (z2 := PS y (q + 1) c r d x) (if_pos c4) ?_
                refine g_iinc hX (nI (k + 1)) 1 [(1, .int (nI (k + 1))), (0, .ref (G.2.2 201))] dX4_findFault_55 rfl (nI_1 k) (by decide) rfl ?_
                refine g_goto hX 7 dX4_findFault_58 (by decide) ?_
                -- back to 7
                refine g_sub [1, 0] [(0, .ref (G.2.2 201)), (1, .int (nI (k + 1)))] rfl ?_
                exact ih (k + 1) (PS y (q + 1) c r d x) (q + 1) (by omega) (by omega) (PO_PS hyP _ _ _ _ _) (by rw [PS_lo _ _ _ _ _ _ (by omega)]; exact hyl) (PS_70 _ _ _ _ _ _) (by have := c4.1; omega) (by rw [← hr, show lenN z + 1 - k = (lenN z + 1 - (k + 1)) + 1 from by omega, ffK, if_neg hok, hE, if_neg hne, if_neg (not_not_intro c4), hq, PS_u70])
              · -- on 50
                refine g_z (z2 := PS y q c r d x) (if_neg c4) ?_
                refine g_aload_n hX 0 dX4_findFault_50 rfl ?_
                refine c_g_Pad_2 hX i_X4_findFault_wsX40 (List.mem_of_getElem? (i := 1) rfl) dX4_findFault_51 ?_
                refine g_top (nI q) (rfl) ?_
                refine ret _ _ _ _ dX4_findFault_54 ?_
                rw [← hr, show lenN z + 1 - k = (lenN z + 1 - (k + 1)) + 1 from by omega, ffK, if_neg hok, hE, if_neg hne, if_pos c4, hq]; exact ⟨rfl, rfl⟩
            · -- on 38
              have heq : q = lenN y := by
                have := (nI_eq (by omega) (by omega)).mp (Decidable.not_not.mp c3); omega
              refine g_bipush hX (-6) dX4_findFault_38 (by decide) ?_
              refine ret _ _ _ _ dX4_findFault_40 ?_
              rw [← hr, show lenN z + 1 - k = (lenN z + 1 - (k + 1)) + 1 from by omega, ffK, if_neg hok, hE, if_pos heq, hq]; exact ⟨rfl, rfl⟩
          · -- on 22
            have hok := Decidable.not_not.mp c2
            refine g_aload_n hX 0 dX4_findFault_22 rfl ?_
            refine c_g_Pad_2 hX i_X4_findFault_wsX40 (List.mem_of_getElem? (i := 1) rfl) dX4_findFault_23 ?_
            refine g_top (nI q) (rfl) ?_
            refine ret _ _ _ _ dX4_findFault_26 ?_
            rw [← hr, show lenN z + 1 - k = (lenN z + 1 - (k + 1)) + 1 from by omega, ffK, if_pos hok, hE, hq]; exact ⟨rfl, rfl⟩
    refine g_sub [1, 0] [(0, .ref (G.2.2 201)), (1, .int 0)] rfl ?_
    exact loop7 ((lenN z + 1) + 1) 0 (u2 z 70 0 0) 0 (by omega) (Nat.zero_le _) (PO_of hP (u2_f (by decide)) (u2_f (by decide))) (u2_f (by decide)) (u2_s _ _ _ _) (Nat.zero_le _) rfl
def rm_X4_sizeOf : Room := { frames := 0, cells := 0, slots := 0, locals := 0 }
set_option maxHeartbeats 4000000 in
set_option maxRecDepth 100000 in
theorem c_X4_sizeOf (l : Launch) (G : MG) (z : St) {c : Int64}  : CIc l G yX4_sizeOf wsX4_sizeOf rm_X4_sizeOf [.long c] z (fun ρ ζ => ρ = szK 8 0 c ∧ ζ = z) := by
  refine ci_of (own := RX4) (cc := cX4_sizeOf) (maxL := 7) (ret := .int) (by decide +kernel) rfl rfl ?_ (Nat.le_of_ble_eq_true rfl) (KQ_mv (ExC_mv G)) ?_
  · intro v z' _; rfl
  · intro X hX ret
    refine g_lv (lv' := [(0, .long c)]) rfl ?_
    refine g_lload_n hX 0 dX4_sizeOf_0 rfl ?_
    refine g_lstore_n hX [(2, .long c), (0, .long c)] dX4_sizeOf_1 (by decide) rfl ?_
    refine g_iconst hX 0 dX4_sizeOf_2 (by decide) ?_
    refine g_istore hX [(4, .int 0), (2, .long c), (0, .long c)] dX4_sizeOf_3 (by decide) rfl ?_
    have loop5 : ∀ (nf : Nat) (k : Nat) (r : Int64), (8 < k + nf) → (k ≤ 8) → (szK (8 - k) k r = szK 8 0 c) → Go X (z) 5 [(0, .long c), (2, .long r), (4, .int (nI k))] [] := by
      intro nf
      induction nf with
      | zero =>
        intro k r hmu hk hr
        exfalso; omega
      | succ nf ih =>
        intro k r hmu hk hr
        refine g_iload hX 2 dX4_sizeOf_5 rfl ?_
        refine g_bipush hX 8 dX4_sizeOf_7 (by decide) ?_
        refine g_ic_ge hX 59 dX4_sizeOf_9 (by decide) (fun c1 => ?_) (fun c1 => ?_)
        · -- jump 59
          have hke : k = 8 := by
            have := (nI_leI (a := 8) (by omega) (by omega)).mp c1; omega
          refine g_bipush hX 8 dX4_sizeOf_59 (by decide) ?_
          refine ret _ _ _ _ dX4_sizeOf_61 ?_
          refine ⟨?_, rfl⟩
          rw [← hr, hke, Nat.sub_self]; rfl
        · -- on 12
          have hkn : k < 8 := Nat.lt_of_not_le (fun q => c1 (nI_le (a := 8) q (by omega)))
          refine g_lload_n hX 1 dX4_sizeOf_12 rfl ?_
          refine g_lconst hX 0 dX4_sizeOf_13 (by decide) ?_
          refine g_lcmp hX dX4_sizeOf_14 ?_
          refine g_if_ne hX 21 dX4_sizeOf_15 (by decide) (fun c2 => ?_) (fun c2 => ?_)
          · -- jump 21
            have h0 : ¬ r = 0 := fun e => c2 ((lg_cmp_eq _ _).mpr e)
            refine g_lload_n hX 1 dX4_sizeOf_21 rfl ?_
            refine g_ldc2 hX 255 dX4_sizeOf_22 (List.mem_of_getElem? (i := 1) rfl) ?_
            refine g_land hX dX4_sizeOf_25 ?_
            refine g_lstore hX [(5, .long (r &&& 255)), (0, .long c), (2, .long r), (4, .int (nI k))] dX4_sizeOf_26 (by decide) rfl ?_
            refine g_lload hX 0 dX4_sizeOf_28 rfl ?_
            refine g_ldc2 hX 33 dX4_sizeOf_30 (List.mem_of_getElem? (i := 2) rfl) ?_
            refine g_lcmp hX dX4_sizeOf_33 ?_
            refine g_if_lt hX 46 dX4_sizeOf_34 (by decide) (fun c3 => ?_) (fun c3 => ?_)
            · -- jump 46
              have h33 := (lg_cmp_lt _ _).mp c3
              refine g_iconst hX 0 dX4_sizeOf_46 (by decide) ?_
              refine ret _ _ _ _ dX4_sizeOf_47 ?_
              refine ⟨?_, rfl⟩
              rw [← hr, show 8 - k = (8 - (k + 1)) + 1 from by omega, szK, if_neg h0, if_pos]
              first | exact Or.inl h33 | exact Or.inr h126
            · -- on 37
              have h33 : ¬ (r &&& 255 < 33) := fun e => c3 ((lg_cmp_lt _ _).mpr e)
              refine g_lload hX 0 dX4_sizeOf_37 rfl ?_
              refine g_ldc2 hX 126 dX4_sizeOf_39 (List.mem_of_getElem? (i := 3) rfl) ?_
              refine g_lcmp hX dX4_sizeOf_42 ?_
              refine g_if_le hX 48 dX4_sizeOf_43 (by decide) (fun c4 => ?_) (fun c4 => ?_)
              · -- jump 48
                have h126 := (lg_cmp_le _ _).mp c4
                refine g_lload_n hX 2 dX4_sizeOf_48 rfl ?_
                refine g_bipush hX 8 dX4_sizeOf_49 (by decide) ?_
                refine g_lushr hX dX4_sizeOf_51 ?_
                refine g_lstore_n hX [(2, .long ((r.toUInt64 >>> ((8 : Int32).toInt64.toUInt64 &&& Int64.toUInt64 63)).toInt64)), (5, .long (r &&& 255)), (0, .long c), (4, .int (nI k))] dX4_sizeOf_52 (by decide) rfl ?_
                refine g_iinc hX (nI (k + 1)) 3 [(4, .int (nI (k + 1))), (2, .long ((r.toUInt64 >>> ((8 : Int32).toInt64.toUInt64 &&& Int64.toUInt64 63)).toInt64)), (5, .long (r &&& 255)), (0, .long c)] dX4_sizeOf_53 rfl (nI_1 k) (by decide) rfl ?_
                refine g_goto hX 5 dX4_sizeOf_56 (by decide) ?_
                -- back to 5
                refine g_sub [3, 1, 0] [(0, .long c), (2, .long ((r.toUInt64 >>> ((8 : Int32).toInt64.toUInt64 &&& Int64.toUInt64 63)).toInt64)), (4, .int (nI (k + 1)))] rfl ?_
                exact ih (k + 1) (shr8 r) (by omega) (by omega) (by rw [← hr, show 8 - k = (8 - (k + 1)) + 1 from by omega, szK, if_neg h0, if_neg (fun h => h.elim h33 (fun h => h h126))])
              · -- on 46
                have h126 : ¬ (r &&& 255 ≤ 126) := fun e => c4 ((lg_cmp_le _ _).mpr e)
                refine g_iconst hX 0 dX4_sizeOf_46 (by decide) ?_
                refine ret _ _ _ _ dX4_sizeOf_47 ?_
                refine ⟨?_, rfl⟩
                rw [← hr, show 8 - k = (8 - (k + 1)) + 1 from by omega, szK, if_neg h0, if_pos]
                first | exact Or.inl h33 | exact Or.inr h126
          · -- on 18
            have h0 : r = 0 := (lg_cmp_eq _ _).mp (Decidable.not_not.mp c2)
            refine g_iload hX 2 dX4_sizeOf_18 rfl ?_
            refine ret _ _ _ _ dX4_sizeOf_20 ?_
            refine ⟨?_, rfl⟩
            rw [← hr, show 8 - k = (8 - (k + 1)) + 1 from by omega, szK, if_pos h0]
    refine g_sub [2, 1, 0] [(0, .long c), (2, .long c), (4, .int 0)] rfl ?_
    exact loop5 (8 + 1) 0 c (by omega) (by omega) rfl
def rm_X4_append : Room := { frames := 0, cells := 0, slots := 0, locals := 0 }
theorem i_X4_append_wsX40 : ∀ w ∈ wsX40, w ∈ wsX4_append := fun w h => List.mem_cons_of_mem _ (List.mem_append_right _ h)
set_option maxHeartbeats 4000000 in
set_option maxRecDepth 100000 in
theorem c_X4_append (l : Launch) (G : MG) (hA : Ap 203 G.2.2) (z : St) {c : Int64} {n : Nat} (hP : PO z) (hn : lenN z + n ≤ 60) : CVc l G yX4_append wsX4_append rm_X4_append [.ref (G.2.2 201), .long c, .int (nI n)] z (fun ζ => ζ = apd c n z) := by
  refine cv_of (own := RX4) (cc := cX4_append) (maxL := 5) (by decide +kernel) rfl rfl (Nat.le_of_ble_eq_true rfl) (KQ_mv (ExC_mv G)) ?_
  intro X hX ret
  refine g_lv (lv' := [(0, .ref (G.2.2 201)), (1, .long c), (3, .int (nI n))]) rfl ?_
  obtain ⟨e69, h60⟩ := pL hP
  refine g_iload_n hX 2 dX4_append_0 rfl ?_
  refine g_iconst hX 1 dX4_append_1 (by decide) ?_
  refine g_isub hX dX4_append_2 ?_
  refine g_istore hX [(4, .int ((nI n) - 1)), (0, .ref (G.2.2 201)), (1, .long c), (3, .int (nI n))] dX4_append_3 (by decide) rfl ?_
  have loop5 : ∀ (nf : Nat) (b : Nat) (y : St), (b < nf) → (y 69 0 = nI (lenN y)) → (lenN y + b ≤ 60) → (apd c b y = apd c n z) → Go X (y) 5 [(0, .ref (G.2.2 201)), (1, .long c), (3, .int (nI n)), (4, .int (nI b - 1))] [] := by
    intro nf
    induction nf with
    | zero =>
      intro b y hmu hy69 hyl hr
      exfalso; omega
    | succ nf ih =>
      intro b y hmu hy69 hyl hr
      refine g_iload hX 3 dX4_append_5 rfl ?_
      refine g_if_lt hX 48 dX4_append_7 (by decide) (fun c1 => ?_) (fun c1 => ?_)
      · -- jump 48
        have hb0 : b = 0 := by
          cases b with
          | zero => rfl
          | succ m => exact absurd c1 (by rw [nI_pred]; exact nI_pos (by omega))
        refine ret _ _ _ dX4_append_48 ?_
        rw [← hr, hb0]; rfl
      · -- on 10
        obtain ⟨b1, rfl⟩ : ∃ b1, b = b1 + 1 := by
          cases b with
          | zero => exact absurd (show nI 0 - 1 < 0 from by decide) c1
          | succ m => exact ⟨m, rfl⟩
        refine g_lv (lv' := [(0, .ref (G.2.2 201)), (1, .long c), (3, .int (nI n)), (4, .int (nI b1))]) (by rw [show (nI (b1 + 1) - 1) = (nI b1) from nI_pred b1]) ?_
        refine g_aload_n hX 0 dX4_append_10 rfl ?_
        refine c_g_Pad_0 hX i_X4_append_wsX40 (List.mem_of_getElem? (i := 1) rfl) dX4_append_11 ?_
        refine g_aload_n hX 0 dX4_append_14 rfl ?_
        refine c_g_Pad_1 hX i_X4_append_wsX40 (List.mem_of_getElem? (i := 2) rfl) dX4_append_15 ?_
        refine g_lload_n hX 1 dX4_append_18 rfl ?_
        refine g_bipush hX 8 dX4_append_19 (by decide) ?_
        refine g_iload hX 3 dX4_append_21 rfl ?_
        refine g_imul hX dX4_append_23 ?_
        refine g_lushr hX dX4_append_24 ?_
        refine g_ldc2 hX 255 dX4_append_25 (List.mem_of_getElem? (i := 3) rfl) ?_
        refine g_land hX dX4_append_28 ?_
        refine g_l2i hX dX4_append_29 ?_
        refine g_i2c hX dX4_append_30 ?_
        refine c_st_signs hX hA (lenN y) hy69 (by omega) (pk_vc _) dX4_append_31 ?_
        refine g_aload_n hX 0 dX4_append_32 rfl ?_
        refine g_dup hX dX4_append_33 rfl ?_
        refine c_g_Pad_1 hX i_X4_append_wsX40 (List.mem_of_getElem? (i := 2) rfl) dX4_append_34 ?_
        refine g_top (y 69 0) (by simp [u2]) ?_
        refine g_iconst hX 1 dX4_append_37 (by decide) ?_
        refine g_iadd hX dX4_append_38 ?_
        refine c_p_Pad_1 hX hA i_X4_append_wsX40 (List.mem_of_getElem? (i := 2) rfl) dX4_append_39 ?_
        refine g_iinc hX ((nI b1) + -1) 3 [(4, .int ((nI b1) + -1)), (0, .ref (G.2.2 201)), (1, .long c), (3, .int (nI n))] dX4_append_42 rfl rfl (by decide) rfl ?_
        refine g_goto hX 5 dX4_append_45 (by decide) ?_
        -- back to 5
        refine g_sub [1, 2, 3, 0] [(0, .ref (G.2.2 201)), (1, .long c), (3, .int (nI n)), (4, .int ((nI b1) + -1))] rfl ?_
        have e4 : ((nI b1) + -1 : Int32) = nI b1 - 1 := by
          show nI b1 + (-1) = nI b1 - 1
          rw [Int32.sub_eq_add_neg]
        refine g_lv (lv' := [(0, .ref (G.2.2 201)), (1, .long c), (3, .int (nI n)), (4, .int (nI b1 - 1))]) (by rw [e4]) ?_
        exact ih b1 (u2 (u2 y 68 (lenN y) ((((((c.toUInt64 >>> ((8 * (nI b1) : Int32).toInt64.toUInt64 &&& Int64.toUInt64 63)).toInt64) &&& 255).toInt32).toUInt32 % 65536).toInt32)) 69 0 ((y 69 0) + 1)) (by omega) (by rw [len_u69, u2_s, hy69, nI_1, cn_nI (by omega)]) (by rw [len_u69, hy69, nI_1, cn_nI (by omega)]; omega) (by rw [← hr]; rfl)
  refine g_sub [1, 2, 3, 0] [(0, .ref (G.2.2 201)), (1, .long c), (3, .int (nI n)), (4, .int ((nI n) - 1))] rfl ?_
  exact loop5 (n + 1) n z (by omega) e69 hn rfl
def rm_X6_put : Room := { frames := 1, cells := 0, slots := 0, locals := 26 }
theorem i_X6_put_wsX40 : ∀ w ∈ wsX40, w ∈ wsX6_put := fun w h => List.mem_cons_of_mem _ (List.mem_append_right _ h)
theorem i_X6_put_wsX60 : ∀ w ∈ wsX60, w ∈ wsX6_put := fun w h => List.mem_cons_of_mem _ (List.mem_append_left _ (List.mem_append_right _ h))
theorem k_X6_put_X4_append : CW rm_X6_put wsX6_put RX6 RX4 268 yX4_append cX4_append 5 none wsX4_append rm_X4_append 2 := ⟨gX6_put_X4_append, ⟨_, rfl⟩, rfl, rfl, ⟨rfl, by decide +kernel, by decide +kernel, by decide +kernel⟩, by decide, by decide⟩
theorem k_X6_put_X4_sizeOf : CT2 rm_X6_put wsX6_put RX6 264 yX4_sizeOf cX4_sizeOf 7 (some .int) wsX4_sizeOf rm_X4_sizeOf 1 := ⟨gX6_put_X4_sizeOf, ⟨_, rfl⟩, rfl, rfl, ⟨by decide +kernel, by decide +kernel, by decide +kernel⟩, by decide, by decide⟩
set_option maxHeartbeats 4000000 in
set_option maxRecDepth 100000 in
theorem c_X6_put (l : Launch) (G : MG) (hA : Ap 203 G.2.2) (z : St) {c : Int64} (hP : PO z) : CIc l G yX6_put wsX6_put rm_X6_put [.ref (G.2.2 192), .long c] z (fun ρ ζ => ρ = (spPut z c).1 ∧ ζ = (spPut z c).2) := by
  refine ci_of (own := RX6) (cc := cX6_put) (maxL := 4) (ret := .int) (by decide +kernel) rfl rfl ?_ (Nat.le_of_ble_eq_true rfl) (KQ_mv (ExC_mv G)) ?_
  · intro v z' _; rfl
  · intro X hX ret
    refine g_lv (lv' := [(0, .ref (G.2.2 192)), (1, .long c)]) rfl ?_
    obtain ⟨e69, h60⟩ := pL hP
    obtain ⟨j, hj8, hj⟩ := szK_rng 8 0 c rfl
    have hjc : cn (szK 8 0 c) = j := by rw [hj, cn_nI (by omega)]
    have hsz : szK 8 0 c = nI (cn (szK 8 0 c)) := by rw [hjc]; exact hj
    refine g_lload_n hX 1 dX6_put_0 rfl ?_
    refine g_ctE hX (As := [.long c]) (rest := []) (c_X4_sizeOf l G z (c := c) ) k_X6_put_X4_sizeOf rfl rfl (Nat.le_of_ble_eq_true rfl) dX6_put_1 ?_
    refine g_istore_n hX [(3, .int (szK 8 0 c)), (0, .ref (G.2.2 192)), (1, .long c)] dX6_put_4 (by decide) rfl ?_
    refine g_iload_n hX 0 dX6_put_5 rfl ?_
    refine g_if_ne hX 12 dX6_put_6 (by decide) (fun c1 => ?_) (fun c1 => ?_)
    · -- jump 12
      refine g_aload_n hX 1 dX6_put_12 rfl ?_
      refine c_g_Main_4 hX i_X6_put_wsX60 (List.mem_of_getElem? (i := 1) rfl) dX6_put_13 ?_
      refine c_g_Pad_1 hX i_X6_put_wsX40 (List.mem_of_getElem? (i := 2) rfl) dX6_put_16 ?_
      refine g_iload_n hX 0 dX6_put_19 rfl ?_
      refine g_iadd hX dX6_put_20 ?_
      refine g_bipush hX 60 dX6_put_21 (by decide) ?_
      refine g_ic_le hX 29 dX6_put_23 (by decide) (fun c2 => ?_) (fun c2 => ?_)
      · -- jump 29
        have hle : lenN z + cn (szK 8 0 c) ≤ 60 := by
          rw [hsz, e69, nI_add] at c2; exact (nI_leI (b := 60) (by omega) (by omega)).mp c2
        refine g_aload_n hX 1 dX6_put_29 rfl ?_
        refine c_g_Main_4 hX i_X6_put_wsX60 (List.mem_of_getElem? (i := 1) rfl) dX6_put_30 ?_
        refine g_lload_n hX 2 dX6_put_33 rfl ?_
        refine g_iload_n hX 0 dX6_put_34 rfl ?_
        refine g_st (st2 := [.int (nI (cn (szK 8 0 c))), .long c, .ref (G.2.2 201)]) (by rw [← (show (szK 8 0 c) = nI (cn (szK 8 0 c)) from hsz)]) ?_
        refine g_cvvE hX (As := [.long c, .int (nI (cn (szK 8 0 c)))]) (rest := []) (c_X4_append l G hA z (c := c) (n := (cn (szK 8 0 c))) (hP := (by assumption)) (hn := hle)) k_X6_put_X4_append rc_Pad rfl rfl (Nat.le_of_ble_eq_true rfl) dX6_put_35 ?_
        refine g_aload_n hX 1 dX6_put_38 rfl ?_
        refine c_g_Main_4 hX i_X6_put_wsX60 (List.mem_of_getElem? (i := 1) rfl) dX6_put_39 ?_
        refine c_g_Pad_1 hX i_X6_put_wsX40 (List.mem_of_getElem? (i := 2) rfl) dX6_put_42 ?_
        refine ret _ _ _ _ dX6_put_45 ?_
        first | (simp [spPut, c1, c2]; done) | grind [spPut]
      · -- on 26
        refine g_bipush hX (-4) dX6_put_26 (by decide) ?_
        refine ret _ _ _ _ dX6_put_28 ?_
        first | (simp [spPut, c1, c2]; done) | grind [spPut]
    · -- on 9
      refine g_bipush hX (-2) dX6_put_9 (by decide) ?_
      refine ret _ _ _ _ dX6_put_11 ?_
      first | (simp [spPut, c1]; done) | grind [spPut]
def rm_X6_fault : Room := { frames := 4, cells := 0, slots := 0, locals := 86 }
theorem i_X6_fault_wsX60 : ∀ w ∈ wsX60, w ∈ wsX6_fault := fun w h => List.mem_cons_of_mem _ (List.mem_append_left _ (List.mem_append_right _ h))
theorem k_X6_fault_X4_findFault : CW rm_X6_fault wsX6_fault RX6 RX4 272 yX4_findFault cX4_findFault 2 (some .int) wsX4_findFault rm_X4_findFault 0 := ⟨gX6_fault_X4_findFault, ⟨_, rfl⟩, rfl, rfl, ⟨rfl, by decide +kernel, by decide +kernel, by decide +kernel⟩, by decide, by decide⟩
set_option maxHeartbeats 4000000 in
set_option maxRecDepth 100000 in
theorem c_X6_fault (l : Launch) (G : MG) (hA : Ap 203 G.2.2) (z : St)  (hP : PO z) : CIc l G yX6_fault wsX6_fault rm_X6_fault [.ref (G.2.2 192)] z (fun ρ ζ => ρ = (spFault z).1 ∧ ζ = (spFault z).2) := by
  refine ci_of (own := RX6) (cc := cX6_fault) (maxL := 1) (ret := .int) (by decide +kernel) rfl rfl ?_ (Nat.le_of_ble_eq_true rfl) (KQ_mv (ExC_mv G)) ?_
  · intro v z' _; rfl
  · intro X hX ret
    refine g_lv (lv' := [(0, .ref (G.2.2 192))]) rfl ?_
    refine g_aload_n hX 0 dX6_fault_0 rfl ?_
    refine c_g_Main_4 hX i_X6_fault_wsX60 (List.mem_of_getElem? (i := 1) rfl) dX6_fault_1 ?_
    refine g_cvE hX (As := []) (rest := []) (c_X4_findFault l G hA z  (hP := (by assumption))) k_X6_fault_X4_findFault rc_Pad rfl rfl (Nat.le_of_ble_eq_true rfl) dX6_fault_4 ?_
    refine ret _ _ _ _ dX6_fault_7 ?_
    exact ⟨rfl, rfl⟩
def rm_X6_load : Room := { frames := 4, cells := 0, slots := 0, locals := 86 }
theorem i_X6_load_wsX40 : ∀ w ∈ wsX40, w ∈ wsX6_load := fun w h => List.mem_cons_of_mem _ (List.mem_append_left _ (List.mem_append_left _ (List.mem_append_left _ (List.mem_append_right _ h))))
theorem i_X6_load_wsX60 : ∀ w ∈ wsX60, w ∈ wsX6_load := fun w h => List.mem_cons_of_mem _ (List.mem_append_left _ (List.mem_append_left _ (List.mem_append_left _ (List.mem_append_left _ (List.mem_append_right _ h)))))
theorem k_X6_load_X4_findFault : CW rm_X6_load wsX6_load RX6 RX4 272 yX4_findFault cX4_findFault 2 (some .int) wsX4_findFault rm_X4_findFault 0 := ⟨gX6_load_X4_findFault, ⟨_, rfl⟩, rfl, rfl, ⟨rfl, by decide +kernel, by decide +kernel, by decide +kernel⟩, by decide, by decide⟩
theorem k_X6_load_X4_readApplication : CW rm_X6_load wsX6_load RX6 RX4 278 yX4_readApplication cX4_readApplication 1 (some .boolean) wsX4_readApplication rm_X4_readApplication 0 := ⟨gX6_load_X4_readApplication, ⟨_, rfl⟩, rfl, rfl, ⟨rfl, by decide +kernel, by decide +kernel, by decide +kernel⟩, by decide, by decide⟩
theorem k_X6_load_X4_readSign : CW rm_X6_load wsX6_load RX6 RX4 288 yX4_readSign cX4_readSign 2 (some .boolean) wsX4_readSign rm_X4_readSign 1 := ⟨gX6_load_X4_readSign, ⟨_, rfl⟩, rfl, rfl, ⟨rfl, by decide +kernel, by decide +kernel, by decide +kernel⟩, by decide, by decide⟩
theorem k_X6_load_X6_apply : CW rm_X6_load wsX6_load RX6 RX6 285 yX6_apply cX6_apply 5 (some .int) wsX6_apply rm_X6_apply 4 := ⟨gX6_load_X6_apply, ⟨_, rfl⟩, rfl, rfl, ⟨rfl, by decide +kernel, by decide +kernel, by decide +kernel⟩, by decide, by decide⟩
set_option maxHeartbeats 4000000 in
set_option maxRecDepth 100000 in
theorem c_X6_load (l : Launch) (G : MG) (hA : Ap 203 G.2.2) (z : St)  (hI : IO z) (hP : PO z) : CIc l G yX6_load wsX6_load rm_X6_load [.ref (G.2.2 192)] z (fun ρ ζ => ρ = (spLoad z).1 ∧ ζ = (spLoad z).2) := by
  refine ci_of (own := RX6) (cc := cX6_load) (maxL := 4) (ret := .int) (by decide +kernel) rfl rfl ?_ (Nat.le_of_ble_eq_true rfl) (KQ_mv (ExC_mv G)) ?_
  · intro v z' _; rfl
  · intro X hX ret
    refine g_lv (lv' := [(0, .ref (G.2.2 192))]) rfl ?_
    obtain ⟨e69, h60⟩ := pL hP
    refine g_aload_n hX 0 dX6_load_0 rfl ?_
    refine c_g_Main_4 hX i_X6_load_wsX60 (List.mem_of_getElem? (i := 1) rfl) dX6_load_1 ?_
    refine g_cvE hX (As := []) (rest := []) (c_X4_findFault l G hA z  (hP := (by assumption))) k_X6_load_X4_findFault rc_Pad rfl rfl (Nat.le_of_ble_eq_true rfl) dX6_load_4 ?_
    refine g_bipush hX (-6) dX6_load_7 (by decide) ?_
    refine g_ic_eq hX 15 dX6_load_9 (by decide) (fun c1 => ?_) (fun c1 => ?_)
    · -- jump 15
      have h6 := c1
      refine g_iconst hX 0 dX6_load_15 (by decide) ?_
      refine g_istore_n hX [(1, .int 0), (0, .ref (G.2.2 192))] dX6_load_16 (by decide) rfl ?_
      refine g_iconst hX 1 dX6_load_17 (by decide) ?_
      refine g_istore_n hX [(2, .int 1), (1, .int 0), (0, .ref (G.2.2 192))] dX6_load_18 (by decide) rfl ?_
      refine g_aload_n hX 2 dX6_load_19 rfl ?_
      refine c_g_Main_4 hX i_X6_load_wsX60 (List.mem_of_getElem? (i := 1) rfl) dX6_load_20 ?_
      refine g_iconst hX 0 dX6_load_23 (by decide) ?_
      refine c_p_Pad_2 hX hA i_X6_load_wsX40 (List.mem_of_getElem? (i := 2) rfl) dX6_load_24 ?_
      refine g_iconst hX 0 dX6_load_27 (by decide) ?_
      refine g_istore_n hX [(3, .int 0), (2, .int 1), (1, .int 0), (0, .ref (G.2.2 192))] dX6_load_28 (by decide) rfl ?_
      have loop29 : ∀ (nf : Nat) (k : Nat) (y : St) (p : Nat) (m : Int32) (mr : Int32), ((lenN z) < k + nf) → (k ≤ lenN z) → (IO y) → (PO y) → (y 69 = z 69) → ((mr = 1 ∧ y 70 0 = nI p ∧ p ≤ lenN z ∧ ldK (lenN z - k) y p m = ldK (lenN z) (u2 (spFault z).2 70 0 0) 0 0) ∨ (mr = 0 ∧ (m, y) = ldK (lenN z) (u2 (spFault z).2 70 0 0) 0 0)) → Go X (y) 29 [(0, .ref (G.2.2 192)), (1, .int m), (2, .int mr), (3, .int (nI k))] [] := by
        intro nf
        induction nf with
        | zero =>
          intro k y p m mr hmu hk hIy hyP hyl hcase
          exfalso; omega
        | succ nf ih =>
          intro k y p m mr hmu hk hIy hyP hyl hcase
          have hyn : lenN y = lenN z := by unfold lenN; rw [hyl]
          have hy69 : y 69 0 = nI (lenN z) := by rw [hyl]; exact e69
          refine g_iload_n hX 2 dX6_load_29 rfl ?_
          refine g_if_eq hX 116 dX6_load_30 (by decide) (fun c2 => ?_) (fun c2 => ?_)
          · -- jump 116
            have hRy : (m, y) = ldK (lenN z) (u2 (spFault z).2 70 0 0) 0 0 := by
              rcases hcase with h | h
              · exact absurd (c2.symm.trans h.1) (by decide)
              · exact h.2
            refine g_aload_n hX 0 dX6_load_116 rfl ?_
            refine c_g_Main_4 hX i_X6_load_wsX60 (List.mem_of_getElem? (i := 1) rfl) dX6_load_117 ?_
            refine g_iconst hX 0 dX6_load_120 (by decide) ?_
            refine c_p_Pad_1 hX hA i_X6_load_wsX40 (List.mem_of_getElem? (i := 3) rfl) dX6_load_121 ?_
            refine g_iload_n hX 1 dX6_load_124 rfl ?_
            refine ret _ _ _ _ dX6_load_125 ?_
            rw [spLoad, if_neg (not_not_intro h6), ← hRy]; exact ⟨rfl, rfl⟩
          · -- on 33
            obtain ⟨-, hyp, hpl, hR⟩ : mr = 1 ∧ y 70 0 = nI p ∧ p ≤ lenN z ∧ ldK (lenN z - k) y p m = ldK (lenN z) (u2 (spFault z).2 70 0 0) 0 0 := by
              rcases hcase with h | h
              · exact h
              · exact absurd h.1 c2
            refine g_iload_n hX 3 dX6_load_33 rfl ?_
            refine g_aload_n hX 0 dX6_load_34 rfl ?_
            refine c_g_Main_4 hX i_X6_load_wsX60 (List.mem_of_getElem? (i := 1) rfl) dX6_load_35 ?_
            refine c_g_Pad_1 hX i_X6_load_wsX40 (List.mem_of_getElem? (i := 3) rfl) dX6_load_38 ?_
            refine g_ic_ge hX 116 dX6_load_41 (by decide) (fun c3 => ?_) (fun c3 => ?_)
            · -- jump 116
              have hRy : (m, y) = ldK (lenN z) (u2 (spFault z).2 70 0 0) 0 0 := by
                have hke : k = lenN z := by
                  rw [hy69] at c3; have := (nI_leI (by omega) (by omega)).mp c3; omega
                rw [← hR, hke, Nat.sub_self]; rfl
              refine g_aload_n hX 0 dX6_load_116 rfl ?_
              refine c_g_Main_4 hX i_X6_load_wsX60 (List.mem_of_getElem? (i := 1) rfl) dX6_load_117 ?_
              refine g_iconst hX 0 dX6_load_120 (by decide) ?_
              refine c_p_Pad_1 hX hA i_X6_load_wsX40 (List.mem_of_getElem? (i := 3) rfl) dX6_load_121 ?_
              refine g_iload_n hX 1 dX6_load_124 rfl ?_
              refine ret _ _ _ _ dX6_load_125 ?_
              rw [spLoad, if_neg (not_not_intro h6), ← hRy]; exact ⟨rfl, rfl⟩
            · -- on 44
              have hkn : k < lenN z := by
                rw [hy69] at c3; exact Nat.lt_of_not_le (fun q => c3 (nI_le q (by omega)))
              refine g_aload_n hX 0 dX6_load_44 rfl ?_
              refine c_g_Main_4 hX i_X6_load_wsX60 (List.mem_of_getElem? (i := 1) rfl) dX6_load_45 ?_
              refine g_cvE hX (As := []) (rest := []) (c_X4_readApplication l G hA y (p := p) (hP := hyP) (hp := hyp) (hpl := (by omega))) k_X6_load_X4_readApplication rc_Pad rfl rfl (Nat.le_of_ble_eq_true rfl) dX6_load_48 ?_
              obtain ⟨q, ac, ar, ad, ax, hq, hpq, hql, hq1⟩ := apR_PS (y := y) (p := p) (by omega)
              have hE : apE y p = q := by unfold apE; rw [hq, PS_70, cn_nI (by omega)]
              refine g_z (z2 := PS y q ac ar ad ax) (hq) ?_
              refine g_pop hX dX6_load_51 rfl ?_
              refine g_aload_n hX 0 dX6_load_52 rfl ?_
              refine g_aload_n hX 0 dX6_load_53 rfl ?_
              refine c_g_Main_4 hX i_X6_load_wsX60 (List.mem_of_getElem? (i := 1) rfl) dX6_load_54 ?_
              refine c_g_Pad_3 hX i_X6_load_wsX40 (List.mem_of_getElem? (i := 4) rfl) dX6_load_57 ?_
              refine g_top (ac) (rfl) ?_
              refine g_aload_n hX 0 dX6_load_60 rfl ?_
              refine c_g_Main_4 hX i_X6_load_wsX60 (List.mem_of_getElem? (i := 1) rfl) dX6_load_61 ?_
              refine c_g_Pad_4 hX i_X6_load_wsX40 (List.mem_of_getElem? (i := 5) rfl) dX6_load_64 ?_
              refine g_top (ar) (rfl) ?_
              refine g_aload_n hX 0 dX6_load_67 rfl ?_
              refine c_g_Main_4 hX i_X6_load_wsX60 (List.mem_of_getElem? (i := 1) rfl) dX6_load_68 ?_
              refine c_g_Pad_5 hX i_X6_load_wsX40 (List.mem_of_getElem? (i := 6) rfl) dX6_load_71 ?_
              refine g_top (ad) (rfl) ?_
              refine g_aload_n hX 0 dX6_load_74 rfl ?_
              refine c_g_Main_4 hX i_X6_load_wsX60 (List.mem_of_getElem? (i := 1) rfl) dX6_load_75 ?_
              refine c_g_Pad_6 hX i_X6_load_wsX40 (List.mem_of_getElem? (i := 7) rfl) dX6_load_78 ?_
              refine g_top (ax) (rfl) ?_
              refine g_cvE hX (As := [.int ac, .int ar, .int ad, .int ax]) (rest := []) (c_X6_apply l G hA (PS y q ac ar ad ax) (c := ac) (r := ar) (d := ad) (p := ax) (hI := (IO_of hIy (fun f hf => PS_lo _ _ _ _ _ _ (by omega))))) k_X6_load_X6_apply rc_Main rfl rfl (Nat.le_of_ble_eq_true rfl) dX6_load_81 ?_
              have hA2 : ldA y p = spApply (PS y q ac ar ad ax) ac ar ad ax := by unfold ldA; rw [hq]; rfl
              have hIA : IO (ldA y p).2 := by rw [hA2]; exact IO_apply (IO_of hIy (fun f hf => PS_lo _ _ _ _ _ _ (by omega))) _ _ _ _
              have hloA : ∀ f, f ≠ 3 ∧ f ≠ 11 ∧ f ≠ 12 ∧ f ≠ 13 ∧ f ≠ 14 ∧ f ≠ 19 → (ldA y p).2 f = PS y q ac ar ad ax f := fun f hf => by rw [hA2]; exact apply_lo _ _ _ _ _ hf
              have h68A : (ldA y p).2 68 = y 68 := (hloA 68 (by decide)).trans (PS_lo _ _ _ _ _ _ (by omega))
              have h69A : (ldA y p).2 69 = y 69 := (hloA 69 (by decide)).trans (PS_lo _ _ _ _ _ _ (by omega))
              have hPA : PO (ldA y p).2 := PO_of hyP h68A h69A
              have hlA : (ldA y p).2 69 = z 69 := h69A.trans hyl
              refine g_z (z2 := (ldA y p).2) (by rw [hA2]) ?_
              refine g_top ((ldA y p).1) (by rw [hA2]) ?_
              refine g_if_lt hX 91 dX6_load_84 (by decide) (fun c4 => ?_) (fun c4 => ?_)
              · -- jump 91
                have hlt := c4
                refine g_iconst hX 0 dX6_load_91 (by decide) ?_
                refine g_istore_n hX [(2, .int 0), (0, .ref (G.2.2 192)), (1, .int m), (3, .int (nI k))] dX6_load_92 (by decide) rfl ?_
                refine g_iload_n hX 0 dX6_load_93 rfl ?_
                refine g_if_eq hX 110 dX6_load_94 (by decide) (fun c5 => ?_) (fun c5 => ?_)
                · -- jump 110
                  refine g_iinc hX (nI (k + 1)) 3 [(3, .int (nI (k + 1))), (2, .int 0), (0, .ref (G.2.2 192)), (1, .int m)] dX6_load_110 rfl (nI_1 k) (by decide) rfl ?_
                  refine g_goto hX 29 dX6_load_113 (by decide) ?_
                  -- back to 29
                  refine g_sub [2, 3, 1, 0] [(0, .ref (G.2.2 192)), (1, .int m), (2, .int 0), (3, .int (nI (k + 1)))] rfl ?_
                  exact ih (k + 1) ((ldA y p).2) p m 0 (by omega) (by omega) hIA hPA hlA (Or.inr ⟨rfl, ld_stop hR hkn hlt⟩)
                · -- on 97
                  exact absurd c5 (by decide)
              · -- on 87
                have hlt := c4
                refine g_iconst hX 1 dX6_load_87 (by decide) ?_
                refine g_goto hX 92 dX6_load_88 (by decide) ?_
                refine g_istore_n hX [(2, .int 1), (0, .ref (G.2.2 192)), (1, .int m), (3, .int (nI k))] dX6_load_92 (by decide) rfl ?_
                refine g_iload_n hX 0 dX6_load_93 rfl ?_
                refine g_if_eq hX 110 dX6_load_94 (by decide) (fun c6 => ?_) (fun c6 => ?_)
                · -- jump 110
                  exact absurd c6 (by decide)
                · -- on 97
                  refine g_iinc hX (m + 1) 2 [(1, .int (m + 1)), (2, .int 1), (0, .ref (G.2.2 192)), (3, .int (nI k))] dX6_load_97 rfl rfl (by decide) rfl ?_
                  refine g_aload_n hX 2 dX6_load_100 rfl ?_
                  refine c_g_Main_4 hX i_X6_load_wsX60 (List.mem_of_getElem? (i := 1) rfl) dX6_load_101 ?_
                  refine g_bipush hX 59 dX6_load_104 (by decide) ?_
                  refine g_cvE hX (As := [.int 59]) (rest := []) (c_X4_readSign l G hA ((ldA y p).2) (s := 59) (p := q) (hP := hPA) (hp := (by rw [hloA 70 (by decide), PS_70])) (hpl := (by unfold lenN; rw [h69A]; exact hql))) k_X6_load_X4_readSign rc_Pad rfl rfl (Nat.le_of_ble_eq_true rfl) dX6_load_106 ?_
                  have hsg : sgnP (ldA y p).2 59 q = sgnP y 59 q := by unfold sgnP lenN; rw [h68A, h69A]
                  refine g_z (z2 := if sgnP y 59 q then u2 (ldA y p).2 70 0 (nI (q + 1)) else (ldA y p).2) (by simp only [hsg]) ?_
                  refine g_top (bi (sgnP y 59 q)) (by simp only [hsg]) ?_
                  refine g_istore_n hX [(2, .int (bi (sgnP y 59 q))), (1, .int (m + 1)), (0, .ref (G.2.2 192)), (3, .int (nI k))] dX6_load_109 (by decide) rfl ?_
                  refine g_iinc hX (nI (k + 1)) 3 [(3, .int (nI (k + 1))), (2, .int (bi (sgnP y 59 q))), (1, .int (m + 1)), (0, .ref (G.2.2 192))] dX6_load_110 rfl (nI_1 k) (by decide) rfl ?_
                  refine g_goto hX 29 dX6_load_113 (by decide) ?_
                  -- back to 29
                  refine g_sub [3, 2, 1, 0] [(0, .ref (G.2.2 192)), (1, .int (m + 1)), (2, .int (bi (sgnP y 59 q))), (3, .int (nI (k + 1)))] rfl ?_
                  exact ih (k + 1) (if sgnP y 59 q then u2 (ldA y p).2 70 0 (nI (q + 1)) else (ldA y p).2) (q + 1) (m + 1) (bi (sgnP y 59 q)) (by omega) (by omega) (by split; exact IO_u2 hIA (by decide); exact hIA) (by split; exact PO_of hPA (u2_f (by decide)) (u2_f (by decide)); exact hPA) (by split; exact (u2_f (by decide)).trans hlA; exact hlA) (ld_next hR hkn hlt hE hyn)
      refine g_sub [3, 2, 1, 0] [(0, .ref (G.2.2 192)), (1, .int 0), (2, .int 1), (3, .int 0)] rfl ?_
      exact loop29 ((lenN z) + 1) 0 (u2 ((spFault z).2) 70 0 0) 0 0 1 (by omega) (Nat.zero_le _) (IO_of hI (fun f hf => by rw [u2_f (by omega), fault_lo z (by omega)])) (PO_of hP (by rw [u2_f (by decide), fault_lo z (by decide)]) (by rw [u2_f (by decide), fault_lo z (by decide)])) (by rw [u2_f (by decide), fault_lo z (by decide)]) (Or.inl ⟨rfl, u2_s _ _ _ _, Nat.zero_le _, rfl⟩)
    · -- on 12
      refine g_bipush hX (-3) dX6_load_12 (by decide) ?_
      refine ret _ _ _ _ dX6_load_14 ?_
      rw [spLoad, if_pos c1]; exact ⟨rfl, rfl⟩
