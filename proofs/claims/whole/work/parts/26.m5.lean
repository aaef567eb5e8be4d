def rm_X7_save : Room := { frames := 1, cells := 0, slots := 0, locals := 22 }
theorem i_X7_save_wsX70 : ∀ w ∈ wsX70, w ∈ wsX7_save := fun w h => List.mem_cons_of_mem _ (List.mem_append_right _ h)
theorem k_X7_save_X7_in : CS rm_X7_save wsX7_save RX7 35 yX7_in cX7_in 3 (some .boolean) wsX7_in rm_X7_in 3 := ⟨gX7_save_X7_in, ⟨_, rfl⟩, rfl, rfl, ⟨rfl, by decide +kernel, by decide +kernel, by decide +kernel⟩, by decide, by decide⟩
set_option maxHeartbeats 4000000 in
set_option maxRecDepth 100000 in
theorem c_X7_save (l : Launch) (G : MG) (hA : Ap 9 G.2.2) (z : St) {x : Int32}  : CIm l G yX7_save wsX7_save rm_X7_save [.ref (G.2.2 0), .int x] z (fun ρ ζ => ρ = (mSave z x).1 ∧ ζ = (mSave z x).2) := by
  refine ci_of (own := RX7) (cc := cX7_save) (maxL := 3) (ret := .int) (by decide +kernel) rfl rfl ?_ (Nat.le_of_ble_eq_true rfl) (KQ_mv (ExM_mv G)) ?_
  · intro v z' _; rfl
  · intro X hX ret
    refine g_lv (lv' := [(0, .ref (G.2.2 0)), (1, .int x)]) rfl ?_
    refine g_iload_n hX 1 dX7_save_0 rfl ?_
    refine g_iconst hX 0 dX7_save_1 (by decide) ?_
    refine g_iconst hX 1 dX7_save_2 (by decide) ?_
    refine g_csE hX (As := [.int x, .int 0, .int 1]) (rest := []) (c_X7_in l G z (x := x) (lo := 0) (hi := 1) ) k_X7_save_X7_in rfl rfl (Nat.le_of_ble_eq_true rfl) dX7_save_3 ?_
    refine g_bi_ne hX 12 dX7_save_6 (by decide) (fun c1 => ?_) (fun c1 => ?_)
    · -- jump 12
      have hx := rng2 c1 (by decide) 1 (by decide) rfl
      refine g_iconst hX 0 dX7_save_12 (by decide) ?_
      refine g_istore_n hX [(2, .int 0), (0, .ref (G.2.2 0)), (1, .int x)] dX7_save_13 (by decide) rfl ?_
      have loop14 : ∀ (nf : Nat) (k : Nat), (478 < k + nf) → (k ≤ 478) → Go X (cpK z (cn x + 1) k (fun j => atF z 0 j)) 14 [(0, .ref (G.2.2 0)), (1, .int x), (2, .int (nI k))] [] := by
        intro nf
        induction nf with
        | zero =>
          intro k hmu hk
          exfalso; omega
        | succ nf ih =>
          intro k hmu hk
          refine g_iload_n hX 2 dX7_save_14 rfl ?_
          refine g_sipush hX 478 dX7_save_15 (by decide) ?_
          refine g_ic_ge hX 45 dX7_save_18 (by decide) (fun c2 => ?_) (fun c2 => ?_)
          · -- jump 45
            have hke : k = 478 := by
              have := (nI_leI (a := 478) (by omega) (by omega)).mp c2; omega
            subst hke
            refine g_aload_n hX 0 dX7_save_45 rfl ?_
            refine m_g_3 hX i_X7_save_wsX70 (List.mem_of_getElem? (i := 3) rfl) dX7_save_46 ?_
            refine g_iload_n hX 1 dX7_save_49 rfl ?_
            refine g_iconst hX 1 dX7_save_50 (by decide) ?_
            refine m_st_isSaved hX hA (cn x) hx.1 (by omega) (Or.inr rfl) dX7_save_51 ?_
            refine g_aload_n hX 0 dX7_save_52 rfl ?_
            refine m_g_0 hX i_X7_save_wsX70 (List.mem_of_getElem? (i := 2) rfl) dX7_save_53 ?_
            refine g_iconst hX 0 dX7_save_56 (by decide) ?_
            refine m_ld_at hX 0 rfl (by decide) dX7_save_57 (v := ((cpK z (cn x + 1) 478 (fun j => atF z 0 j)) 0 0)) rfl ?_
            refine ret _ _ _ _ dX7_save_58 ?_
            rw [mSave, if_neg (not_not_intro c1)]
            exact ⟨cpK_00 z (by omega) (by omega) _ _, rfl⟩
          · -- on 21
            have hkn : k < 478 := Nat.lt_of_not_le (fun q => c2 (nI_le (a := 478) q (by omega)))
            refine g_aload_n hX 0 dX7_save_21 rfl ?_
            refine m_g_2 hX i_X7_save_wsX70 (List.mem_of_getElem? (i := 1) rfl) dX7_save_22 ?_
            refine g_sipush hX 478 dX7_save_25 (by decide) ?_
            refine g_iload_n hX 1 dX7_save_28 rfl ?_
            refine g_imul hX dX7_save_29 ?_
            refine g_iload_n hX 2 dX7_save_30 rfl ?_
            refine g_iadd hX dX7_save_31 ?_
            refine g_aload_n hX 0 dX7_save_32 rfl ?_
            refine m_g_0 hX i_X7_save_wsX70 (List.mem_of_getElem? (i := 2) rfl) dX7_save_33 ?_
            refine g_iload_n hX 2 dX7_save_36 rfl ?_
            refine m_ld_at hX k rfl (by omega) dX7_save_37 (v := atF z 0 k) (cpK_at z (by omega) (by decide) (by omega) _ k) ?_
            refine m_st_slots hX hA (478 * cn x + k) (ix_sl2 hx.1 k) (by omega) dX7_save_38 ?_
            refine g_iinc hX (nI (k + 1)) 2 [(2, .int (nI (k + 1))), (0, .ref (G.2.2 0)), (1, .int x)] dX7_save_39 rfl (nI_1 k) (by decide) rfl ?_
            refine g_goto hX 14 dX7_save_42 (by decide) ?_
            -- back to 14
            refine g_sub [1, 2, 0] [(0, .ref (G.2.2 0)), (1, .int x), (2, .int (nI (k + 1)))] rfl ?_
            have ez : u2 (cpK z (cn x + 1) k (fun j => atF z 0 j)) (gO ((478 * cn x + k) / 478 + 1) (fO ((478 * cn x + k) % 478))) (iO ((478 * cn x + k) % 478)) (atF z 0 k) = cpK z (cn x + 1) (k + 1) (fun j => atF z 0 j) := by
              rw [(sl_dm hkn).1, (sl_dm hkn).2]
              exact cpK_u2 z (by omega) k (fun j => atF z 0 j)
            refine g_z ez ?_
            exact ih (k + 1) (by omega) (by omega)
      refine g_sub [1, 2, 0] [(0, .ref (G.2.2 0)), (1, .int x), (2, .int 0)] rfl ?_
      have ez : z = cpK z (cn x + 1) 0 (fun j => atF z 0 j) := by
        exact (cpK_0 z _ _).symm
      refine g_z ez ?_
      exact loop14 (478 + 1) 0 (by omega) (Nat.zero_le _)
    · -- on 9
      refine g_bipush hX (-2) dX7_save_9 (by decide) ?_
      refine ret _ _ _ _ dX7_save_11 ?_
      rw [mSave, if_pos c1]; exact ⟨rfl, rfl⟩
def rm_X7_restore : Room := { frames := 1, cells := 0, slots := 0, locals := 22 }
theorem i_X7_restore_wsX70 : ∀ w ∈ wsX70, w ∈ wsX7_restore := fun w h => List.mem_cons_of_mem _ (List.mem_append_right _ h)
theorem k_X7_restore_X7_in : CS rm_X7_restore wsX7_restore RX7 35 yX7_in cX7_in 3 (some .boolean) wsX7_in rm_X7_in 3 := ⟨gX7_restore_X7_in, ⟨_, rfl⟩, rfl, rfl, ⟨rfl, by decide +kernel, by decide +kernel, by decide +kernel⟩, by decide, by decide⟩
set_option maxHeartbeats 4000000 in
set_option maxRecDepth 100000 in
theorem c_X7_restore (l : Launch) (G : MG) (hA : Ap 9 G.2.2) (z : St) {x : Int32}  : CIm l G yX7_restore wsX7_restore rm_X7_restore [.ref (G.2.2 0), .int x] z (fun ρ ζ => ρ = (mRestore z x).1 ∧ ζ = (mRestore z x).2) := by
  refine ci_of (own := RX7) (cc := cX7_restore) (maxL := 3) (ret := .int) (by decide +kernel) rfl rfl ?_ (Nat.le_of_ble_eq_true rfl) (KQ_mv (ExM_mv G)) ?_
  · intro v z' _; rfl
  · intro X hX ret
    refine g_lv (lv' := [(0, .ref (G.2.2 0)), (1, .int x)]) rfl ?_
    refine g_iload_n hX 1 dX7_restore_0 rfl ?_
    refine g_iconst hX 0 dX7_restore_1 (by decide) ?_
    refine g_iconst hX 1 dX7_restore_2 (by decide) ?_
    refine g_csE hX (As := [.int x, .int 0, .int 1]) (rest := []) (c_X7_in l G z (x := x) (lo := 0) (hi := 1) ) k_X7_restore_X7_in rfl rfl (Nat.le_of_ble_eq_true rfl) dX7_restore_3 ?_
    refine g_bi_ne hX 12 dX7_restore_6 (by decide) (fun c1 => ?_) (fun c1 => ?_)
    · -- jump 12
      have hx := rng2 c1 (by decide) 1 (by decide) rfl
      refine g_aload_n hX 0 dX7_restore_12 rfl ?_
      refine m_g_3 hX i_X7_restore_wsX70 (List.mem_of_getElem? (i := 1) rfl) dX7_restore_13 ?_
      refine g_iload_n hX 1 dX7_restore_16 rfl ?_
      refine m_ld_isSaved hX (cn x) hx.1 (by omega) dX7_restore_17 ?_
      refine g_if_ne hX 24 dX7_restore_18 (by decide) (fun c2 => ?_) (fun c2 => ?_)
      · -- jump 24
        refine g_iconst hX 0 dX7_restore_24 (by decide) ?_
        refine g_istore_n hX [(2, .int 0), (0, .ref (G.2.2 0)), (1, .int x)] dX7_restore_25 (by decide) rfl ?_
        have loop26 : ∀ (nf : Nat) (k : Nat), (478 < k + nf) → (k ≤ 478) → Go X (cpK z 0 k (fun j => atF z (cn x + 1) j)) 26 [(0, .ref (G.2.2 0)), (1, .int x), (2, .int (nI k))] [] := by
          intro nf
          induction nf with
          | zero =>
            intro k hmu hk
            exfalso; omega
          | succ nf ih =>
            intro k hmu hk
            refine g_iload_n hX 2 dX7_restore_26 rfl ?_
            refine g_sipush hX 478 dX7_restore_27 (by decide) ?_
            refine g_ic_ge hX 57 dX7_restore_30 (by decide) (fun c3 => ?_) (fun c3 => ?_)
            · -- jump 57
              have hke : k = 478 := by
                have := (nI_leI (a := 478) (by omega) (by omega)).mp c3; omega
              subst hke
              refine g_aload_n hX 0 dX7_restore_57 rfl ?_
              refine m_g_0 hX i_X7_restore_wsX70 (List.mem_of_getElem? (i := 2) rfl) dX7_restore_58 ?_
              refine g_iconst hX 0 dX7_restore_61 (by decide) ?_
              refine m_ld_at hX 0 rfl (by decide) dX7_restore_62 (v := ((cpK z 0 478 (fun j => atF z (cn x + 1) j)) 0 0)) rfl ?_
              refine ret _ _ _ _ dX7_restore_63 ?_
              rw [mRestore, if_neg (not_not_intro c1), if_neg c2]
              exact ⟨rfl, rfl⟩
            · -- on 33
              have hkn : k < 478 := Nat.lt_of_not_le (fun q => c3 (nI_le (a := 478) q (by omega)))
              refine g_aload_n hX 0 dX7_restore_33 rfl ?_
              refine m_g_0 hX i_X7_restore_wsX70 (List.mem_of_getElem? (i := 2) rfl) dX7_restore_34 ?_
              refine g_iload_n hX 2 dX7_restore_37 rfl ?_
              refine g_aload_n hX 0 dX7_restore_38 rfl ?_
              refine m_g_2 hX i_X7_restore_wsX70 (List.mem_of_getElem? (i := 3) rfl) dX7_restore_39 ?_
              refine g_sipush hX 478 dX7_restore_42 (by decide) ?_
              refine g_iload_n hX 1 dX7_restore_45 rfl ?_
              refine g_imul hX dX7_restore_46 ?_
              refine g_iload_n hX 2 dX7_restore_47 rfl ?_
              refine g_iadd hX dX7_restore_48 ?_
              refine m_ld_slots hX (478 * cn x + k) (ix_sl2 hx.1 k) (by omega) dX7_restore_49 ?_
              refine g_top (atF z (cn x + 1) k) (by rw [(sl_dm hkn).1, (sl_dm hkn).2]; exact cpK_at z (by decide) (by omega) (by omega) _ k) ?_
              refine m_st_at hX hA k rfl (by omega) dX7_restore_50 ?_
              refine g_iinc hX (nI (k + 1)) 2 [(2, .int (nI (k + 1))), (0, .ref (G.2.2 0)), (1, .int x)] dX7_restore_51 rfl (nI_1 k) (by decide) rfl ?_
              refine g_goto hX 26 dX7_restore_54 (by decide) ?_
              -- back to 26
              refine g_sub [1, 2, 0] [(0, .ref (G.2.2 0)), (1, .int x), (2, .int (nI (k + 1)))] rfl ?_
              have ez : u2 (cpK z 0 k (fun j => atF z (cn x + 1) j)) (gO 0 (fO k)) (iO k) (atF z (cn x + 1) k) = cpK z 0 (k + 1) (fun j => atF z (cn x + 1) j) := by
                exact cpK_u2 z (by decide) k (fun j => atF z (cn x + 1) j)
              refine g_z ez ?_
              exact ih (k + 1) (by omega) (by omega)
        refine g_sub [1, 2, 0] [(0, .ref (G.2.2 0)), (1, .int x), (2, .int 0)] rfl ?_
        have ez : z = cpK z 0 0 (fun j => atF z (cn x + 1) j) := by
          exact (cpK_0 z _ _).symm
        refine g_z ez ?_
        exact loop26 (478 + 1) 0 (by omega) (Nat.zero_le _)
      · -- on 21
        refine g_bipush hX (-5) dX7_restore_21 (by decide) ?_
        refine ret _ _ _ _ dX7_restore_23 ?_
        first | (rw [mRestore, if_pos c1]; exact ⟨rfl, rfl⟩) | (rw [mRestore, if_neg (not_not_intro c1), if_pos (Decidable.not_not.mp c2)]; exact ⟨rfl, rfl⟩)
    · -- on 9
      refine g_bipush hX (-2) dX7_restore_9 (by decide) ?_
      refine ret _ _ _ _ dX7_restore_11 ?_
      first | (rw [mRestore, if_pos c1]; exact ⟨rfl, rfl⟩) | (rw [mRestore, if_neg (not_not_intro c1), if_pos (Decidable.not_not.mp c2)]; exact ⟨rfl, rfl⟩)
def rm_X7_draw : Room := { frames := 1, cells := 0, slots := 0, locals := 21 }
theorem i_X7_draw_wsX70 : ∀ w ∈ wsX70, w ∈ wsX7_draw := fun w h => List.mem_cons_of_mem _ (List.mem_append_right _ h)
theorem k_X7_draw_X7_setting : CW rm_X7_draw wsX7_draw RX7 RX7 63 yX7_setting cX7_setting 2 (some .int) wsX7_setting rm_X7_setting 1 := ⟨gX7_draw_X7_setting, ⟨_, rfl⟩, rfl, rfl, ⟨rfl, by decide +kernel, by decide +kernel, by decide +kernel⟩, by decide, by decide⟩
set_option maxHeartbeats 4000000 in
set_option maxRecDepth 100000 in
theorem c_X7_draw (l : Launch) (G : MG) (hA : Ap 9 G.2.2) (z : St) {t : Int32} (hI : IO z) (hn : 0 < nA z) (hne : ¬ t = 0) (hpk : ¬ tkS z (nA z) ≤ drX z t) : CIm l G yX7_draw wsX7_draw rm_X7_draw [.ref (G.2.2 0), .int t] z (fun ρ ζ => ρ = pickM z (drX z t) (nA z) ∧ ζ = u2 z 4 5 (seedN (z 4 5))) := by
  refine ci_of (own := RX7) (cc := cX7_draw) (maxL := 6) (ret := .int) (by decide +kernel) rfl rfl ?_ (Nat.le_of_ble_eq_true rfl) (KQ_mv (ExM_mv G)) ?_
  · intro v z' _; rfl
  · intro X hX ret
    refine g_lv (lv' := [(0, .ref (G.2.2 0)), (1, .int t)]) rfl ?_
    have h40 := (iNa hI).2
    refine g_bipush hX 75 dX7_draw_0 (by decide) ?_
    refine g_aload_n hX 0 dX7_draw_2 rfl ?_
    refine g_iconst hX 5 dX7_draw_3 (by decide) ?_
    refine g_cvE hX (As := [.int 5]) (rest := [.int 75]) (c_X7_setting l G z (w := 5) (hw := (by decide))) k_X7_draw_X7_setting rc_Model rfl rfl (Nat.le_of_ble_eq_true rfl) dX7_draw_4 ?_
    refine g_imul hX dX7_draw_7 ?_
    refine g_bipush hX 74 dX7_draw_8 (by decide) ?_
    refine g_iadd hX dX7_draw_10 ?_
    refine g_ldc hX 65537 dX7_draw_11 (List.mem_of_getElem? (i := 1) rfl) ?_
    refine g_irem hX dX7_draw_13 (by decide) ?_
    refine g_istore_n hX [(2, .int (((75 * (z 4 5)) + 74) - ((75 * (z 4 5)) + 74) / 65537 * 65537)), (0, .ref (G.2.2 0)), (1, .int t)] dX7_draw_14 (by decide) rfl ?_
    refine g_aload_n hX 1 dX7_draw_15 rfl ?_
    refine m_g_0 hX i_X7_draw_wsX70 (List.mem_of_getElem? (i := 2) rfl) dX7_draw_16 ?_
    refine g_bipush hX 9 dX7_draw_19 (by decide) ?_
    refine g_iload_n hX 0 dX7_draw_21 rfl ?_
    refine g_ldc hX 65536 dX7_draw_22 (List.mem_of_getElem? (i := 3) rfl) ?_
    refine g_ic_ne hX 31 dX7_draw_24 (by decide) (fun c1 => ?_) (fun c1 => ?_)
    · -- jump 31
      refine g_iload_n hX 0 dX7_draw_31 rfl ?_
      refine m_st_at hX hA 9 rfl (by decide) dX7_draw_32 ?_
      refine g_z (z2 := u2 z 4 5 (((75 * (z 4 5)) + 74) - ((75 * (z 4 5)) + 74) / 65537 * 65537)) (rfl) ?_
      refine g_z (z2 := u2 z 4 5 (seedN (z 4 5))) (by first | rw [seedN, if_pos (Decidable.not_not.mp c1)] | rw [seedN, if_neg c1]) ?_
      refine g_aload_n hX 1 dX7_draw_33 rfl ?_
      refine g_iconst hX 5 dX7_draw_34 (by decide) ?_
      refine g_cvE hX (As := [.int 5]) (rest := []) (c_X7_setting l G (u2 z 4 5 (seedN (z 4 5))) (w := 5) (hw := (by decide))) k_X7_draw_X7_setting rc_Model rfl rfl (Nat.le_of_ble_eq_true rfl) dX7_draw_35 ?_
      refine g_top (seedN (z 4 5)) (by simp [u2]) ?_
      refine g_iload_n hX 2 dX7_draw_38 rfl ?_
      refine g_irem hX dX7_draw_39 hne ?_
      refine g_istore_n hX [(3, .int ((seedN (z 4 5)) - (seedN (z 4 5)) / t * t)), (2, .int (((75 * (z 4 5)) + 74) - ((75 * (z 4 5)) + 74) / 65537 * 65537)), (0, .ref (G.2.2 0)), (1, .int t)] dX7_draw_40 (by decide) rfl ?_
      refine g_iconst hX 0 dX7_draw_41 (by decide) ?_
      refine g_istore hX [(4, .int 0), (3, .int ((seedN (z 4 5)) - (seedN (z 4 5)) / t * t)), (2, .int (((75 * (z 4 5)) + 74) - ((75 * (z 4 5)) + 74) / 65537 * 65537)), (0, .ref (G.2.2 0)), (1, .int t)] dX7_draw_42 (by decide) rfl ?_
      refine g_aload_n hX 3 dX7_draw_44 rfl ?_
      refine m_g_6 hX i_X7_draw_wsX70 (List.mem_of_getElem? (i := 4) rfl) dX7_draw_45 ?_
      refine g_iconst hX 0 dX7_draw_48 (by decide) ?_
      refine m_ld_tickets hX 0 rfl (by decide) dX7_draw_49 ?_
      refine g_top (z 81 0) (by simp [u2]) ?_
      refine g_istore hX [(5, .int (z 81 0)), (4, .int 0), (3, .int ((seedN (z 4 5)) - (seedN (z 4 5)) / t * t)), (2, .int (((75 * (z 4 5)) + 74) - ((75 * (z 4 5)) + 74) / 65537 * 65537)), (0, .ref (G.2.2 0)), (1, .int t)] dX7_draw_50 (by decide) rfl ?_
      have loop52 : ∀ (nf : Nat) (k : Nat), (nA z < k + nf) → (k < nA z) → (fstF (fun a => decide (¬ tkS z (a + 1) ≤ drX z t)) (nA z - k) k = pickM z (drX z t) (nA z)) → Go X (u2 z 4 5 (seedN (z 4 5))) 52 [(0, .ref (G.2.2 0)), (1, .int t), (3, .int (drX z t)), (4, .int (nI k)), (5, .int (tkS z (k + 1)))] [] := by
        intro nf
        induction nf with
        | zero =>
          intro k hmu hk hs
          exfalso; omega
        | succ nf ih =>
          intro k hmu hk hs
          refine g_iload hX 4 dX7_draw_52 rfl ?_
          refine g_iload_n hX 2 dX7_draw_54 rfl ?_
          refine g_ic_gt hX 76 dX7_draw_55 (by decide) (fun c2 => ?_) (fun c2 => ?_)
          · -- jump 76
            
            refine g_iload hX 3 dX7_draw_76 rfl ?_
            refine ret _ _ _ _ dX7_draw_78 ?_
            refine ⟨?_, rfl⟩
            rw [← hs, show nA z - k = (nA z - (k + 1)) + 1 from by omega, fstF, if_pos (by simpa using c2)]
          · -- on 58
            have hk1 : k + 1 < nA z := by
              have hle : tkS z (k + 1) ≤ drX z t := by simpa using c2
              have : k + 1 ≠ nA z := fun e => hpk (by rw [← e]; exact hle)
              omega
            refine g_iinc hX (nI (k + 1)) 3 [(4, .int (nI (k + 1))), (0, .ref (G.2.2 0)), (1, .int t), (3, .int (drX z t)), (5, .int (tkS z (k + 1)))] dX7_draw_58 rfl (nI_1 k) (by decide) rfl ?_
            refine g_iload hX 4 dX7_draw_61 rfl ?_
            refine g_aload_n hX 1 dX7_draw_63 rfl ?_
            refine m_g_6 hX i_X7_draw_wsX70 (List.mem_of_getElem? (i := 4) rfl) dX7_draw_64 ?_
            refine g_iload hX 0 dX7_draw_67 rfl ?_
            refine m_ld_tickets hX (k + 1) rfl (by omega) dX7_draw_69 ?_
            refine g_top (z 81 (k + 1)) (by simp [u2]) ?_
            refine g_iadd hX dX7_draw_70 ?_
            refine g_istore hX [(5, .int ((tkS z (k + 1)) + (z 81 (k + 1)))), (4, .int (nI (k + 1))), (0, .ref (G.2.2 0)), (1, .int t), (3, .int (drX z t))] dX7_draw_71 (by decide) rfl ?_
            refine g_goto hX 52 dX7_draw_73 (by decide) ?_
            -- back to 52
            refine g_sub [2, 3, 4, 1, 0] [(0, .ref (G.2.2 0)), (1, .int t), (3, .int (drX z t)), (4, .int (nI (k + 1))), (5, .int ((tkS z (k + 1)) + (z 81 (k + 1))))] rfl ?_
            have e5 : ((tkS z (k + 1)) + (z 81 (k + 1)) : Int32) = tkS z ((k + 1) + 1) := by
              rfl
            refine g_lv (lv' := [(0, .ref (G.2.2 0)), (1, .int t), (3, .int (drX z t)), (4, .int (nI (k + 1))), (5, .int (tkS z ((k + 1) + 1)))]) (by rw [e5]) ?_
            exact ih (k + 1) (by omega) hk1 (by rw [← hs, show nA z - k = (nA z - (k + 1)) + 1 from by omega, fstF, if_neg (by simpa using c2)])
      refine g_sub [4, 5, 2, 1, 0] [(0, .ref (G.2.2 0)), (1, .int t), (3, .int ((seedN (z 4 5)) - (seedN (z 4 5)) / t * t)), (4, .int 0), (5, .int (z 81 0))] rfl ?_
      have e3 : ((seedN (z 4 5)) - (seedN (z 4 5)) / t * t : Int32) = drX z t := by
        rfl
      refine g_lv (lv' := [(0, .ref (G.2.2 0)), (1, .int t), (3, .int (drX z t)), (4, .int 0), (5, .int (z 81 0))]) (by rw [e3]) ?_
      have e5 : (z 81 0 : Int32) = tkS z (0 + 1) := by
        exact (Int32.zero_add _).symm
      refine g_lv (lv' := [(0, .ref (G.2.2 0)), (1, .int t), (3, .int (drX z t)), (4, .int 0), (5, .int (tkS z (0 + 1)))]) (by rw [e5]) ?_
      exact loop52 (nA z + 1) 0 (by omega) hn rfl
    · -- on 27
      refine g_iconst hX 0 dX7_draw_27 (by decide) ?_
      refine g_goto hX 32 dX7_draw_28 (by decide) ?_
      refine m_st_at hX hA 9 rfl (by decide) dX7_draw_32 ?_
      refine g_z (z2 := u2 z 4 5 0) (rfl) ?_
      refine g_z (z2 := u2 z 4 5 (seedN (z 4 5))) (by first | rw [seedN, if_pos (Decidable.not_not.mp c1)] | rw [seedN, if_neg c1]) ?_
      refine g_aload_n hX 1 dX7_draw_33 rfl ?_
      refine g_iconst hX 5 dX7_draw_34 (by decide) ?_
      refine g_cvE hX (As := [.int 5]) (rest := []) (c_X7_setting l G (u2 z 4 5 (seedN (z 4 5))) (w := 5) (hw := (by decide))) k_X7_draw_X7_setting rc_Model rfl rfl (Nat.le_of_ble_eq_true rfl) dX7_draw_35 ?_
      refine g_top (seedN (z 4 5)) (by simp [u2]) ?_
      refine g_iload_n hX 2 dX7_draw_38 rfl ?_
      refine g_irem hX dX7_draw_39 hne ?_
      refine g_istore_n hX [(3, .int ((seedN (z 4 5)) - (seedN (z 4 5)) / t * t)), (2, .int (((75 * (z 4 5)) + 74) - ((75 * (z 4 5)) + 74) / 65537 * 65537)), (0, .ref (G.2.2 0)), (1, .int t)] dX7_draw_40 (by decide) rfl ?_
      refine g_iconst hX 0 dX7_draw_41 (by decide) ?_
      refine g_istore hX [(4, .int 0), (3, .int ((seedN (z 4 5)) - (seedN (z 4 5)) / t * t)), (2, .int (((75 * (z 4 5)) + 74) - ((75 * (z 4 5)) + 74) / 65537 * 65537)), (0, .ref (G.2.2 0)), (1, .int t)] dX7_draw_42 (by decide) rfl ?_
      refine g_aload_n hX 3 dX7_draw_44 rfl ?_
      refine m_g_6 hX i_X7_draw_wsX70 (List.mem_of_getElem? (i := 4) rfl) dX7_draw_45 ?_
      refine g_iconst hX 0 dX7_draw_48 (by decide) ?_
      refine m_ld_tickets hX 0 rfl (by decide) dX7_draw_49 ?_
      refine g_top (z 81 0) (by simp [u2]) ?_
      refine g_istore hX [(5, .int (z 81 0)), (4, .int 0), (3, .int ((seedN (z 4 5)) - (seedN (z 4 5)) / t * t)), (2, .int (((75 * (z 4 5)) + 74) - ((75 * (z 4 5)) + 74) / 65537 * 65537)), (0, .ref (G.2.2 0)), (1, .int t)] dX7_draw_50 (by decide) rfl ?_
      have loop52 : ∀ (nf : Nat) (k : Nat), (nA z < k + nf) → (k < nA z) → (fstF (fun a => decide (¬ tkS z (a + 1) ≤ drX z t)) (nA z - k) k = pickM z (drX z t) (nA z)) → Go X (u2 z 4 5 (seedN (z 4 5))) 52 [(0, .ref (G.2.2 0)), (1, .int t), (3, .int (drX z t)), (4, .int (nI k)), (5, .int (tkS z (k + 1)))] [] := by
        intro nf
        induction nf with
        | zero =>
          intro k hmu hk hs
          exfalso; omega
        | succ nf ih =>
          intro k hmu hk hs
          refine g_iload hX 4 dX7_draw_52 rfl ?_
          refine g_iload_n hX 2 dX7_draw_54 rfl ?_
          refine g_ic_gt hX 76 dX7_draw_55 (by decide) (fun c3 => ?_) (fun c3 => ?_)
          · -- jump 76
            
            refine g_iload hX 3 dX7_draw_76 rfl ?_
            refine ret _ _ _ _ dX7_draw_78 ?_
            refine ⟨?_, rfl⟩
            rw [← hs, show nA z - k = (nA z - (k + 1)) + 1 from by omega, fstF, if_pos (by simpa using c3)]
          · -- on 58
            have hk1 : k + 1 < nA z := by
              have hle : tkS z (k + 1) ≤ drX z t := by simpa using c3
              have : k + 1 ≠ nA z := fun e => hpk (by rw [← e]; exact hle)
              omega
            refine g_iinc hX (nI (k + 1)) 3 [(4, .int (nI (k + 1))), (0, .ref (G.2.2 0)), (1, .int t), (3, .int (drX z t)), (5, .int (tkS z (k + 1)))] dX7_draw_58 rfl (nI_1 k) (by decide) rfl ?_
            refine g_iload hX 4 dX7_draw_61 rfl ?_
            refine g_aload_n hX 1 dX7_draw_63 rfl ?_
            refine m_g_6 hX i_X7_draw_wsX70 (List.mem_of_getElem? (i := 4) rfl) dX7_draw_64 ?_
            refine g_iload hX 0 dX7_draw_67 rfl ?_
            refine m_ld_tickets hX (k + 1) rfl (by omega) dX7_draw_69 ?_
            refine g_top (z 81 (k + 1)) (by simp [u2]) ?_
            refine g_iadd hX dX7_draw_70 ?_
            refine g_istore hX [(5, .int ((tkS z (k + 1)) + (z 81 (k + 1)))), (4, .int (nI (k + 1))), (0, .ref (G.2.2 0)), (1, .int t), (3, .int (drX z t))] dX7_draw_71 (by decide) rfl ?_
            refine g_goto hX 52 dX7_draw_73 (by decide) ?_
            -- back to 52
            refine g_sub [2, 3, 4, 1, 0] [(0, .ref (G.2.2 0)), (1, .int t), (3, .int (drX z t)), (4, .int (nI (k + 1))), (5, .int ((tkS z (k + 1)) + (z 81 (k + 1))))] rfl ?_
            have e5 : ((tkS z (k + 1)) + (z 81 (k + 1)) : Int32) = tkS z ((k + 1) + 1) := by
              rfl
            refine g_lv (lv' := [(0, .ref (G.2.2 0)), (1, .int t), (3, .int (drX z t)), (4, .int (nI (k + 1))), (5, .int (tkS z ((k + 1) + 1)))]) (by rw [e5]) ?_
            exact ih (k + 1) (by omega) hk1 (by rw [← hs, show nA z - k = (nA z - (k + 1)) + 1 from by omega, fstF, if_neg (by simpa using c3)])
      refine g_sub [4, 5, 2, 1, 0] [(0, .ref (G.2.2 0)), (1, .int t), (3, .int ((seedN (z 4 5)) - (seedN (z 4 5)) / t * t)), (4, .int 0), (5, .int (z 81 0))] rfl ?_
      have e3 : ((seedN (z 4 5)) - (seedN (z 4 5)) / t * t : Int32) = drX z t := by
        rfl
      refine g_lv (lv' := [(0, .ref (G.2.2 0)), (1, .int t), (3, .int (drX z t)), (4, .int 0), (5, .int (z 81 0))]) (by rw [e3]) ?_
      have e5 : (z 81 0 : Int32) = tkS z (0 + 1) := by
        exact (Int32.zero_add _).symm
      refine g_lv (lv' := [(0, .ref (G.2.2 0)), (1, .int t), (3, .int (drX z t)), (4, .int 0), (5, .int (tkS z (0 + 1)))]) (by rw [e5]) ?_
      exact loop52 (nA z + 1) 0 (by omega) hn rfl
