def rm_X3_laterDayFor : Room := { frames := 3, cells := 0, slots := 0, locals := 68 }
theorem i_X3_laterDayFor_wsX00 : ∀ w ∈ wsX00, w ∈ wsX3_laterDayFor := fun w h => List.mem_cons_of_mem _ (List.mem_append_left _ (List.mem_append_left _ (List.mem_append_right _ h)))
theorem i_X3_laterDayFor_wsX30 : ∀ w ∈ wsX30, w ∈ wsX3_laterDayFor := fun w h => List.mem_cons_of_mem _ (List.mem_append_left _ (List.mem_append_right _ h))
theorem k_X3_laterDayFor_X3_isOpen : CW rm_X3_laterDayFor wsX3_laterDayFor RX3 RX3 134 yX3_isOpen cX3_isOpen 2 (some .boolean) wsX3_isOpen rm_X3_isOpen 1 := ⟨gX3_laterDayFor_X3_isOpen, ⟨_, rfl⟩, rfl, rfl, ⟨rfl, by decide +kernel, by decide +kernel, by decide +kernel⟩, by decide, by decide⟩
theorem k_X3_laterDayFor_X3_placesFree : CW rm_X3_laterDayFor wsX3_laterDayFor RX3 RX3 121 yX3_placesFree cX3_placesFree 3 (some .int) wsX3_placesFree rm_X3_placesFree 2 := ⟨gX3_laterDayFor_X3_placesFree, ⟨_, rfl⟩, rfl, rfl, ⟨rfl, by decide +kernel, by decide +kernel, by decide +kernel⟩, by decide, by decide⟩
set_option maxHeartbeats 4000000 in
set_option maxRecDepth 100000 in
theorem c_X3_laterDayFor (l : Launch) (G : MG) (z : St) {a : Nat} (ha : a < nA z) (hI : IO z) : CIc l G yX3_laterDayFor wsX3_laterDayFor rm_X3_laterDayFor [.ref (G.2.2 0), .ref (G.2.2 (24 + a))] z (fun ρ ζ => ρ = later z a ∧ ζ = z) := by
  refine ci_of (own := RX3) (cc := cX3_laterDayFor) (maxL := 4) (ret := .int) (by decide +kernel) rfl rfl ?_ (Nat.le_of_ble_eq_true rfl) (KQ_mv (ExC_mv G)) ?_
  · intro v z' _; rfl
  · intro X hX ret
    refine g_lv (lv' := [(0, .ref (G.2.2 0)), (1, .ref (G.2.2 (24 + a)))]) rfl ?_
    have h40 := (iNa hI).2
    have hD := iD hI ha
    have hR := iR hI ha
    refine g_aload_n hX 1 dX3_laterDayFor_0 rfl ?_
    refine c_g_Application_2 hX (by omega) i_X3_laterDayFor_wsX00 (List.mem_of_getElem? (i := 1) rfl) dX3_laterDayFor_1 ?_
    refine g_aload_n hX 0 dX3_laterDayFor_4 rfl ?_
    refine c_g_Office_8 hX i_X3_laterDayFor_wsX30 (List.mem_of_getElem? (i := 2) rfl) dX3_laterDayFor_5 ?_
    refine g_iconst hX 4 dX3_laterDayFor_8 (by decide) ?_
    refine c_ld_settings hX 4 rfl (by decide) dX3_laterDayFor_9 ?_
    refine g_iadd hX dX3_laterDayFor_10 ?_
    refine g_bipush hX 59 dX3_laterDayFor_11 (by decide) ?_
    refine g_min hX dX3_laterDayFor_13 (List.mem_of_getElem? (i := 3) rfl) (List.mem_of_getElem? (i := 4) rfl) (List.mem_of_getElem? (i := 5) rfl) (List.mem_of_getElem? (i := 6) rfl) (by decide) (Nat.le_of_ble_eq_true rfl) ?_
    refine g_istore_n hX [(2, .int (if 59 < ((z 13 a) + (z 4 4)) then 59 else ((z 13 a) + (z 4 4)))), (0, .ref (G.2.2 0)), (1, .ref (G.2.2 (24 + a)))] dX3_laterDayFor_16 (by decide) rfl ?_
    refine g_aload_n hX 2 dX3_laterDayFor_17 rfl ?_
    refine c_g_Application_2 hX (by omega) i_X3_laterDayFor_wsX00 (List.mem_of_getElem? (i := 1) rfl) dX3_laterDayFor_18 ?_
    refine g_iconst hX 1 dX3_laterDayFor_21 (by decide) ?_
    refine g_iadd hX dX3_laterDayFor_22 ?_
    refine g_istore_n hX [(3, .int ((z 13 a) + 1)), (2, .int (if 59 < ((z 13 a) + (z 4 4)) then 59 else ((z 13 a) + (z 4 4)))), (0, .ref (G.2.2 0)), (1, .ref (G.2.2 (24 + a)))] dX3_laterDayFor_23 (by decide) rfl ?_
    have loop24 : ∀ (nf : Nat) (f : Nat) (d : Nat), (61 < d + nf) → (d ≤ 60) → (61 ≤ f + d) → (laterF z a (lastD z a) f d = later z a) → Go X (z) 24 [(0, .ref (G.2.2 0)), (1, .ref (G.2.2 (24 + a))), (2, .int (lastD z a)), (3, .int (nI d))] [] := by
      intro nf
      induction nf with
      | zero =>
        intro f d hmu hd hf hr
        exfalso; omega
      | succ nf ih =>
        intro f d hmu hd hf hr
        refine g_iload_n hX 3 dX3_laterDayFor_24 rfl ?_
        refine g_iload_n hX 2 dX3_laterDayFor_25 rfl ?_
        refine g_ic_gt hX 61 dX3_laterDayFor_26 (by decide) (fun c1 => ?_) (fun c1 => ?_)
        · -- jump 61
          refine g_bipush hX (-6) dX3_laterDayFor_61 (by decide) ?_
          refine ret _ _ _ _ dX3_laterDayFor_63 ?_
          refine ⟨?_, rfl⟩
          rw [← hr, show f = (f - 1) + 1 from by omega, laterF, if_neg (Int32.not_le.mpr c1)]
        · -- on 29
          have hle : nI d ≤ lastD z a := by simpa using c1
          have h59 := lastD_le (by omega) hle
          refine g_aload_n hX 0 dX3_laterDayFor_29 rfl ?_
          refine g_iload_n hX 3 dX3_laterDayFor_30 rfl ?_
          refine g_cvE hX (As := [.int (nI d)]) (rest := []) (c_X3_isOpen l G z (x1 := (nI d)) ) k_X3_laterDayFor_X3_isOpen rc_Office0 rfl rfl (Nat.le_of_ble_eq_true rfl) dX3_laterDayFor_31 ?_
          refine g_bi_eq hX 55 dX3_laterDayFor_34 (by decide) (fun c2 => ?_) (fun c2 => ?_)
          · -- jump 55
            refine g_iinc hX (nI (d + 1)) 3 [(3, .int (nI (d + 1))), (0, .ref (G.2.2 0)), (1, .ref (G.2.2 (24 + a))), (2, .int (lastD z a))] dX3_laterDayFor_55 rfl (nI_1 d) (by decide) rfl ?_
            refine g_goto hX 24 dX3_laterDayFor_58 (by decide) ?_
            -- back to 24
            refine g_sub [1, 2, 3, 0] [(0, .ref (G.2.2 0)), (1, .ref (G.2.2 (24 + a))), (2, .int (lastD z a)), (3, .int (nI (d + 1)))] rfl ?_
            exact ih (f - 1) (d + 1) (by omega) (by omega) (by omega) (by rw [← hr]; obtain ⟨m, rfl⟩ : ∃ m, f = m + 1 := ⟨f - 1, by omega⟩; rw [Nat.add_sub_cancel]; conv => rhs; rw [laterF, if_pos hle, if_neg (by grind)])
          · -- on 37
            refine g_aload_n hX 1 dX3_laterDayFor_37 rfl ?_
            refine c_g_Application_4 hX (by omega) i_X3_laterDayFor_wsX00 (List.mem_of_getElem? (i := 7) rfl) dX3_laterDayFor_38 ?_
            refine g_aload_n hX 0 dX3_laterDayFor_41 rfl ?_
            refine g_aload_n hX 1 dX3_laterDayFor_42 rfl ?_
            refine c_g_Application_1 hX (by omega) i_X3_laterDayFor_wsX00 (List.mem_of_getElem? (i := 8) rfl) dX3_laterDayFor_43 ?_
            refine g_iload_n hX 3 dX3_laterDayFor_46 rfl ?_
            refine g_st (st2 := [.int (nI d), .int (nI (cn (z 12 a))), .ref (G.2.2 0), .int (z 14 a)]) (by rw [← (show (z 12 a) = nI (cn (z 12 a)) from hR.1)]) ?_
            refine g_cvE hX (As := [.int (nI (cn (z 12 a))), .int (nI d)]) (rest := [.int (z 14 a)]) (c_X3_placesFree l G z (q := (cn (z 12 a))) (d := (nI d)) (hq := hR.2) (hI := (by assumption))) k_X3_laterDayFor_X3_placesFree rc_Office0 rfl rfl (Nat.le_of_ble_eq_true rfl) dX3_laterDayFor_47 ?_
            refine g_top (freeP z (z 12 a) (nI d)) (by rw [← hR.1]) ?_
            refine g_ic_gt hX 55 dX3_laterDayFor_50 (by decide) (fun c3 => ?_) (fun c3 => ?_)
            · -- jump 55
              refine g_iinc hX (nI (d + 1)) 3 [(3, .int (nI (d + 1))), (0, .ref (G.2.2 0)), (1, .ref (G.2.2 (24 + a))), (2, .int (lastD z a))] dX3_laterDayFor_55 rfl (nI_1 d) (by decide) rfl ?_
              refine g_goto hX 24 dX3_laterDayFor_58 (by decide) ?_
              -- back to 24
              refine g_sub [1, 2, 3, 0] [(0, .ref (G.2.2 0)), (1, .ref (G.2.2 (24 + a))), (2, .int (lastD z a)), (3, .int (nI (d + 1)))] rfl ?_
              exact ih (f - 1) (d + 1) (by omega) (by omega) (by omega) (by rw [← hr]; obtain ⟨m, rfl⟩ : ∃ m, f = m + 1 := ⟨f - 1, by omega⟩; rw [Nat.add_sub_cancel]; conv => rhs; rw [laterF, if_pos hle, if_neg (by grind)])
            · -- on 53
              refine g_iload_n hX 3 dX3_laterDayFor_53 rfl ?_
              refine ret _ _ _ _ dX3_laterDayFor_54 ?_
              refine ⟨?_, rfl⟩
              rw [← hr, show f = (f - 1) + 1 from by omega, laterF, if_pos hle, if_pos]
              exact ⟨by assumption, Int32.not_lt.mp (by assumption)⟩
    refine g_sub [2, 3, 1, 0] [(0, .ref (G.2.2 0)), (1, .ref (G.2.2 (24 + a))), (2, .int (if 59 < ((z 13 a) + (z 4 4)) then 59 else ((z 13 a) + (z 4 4)))), (3, .int ((z 13 a) + 1))] rfl ?_
    have e3 : ((z 13 a) + 1 : Int32) = nI (cn (z 13 a) + 1) := by
      conv => lhs; rw [hD.1]
      exact nI_1 _
    refine g_lv (lv' := [(0, .ref (G.2.2 0)), (1, .ref (G.2.2 (24 + a))), (2, .int (if 59 < ((z 13 a) + (z 4 4)) then 59 else ((z 13 a) + (z 4 4)))), (3, .int (nI (cn (z 13 a) + 1)))]) (by rw [e3]) ?_
    exact loop24 (61 + 1) 61 (cn (z 13 a) + 1) (by omega) (by omega) (by omega) rfl
def rm_X3_movePermits : Room := { frames := 4, cells := 0, slots := 0, locals := 91 }
theorem i_X3_movePermits_wsX00 : ∀ w ∈ wsX00, w ∈ wsX3_movePermits := fun w h => List.mem_cons_of_mem _ (List.mem_append_left _ (List.mem_append_left _ (List.mem_append_right _ h)))
theorem i_X3_movePermits_wsX10 : ∀ w ∈ wsX10, w ∈ wsX3_movePermits := fun w h => List.mem_cons_of_mem _ (List.mem_append_left _ (List.mem_append_right _ h))
theorem i_X3_movePermits_wsX30 : ∀ w ∈ wsX30, w ∈ wsX3_movePermits := fun w h => List.mem_cons_of_mem _ (List.mem_append_left _ (List.mem_append_left _ (List.mem_append_left _ (List.mem_append_right _ h))))
theorem k_X3_movePermits_X3_laterDayFor : CW rm_X3_movePermits wsX3_movePermits RX3 RX3 147 yX3_laterDayFor cX3_laterDayFor 4 (some .int) wsX3_laterDayFor rm_X3_laterDayFor 1 := ⟨gX3_movePermits_X3_laterDayFor, ⟨_, rfl⟩, rfl, rfl, ⟨rfl, by decide +kernel, by decide +kernel, by decide +kernel⟩, by decide, by decide⟩
set_option maxHeartbeats 4000000 in
set_option maxRecDepth 100000 in
theorem c_X3_movePermits (l : Launch) (G : MG) (hA : Ap 203 G.2.2) (z : St) {d : Int32} (hI : IO z) : CIc l G yX3_movePermits wsX3_movePermits rm_X3_movePermits [.ref (G.2.2 0), .int d] z (fun ρ ζ => ρ = movedK z d (nA z) ∧ ζ = moveK z d (nA z)) := by
  refine ci_of (own := RX3) (cc := cX3_movePermits) (maxL := 6) (ret := .int) (by decide +kernel) rfl rfl ?_ (Nat.le_of_ble_eq_true rfl) (KQ_mv (ExC_mv G)) ?_
  · intro v z' _; rfl
  · intro X hX ret
    refine g_lv (lv' := [(0, .ref (G.2.2 0)), (1, .int d)]) rfl ?_
    have h40 := (iNa hI).2
    refine g_iconst hX 0 dX3_movePermits_0 (by decide) ?_
    refine g_istore_n hX [(2, .int 0), (0, .ref (G.2.2 0)), (1, .int d)] dX3_movePermits_1 (by decide) rfl ?_
    refine g_iconst hX 0 dX3_movePermits_2 (by decide) ?_
    refine g_istore_n hX [(3, .int 0), (2, .int 0), (0, .ref (G.2.2 0)), (1, .int d)] dX3_movePermits_3 (by decide) rfl ?_
    have loop4 : ∀ (nf : Nat) (k : Nat) (y : St), (nA z < k + nf) → (k ≤ nA z) → (IO y) → (nA y = nA z) → (y = moveK z d k) → Go X (y) 4 [(0, .ref (G.2.2 0)), (1, .int d), (2, .int (movedK z d k)), (3, .int (nI k))] [] := by
      intro nf
      induction nf with
      | zero =>
        intro k y hmu hk hIy hny hy
        exfalso; omega
      | succ nf ih =>
        intro k y hmu hk hIy hny hy
        refine g_iload_n hX 3 dX3_movePermits_4 rfl ?_
        refine g_aload_n hX 0 dX3_movePermits_5 rfl ?_
        refine c_g_Office_3 hX i_X3_movePermits_wsX30 (List.mem_of_getElem? (i := 1) rfl) dX3_movePermits_6 ?_
        refine g_ic_ge hX 111 dX3_movePermits_9 (by decide) (fun c1 => ?_) (fun c1 => ?_)
        · -- jump 111
          have hke : k = nA z := by
            rw [(iNa hIy).1, hny] at c1; have := (nI_leI (by omega) (by omega)).mp c1; omega
          refine g_iload_n hX 2 dX3_movePermits_111 rfl ?_
          refine ret _ _ _ _ dX3_movePermits_112 ?_
          exact ⟨by rw [hke], by rw [hy, hke]⟩
        · -- on 12
          have hkn : k < nA z := by
            rw [(iNa hIy).1, hny] at c1; exact Nat.lt_of_not_le (fun q => c1 (nI_le q (by omega)))
          refine g_aload_n hX 0 dX3_movePermits_12 rfl ?_
          refine c_g_Office_6 hX i_X3_movePermits_wsX30 (List.mem_of_getElem? (i := 2) rfl) dX3_movePermits_13 ?_
          refine g_iload_n hX 3 dX3_movePermits_16 rfl ?_
          refine c_ld_applications hX k rfl (by omega) dX3_movePermits_17 ?_
          refine g_astore hX [(4, .ref (G.2.2 (24 + k))), (0, .ref (G.2.2 0)), (1, .int d), (2, .int (movedK z d k)), (3, .int (nI k))] dX3_movePermits_18 (by decide) rfl ?_
          refine g_aload hX 0 dX3_movePermits_20 rfl ?_
          refine c_g_Application_5 hX (by omega) i_X3_movePermits_wsX00 (List.mem_of_getElem? (i := 3) rfl) dX3_movePermits_22 ?_
          refine g_iconst hX 1 dX3_movePermits_25 (by decide) ?_
          refine g_ic_ne hX 105 dX3_movePermits_26 (by decide) (fun c2 => ?_) (fun c2 => ?_)
          · -- jump 105
            refine g_iinc hX (nI (k + 1)) 4 [(3, .int (nI (k + 1))), (4, .ref (G.2.2 (24 + k))), (0, .ref (G.2.2 0)), (1, .int d), (2, .int (movedK z d k))] dX3_movePermits_105 rfl (nI_1 k) (by decide) rfl ?_
            refine g_goto hX 4 dX3_movePermits_108 (by decide) ?_
            -- back to 4
            refine g_sub [2, 3, 4, 0] [(0, .ref (G.2.2 0)), (1, .int d), (2, .int (movedK z d k)), (3, .int (nI (k + 1)))] rfl ?_
            have hm1 : y = move1 y d k := by simp [move1, refundZ, c1, c2, ← Int32.not_le]
            have e2 : (movedK z d k : Int32) = movedK z d (k + 1) := by
              rw [movedK, ← hy]
              simp [moved1, c1, c2, ← Int32.not_le]
            refine g_lv (lv' := [(0, .ref (G.2.2 0)), (1, .int d), (2, .int (movedK z d (k + 1))), (3, .int (nI (k + 1)))]) (by rw [e2]) ?_
            exact ih (k + 1) y (by omega) (by omega) (by rw [hm1]; exact IO_move1 hIy d k) (by rw [hm1]; exact (nA_of (move1_lo y d k (by omega))).trans hny) (by rw [hm1, moveK, ← hy])
          · -- on 29
            refine g_aload hX 0 dX3_movePermits_29 rfl ?_
            refine c_g_Application_2 hX (by omega) i_X3_movePermits_wsX00 (List.mem_of_getElem? (i := 4) rfl) dX3_movePermits_31 ?_
            refine g_iload_n hX 2 dX3_movePermits_34 rfl ?_
            refine g_ic_ne hX 105 dX3_movePermits_35 (by decide) (fun c3 => ?_) (fun c3 => ?_)
            · -- jump 105
              refine g_iinc hX (nI (k + 1)) 4 [(3, .int (nI (k + 1))), (4, .ref (G.2.2 (24 + k))), (0, .ref (G.2.2 0)), (1, .int d), (2, .int (movedK z d k))] dX3_movePermits_105 rfl (nI_1 k) (by decide) rfl ?_
              refine g_goto hX 4 dX3_movePermits_108 (by decide) ?_
              -- back to 4
              refine g_sub [2, 3, 4, 0] [(0, .ref (G.2.2 0)), (1, .int d), (2, .int (movedK z d k)), (3, .int (nI (k + 1)))] rfl ?_
              have hm1 : y = move1 y d k := by simp [move1, refundZ, c1, c2, c3, ← Int32.not_le]
              have e2 : (movedK z d k : Int32) = movedK z d (k + 1) := by
                rw [movedK, ← hy]
                simp [moved1, c1, c2, c3, ← Int32.not_le]
              refine g_lv (lv' := [(0, .ref (G.2.2 0)), (1, .int d), (2, .int (movedK z d (k + 1))), (3, .int (nI (k + 1)))]) (by rw [e2]) ?_
              exact ih (k + 1) y (by omega) (by omega) (by rw [hm1]; exact IO_move1 hIy d k) (by rw [hm1]; exact (nA_of (move1_lo y d k (by omega))).trans hny) (by rw [hm1, moveK, ← hy])
            · -- on 38
              refine g_aload_n hX 1 dX3_movePermits_38 rfl ?_
              refine g_aload hX 0 dX3_movePermits_39 rfl ?_
              refine g_cvE hX (As := [.ref (G.2.2 (24 + k))]) (rest := []) (c_X3_laterDayFor l G y (a := k) (ha := (by omega)) (hI := hIy)) k_X3_movePermits_X3_laterDayFor rc_Office0 rfl rfl (Nat.le_of_ble_eq_true rfl) dX3_movePermits_41 ?_
              refine g_istore hX [(5, .int (later y k)), (4, .ref (G.2.2 (24 + k))), (0, .ref (G.2.2 0)), (1, .int d), (2, .int (movedK z d k)), (3, .int (nI k))] dX3_movePermits_44 (by decide) rfl ?_
              refine g_iload hX 0 dX3_movePermits_46 rfl ?_
              refine g_if_ge hX 89 dX3_movePermits_48 (by decide) (fun c4 => ?_) (fun c4 => ?_)
              · -- jump 89
                refine g_aload hX 1 dX3_movePermits_89 rfl ?_
                refine g_iload hX 0 dX3_movePermits_91 rfl ?_
                refine c_p_Application_2 hX hA (by omega) i_X3_movePermits_wsX00 (List.mem_of_getElem? (i := 4) rfl) dX3_movePermits_93 ?_
                refine g_aload hX 1 dX3_movePermits_96 rfl ?_
                refine g_iconst hX 0 dX3_movePermits_98 (by decide) ?_
                refine c_p_Application_8 hX hA (by omega) (Or.inl rfl) i_X3_movePermits_wsX00 (List.mem_of_getElem? (i := 10) rfl) dX3_movePermits_99 ?_
                refine g_iinc hX ((movedK z d k) + 1) 4 [(2, .int ((movedK z d k) + 1)), (5, .int (later y k)), (4, .ref (G.2.2 (24 + k))), (0, .ref (G.2.2 0)), (1, .int d), (3, .int (nI k))] dX3_movePermits_102 rfl rfl (by decide) rfl ?_
                refine g_iinc hX (nI (k + 1)) 5 [(3, .int (nI (k + 1))), (2, .int ((movedK z d k) + 1)), (5, .int (later y k)), (4, .ref (G.2.2 (24 + k))), (0, .ref (G.2.2 0)), (1, .int d)] dX3_movePermits_105 rfl (nI_1 k) (by decide) rfl ?_
                refine g_goto hX 4 dX3_movePermits_108 (by decide) ?_
                -- back to 4
                refine g_sub [4, 5, 1, 0] [(0, .ref (G.2.2 0)), (1, .int d), (2, .int ((movedK z d k) + 1)), (3, .int (nI (k + 1)))] rfl ?_
                have hm1 : u2 (u2 y 13 k (later y k)) 18 k 0 = move1 y d k := by simp [move1, refundZ, c1, c2, c3, c4, ← Int32.not_le]
                have e2 : ((movedK z d k) + 1 : Int32) = movedK z d (k + 1) := by
                  rw [movedK, ← hy]
                  simp [moved1, c1, c2, c3, c4, ← Int32.not_le]
                refine g_lv (lv' := [(0, .ref (G.2.2 0)), (1, .int d), (2, .int (movedK z d (k + 1))), (3, .int (nI (k + 1)))]) (by rw [e2]) ?_
                exact ih (k + 1) (u2 (u2 y 13 k (later y k)) 18 k 0) (by omega) (by omega) (by rw [hm1]; exact IO_move1 hIy d k) (by rw [hm1]; exact (nA_of (move1_lo y d k (by omega))).trans hny) (by rw [hm1, moveK, ← hy])
              · -- on 51
                refine g_aload hX 1 dX3_movePermits_51 rfl ?_
                refine g_iconst hX 4 dX3_movePermits_53 (by decide) ?_
                refine c_p_Application_5 hX hA (by omega) i_X3_movePermits_wsX00 (List.mem_of_getElem? (i := 3) rfl) dX3_movePermits_54 ?_
                refine g_aload hX 1 dX3_movePermits_57 rfl ?_
                refine g_aload hX 1 dX3_movePermits_59 rfl ?_
                refine c_g_Application_6 hX (by omega) i_X3_movePermits_wsX00 (List.mem_of_getElem? (i := 5) rfl) dX3_movePermits_61 ?_
                refine g_top (y 16 k) (by simp [u2]) ?_
                refine c_p_Application_7 hX hA (by omega) i_X3_movePermits_wsX00 (List.mem_of_getElem? (i := 6) rfl) dX3_movePermits_64 ?_
                refine g_aload_n hX 2 dX3_movePermits_67 rfl ?_
                refine c_g_Office_5 hX i_X3_movePermits_wsX30 (List.mem_of_getElem? (i := 7) rfl) dX3_movePermits_68 ?_
                refine g_aload hX 1 dX3_movePermits_71 rfl ?_
                refine c_g_Application_0 hX (by omega) i_X3_movePermits_wsX00 (List.mem_of_getElem? (i := 8) rfl) dX3_movePermits_73 ?_
                refine g_top (y 11 k) (by simp [u2]) ?_
                refine c_ld_climbers hX (cn (y 11 k)) (iC hIy (by omega)).1 (iC hIy (by omega)).2 dX3_movePermits_76 ?_
                refine g_dup hX dX3_movePermits_77 rfl ?_
                refine c_g_Climber_0 hX (iC hIy (by omega)).2 i_X3_movePermits_wsX10 (List.mem_of_getElem? (i := 9) rfl) dX3_movePermits_78 ?_
                refine g_top (y 8 (cn (y 11 k))) (by simp [u2]) ?_
                refine g_iconst hX 2 dX3_movePermits_81 (by decide) ?_
                refine g_iadd hX dX3_movePermits_82 ?_
                refine c_p_Climber_0 hX hA (iC hIy (by omega)).2 i_X3_movePermits_wsX10 (List.mem_of_getElem? (i := 9) rfl) dX3_movePermits_83 ?_
                refine g_goto hX 105 dX3_movePermits_86 (by decide) ?_
                refine g_iinc hX (nI (k + 1)) 5 [(3, .int (nI (k + 1))), (5, .int (later y k)), (4, .ref (G.2.2 (24 + k))), (0, .ref (G.2.2 0)), (1, .int d), (2, .int (movedK z d k))] dX3_movePermits_105 rfl (nI_1 k) (by decide) rfl ?_
                refine g_goto hX 4 dX3_movePermits_108 (by decide) ?_
                -- back to 4
                refine g_sub [3, 4, 5, 0] [(0, .ref (G.2.2 0)), (1, .int d), (2, .int (movedK z d k)), (3, .int (nI (k + 1)))] rfl ?_
                have hm1 : u2 (u2 (u2 y 15 k 4) 17 k (y 16 k)) 8 (cn (y 11 k)) ((y 8 (cn (y 11 k))) + 2) = move1 y d k := by simp [move1, refundZ, c1, c2, c3, c4, ← Int32.not_le]
                have e2 : (movedK z d k : Int32) = movedK z d (k + 1) := by
                  rw [movedK, ← hy]
                  simp [moved1, c1, c2, c3, c4, ← Int32.not_le]
                refine g_lv (lv' := [(0, .ref (G.2.2 0)), (1, .int d), (2, .int (movedK z d (k + 1))), (3, .int (nI (k + 1)))]) (by rw [e2]) ?_
                exact ih (k + 1) (u2 (u2 (u2 y 15 k 4) 17 k (y 16 k)) 8 (cn (y 11 k)) ((y 8 (cn (y 11 k))) + 2)) (by omega) (by omega) (by rw [hm1]; exact IO_move1 hIy d k) (by rw [hm1]; exact (nA_of (move1_lo y d k (by omega))).trans hny) (by rw [hm1, moveK, ← hy])
    refine g_sub [2, 3, 1, 0] [(0, .ref (G.2.2 0)), (1, .int d), (2, .int 0), (3, .int 0)] rfl ?_
    exact loop4 (nA z + 1) 0 z (by omega) (Nat.zero_le _) hI rfl rfl
def rm_X3_judgePermits : Room := { frames := 2, cells := 0, slots := 0, locals := 46 }
theorem i_X3_judgePermits_wsX00 : ∀ w ∈ wsX00, w ∈ wsX3_judgePermits := fun w h => List.mem_cons_of_mem _ (List.mem_append_left _ (List.mem_append_right _ h))
theorem i_X3_judgePermits_wsX30 : ∀ w ∈ wsX30, w ∈ wsX3_judgePermits := fun w h => List.mem_cons_of_mem _ (List.mem_append_left _ (List.mem_append_left _ (List.mem_append_right _ h)))
theorem k_X3_judgePermits_X1_strike : CW rm_X3_judgePermits wsX3_judgePermits RX3 RX1 160 yX1_strike cX1_strike 3 none wsX1_strike rm_X1_strike 2 := ⟨gX3_judgePermits_X1_strike, ⟨_, rfl⟩, rfl, rfl, ⟨rfl, by decide +kernel, by decide +kernel, by decide +kernel⟩, by decide, by decide⟩
set_option maxHeartbeats 4000000 in
set_option maxRecDepth 100000 in
theorem c_X3_judgePermits (l : Launch) (G : MG) (hA : Ap 203 G.2.2) (z : St)  (hI : IO z) : CIc l G yX3_judgePermits wsX3_judgePermits rm_X3_judgePermits [.ref (G.2.2 0)] z (fun ρ ζ => ρ = missedK z (nA z) ∧ ζ = judgeK z (nA z)) := by
  refine ci_of (own := RX3) (cc := cX3_judgePermits) (maxL := 4) (ret := .int) (by decide +kernel) rfl rfl ?_ (Nat.le_of_ble_eq_true rfl) (KQ_mv (ExC_mv G)) ?_
  · intro v z' _; rfl
  · intro X hX ret
    refine g_lv (lv' := [(0, .ref (G.2.2 0))]) rfl ?_
    have h40 := (iNa hI).2
    refine g_iconst hX 0 dX3_judgePermits_0 (by decide) ?_
    refine g_istore_n hX [(1, .int 0), (0, .ref (G.2.2 0))] dX3_judgePermits_1 (by decide) rfl ?_
    refine g_iconst hX 0 dX3_judgePermits_2 (by decide) ?_
    refine g_istore_n hX [(2, .int 0), (1, .int 0), (0, .ref (G.2.2 0))] dX3_judgePermits_3 (by decide) rfl ?_
    have loop4 : ∀ (nf : Nat) (k : Nat) (y : St), (nA z < k + nf) → (k ≤ nA z) → (IO y) → (nA y = nA z) → (y = judgeK z k) → Go X (y) 4 [(0, .ref (G.2.2 0)), (1, .int (missedK z k)), (2, .int (nI k))] [] := by
      intro nf
      induction nf with
      | zero =>
        intro k y hmu hk hIy hny hy
        exfalso; omega
      | succ nf ih =>
        intro k y hmu hk hIy hny hy
        refine g_iload_n hX 2 dX3_judgePermits_4 rfl ?_
        refine g_aload_n hX 0 dX3_judgePermits_5 rfl ?_
        refine c_g_Office_3 hX i_X3_judgePermits_wsX30 (List.mem_of_getElem? (i := 1) rfl) dX3_judgePermits_6 ?_
        refine g_ic_ge hX 97 dX3_judgePermits_9 (by decide) (fun c1 => ?_) (fun c1 => ?_)
        · -- jump 97
          have hke : k = nA z := by
            rw [(iNa hIy).1, hny] at c1; have := (nI_leI (by omega) (by omega)).mp c1; omega
          refine g_iload_n hX 1 dX3_judgePermits_97 rfl ?_
          refine ret _ _ _ _ dX3_judgePermits_98 ?_
          exact ⟨by rw [hke], by rw [hy, hke]⟩
        · -- on 12
          have hkn : k < nA z := by
            rw [(iNa hIy).1, hny] at c1; exact Nat.lt_of_not_le (fun q => c1 (nI_le q (by omega)))
          refine g_aload_n hX 0 dX3_judgePermits_12 rfl ?_
          refine c_g_Office_6 hX i_X3_judgePermits_wsX30 (List.mem_of_getElem? (i := 2) rfl) dX3_judgePermits_13 ?_
          refine g_iload_n hX 2 dX3_judgePermits_16 rfl ?_
          refine c_ld_applications hX k rfl (by omega) dX3_judgePermits_17 ?_
          refine g_astore_n hX [(3, .ref (G.2.2 (24 + k))), (0, .ref (G.2.2 0)), (1, .int (missedK z k)), (2, .int (nI k))] dX3_judgePermits_18 (by decide) rfl ?_
          refine g_aload_n hX 0 dX3_judgePermits_19 rfl ?_
          refine c_g_Application_5 hX (by omega) i_X3_judgePermits_wsX00 (List.mem_of_getElem? (i := 3) rfl) dX3_judgePermits_20 ?_
          refine g_iconst hX 1 dX3_judgePermits_23 (by decide) ?_
          refine g_ic_ne hX 91 dX3_judgePermits_24 (by decide) (fun c2 => ?_) (fun c2 => ?_)
          · -- jump 91
            refine g_iinc hX (nI (k + 1)) 3 [(2, .int (nI (k + 1))), (3, .ref (G.2.2 (24 + k))), (0, .ref (G.2.2 0)), (1, .int (missedK z k))] dX3_judgePermits_91 rfl (nI_1 k) (by decide) rfl ?_
            refine g_goto hX 4 dX3_judgePermits_94 (by decide) ?_
            -- back to 4
            refine g_sub [2, 3, 0] [(0, .ref (G.2.2 0)), (1, .int (missedK z k)), (2, .int (nI (k + 1)))] rfl ?_
            have hm1 : y = judge1 y k := by simp [judge1, c1, c2]
            have e1 : (missedK z k : Int32) = missedK z (k + 1) := by
              rw [missedK, ← hy]
              simp [missed1, c1, c2]
            refine g_lv (lv' := [(0, .ref (G.2.2 0)), (1, .int (missedK z (k + 1))), (2, .int (nI (k + 1)))]) (by rw [e1]) ?_
            exact ih (k + 1) y (by omega) (by omega) (by rw [hm1]; exact IO_judge1 hIy k) (by rw [hm1]; exact (nA_of (judge1_lo y k (by omega))).trans hny) (by rw [hm1, judgeK, ← hy])
          · -- on 27
            refine g_aload_n hX 0 dX3_judgePermits_27 rfl ?_
            refine c_g_Application_2 hX (by omega) i_X3_judgePermits_wsX00 (List.mem_of_getElem? (i := 4) rfl) dX3_judgePermits_28 ?_
            refine g_aload_n hX 1 dX3_judgePermits_31 rfl ?_
            refine c_g_Office_0 hX i_X3_judgePermits_wsX30 (List.mem_of_getElem? (i := 5) rfl) dX3_judgePermits_32 ?_
            refine g_ic_ne hX 91 dX3_judgePermits_35 (by decide) (fun c3 => ?_) (fun c3 => ?_)
            · -- jump 91
              refine g_iinc hX (nI (k + 1)) 3 [(2, .int (nI (k + 1))), (3, .ref (G.2.2 (24 + k))), (0, .ref (G.2.2 0)), (1, .int (missedK z k))] dX3_judgePermits_91 rfl (nI_1 k) (by decide) rfl ?_
              refine g_goto hX 4 dX3_judgePermits_94 (by decide) ?_
              -- back to 4
              refine g_sub [2, 3, 0] [(0, .ref (G.2.2 0)), (1, .int (missedK z k)), (2, .int (nI (k + 1)))] rfl ?_
              have hm1 : y = judge1 y k := by simp [judge1, c1, c2, c3]
              have e1 : (missedK z k : Int32) = missedK z (k + 1) := by
                rw [missedK, ← hy]
                simp [missed1, c1, c2, c3]
              refine g_lv (lv' := [(0, .ref (G.2.2 0)), (1, .int (missedK z (k + 1))), (2, .int (nI (k + 1)))]) (by rw [e1]) ?_
              exact ih (k + 1) y (by omega) (by omega) (by rw [hm1]; exact IO_judge1 hIy k) (by rw [hm1]; exact (nA_of (judge1_lo y k (by omega))).trans hny) (by rw [hm1, judgeK, ← hy])
            · -- on 38
              refine g_aload_n hX 0 dX3_judgePermits_38 rfl ?_
              refine c_g_Application_8 hX (by omega) i_X3_judgePermits_wsX00 (List.mem_of_getElem? (i := 6) rfl) dX3_judgePermits_39 ?_
              refine g_if_eq hX 53 dX3_judgePermits_42 (by decide) (fun c4 => ?_) (fun c4 => ?_)
              · -- jump 53
                refine g_aload_n hX 0 dX3_judgePermits_53 rfl ?_
                refine g_bipush hX 6 dX3_judgePermits_54 (by decide) ?_
                refine c_p_Application_5 hX hA (by omega) i_X3_judgePermits_wsX00 (List.mem_of_getElem? (i := 3) rfl) dX3_judgePermits_56 ?_
                refine g_aload_n hX 1 dX3_judgePermits_59 rfl ?_
                refine c_g_Office_5 hX i_X3_judgePermits_wsX30 (List.mem_of_getElem? (i := 7) rfl) dX3_judgePermits_60 ?_
                refine g_aload_n hX 0 dX3_judgePermits_63 rfl ?_
                refine c_g_Application_0 hX (by omega) i_X3_judgePermits_wsX00 (List.mem_of_getElem? (i := 8) rfl) dX3_judgePermits_64 ?_
                refine g_top (y 11 k) (by simp [u2]) ?_
                refine c_ld_climbers hX (cn (y 11 k)) (iC hIy (by omega)).1 (iC hIy (by omega)).2 dX3_judgePermits_67 ?_
                refine g_aload_n hX 1 dX3_judgePermits_68 rfl ?_
                refine c_g_Office_8 hX i_X3_judgePermits_wsX30 (List.mem_of_getElem? (i := 9) rfl) dX3_judgePermits_69 ?_
                refine g_iconst hX 2 dX3_judgePermits_72 (by decide) ?_
                refine c_ld_settings hX 2 rfl (by decide) dX3_judgePermits_73 ?_
                refine g_top (y 4 2) (by simp [u2]) ?_
                refine g_aload_n hX 1 dX3_judgePermits_74 rfl ?_
                refine c_g_Office_0 hX i_X3_judgePermits_wsX30 (List.mem_of_getElem? (i := 5) rfl) dX3_judgePermits_75 ?_
                refine g_top (y 0 0) (by simp [u2]) ?_
                refine g_aload_n hX 1 dX3_judgePermits_78 rfl ?_
                refine c_g_Office_8 hX i_X3_judgePermits_wsX30 (List.mem_of_getElem? (i := 9) rfl) dX3_judgePermits_79 ?_
                refine g_iconst hX 3 dX3_judgePermits_82 (by decide) ?_
                refine c_ld_settings hX 3 rfl (by decide) dX3_judgePermits_83 ?_
                refine g_top (y 4 3) (by simp [u2]) ?_
                refine g_iadd hX dX3_judgePermits_84 ?_
                refine g_cvvE hX (As := [.int (y 4 2), .int ((y 0 0) + (y 4 3))]) (rest := []) (c_X1_strike l G hA (u2 y 15 k 6) (i := (cn (y 11 k))) (x1 := (y 4 2)) (x2 := ((y 0 0) + (y 4 3))) (hi := (iC hIy (by omega)).2)) k_X3_judgePermits_X1_strike (rc_Climber0 (iC hIy (by omega)).2) rfl rfl (Nat.le_of_ble_eq_true rfl) dX3_judgePermits_85 ?_
                refine g_iinc hX ((missedK z k) + 1) 2 [(1, .int ((missedK z k) + 1)), (3, .ref (G.2.2 (24 + k))), (0, .ref (G.2.2 0)), (2, .int (nI k))] dX3_judgePermits_88 rfl rfl (by decide) rfl ?_
                refine g_iinc hX (nI (k + 1)) 3 [(2, .int (nI (k + 1))), (1, .int ((missedK z k) + 1)), (3, .ref (G.2.2 (24 + k))), (0, .ref (G.2.2 0))] dX3_judgePermits_91 rfl (nI_1 k) (by decide) rfl ?_
                refine g_goto hX 4 dX3_judgePermits_94 (by decide) ?_
                -- back to 4
                refine g_sub [3, 1, 0] [(0, .ref (G.2.2 0)), (1, .int ((missedK z k) + 1)), (2, .int (nI (k + 1)))] rfl ?_
                have hm1 : strikeZ (u2 y 15 k 6) (cn (y 11 k)) (y 4 2) ((y 0 0) + (y 4 3)) = judge1 y k := by simp [judge1, c1, c2, c3, c4]
                have e1 : ((missedK z k) + 1 : Int32) = missedK z (k + 1) := by
                  rw [missedK, ← hy]
                  simp [missed1, c1, c2, c3, c4]
                refine g_lv (lv' := [(0, .ref (G.2.2 0)), (1, .int (missedK z (k + 1))), (2, .int (nI (k + 1)))]) (by rw [e1]) ?_
                exact ih (k + 1) (strikeZ (u2 y 15 k 6) (cn (y 11 k)) (y 4 2) ((y 0 0) + (y 4 3))) (by omega) (by omega) (by rw [hm1]; exact IO_judge1 hIy k) (by rw [hm1]; exact (nA_of (judge1_lo y k (by omega))).trans hny) (by rw [hm1, judgeK, ← hy])
              · -- on 45
                refine g_aload_n hX 0 dX3_judgePermits_45 rfl ?_
                refine g_iconst hX 5 dX3_judgePermits_46 (by decide) ?_
                refine c_p_Application_5 hX hA (by omega) i_X3_judgePermits_wsX00 (List.mem_of_getElem? (i := 3) rfl) dX3_judgePermits_47 ?_
                refine g_goto hX 91 dX3_judgePermits_50 (by decide) ?_
                refine g_iinc hX (nI (k + 1)) 3 [(2, .int (nI (k + 1))), (3, .ref (G.2.2 (24 + k))), (0, .ref (G.2.2 0)), (1, .int (missedK z k))] dX3_judgePermits_91 rfl (nI_1 k) (by decide) rfl ?_
                refine g_goto hX 4 dX3_judgePermits_94 (by decide) ?_
                -- back to 4
                refine g_sub [2, 3, 0] [(0, .ref (G.2.2 0)), (1, .int (missedK z k)), (2, .int (nI (k + 1)))] rfl ?_
                have hm1 : u2 y 15 k 5 = judge1 y k := by simp [judge1, c1, c2, c3, c4]
                have e1 : (missedK z k : Int32) = missedK z (k + 1) := by
                  rw [missedK, ← hy]
                  simp [missed1, c1, c2, c3, c4]
                refine g_lv (lv' := [(0, .ref (G.2.2 0)), (1, .int (missedK z (k + 1))), (2, .int (nI (k + 1)))]) (by rw [e1]) ?_
                exact ih (k + 1) (u2 y 15 k 5) (by omega) (by omega) (by rw [hm1]; exact IO_judge1 hIy k) (by rw [hm1]; exact (nA_of (judge1_lo y k (by omega))).trans hny) (by rw [hm1, judgeK, ← hy])
    refine g_sub [2, 1, 0] [(0, .ref (G.2.2 0)), (1, .int 0), (2, .int 0)] rfl ?_
    exact loop4 (nA z + 1) 0 z (by omega) (Nat.zero_le _) hI rfl rfl
def rm_X2_enterAll : Room := { frames := 2, cells := 0, slots := 0, locals := 42 }
theorem i_X2_enterAll_wsX00 : ∀ w ∈ wsX00, w ∈ wsX2_enterAll := fun w h => List.mem_cons_of_mem _ (List.mem_append_left _ (List.mem_append_right _ h))
theorem i_X2_enterAll_wsX20 : ∀ w ∈ wsX20, w ∈ wsX2_enterAll := fun w h => List.mem_cons_of_mem _ (List.mem_append_left _ (List.mem_append_left _ (List.mem_append_left _ (List.mem_append_right _ h))))
theorem i_X2_enterAll_wsX30 : ∀ w ∈ wsX30, w ∈ wsX2_enterAll := fun w h => List.mem_cons_of_mem _ (List.mem_append_left _ (List.mem_append_left _ (List.mem_append_right _ h)))
theorem k_X2_enterAll_X0_isOf : CW rm_X2_enterAll wsX2_enterAll RX2 RX0 49 yX0_isOf cX0_isOf 3 (some .boolean) wsX0_isOf rm_X0_isOf 2 := ⟨gX2_enterAll_X0_isOf, ⟨_, rfl⟩, rfl, rfl, ⟨rfl, by decide +kernel, by decide +kernel, by decide +kernel⟩, by decide, by decide⟩
theorem k_X2_enterAll_X3_isBarred : CW rm_X2_enterAll wsX2_enterAll RX2 RX3 53 yX3_isBarred cX3_isBarred 2 (some .boolean) wsX3_isBarred rm_X3_isBarred 1 := ⟨gX2_enterAll_X3_isBarred, ⟨_, rfl⟩, rfl, rfl, ⟨rfl, by decide +kernel, by decide +kernel, by decide +kernel⟩, by decide, by decide⟩
theorem k_X2_enterAll_X3_ticketsOf : CW rm_X2_enterAll wsX2_enterAll RX2 RX3 60 yX3_ticketsOf cX3_ticketsOf 2 (some .int) wsX3_ticketsOf rm_X3_ticketsOf 1 := ⟨gX2_enterAll_X3_ticketsOf, ⟨_, rfl⟩, rfl, rfl, ⟨rfl, by decide +kernel, by decide +kernel, by decide +kernel⟩, by decide, by decide⟩
set_option maxHeartbeats 4000000 in
set_option maxRecDepth 100000 in
theorem c_X2_enterAll (l : Launch) (G : MG) (hA : Ap 203 G.2.2) (z : St) {r : Int32} {d : Int32} (hr : ¬ r = -1) (hI : IO z) : CVc l G yX2_enterAll wsX2_enterAll rm_X2_enterAll [.ref (G.2.2 195), .ref (G.2.2 0), .int r, .int d] z (fun ζ => ζ = enterK z r d (nA z)) := by
  refine cv_of (own := RX2) (cc := cX2_enterAll) (maxL := 6) (by decide +kernel) rfl rfl (Nat.le_of_ble_eq_true rfl) (KQ_mv (ExC_mv G)) ?_
  intro X hX ret
  refine g_lv (lv' := [(0, .ref (G.2.2 195)), (1, .ref (G.2.2 0)), (2, .int r), (3, .int d)]) rfl ?_
  have h40 := (iNa hI).2
  refine g_aload_n hX 0 dX2_enterAll_0 rfl ?_
  refine g_iconst hX 0 dX2_enterAll_1 (by decide) ?_
  refine c_p_Draw_5 hX hA i_X2_enterAll_wsX20 (List.mem_of_getElem? (i := 1) rfl) dX2_enterAll_2 ?_
  refine g_aload_n hX 0 dX2_enterAll_5 rfl ?_
  refine g_iconst hX 0 dX2_enterAll_6 (by decide) ?_
  refine c_p_Draw_6 hX hA i_X2_enterAll_wsX20 (List.mem_of_getElem? (i := 2) rfl) dX2_enterAll_7 ?_
  refine g_iconst hX 0 dX2_enterAll_10 (by decide) ?_
  refine g_istore hX [(4, .int 0), (0, .ref (G.2.2 195)), (1, .ref (G.2.2 0)), (2, .int r), (3, .int d)] dX2_enterAll_11 (by decide) rfl ?_
  have loop13 : ∀ (nf : Nat) (k : Nat) (y : St), (nA z < k + nf) → (k ≤ nA z) → (IO y) → (nA y = nA z) → (y 66 0 = nI (cn (y 66 0)) ∧ cn (y 66 0) ≤ k) → (y = enterK z r d k) → Go X (y) 13 [(0, .ref (G.2.2 195)), (1, .ref (G.2.2 0)), (2, .int r), (3, .int d), (4, .int (nI k))] [] := by
    intro nf
    induction nf with
    | zero =>
      intro k y hmu hk hIy hny he hy
      exfalso; omega
    | succ nf ih =>
      intro k y hmu hk hIy hny he hy
      refine g_iload hX 4 dX2_enterAll_13 rfl ?_
      refine g_aload_n hX 1 dX2_enterAll_15 rfl ?_
      refine c_g_Office_3 hX i_X2_enterAll_wsX30 (List.mem_of_getElem? (i := 3) rfl) dX2_enterAll_16 ?_
      refine g_ic_ge hX 132 dX2_enterAll_19 (by decide) (fun c1 => ?_) (fun c1 => ?_)
      · -- jump 132
        have hke : k = nA z := by
          rw [(iNa hIy).1, hny] at c1; have := (nI_leI (by omega) (by omega)).mp c1; omega
        refine ret _ _ _ dX2_enterAll_132 ?_
        rw [hy, hke]
      · -- on 22
        have hkn : k < nA z := by
          rw [(iNa hIy).1, hny] at c1; exact Nat.lt_of_not_le (fun q => c1 (nI_le q (by omega)))
        refine g_aload_n hX 1 dX2_enterAll_22 rfl ?_
        refine c_g_Office_6 hX i_X2_enterAll_wsX30 (List.mem_of_getElem? (i := 4) rfl) dX2_enterAll_23 ?_
        refine g_iload hX 4 dX2_enterAll_26 rfl ?_
        refine c_ld_applications hX k rfl (by omega) dX2_enterAll_28 ?_
        refine g_astore hX [(5, .ref (G.2.2 (24 + k))), (0, .ref (G.2.2 195)), (1, .ref (G.2.2 0)), (2, .int r), (3, .int d), (4, .int (nI k))] dX2_enterAll_29 (by decide) rfl ?_
        refine g_aload hX 0 dX2_enterAll_31 rfl ?_
        refine c_g_Application_5 hX (by omega) i_X2_enterAll_wsX00 (List.mem_of_getElem? (i := 5) rfl) dX2_enterAll_33 ?_
        refine g_if_ne hX 126 dX2_enterAll_36 (by decide) (fun c2 => ?_) (fun c2 => ?_)
        · -- jump 126
          refine g_iinc hX (nI (k + 1)) 5 [(4, .int (nI (k + 1))), (5, .ref (G.2.2 (24 + k))), (0, .ref (G.2.2 195)), (1, .ref (G.2.2 0)), (2, .int r), (3, .int d)] dX2_enterAll_126 rfl (nI_1 k) (by decide) rfl ?_
          refine g_goto hX 13 dX2_enterAll_129 (by decide) ?_
          -- back to 13
          refine g_sub [2, 3, 4, 5, 0] [(0, .ref (G.2.2 195)), (1, .ref (G.2.2 0)), (2, .int r), (3, .int d), (4, .int (nI (k + 1)))] rfl ?_
          have hm1 : y = enter1 y r d k := by rw [enter1, if_neg (by grind)]
          exact ih (k + 1) y (by omega) (by omega) (by rw [hm1]; exact IO_of hIy (fun f hf => enter1_lo y r d k (by omega))) (by rw [hm1]; exact (nA_of (enter1_lo y r d k (by omega))).trans hny) (by rw [hm1]; exact enter1_66 he (by omega)) (by rw [hm1, enterK, ← hy])
        · -- on 39
          refine g_aload hX 0 dX2_enterAll_39 rfl ?_
          refine g_iload_n hX 3 dX2_enterAll_41 rfl ?_
          refine g_iload_n hX 4 dX2_enterAll_42 rfl ?_
          refine g_cvE hX (As := [.int r, .int d]) (rest := []) (c_X0_isOf l G y (a := k) (x1 := r) (x2 := d) (ha := (by omega))) k_X2_enterAll_X0_isOf (rc_App0 (by omega)) rfl rfl (Nat.le_of_ble_eq_true rfl) dX2_enterAll_43 ?_
          refine g_bi_eq hX 126 dX2_enterAll_46 (by decide) (fun c3 => ?_) (fun c3 => ?_)
          · -- jump 126
            refine g_iinc hX (nI (k + 1)) 5 [(4, .int (nI (k + 1))), (5, .ref (G.2.2 (24 + k))), (0, .ref (G.2.2 195)), (1, .ref (G.2.2 0)), (2, .int r), (3, .int d)] dX2_enterAll_126 rfl (nI_1 k) (by decide) rfl ?_
            refine g_goto hX 13 dX2_enterAll_129 (by decide) ?_
            -- back to 13
            refine g_sub [2, 3, 4, 5, 0] [(0, .ref (G.2.2 195)), (1, .ref (G.2.2 0)), (2, .int r), (3, .int d), (4, .int (nI (k + 1)))] rfl ?_
            have hm1 : y = enter1 y r d k := by rw [enter1, if_neg (by grind)]
            exact ih (k + 1) y (by omega) (by omega) (by rw [hm1]; exact IO_of hIy (fun f hf => enter1_lo y r d k (by omega))) (by rw [hm1]; exact (nA_of (enter1_lo y r d k (by omega))).trans hny) (by rw [hm1]; exact enter1_66 he (by omega)) (by rw [hm1, enterK, ← hy])
          · -- on 49
            refine g_aload_n hX 2 dX2_enterAll_49 rfl ?_
            refine g_aload hX 0 dX2_enterAll_50 rfl ?_
            refine g_cvE hX (As := [.ref (G.2.2 (24 + k))]) (rest := []) (c_X3_isBarred l G y (a := k) (ha := (by omega)) (hI := hIy)) k_X2_enterAll_X3_isBarred rc_Office0 rfl rfl (Nat.le_of_ble_eq_true rfl) dX2_enterAll_52 ?_
            refine g_bi_ne hX 126 dX2_enterAll_55 (by decide) (fun c4 => ?_) (fun c4 => ?_)
            · -- jump 126
              refine g_iinc hX (nI (k + 1)) 5 [(4, .int (nI (k + 1))), (5, .ref (G.2.2 (24 + k))), (0, .ref (G.2.2 195)), (1, .ref (G.2.2 0)), (2, .int r), (3, .int d)] dX2_enterAll_126 rfl (nI_1 k) (by decide) rfl ?_
              refine g_goto hX 13 dX2_enterAll_129 (by decide) ?_
              -- back to 13
              refine g_sub [2, 3, 4, 5, 0] [(0, .ref (G.2.2 195)), (1, .ref (G.2.2 0)), (2, .int r), (3, .int d), (4, .int (nI (k + 1)))] rfl ?_
              have hm1 : y = enter1 y r d k := by rw [enter1, if_neg (by grind)]
              exact ih (k + 1) y (by omega) (by omega) (by rw [hm1]; exact IO_of hIy (fun f hf => enter1_lo y r d k (by omega))) (by rw [hm1]; exact (nA_of (enter1_lo y r d k (by omega))).trans hny) (by rw [hm1]; exact enter1_66 he (by omega)) (by rw [hm1, enterK, ← hy])
            · -- on 58
              refine g_aload_n hX 1 dX2_enterAll_58 rfl ?_
              refine c_g_Draw_0 hX i_X2_enterAll_wsX20 (List.mem_of_getElem? (i := 6) rfl) dX2_enterAll_59 ?_
              refine g_aload_n hX 1 dX2_enterAll_62 rfl ?_
              refine c_g_Draw_5 hX i_X2_enterAll_wsX20 (List.mem_of_getElem? (i := 1) rfl) dX2_enterAll_63 ?_
              refine g_iload hX 5 dX2_enterAll_66 rfl ?_
              refine c_st_numbers hX hA (cn (y 66 0)) he.1 (by omega) dX2_enterAll_68 ?_
              refine g_aload_n hX 1 dX2_enterAll_69 rfl ?_
              refine c_g_Draw_1 hX i_X2_enterAll_wsX20 (List.mem_of_getElem? (i := 7) rfl) dX2_enterAll_70 ?_
              refine g_aload_n hX 1 dX2_enterAll_73 rfl ?_
              refine c_g_Draw_5 hX i_X2_enterAll_wsX20 (List.mem_of_getElem? (i := 1) rfl) dX2_enterAll_74 ?_
              refine g_top (y 66 0) (by simp [u2]) ?_
              refine g_aload hX 0 dX2_enterAll_77 rfl ?_
              refine c_g_Application_4 hX (by omega) i_X2_enterAll_wsX00 (List.mem_of_getElem? (i := 8) rfl) dX2_enterAll_79 ?_
              refine g_top (y 14 k) (by simp [u2]) ?_
              refine c_st_parties hX hA (cn (y 66 0)) he.1 (by omega) dX2_enterAll_82 ?_
              refine g_aload_n hX 1 dX2_enterAll_83 rfl ?_
              refine c_g_Draw_2 hX i_X2_enterAll_wsX20 (List.mem_of_getElem? (i := 9) rfl) dX2_enterAll_84 ?_
              refine g_aload_n hX 1 dX2_enterAll_87 rfl ?_
              refine c_g_Draw_5 hX i_X2_enterAll_wsX20 (List.mem_of_getElem? (i := 1) rfl) dX2_enterAll_88 ?_
              refine g_top (y 66 0) (by simp [u2]) ?_
              refine g_aload_n hX 2 dX2_enterAll_91 rfl ?_
              refine g_aload hX 0 dX2_enterAll_92 rfl ?_
              refine g_cvE hX (As := [.ref (G.2.2 (24 + k))]) (rest := [.int (y 66 0), .ref (G.2.2 198)]) (c_X3_ticketsOf l G (u2 (u2 y 61 (cn (y 66 0)) (nI k)) 62 (cn (y 66 0)) (y 14 k)) (a := k) (ha := (by rw [nA_of (y := u2 (u2 y 61 (cn (y 66 0)) (nI k)) 62 (cn (y 66 0)) (y 14 k)) (z := y) (by (repeat rw [u2_f (by omega)]))]; omega)) (hI := (IO_of hIy (fun f hf => by (repeat rw [u2_f (by omega)]))))) k_X2_enterAll_X3_ticketsOf rc_Office0 rfl rfl (Nat.le_of_ble_eq_true rfl) dX2_enterAll_94 ?_
              refine g_top (tkt y k) (by simp [tkt, u2]) ?_
              refine c_st_tickets hX hA (cn (y 66 0)) he.1 (by omega) dX2_enterAll_97 ?_
              refine g_aload_n hX 1 dX2_enterAll_98 rfl ?_
              refine g_dup hX dX2_enterAll_99 rfl ?_
              refine c_g_Draw_6 hX i_X2_enterAll_wsX20 (List.mem_of_getElem? (i := 2) rfl) dX2_enterAll_100 ?_
              refine g_top (y 67 0) (by simp [u2]) ?_
              refine g_aload_n hX 1 dX2_enterAll_103 rfl ?_
              refine c_g_Draw_2 hX i_X2_enterAll_wsX20 (List.mem_of_getElem? (i := 9) rfl) dX2_enterAll_104 ?_
              refine g_aload_n hX 1 dX2_enterAll_107 rfl ?_
              refine c_g_Draw_5 hX i_X2_enterAll_wsX20 (List.mem_of_getElem? (i := 1) rfl) dX2_enterAll_108 ?_
              refine g_top (y 66 0) (by simp [u2]) ?_
              refine c_ld_tickets hX (cn (y 66 0)) he.1 (by omega) dX2_enterAll_111 ?_
              refine g_top (tkt y k) (by simp [u2]) ?_
              refine g_iadd hX dX2_enterAll_112 ?_
              refine c_p_Draw_6 hX hA i_X2_enterAll_wsX20 (List.mem_of_getElem? (i := 2) rfl) dX2_enterAll_113 ?_
              refine g_aload_n hX 1 dX2_enterAll_116 rfl ?_
              refine g_dup hX dX2_enterAll_117 rfl ?_
              refine c_g_Draw_5 hX i_X2_enterAll_wsX20 (List.mem_of_getElem? (i := 1) rfl) dX2_enterAll_118 ?_
              refine g_top (y 66 0) (by simp [u2]) ?_
              refine g_iconst hX 1 dX2_enterAll_121 (by decide) ?_
              refine g_iadd hX dX2_enterAll_122 ?_
              refine c_p_Draw_5 hX hA i_X2_enterAll_wsX20 (List.mem_of_getElem? (i := 1) rfl) dX2_enterAll_123 ?_
              refine g_iinc hX (nI (k + 1)) 5 [(4, .int (nI (k + 1))), (5, .ref (G.2.2 (24 + k))), (0, .ref (G.2.2 195)), (1, .ref (G.2.2 0)), (2, .int r), (3, .int d)] dX2_enterAll_126 rfl (nI_1 k) (by decide) rfl ?_
              refine g_goto hX 13 dX2_enterAll_129 (by decide) ?_
              -- back to 13
              refine g_sub [2, 3, 4, 5, 0] [(0, .ref (G.2.2 195)), (1, .ref (G.2.2 0)), (2, .int r), (3, .int d), (4, .int (nI (k + 1)))] rfl ?_
              have hm1 : u2 (u2 (u2 (u2 (u2 y 61 (cn (y 66 0)) (nI k)) 62 (cn (y 66 0)) (y 14 k)) 63 (cn (y 66 0)) (tkt y k)) 67 0 ((y 67 0) + (tkt y k))) 66 0 ((y 66 0) + 1) = enter1 y r d k := by rw [enter1, if_pos (by grind)]
              exact ih (k + 1) (u2 (u2 (u2 (u2 (u2 y 61 (cn (y 66 0)) (nI k)) 62 (cn (y 66 0)) (y 14 k)) 63 (cn (y 66 0)) (tkt y k)) 67 0 ((y 67 0) + (tkt y k))) 66 0 ((y 66 0) + 1)) (by omega) (by omega) (by rw [hm1]; exact IO_of hIy (fun f hf => enter1_lo y r d k (by omega))) (by rw [hm1]; exact (nA_of (enter1_lo y r d k (by omega))).trans hny) (by rw [hm1]; exact enter1_66 he (by omega)) (by rw [hm1, enterK, ← hy])
  refine g_sub [1, 2, 3, 4, 0] [(0, .ref (G.2.2 195)), (1, .ref (G.2.2 0)), (2, .int r), (3, .int d), (4, .int 0)] rfl ?_
  exact loop13 (nA z + 1) 0 (u2 (u2 z 66 0 0) 67 0 0) (by omega) (Nat.zero_le _) (IO_of hI (fun f hf => by rw [u2_f (by omega), u2_f (by omega)])) (nA_of (by rw [u2_f (by omega), u2_f (by omega)])) ⟨rfl, Nat.le_refl 0⟩ rfl
