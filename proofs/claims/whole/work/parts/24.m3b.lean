def rm_X7_cancel : Room := { frames := 5, cells := 0, slots := 0, locals := 116 }
theorem i_X7_cancel_wsX70 : ∀ w ∈ wsX70, w ∈ wsX7_cancel := fun w h => List.mem_cons_of_mem _ (List.mem_append_right _ h)
theorem k_X7_cancel_X7_goOn : CW rm_X7_cancel wsX7_cancel RX7 RX7 131 yX7_goOn cX7_goOn 4 none wsX7_goOn rm_X7_goOn 2 := ⟨gX7_cancel_X7_goOn, ⟨_, rfl⟩, rfl, rfl, ⟨rfl, by decide +kernel, by decide +kernel, by decide +kernel⟩, by decide, by decide⟩
theorem k_X7_cancel_X7_in : CS rm_X7_cancel wsX7_cancel RX7 35 yX7_in cX7_in 3 (some .boolean) wsX7_in rm_X7_in 3 := ⟨gX7_cancel_X7_in, ⟨_, rfl⟩, rfl, rfl, ⟨rfl, by decide +kernel, by decide +kernel, by decide +kernel⟩, by decide, by decide⟩
theorem k_X7_cancel_X7_isApplication : CW rm_X7_cancel wsX7_cancel RX7 RX7 128 yX7_isApplication cX7_isApplication 2 (some .boolean) wsX7_isApplication rm_X7_isApplication 1 := ⟨gX7_cancel_X7_isApplication, ⟨_, rfl⟩, rfl, rfl, ⟨rfl, by decide +kernel, by decide +kernel, by decide +kernel⟩, by decide, by decide⟩
theorem k_X7_cancel_X7_lay : CW rm_X7_cancel wsX7_cancel RX7 RX7 75 yX7_lay cX7_lay 4 none wsX7_lay rm_X7_lay 3 := ⟨gX7_cancel_X7_lay, ⟨_, rfl⟩, rfl, rfl, ⟨rfl, by decide +kernel, by decide +kernel, by decide +kernel⟩, by decide, by decide⟩
theorem k_X7_cancel_X7_of : CW rm_X7_cancel wsX7_cancel RX7 RX7 66 yX7_of cX7_of 3 (some .int) wsX7_of rm_X7_of 2 := ⟨gX7_cancel_X7_of, ⟨_, rfl⟩, rfl, rfl, ⟨rfl, by decide +kernel, by decide +kernel, by decide +kernel⟩, by decide, by decide⟩
set_option maxHeartbeats 4000000 in
set_option maxRecDepth 100000 in
theorem c_X7_cancel (l : Launch) (G : MG) (hA : Ap 9 G.2.2) (z : St) {x : Int32} (hI : IO z) (hcl : ∀ d, d < 60 → z 7 d = 0 ∨ z 7 d = 1) (h87 : ∀ a, a < nA z → z 87 (cn (z 11 a)) = z 10 (cn (z 11 a))) (hst : ∀ a, a < nA z → ∃ s, s < 7 ∧ z 15 a = nI s) (h16 : ∀ a, a < nA z → (z 15 a = 0 ∨ z 15 a = 2) → z 16 a = 0) (h17 : ∀ a, a < nA z → aliveP z a → z 17 a = 0) (hpay : ∀ a, a < nA z → 0 < z 4 0 * z 14 a) (ht : ∀ a, a < nA z → z 15 a = 1 → z 0 0 ≤ z 13 a) : CIm l G yX7_cancel wsX7_cancel rm_X7_cancel [.ref (G.2.2 0), .int x] z (fun ρ ζ => ρ = (spCancel z x).1 ∧ ζ = (spCancel z x).2) := by
  refine ci_of (own := RX7) (cc := cX7_cancel) (maxL := 5) (ret := .int) (by decide +kernel) rfl rfl ?_ (Nat.le_of_ble_eq_true rfl) (KQ_mv (ExM_mv G)) ?_
  · intro v z' _; rfl
  · intro X hX ret
    refine g_lv (lv' := [(0, .ref (G.2.2 0)), (1, .int x)]) rfl ?_
    refine g_aload_n hX 0 dX7_cancel_0 rfl ?_
    refine g_iload_n hX 1 dX7_cancel_1 rfl ?_
    refine g_cvE hX (As := [.int x]) (rest := []) (c_X7_isApplication l G z (x := x) (hI := (by assumption))) k_X7_cancel_X7_isApplication rc_Model rfl rfl (Nat.le_of_ble_eq_true rfl) dX7_cancel_2 ?_
    refine g_bi_ne hX 10 dX7_cancel_5 (by decide) (fun c1 => ?_) (fun c1 => ?_)
    · -- jump 10
      have ha := appP_in hI c1
      have hR := iR hI ha.2.1
      have hD := iD hI ha.2.1
      have hal := st_alive (hst _ ha.2.1)
      refine g_aload_n hX 0 dX7_cancel_10 rfl ?_
      refine g_iload_n hX 1 dX7_cancel_11 rfl ?_
      refine g_iconst hX 4 dX7_cancel_12 (by decide) ?_
      refine g_st (st2 := [.int 4, .int (nI (cn x)), .ref (G.2.2 0)]) (by rw [← (show x = nI (cn x) from ha.1)]) ?_
      refine g_cvE hX (As := [.int (nI (cn x)), .int 4]) (rest := []) (c_X7_of l G z (a := (cn x)) (w := 4) (ha := ha.2.2) (hw := (by decide))) k_X7_cancel_X7_of rc_Model rfl rfl (Nat.le_of_ble_eq_true rfl) dX7_cancel_13 ?_
      refine g_top (z 15 (cn x)) rfl ?_
      refine g_istore_n hX [(2, .int (z 15 (cn x))), (0, .ref (G.2.2 0)), (1, .int x)] dX7_cancel_16 (by decide) rfl ?_
      refine g_iload_n hX 0 dX7_cancel_17 rfl ?_
      refine g_iconst hX 0 dX7_cancel_18 (by decide) ?_
      refine g_iconst hX 2 dX7_cancel_19 (by decide) ?_
      refine g_csE hX (As := [.int (z 15 (cn x)), .int 0, .int 2]) (rest := []) (c_X7_in l G z (x := (z 15 (cn x))) (lo := 0) (hi := 2) ) k_X7_cancel_X7_in rfl rfl (Nat.le_of_ble_eq_true rfl) dX7_cancel_20 ?_
      refine g_bi_ne hX 29 dX7_cancel_23 (by decide) (fun c2 => ?_) (fun c2 => ?_)
      · -- jump 29
        have hlv : aliveP z (cn x) := hal.mp c2
        have h0 := h17 _ ha.2.1 hlv
        refine g_aload_n hX 1 dX7_cancel_29 rfl ?_
        refine g_iload_n hX 2 dX7_cancel_30 rfl ?_
        refine g_iconst hX 4 dX7_cancel_31 (by decide) ?_
        refine g_iconst hX 3 dX7_cancel_32 (by decide) ?_
        refine g_st (st2 := [.int 3, .int 4, .int (nI (cn x)), .ref (G.2.2 0)]) (by rw [← (show x = nI (cn x) from ha.1)]) ?_
        refine g_cvvE hX (As := [.int (nI (cn x)), .int 4, .int 3]) (rest := []) (c_X7_lay l G hA z (a := (cn x)) (w := 4) (v := 3) (ha := ha.2.2) (hw := (by decide))) k_X7_cancel_X7_lay rc_Model rfl rfl (Nat.le_of_ble_eq_true rfl) dX7_cancel_33 ?_
        refine g_z (z2 := u2 z 15 (cn x) 3) rfl ?_
        refine g_iload_n hX 0 dX7_cancel_36 rfl ?_
        refine g_iconst hX 1 dX7_cancel_37 (by decide) ?_
        refine g_ic_eq hX 43 dX7_cancel_38 (by decide) (fun c3 => ?_) (fun c3 => ?_)
        · -- jump 43
          have hcm := cancel_m hI hcl c1 hlv c3 (ht _ ha.2.1 c3)
          refine g_aload_n hX 1 dX7_cancel_43 rfl ?_
          refine g_iload_n hX 2 dX7_cancel_44 rfl ?_
          refine g_iconst hX 2 dX7_cancel_45 (by decide) ?_
          refine g_st (st2 := [.int 2, .int (nI (cn x)), .ref (G.2.2 0)]) (by rw [← (show x = nI (cn x) from ha.1)]) ?_
          refine g_cvE hX (As := [.int (nI (cn x)), .int 2]) (rest := []) (c_X7_of l G (u2 z 15 (cn x) 3) (a := (cn x)) (w := 2) (ha := ha.2.2) (hw := (by decide))) k_X7_cancel_X7_of rc_Model rfl rfl (Nat.le_of_ble_eq_true rfl) dX7_cancel_46 ?_
          refine g_top ((u2 z 15 (cn x) 3) 13 (cn x)) rfl ?_
          refine g_top (z 13 (cn x)) (by simp [u2]) ?_
          refine g_aload_n hX 1 dX7_cancel_49 rfl ?_
          refine m_g_0 hX i_X7_cancel_wsX70 (List.mem_of_getElem? (i := 1) rfl) dX7_cancel_50 ?_
          refine g_iconst hX 0 dX7_cancel_53 (by decide) ?_
          refine m_ld_at hX 0 rfl (by decide) dX7_cancel_54 (v := (z 0 0)) rfl ?_
          refine g_isub hX dX7_cancel_55 ?_
          refine g_istore_n hX [(3, .int ((z 13 (cn x)) - (z 0 0))), (2, .int (z 15 (cn x))), (0, .ref (G.2.2 0)), (1, .int x)] dX7_cancel_56 (by decide) rfl ?_
          refine g_iload_n hX 0 dX7_cancel_57 rfl ?_
          refine g_bipush hX 7 dX7_cancel_58 (by decide) ?_
          refine g_ic_lt hX 72 dX7_cancel_60 (by decide) (fun c4 => ?_) (fun c4 => ?_)
          · -- jump 72
            refine g_iload_n hX 0 dX7_cancel_72 rfl ?_
            refine g_iconst hX 3 dX7_cancel_73 (by decide) ?_
            refine g_ic_lt hX 88 dX7_cancel_74 (by decide) (fun c5 => ?_) (fun c5 => ?_)
            · -- jump 88
              refine g_iconst hX 0 dX7_cancel_88 (by decide) ?_
              refine g_istore hX [(4, .int 0), (3, .int ((z 13 (cn x)) - (z 0 0))), (2, .int (z 15 (cn x))), (0, .ref (G.2.2 0)), (1, .int x)] dX7_cancel_89 (by decide) rfl ?_
              refine g_lv (lv' := [(4, .int (backNow z (cn x))), (3, .int ((z 13 (cn x)) - (z 0 0))), (2, .int (z 15 (cn x))), (0, .ref (G.2.2 0)), (1, .int x)]) (by rw [← (show 0 = (backNow z (cn x)) from (by simp [backNow, u2, c1, c2, c3, c4, c5]))]) ?_
              refine g_aload_n hX 3 dX7_cancel_91 rfl ?_
              refine g_iload_n hX 4 dX7_cancel_92 rfl ?_
              refine g_bipush hX 6 dX7_cancel_93 (by decide) ?_
              refine g_aload_n hX 3 dX7_cancel_95 rfl ?_
              refine g_iload_n hX 4 dX7_cancel_96 rfl ?_
              refine g_bipush hX 6 dX7_cancel_97 (by decide) ?_
              refine g_st (st2 := [.int 6, .int (nI (cn x)), .ref (G.2.2 0), .int 6, .int x, .ref (G.2.2 0)]) (by rw [← (show x = nI (cn x) from ha.1)]) ?_
              refine g_cvE hX (As := [.int (nI (cn x)), .int 6]) (rest := [.int 6, .int x, .ref (G.2.2 0)]) (c_X7_of l G (u2 z 15 (cn x) 3) (a := (cn x)) (w := 6) (ha := ha.2.2) (hw := (by decide))) k_X7_cancel_X7_of rc_Model rfl rfl (Nat.le_of_ble_eq_true rfl) dX7_cancel_99 ?_
              refine g_top ((u2 z 15 (cn x) 3) 17 (cn x)) rfl ?_
              refine g_top (z 17 (cn x)) (by simp [u2]) ?_
              refine g_iload hX 0 dX7_cancel_102 rfl ?_
              refine g_iadd hX dX7_cancel_104 ?_
              refine g_st (st2 := [.int ((z 17 (cn x)) + (backNow z (cn x))), .int 6, .int (nI (cn x)), .ref (G.2.2 0)]) (by rw [← (show x = nI (cn x) from ha.1)]) ?_
              refine g_cvvE hX (As := [.int (nI (cn x)), .int 6, .int ((z 17 (cn x)) + (backNow z (cn x)))]) (rest := []) (c_X7_lay l G hA (u2 z 15 (cn x) 3) (a := (cn x)) (w := 6) (v := ((z 17 (cn x)) + (backNow z (cn x)))) (ha := ha.2.2) (hw := (by decide))) k_X7_cancel_X7_lay rc_Model rfl rfl (Nat.le_of_ble_eq_true rfl) dX7_cancel_105 ?_
              refine g_z (z2 := u2 (u2 z 15 (cn x) 3) 17 (cn x) ((z 17 (cn x)) + (backNow z (cn x)))) rfl ?_
              refine g_z (z2 := yC z (cn x)) (by simp [yC, u2, h0]) ?_
              refine g_aload_n hX 3 dX7_cancel_108 rfl ?_
              refine g_aload_n hX 3 dX7_cancel_109 rfl ?_
              refine g_iload_n hX 4 dX7_cancel_110 rfl ?_
              refine g_iconst hX 1 dX7_cancel_111 (by decide) ?_
              refine g_st (st2 := [.int 1, .int (nI (cn x)), .ref (G.2.2 0), .ref (G.2.2 0)]) (by rw [← (show x = nI (cn x) from ha.1)]) ?_
              refine g_cvE hX (As := [.int (nI (cn x)), .int 1]) (rest := [.ref (G.2.2 0)]) (c_X7_of l G (yC z (cn x)) (a := (cn x)) (w := 1) (ha := ha.2.2) (hw := (by decide))) k_X7_cancel_X7_of rc_Model rfl rfl (Nat.le_of_ble_eq_true rfl) dX7_cancel_112 ?_
              refine g_top ((yC z (cn x)) 12 (cn x)) rfl ?_
              refine g_aload_n hX 3 dX7_cancel_115 rfl ?_
              refine g_iload_n hX 4 dX7_cancel_116 rfl ?_
              refine g_iconst hX 2 dX7_cancel_117 (by decide) ?_
              refine g_st (st2 := [.int 2, .int (nI (cn x)), .ref (G.2.2 0), .int ((yC z (cn x)) 12 (cn x)), .ref (G.2.2 0)]) (by rw [← (show x = nI (cn x) from ha.1)]) ?_
              refine g_cvE hX (As := [.int (nI (cn x)), .int 2]) (rest := [.int ((yC z (cn x)) 12 (cn x)), .ref (G.2.2 0)]) (c_X7_of l G (yC z (cn x)) (a := (cn x)) (w := 2) (ha := ha.2.2) (hw := (by decide))) k_X7_cancel_X7_of rc_Model rfl rfl (Nat.le_of_ble_eq_true rfl) dX7_cancel_118 ?_
              refine g_top ((yC z (cn x)) 13 (cn x)) rfl ?_
              refine g_st (st2 := [.int ((yC z (cn x)) 13 (cn x)), .int (nI (cn (z 12 (cn x)))), .ref (G.2.2 0)]) (by rw [← (show ((yC z (cn x)) 12 (cn x)) = nI (cn (z 12 (cn x))) from hR.1)]) ?_
              refine g_st (st2 := [.int (nI (cn (z 13 (cn x)))), .int (nI (cn (z 12 (cn x)))), .ref (G.2.2 0)]) (by rw [← (show ((yC z (cn x)) 13 (cn x)) = nI (cn (z 13 (cn x))) from hD.1)]) ?_
              refine g_cvvE hX (As := [.int (nI (cn (z 12 (cn x)))), .int (nI (cn (z 13 (cn x))))]) (rest := []) (c_X7_goOn l G hA (yC z (cn x)) (q := (cn (z 12 (cn x)))) (e := (cn (z 13 (cn x)))) (hq := hR.2) (he := hD.2) (hI := (IO_u2 (IO_u2 hI (by decide)) (by decide))) (h87 := (by rw [nA_of (yC_lo _ _ (by decide)), yC_lo _ _ (by decide), yC_lo _ _ (by decide), yC_lo _ _ (by decide)]; exact h87)) (h16 := (yC_16 h16 _)) (hpay := (by rw [nA_of (yC_lo _ _ (by decide)), yC_lo _ _ (by decide), yC_lo _ _ (by decide)]; exact hpay))) k_X7_cancel_X7_goOn rc_Model rfl rfl (Nat.le_of_ble_eq_true rfl) dX7_cancel_121 ?_
              refine g_iload hX 0 dX7_cancel_124 rfl ?_
              refine ret _ _ _ _ dX7_cancel_126 ?_
              exact ⟨hcm.1.symm, hcm.2.symm⟩
            · -- on 77
              refine g_aload_n hX 2 dX7_cancel_77 rfl ?_
              refine g_iload_n hX 3 dX7_cancel_78 rfl ?_
              refine g_iconst hX 5 dX7_cancel_79 (by decide) ?_
              refine g_st (st2 := [.int 5, .int (nI (cn x)), .ref (G.2.2 0)]) (by rw [← (show x = nI (cn x) from ha.1)]) ?_
              refine g_cvE hX (As := [.int (nI (cn x)), .int 5]) (rest := []) (c_X7_of l G (u2 z 15 (cn x) 3) (a := (cn x)) (w := 5) (ha := ha.2.2) (hw := (by decide))) k_X7_cancel_X7_of rc_Model rfl rfl (Nat.le_of_ble_eq_true rfl) dX7_cancel_80 ?_
              refine g_top ((u2 z 15 (cn x) 3) 16 (cn x)) rfl ?_
              refine g_top (z 16 (cn x)) (by simp [u2]) ?_
              refine g_iconst hX 2 dX7_cancel_83 (by decide) ?_
              refine g_idiv hX dX7_cancel_84 (by decide) ?_
              refine g_goto hX 89 dX7_cancel_85 (by decide) ?_
              refine g_istore hX [(4, .int ((z 16 (cn x)) / 2)), (3, .int ((z 13 (cn x)) - (z 0 0))), (2, .int (z 15 (cn x))), (0, .ref (G.2.2 0)), (1, .int x)] dX7_cancel_89 (by decide) rfl ?_
              refine g_lv (lv' := [(4, .int (backNow z (cn x))), (3, .int ((z 13 (cn x)) - (z 0 0))), (2, .int (z 15 (cn x))), (0, .ref (G.2.2 0)), (1, .int x)]) (by rw [← (show ((z 16 (cn x)) / 2) = (backNow z (cn x)) from (by simp [backNow, u2, c1, c2, c3, c4, c5]))]) ?_
              refine g_aload_n hX 3 dX7_cancel_91 rfl ?_
              refine g_iload_n hX 4 dX7_cancel_92 rfl ?_
              refine g_bipush hX 6 dX7_cancel_93 (by decide) ?_
              refine g_aload_n hX 3 dX7_cancel_95 rfl ?_
              refine g_iload_n hX 4 dX7_cancel_96 rfl ?_
              refine g_bipush hX 6 dX7_cancel_97 (by decide) ?_
              refine g_st (st2 := [.int 6, .int (nI (cn x)), .ref (G.2.2 0), .int 6, .int x, .ref (G.2.2 0)]) (by rw [← (show x = nI (cn x) from ha.1)]) ?_
              refine g_cvE hX (As := [.int (nI (cn x)), .int 6]) (rest := [.int 6, .int x, .ref (G.2.2 0)]) (c_X7_of l G (u2 z 15 (cn x) 3) (a := (cn x)) (w := 6) (ha := ha.2.2) (hw := (by decide))) k_X7_cancel_X7_of rc_Model rfl rfl (Nat.le_of_ble_eq_true rfl) dX7_cancel_99 ?_
              refine g_top ((u2 z 15 (cn x) 3) 17 (cn x)) rfl ?_
              refine g_top (z 17 (cn x)) (by simp [u2]) ?_
              refine g_iload hX 0 dX7_cancel_102 rfl ?_
              refine g_iadd hX dX7_cancel_104 ?_
              refine g_st (st2 := [.int ((z 17 (cn x)) + (backNow z (cn x))), .int 6, .int (nI (cn x)), .ref (G.2.2 0)]) (by rw [← (show x = nI (cn x) from ha.1)]) ?_
              refine g_cvvE hX (As := [.int (nI (cn x)), .int 6, .int ((z 17 (cn x)) + (backNow z (cn x)))]) (rest := []) (c_X7_lay l G hA (u2 z 15 (cn x) 3) (a := (cn x)) (w := 6) (v := ((z 17 (cn x)) + (backNow z (cn x)))) (ha := ha.2.2) (hw := (by decide))) k_X7_cancel_X7_lay rc_Model rfl rfl (Nat.le_of_ble_eq_true rfl) dX7_cancel_105 ?_
              refine g_z (z2 := u2 (u2 z 15 (cn x) 3) 17 (cn x) ((z 17 (cn x)) + (backNow z (cn x)))) rfl ?_
              refine g_z (z2 := yC z (cn x)) (by simp [yC, u2, h0]) ?_
              refine g_aload_n hX 3 dX7_cancel_108 rfl ?_
              refine g_aload_n hX 3 dX7_cancel_109 rfl ?_
              refine g_iload_n hX 4 dX7_cancel_110 rfl ?_
              refine g_iconst hX 1 dX7_cancel_111 (by decide) ?_
              refine g_st (st2 := [.int 1, .int (nI (cn x)), .ref (G.2.2 0), .ref (G.2.2 0)]) (by rw [← (show x = nI (cn x) from ha.1)]) ?_
              refine g_cvE hX (As := [.int (nI (cn x)), .int 1]) (rest := [.ref (G.2.2 0)]) (c_X7_of l G (yC z (cn x)) (a := (cn x)) (w := 1) (ha := ha.2.2) (hw := (by decide))) k_X7_cancel_X7_of rc_Model rfl rfl (Nat.le_of_ble_eq_true rfl) dX7_cancel_112 ?_
              refine g_top ((yC z (cn x)) 12 (cn x)) rfl ?_
              refine g_aload_n hX 3 dX7_cancel_115 rfl ?_
              refine g_iload_n hX 4 dX7_cancel_116 rfl ?_
              refine g_iconst hX 2 dX7_cancel_117 (by decide) ?_
              refine g_st (st2 := [.int 2, .int (nI (cn x)), .ref (G.2.2 0), .int ((yC z (cn x)) 12 (cn x)), .ref (G.2.2 0)]) (by rw [← (show x = nI (cn x) from ha.1)]) ?_
              refine g_cvE hX (As := [.int (nI (cn x)), .int 2]) (rest := [.int ((yC z (cn x)) 12 (cn x)), .ref (G.2.2 0)]) (c_X7_of l G (yC z (cn x)) (a := (cn x)) (w := 2) (ha := ha.2.2) (hw := (by decide))) k_X7_cancel_X7_of rc_Model rfl rfl (Nat.le_of_ble_eq_true rfl) dX7_cancel_118 ?_
              refine g_top ((yC z (cn x)) 13 (cn x)) rfl ?_
              refine g_st (st2 := [.int ((yC z (cn x)) 13 (cn x)), .int (nI (cn (z 12 (cn x)))), .ref (G.2.2 0)]) (by rw [← (show ((yC z (cn x)) 12 (cn x)) = nI (cn (z 12 (cn x))) from hR.1)]) ?_
              refine g_st (st2 := [.int (nI (cn (z 13 (cn x)))), .int (nI (cn (z 12 (cn x)))), .ref (G.2.2 0)]) (by rw [← (show ((yC z (cn x)) 13 (cn x)) = nI (cn (z 13 (cn x))) from hD.1)]) ?_
              refine g_cvvE hX (As := [.int (nI (cn (z 12 (cn x)))), .int (nI (cn (z 13 (cn x))))]) (rest := []) (c_X7_goOn l G hA (yC z (cn x)) (q := (cn (z 12 (cn x)))) (e := (cn (z 13 (cn x)))) (hq := hR.2) (he := hD.2) (hI := (IO_u2 (IO_u2 hI (by decide)) (by decide))) (h87 := (by rw [nA_of (yC_lo _ _ (by decide)), yC_lo _ _ (by decide), yC_lo _ _ (by decide), yC_lo _ _ (by decide)]; exact h87)) (h16 := (yC_16 h16 _)) (hpay := (by rw [nA_of (yC_lo _ _ (by decide)), yC_lo _ _ (by decide), yC_lo _ _ (by decide)]; exact hpay))) k_X7_cancel_X7_goOn rc_Model rfl rfl (Nat.le_of_ble_eq_true rfl) dX7_cancel_121 ?_
              refine g_iload hX 0 dX7_cancel_124 rfl ?_
              refine ret _ _ _ _ dX7_cancel_126 ?_
              exact ⟨hcm.1.symm, hcm.2.symm⟩
          · -- on 63
            refine g_aload_n hX 2 dX7_cancel_63 rfl ?_
            refine g_iload_n hX 3 dX7_cancel_64 rfl ?_
            refine g_iconst hX 5 dX7_cancel_65 (by decide) ?_
            refine g_st (st2 := [.int 5, .int (nI (cn x)), .ref (G.2.2 0)]) (by rw [← (show x = nI (cn x) from ha.1)]) ?_
            refine g_cvE hX (As := [.int (nI (cn x)), .int 5]) (rest := []) (c_X7_of l G (u2 z 15 (cn x) 3) (a := (cn x)) (w := 5) (ha := ha.2.2) (hw := (by decide))) k_X7_cancel_X7_of rc_Model rfl rfl (Nat.le_of_ble_eq_true rfl) dX7_cancel_66 ?_
            refine g_top ((u2 z 15 (cn x) 3) 16 (cn x)) rfl ?_
            refine g_top (z 16 (cn x)) (by simp [u2]) ?_
            refine g_goto hX 89 dX7_cancel_69 (by decide) ?_
            refine g_istore hX [(4, .int (z 16 (cn x))), (3, .int ((z 13 (cn x)) - (z 0 0))), (2, .int (z 15 (cn x))), (0, .ref (G.2.2 0)), (1, .int x)] dX7_cancel_89 (by decide) rfl ?_
            refine g_lv (lv' := [(4, .int (backNow z (cn x))), (3, .int ((z 13 (cn x)) - (z 0 0))), (2, .int (z 15 (cn x))), (0, .ref (G.2.2 0)), (1, .int x)]) (by rw [← (show (z 16 (cn x)) = (backNow z (cn x)) from (by simp [backNow, u2, c1, c2, c3, c4]))]) ?_
            refine g_aload_n hX 3 dX7_cancel_91 rfl ?_
            refine g_iload_n hX 4 dX7_cancel_92 rfl ?_
            refine g_bipush hX 6 dX7_cancel_93 (by decide) ?_
            refine g_aload_n hX 3 dX7_cancel_95 rfl ?_
            refine g_iload_n hX 4 dX7_cancel_96 rfl ?_
            refine g_bipush hX 6 dX7_cancel_97 (by decide) ?_
            refine g_st (st2 := [.int 6, .int (nI (cn x)), .ref (G.2.2 0), .int 6, .int x, .ref (G.2.2 0)]) (by rw [← (show x = nI (cn x) from ha.1)]) ?_
            refine g_cvE hX (As := [.int (nI (cn x)), .int 6]) (rest := [.int 6, .int x, .ref (G.2.2 0)]) (c_X7_of l G (u2 z 15 (cn x) 3) (a := (cn x)) (w := 6) (ha := ha.2.2) (hw := (by decide))) k_X7_cancel_X7_of rc_Model rfl rfl (Nat.le_of_ble_eq_true rfl) dX7_cancel_99 ?_
            refine g_top ((u2 z 15 (cn x) 3) 17 (cn x)) rfl ?_
            refine g_top (z 17 (cn x)) (by simp [u2]) ?_
            refine g_iload hX 0 dX7_cancel_102 rfl ?_
            refine g_iadd hX dX7_cancel_104 ?_
            refine g_st (st2 := [.int ((z 17 (cn x)) + (backNow z (cn x))), .int 6, .int (nI (cn x)), .ref (G.2.2 0)]) (by rw [← (show x = nI (cn x) from ha.1)]) ?_
            refine g_cvvE hX (As := [.int (nI (cn x)), .int 6, .int ((z 17 (cn x)) + (backNow z (cn x)))]) (rest := []) (c_X7_lay l G hA (u2 z 15 (cn x) 3) (a := (cn x)) (w := 6) (v := ((z 17 (cn x)) + (backNow z (cn x)))) (ha := ha.2.2) (hw := (by decide))) k_X7_cancel_X7_lay rc_Model rfl rfl (Nat.le_of_ble_eq_true rfl) dX7_cancel_105 ?_
            refine g_z (z2 := u2 (u2 z 15 (cn x) 3) 17 (cn x) ((z 17 (cn x)) + (backNow z (cn x)))) rfl ?_
            refine g_z (z2 := yC z (cn x)) (by simp [yC, u2, h0]) ?_
            refine g_aload_n hX 3 dX7_cancel_108 rfl ?_
            refine g_aload_n hX 3 dX7_cancel_109 rfl ?_
            refine g_iload_n hX 4 dX7_cancel_110 rfl ?_
            refine g_iconst hX 1 dX7_cancel_111 (by decide) ?_
            refine g_st (st2 := [.int 1, .int (nI (cn x)), .ref (G.2.2 0), .ref (G.2.2 0)]) (by rw [← (show x = nI (cn x) from ha.1)]) ?_
            refine g_cvE hX (As := [.int (nI (cn x)), .int 1]) (rest := [.ref (G.2.2 0)]) (c_X7_of l G (yC z (cn x)) (a := (cn x)) (w := 1) (ha := ha.2.2) (hw := (by decide))) k_X7_cancel_X7_of rc_Model rfl rfl (Nat.le_of_ble_eq_true rfl) dX7_cancel_112 ?_
            refine g_top ((yC z (cn x)) 12 (cn x)) rfl ?_
            refine g_aload_n hX 3 dX7_cancel_115 rfl ?_
            refine g_iload_n hX 4 dX7_cancel_116 rfl ?_
            refine g_iconst hX 2 dX7_cancel_117 (by decide) ?_
            refine g_st (st2 := [.int 2, .int (nI (cn x)), .ref (G.2.2 0), .int ((yC z (cn x)) 12 (cn x)), .ref (G.2.2 0)]) (by rw [← (show x = nI (cn x) from ha.1)]) ?_
            refine g_cvE hX (As := [.int (nI (cn x)), .int 2]) (rest := [.int ((yC z (cn x)) 12 (cn x)), .ref (G.2.2 0)]) (c_X7_of l G (yC z (cn x)) (a := (cn x)) (w := 2) (ha := ha.2.2) (hw := (by decide))) k_X7_cancel_X7_of rc_Model rfl rfl (Nat.le_of_ble_eq_true rfl) dX7_cancel_118 ?_
            refine g_top ((yC z (cn x)) 13 (cn x)) rfl ?_
            refine g_st (st2 := [.int ((yC z (cn x)) 13 (cn x)), .int (nI (cn (z 12 (cn x)))), .ref (G.2.2 0)]) (by rw [← (show ((yC z (cn x)) 12 (cn x)) = nI (cn (z 12 (cn x))) from hR.1)]) ?_
            refine g_st (st2 := [.int (nI (cn (z 13 (cn x)))), .int (nI (cn (z 12 (cn x)))), .ref (G.2.2 0)]) (by rw [← (show ((yC z (cn x)) 13 (cn x)) = nI (cn (z 13 (cn x))) from hD.1)]) ?_
            refine g_cvvE hX (As := [.int (nI (cn (z 12 (cn x)))), .int (nI (cn (z 13 (cn x))))]) (rest := []) (c_X7_goOn l G hA (yC z (cn x)) (q := (cn (z 12 (cn x)))) (e := (cn (z 13 (cn x)))) (hq := hR.2) (he := hD.2) (hI := (IO_u2 (IO_u2 hI (by decide)) (by decide))) (h87 := (by rw [nA_of (yC_lo _ _ (by decide)), yC_lo _ _ (by decide), yC_lo _ _ (by decide), yC_lo _ _ (by decide)]; exact h87)) (h16 := (yC_16 h16 _)) (hpay := (by rw [nA_of (yC_lo _ _ (by decide)), yC_lo _ _ (by decide), yC_lo _ _ (by decide)]; exact hpay))) k_X7_cancel_X7_goOn rc_Model rfl rfl (Nat.le_of_ble_eq_true rfl) dX7_cancel_121 ?_
            refine g_iload hX 0 dX7_cancel_124 rfl ?_
            refine ret _ _ _ _ dX7_cancel_126 ?_
            exact ⟨hcm.1.symm, hcm.2.symm⟩
        · -- on 41
          refine g_iconst hX 0 dX7_cancel_41 (by decide) ?_
          refine ret _ _ _ _ dX7_cancel_42 ?_
          first | (simp [spCancel, c1, c2, c3]; done) | grind [spCancel]
      · -- on 26
        refine g_bipush hX (-5) dX7_cancel_26 (by decide) ?_
        refine ret _ _ _ _ dX7_cancel_28 ?_
        first | (simp [spCancel, c1, c2]; done) | grind [spCancel]
    · -- on 8
      refine g_iconst hX (-1) dX7_cancel_8 (by decide) ?_
      refine ret _ _ _ _ dX7_cancel_9 ?_
      first | (simp [spCancel, c1]; done) | grind [spCancel]
def rm_X7_close : Room := { frames := 4, cells := 0, slots := 0, locals := 96 }
theorem i_X7_close_wsX70 : ∀ w ∈ wsX70, w ∈ wsX7_close := fun w h => List.mem_cons_of_mem _ (List.mem_append_right _ h)
theorem k_X7_close_X7_isClosed : CW rm_X7_close wsX7_close RX7 RX7 84 yX7_isClosed cX7_isClosed 2 (some .boolean) wsX7_isClosed rm_X7_isClosed 1 := ⟨gX7_close_X7_isClosed, ⟨_, rfl⟩, rfl, rfl, ⟨rfl, by decide +kernel, by decide +kernel, by decide +kernel⟩, by decide, by decide⟩
theorem k_X7_close_X7_isDay : CS rm_X7_close wsX7_close RX7 81 yX7_isDay cX7_isDay 1 (some .boolean) wsX7_isDay rm_X7_isDay 1 := ⟨gX7_close_X7_isDay, ⟨_, rfl⟩, rfl, rfl, ⟨rfl, by decide +kernel, by decide +kernel, by decide +kernel⟩, by decide, by decide⟩
theorem k_X7_close_X7_laterDay : CW rm_X7_close wsX7_close RX7 RX7 134 yX7_laterDay cX7_laterDay 6 (some .int) wsX7_laterDay rm_X7_laterDay 1 := ⟨gX7_close_X7_laterDay, ⟨_, rfl⟩, rfl, rfl, ⟨rfl, by decide +kernel, by decide +kernel, by decide +kernel⟩, by decide, by decide⟩
theorem k_X7_close_X7_lay : CW rm_X7_close wsX7_close RX7 RX7 75 yX7_lay cX7_lay 4 none wsX7_lay rm_X7_lay 3 := ⟨gX7_close_X7_lay, ⟨_, rfl⟩, rfl, rfl, ⟨rfl, by decide +kernel, by decide +kernel, by decide +kernel⟩, by decide, by decide⟩
theorem k_X7_close_X7_lose : CW rm_X7_close wsX7_close RX7 RX7 141 yX7_lose cX7_lose 3 none wsX7_lose rm_X7_lose 1 := ⟨gX7_close_X7_lose, ⟨_, rfl⟩, rfl, rfl, ⟨rfl, by decide +kernel, by decide +kernel, by decide +kernel⟩, by decide, by decide⟩
theorem k_X7_close_X7_of : CW rm_X7_close wsX7_close RX7 RX7 66 yX7_of cX7_of 3 (some .int) wsX7_of rm_X7_of 2 := ⟨gX7_close_X7_of, ⟨_, rfl⟩, rfl, rfl, ⟨rfl, by decide +kernel, by decide +kernel, by decide +kernel⟩, by decide, by decide⟩
theorem k_X7_close_X7_refund : CW rm_X7_close wsX7_close RX7 RX7 137 yX7_refund cX7_refund 3 none wsX7_refund rm_X7_refund 1 := ⟨gX7_close_X7_refund, ⟨_, rfl⟩, rfl, rfl, ⟨rfl, by decide +kernel, by decide +kernel, by decide +kernel⟩, by decide, by decide⟩
set_option maxHeartbeats 4000000 in
set_option maxRecDepth 100000 in
theorem c_X7_close (l : Launch) (G : MG) (hA : Ap 9 G.2.2) (z : St) {d : Int32} (hI : IO z) (hs : z 4 4 = nI (cn (z 4 4)) ∧ cn (z 4 4) ≤ 10) (hcl : ∀ d, d < 60 → z 7 d = 0 ∨ z 7 d = 1) : CIm l G yX7_close wsX7_close rm_X7_close [.ref (G.2.2 0), .int d] z (fun ρ ζ => ρ = (spClose z d).1 ∧ ζ = (spClose z d).2) := by
  refine ci_of (own := RX7) (cc := cX7_close) (maxL := 5) (ret := .int) (by decide +kernel) rfl rfl ?_ (Nat.le_of_ble_eq_true rfl) (KQ_mv (ExM_mv G)) ?_
  · intro v z' _; rfl
  · intro X hX ret
    refine g_lv (lv' := [(0, .ref (G.2.2 0)), (1, .int d)]) rfl ?_
    obtain ⟨e3, h40⟩ := iNa hI
    refine g_iload_n hX 1 dX7_close_0 rfl ?_
    refine g_csE hX (As := [.int d]) (rest := []) (c_X7_isDay l G z (x := d) ) k_X7_close_X7_isDay rfl rfl (Nat.le_of_ble_eq_true rfl) dX7_close_1 ?_
    refine g_bi_ne hX 9 dX7_close_4 (by decide) (fun c1 => ?_) (fun c1 => ?_)
    · -- jump 9
      have hd := dayP_in c1
      have hcc := cl_iff (hcl _ hd.2)
      refine g_iload_n hX 1 dX7_close_9 rfl ?_
      refine g_aload_n hX 0 dX7_close_10 rfl ?_
      refine m_g_0 hX i_X7_close_wsX70 (List.mem_of_getElem? (i := 1) rfl) dX7_close_11 ?_
      refine g_iconst hX 0 dX7_close_14 (by decide) ?_
      refine m_ld_at hX 0 rfl (by decide) dX7_close_15 (v := (z 0 0)) rfl ?_
      refine g_ic_lt hX 27 dX7_close_16 (by decide) (fun c2 => ?_) (fun c2 => ?_)
      · -- jump 27
        refine g_bipush hX (-5) dX7_close_27 (by decide) ?_
        refine ret _ _ _ _ dX7_close_29 ?_
        first | (simp [spClose, c1, c2]; done) | grind [spClose]
      · -- on 19
        refine g_aload_n hX 0 dX7_close_19 rfl ?_
        refine g_iload_n hX 1 dX7_close_20 rfl ?_
        refine g_st (st2 := [.int (nI (cn d)), .ref (G.2.2 0)]) (by rw [← (show d = nI (cn d) from hd.1)]) ?_
        refine g_cvE hX (As := [.int (nI (cn d))]) (rest := []) (c_X7_isClosed l G z (d := (cn d)) (hd := hd.2)) k_X7_close_X7_isClosed rc_Model rfl rfl (Nat.le_of_ble_eq_true rfl) dX7_close_21 ?_
        refine g_bi_eq hX 30 dX7_close_24 (by decide) (fun c3 => ?_) (fun c3 => ?_)
        · -- jump 30
          refine g_aload_n hX 0 dX7_close_30 rfl ?_
          refine m_g_0 hX i_X7_close_wsX70 (List.mem_of_getElem? (i := 1) rfl) dX7_close_31 ?_
          refine g_bipush hX 22 dX7_close_34 (by decide) ?_
          refine g_iload_n hX 1 dX7_close_36 rfl ?_
          refine g_iadd hX dX7_close_37 ?_
          refine g_iconst hX 1 dX7_close_38 (by decide) ?_
          refine m_st_at hX hA (22 + cn d) (by rw [show (22 : Int32) + d = 22 + nI (cn d) from by rw [← hd.1]]; exact nI_add 22 _) (by omega) dX7_close_39 ?_
          refine g_z (z2 := u2 z 7 (cn d) 1) (by rw [(fO_d hd.2).1, (fO_d hd.2).2]; rfl) ?_
          refine g_iconst hX 0 dX7_close_40 (by decide) ?_
          refine g_istore_n hX [(2, .int 0), (0, .ref (G.2.2 0)), (1, .int d)] dX7_close_41 (by decide) rfl ?_
          refine g_iconst hX 0 dX7_close_42 (by decide) ?_
          refine g_istore_n hX [(3, .int 0), (2, .int 0), (0, .ref (G.2.2 0)), (1, .int d)] dX7_close_43 (by decide) rfl ?_
          have loop44 : ∀ (nf : Nat) (k : Nat) (y : St), (nA z < k + nf) → (k ≤ nA z) → (y = moveK (u2 z 7 (cn d) 1) d k) → Go X (y) 44 [(0, .ref (G.2.2 0)), (1, .int d), (2, .int (movedK (u2 z 7 (cn d) 1) d k)), (3, .int (nI k))] [] := by
            intro nf
            induction nf with
            | zero =>
              intro k y hmu hk hy
              exfalso; omega
            | succ nf ih =>
              intro k y hmu hk hy
              have hop : z 0 0 ≤ d := by grind
              have hIy : IO y := by rw [hy]; exact IO_moveK (IO_u2 hI (by decide)) d _
              have hlo : ∀ f, f ≠ 8 ∧ f ≠ 13 ∧ f ≠ 15 ∧ f ≠ 17 ∧ f ≠ 18 → y f = (u2 z 7 (cn d) 1) f := fun f hf => by rw [hy]; exact moveK_lo _ _ _ hf
              have y3 : y 3 0 = z 3 0 := by rw [hlo 3 (by decide), u2_f (by decide)]
              have y0 : y 0 0 = z 0 0 := by rw [hlo 0 (by decide), u2_f (by decide)]
              have hny : nA y = nA z := by unfold nA; rw [y3]
              have hsy : y 4 4 = nI (cn (y 4 4)) ∧ cn (y 4 4) ≤ 10 := by rw [hlo 4 (by decide), u2_f (by decide)]; exact hs
              have hcy : ∀ d, d < 60 → y 7 d = 0 ∨ y 7 d = 1 := by
                intro e he; rw [hlo 7 (by decide)]; unfold u2; split
                · exact Or.inr rfl
                · exact hcl e he
              refine g_iload_n hX 3 dX7_close_44 rfl ?_
              refine g_aload_n hX 0 dX7_close_45 rfl ?_
              refine m_g_0 hX i_X7_close_wsX70 (List.mem_of_getElem? (i := 1) rfl) dX7_close_46 ?_
              refine g_iconst hX 3 dX7_close_49 (by decide) ?_
              refine m_ld_at hX 3 rfl (by decide) dX7_close_50 (v := (y 3 0)) rfl ?_
              refine g_ic_ge hX 119 dX7_close_51 (by decide) (fun c4 => ?_) (fun c4 => ?_)
              · -- jump 119
                have hke : k = nA z := by
                  rw [y3, e3] at c4; have := (nI_leI (by omega) (by omega)).mp c4; omega
                refine g_aload_n hX 0 dX7_close_119 rfl ?_
                refine g_iload_n hX 1 dX7_close_120 rfl ?_
                refine g_cvvE hX (As := [.int d]) (rest := []) (c_X7_lose l G hA y (d := d) (hI := hIy)) k_X7_close_X7_lose rc_Model rfl rfl (Nat.le_of_ble_eq_true rfl) dX7_close_121 ?_
                refine g_iload_n hX 2 dX7_close_124 rfl ?_
                refine ret _ _ _ _ dX7_close_125 ?_
                have hop2 : openP z d := by
                  rw [open_m hI hcl hd hop]; grind
                simp only [spClose]
                rw [if_neg (not_not_intro c1), if_neg (not_not_intro hop2)]
                exact ⟨by rw [hke], by rw [hny, hy, hke]⟩
              · -- on 54
                have hkn : k < nA z := by
                  rw [y3, e3] at c4; exact Nat.lt_of_not_le (fun q => c4 (nI_le q (by omega)))
                refine g_aload_n hX 0 dX7_close_54 rfl ?_
                refine g_iload_n hX 3 dX7_close_55 rfl ?_
                refine g_iconst hX 2 dX7_close_56 (by decide) ?_
                refine g_cvE hX (As := [.int (nI k), .int 2]) (rest := []) (c_X7_of l G y (a := k) (w := 2) (ha := (by omega)) (hw := (by decide))) k_X7_close_X7_of rc_Model rfl rfl (Nat.le_of_ble_eq_true rfl) dX7_close_57 ?_
                refine g_top (y 13 k) rfl ?_
                refine g_iload_n hX 1 dX7_close_60 rfl ?_
                refine g_ic_ne hX 113 dX7_close_61 (by decide) (fun c5 => ?_) (fun c5 => ?_)
                · -- jump 113
                  refine g_iinc hX (nI (k + 1)) 3 [(3, .int (nI (k + 1))), (0, .ref (G.2.2 0)), (1, .int d), (2, .int (movedK (u2 z 7 (cn d) 1) d k))] dX7_close_113 rfl (nI_1 k) (by decide) rfl ?_
                  refine g_goto hX 44 dX7_close_116 (by decide) ?_
                  -- back to 44
                  refine g_sub [1, 2, 3, 0] [(0, .ref (G.2.2 0)), (1, .int d), (2, .int (movedK (u2 z 7 (cn d) 1) d k)), (3, .int (nI (k + 1)))] rfl ?_
                  have e2 : (movedK (u2 z 7 (cn d) 1) d k : Int32) = movedK (u2 z 7 (cn d) 1) d (k + 1) := by
                    rw [movedK, ← hy]; unfold moved1; rw [if_neg (by grind), Int32.add_zero]
                  refine g_lv (lv' := [(0, .ref (G.2.2 0)), (1, .int d), (2, .int (movedK (u2 z 7 (cn d) 1) d (k + 1))), (3, .int (nI (k + 1)))]) (by rw [e2]) ?_
                  exact ih (k + 1) y (by omega) (by omega) (by rw [moveK, ← hy]; unfold move1; rw [if_neg (by grind)])
                · -- on 64
                  refine g_aload_n hX 0 dX7_close_64 rfl ?_
                  refine g_iload_n hX 3 dX7_close_65 rfl ?_
                  refine g_iconst hX 4 dX7_close_66 (by decide) ?_
                  refine g_cvE hX (As := [.int (nI k), .int 4]) (rest := []) (c_X7_of l G y (a := k) (w := 4) (ha := (by omega)) (hw := (by decide))) k_X7_close_X7_of rc_Model rfl rfl (Nat.le_of_ble_eq_true rfl) dX7_close_67 ?_
                  refine g_top (y 15 k) rfl ?_
                  refine g_iconst hX 1 dX7_close_70 (by decide) ?_
                  refine g_ic_ne hX 113 dX7_close_71 (by decide) (fun c6 => ?_) (fun c6 => ?_)
                  · -- jump 113
                    refine g_iinc hX (nI (k + 1)) 3 [(3, .int (nI (k + 1))), (0, .ref (G.2.2 0)), (1, .int d), (2, .int (movedK (u2 z 7 (cn d) 1) d k))] dX7_close_113 rfl (nI_1 k) (by decide) rfl ?_
                    refine g_goto hX 44 dX7_close_116 (by decide) ?_
                    -- back to 44
                    refine g_sub [1, 2, 3, 0] [(0, .ref (G.2.2 0)), (1, .int d), (2, .int (movedK (u2 z 7 (cn d) 1) d k)), (3, .int (nI (k + 1)))] rfl ?_
                    have e2 : (movedK (u2 z 7 (cn d) 1) d k : Int32) = movedK (u2 z 7 (cn d) 1) d (k + 1) := by
                      rw [movedK, ← hy]; unfold moved1; rw [if_neg (by grind), Int32.add_zero]
                    refine g_lv (lv' := [(0, .ref (G.2.2 0)), (1, .int d), (2, .int (movedK (u2 z 7 (cn d) 1) d (k + 1))), (3, .int (nI (k + 1)))]) (by rw [e2]) ?_
                    exact ih (k + 1) y (by omega) (by omega) (by rw [moveK, ← hy]; unfold move1; rw [if_neg (by grind)])
                  · -- on 74
                    refine g_aload_n hX 0 dX7_close_74 rfl ?_
                    refine g_iload_n hX 3 dX7_close_75 rfl ?_
                    refine g_cvE hX (As := [.int (nI k)]) (rest := []) (c_X7_laterDay l G y (a := k) (ha := (by rw [hny]; exact hkn)) (hI := hIy) (hs := hsy) (hcl := hcy) (ht := (by rw [y0]; grind))) k_X7_close_X7_laterDay rc_Model rfl rfl (Nat.le_of_ble_eq_true rfl) dX7_close_76 ?_
                    refine g_istore hX [(4, .int (later y k)), (0, .ref (G.2.2 0)), (1, .int d), (2, .int (movedK (u2 z 7 (cn d) 1) d k)), (3, .int (nI k))] dX7_close_79 (by decide) rfl ?_
                    refine g_iload hX 0 dX7_close_81 rfl ?_
                    refine g_if_lt hX 108 dX7_close_83 (by decide) (fun c7 => ?_) (fun c7 => ?_)
                    · -- jump 108
                      have hlt : later y k < 0 := c7
                      refine g_aload_n hX 1 dX7_close_108 rfl ?_
                      refine g_iload_n hX 4 dX7_close_109 rfl ?_
                      refine g_cvvE hX (As := [.int (nI k)]) (rest := []) (c_X7_refund l G hA y (a := k) (ha := (by rw [hny]; exact hkn)) (hI := hIy)) k_X7_close_X7_refund rc_Model rfl rfl (Nat.le_of_ble_eq_true rfl) dX7_close_110 ?_
                      refine g_iinc hX (nI (k + 1)) 4 [(3, .int (nI (k + 1))), (4, .int (later y k)), (0, .ref (G.2.2 0)), (1, .int d), (2, .int (movedK (u2 z 7 (cn d) 1) d k))] dX7_close_113 rfl (nI_1 k) (by decide) rfl ?_
                      refine g_goto hX 44 dX7_close_116 (by decide) ?_
                      -- back to 44
                      refine g_sub [2, 3, 4, 0] [(0, .ref (G.2.2 0)), (1, .int d), (2, .int (movedK (u2 z 7 (cn d) 1) d k)), (3, .int (nI (k + 1)))] rfl ?_
                      have e2 : (movedK (u2 z 7 (cn d) 1) d k : Int32) = movedK (u2 z 7 (cn d) 1) d (k + 1) := by
                        rw [movedK, ← hy]; unfold moved1; rw [if_neg (by grind), Int32.add_zero]
                      refine g_lv (lv' := [(0, .ref (G.2.2 0)), (1, .int d), (2, .int (movedK (u2 z 7 (cn d) 1) d (k + 1))), (3, .int (nI (k + 1)))]) (by rw [e2]) ?_
                      exact ih (k + 1) (refundZ y k) (by omega) (by omega) (by rw [moveK, ← hy]; unfold move1; rw [if_pos (by grind), if_pos hlt])
                    · -- on 86
                      have hlt : ¬ later y k < 0 := c7
                      refine g_aload_n hX 1 dX7_close_86 rfl ?_
                      refine g_iload_n hX 4 dX7_close_87 rfl ?_
                      refine g_iconst hX 2 dX7_close_88 (by decide) ?_
                      refine g_iload hX 0 dX7_close_89 rfl ?_
                      refine g_cvvE hX (As := [.int (nI k), .int 2, .int (later y k)]) (rest := []) (c_X7_lay l G hA y (a := k) (w := 2) (v := (later y k)) (ha := (by omega)) (hw := (by decide))) k_X7_close_X7_lay rc_Model rfl rfl (Nat.le_of_ble_eq_true rfl) dX7_close_91 ?_
                      refine g_z (z2 := u2 y 13 k (later y k)) rfl ?_
                      refine g_aload_n hX 1 dX7_close_94 rfl ?_
                      refine g_iload_n hX 4 dX7_close_95 rfl ?_
                      refine g_bipush hX 7 dX7_close_96 (by decide) ?_
                      refine g_iconst hX 0 dX7_close_98 (by decide) ?_
                      refine g_cvvE hX (As := [.int (nI k), .int 7, .int 0]) (rest := []) (c_X7_lay l G hA (u2 y 13 k (later y k)) (a := k) (w := 7) (v := 0) (ha := (by omega)) (hw := (by decide))) k_X7_close_X7_lay rc_Model rfl rfl (Nat.le_of_ble_eq_true rfl) dX7_close_99 ?_
                      refine g_z (z2 := u2 (u2 y 13 k (later y k)) 18 k 0) rfl ?_
                      refine g_iinc hX ((movedK (u2 z 7 (cn d) 1) d k) + 1) 3 [(2, .int ((movedK (u2 z 7 (cn d) 1) d k) + 1)), (4, .int (later y k)), (0, .ref (G.2.2 0)), (1, .int d), (3, .int (nI k))] dX7_close_102 rfl rfl (by decide) rfl ?_
                      refine g_goto hX 113 dX7_close_105 (by decide) ?_
                      refine g_iinc hX (nI (k + 1)) 4 [(3, .int (nI (k + 1))), (2, .int ((movedK (u2 z 7 (cn d) 1) d k) + 1)), (4, .int (later y k)), (0, .ref (G.2.2 0)), (1, .int d)] dX7_close_113 rfl (nI_1 k) (by decide) rfl ?_
                      refine g_goto hX 44 dX7_close_116 (by decide) ?_
                      -- back to 44
                      refine g_sub [3, 4, 1, 0] [(0, .ref (G.2.2 0)), (1, .int d), (2, .int ((movedK (u2 z 7 (cn d) 1) d k) + 1)), (3, .int (nI (k + 1)))] rfl ?_
                      have e2 : ((movedK (u2 z 7 (cn d) 1) d k) + 1 : Int32) = movedK (u2 z 7 (cn d) 1) d (k + 1) := by
                        rw [movedK, ← hy]; simp [moved1, c1, c2, c3, c4, c5, c6, c7, hlt]
                      refine g_lv (lv' := [(0, .ref (G.2.2 0)), (1, .int d), (2, .int (movedK (u2 z 7 (cn d) 1) d (k + 1))), (3, .int (nI (k + 1)))]) (by rw [e2]) ?_
                      exact ih (k + 1) (u2 (u2 y 13 k (later y k)) 18 k 0) (by omega) (by omega) (by rw [moveK, ← hy]; unfold move1; rw [if_pos (by grind), if_neg hlt])
          refine g_sub [2, 3, 1, 0] [(0, .ref (G.2.2 0)), (1, .int d), (2, .int 0), (3, .int 0)] rfl ?_
          have e2 : (0 : Int32) = movedK (u2 z 7 (cn d) 1) d 0 := by
            rfl
          refine g_lv (lv' := [(0, .ref (G.2.2 0)), (1, .int d), (2, .int (movedK (u2 z 7 (cn d) 1) d 0)), (3, .int 0)]) (by rw [← e2]) ?_
          exact loop44 (nA z + 1) 0 (u2 z 7 (cn d) 1) (by omega) (Nat.zero_le _) rfl
        · -- on 27
          refine g_bipush hX (-5) dX7_close_27 (by decide) ?_
          refine ret _ _ _ _ dX7_close_29 ?_
          first | (simp [spClose, c1, c2, c3]; done) | grind [spClose]
    · -- on 7
      refine g_iconst hX (-1) dX7_close_7 (by decide) ?_
      refine ret _ _ _ _ dX7_close_8 ?_
      first | (simp [spClose, c1]; done) | grind [spClose]
def rm_X7_end : Room := { frames := 2, cells := 0, slots := 0, locals := 46 }
theorem i_X7_end_wsX70 : ∀ w ∈ wsX70, w ∈ wsX7_end := fun w h => List.mem_cons_of_mem _ (List.mem_append_right _ h)
theorem k_X7_end_X7_isOfToday : CW rm_X7_end wsX7_end RX7 RX7 144 yX7_isOfToday cX7_isOfToday 2 (some .boolean) wsX7_isOfToday rm_X7_isOfToday 1 := ⟨gX7_end_X7_isOfToday, ⟨_, rfl⟩, rfl, rfl, ⟨rfl, by decide +kernel, by decide +kernel, by decide +kernel⟩, by decide, by decide⟩
theorem k_X7_end_X7_lay : CW rm_X7_end wsX7_end RX7 RX7 75 yX7_lay cX7_lay 4 none wsX7_lay rm_X7_lay 3 := ⟨gX7_end_X7_lay, ⟨_, rfl⟩, rfl, rfl, ⟨rfl, by decide +kernel, by decide +kernel, by decide +kernel⟩, by decide, by decide⟩
theorem k_X7_end_X7_lose : CW rm_X7_end wsX7_end RX7 RX7 141 yX7_lose cX7_lose 3 none wsX7_lose rm_X7_lose 1 := ⟨gX7_end_X7_lose, ⟨_, rfl⟩, rfl, rfl, ⟨rfl, by decide +kernel, by decide +kernel, by decide +kernel⟩, by decide, by decide⟩
theorem k_X7_end_X7_of : CW rm_X7_end wsX7_end RX7 RX7 66 yX7_of cX7_of 3 (some .int) wsX7_of rm_X7_of 2 := ⟨gX7_end_X7_of, ⟨_, rfl⟩, rfl, rfl, ⟨rfl, by decide +kernel, by decide +kernel, by decide +kernel⟩, by decide, by decide⟩
theorem k_X7_end_X7_strike : CW rm_X7_end wsX7_end RX7 RX7 147 yX7_strike cX7_strike 4 none wsX7_strike rm_X7_strike 1 := ⟨gX7_end_X7_strike, ⟨_, rfl⟩, rfl, rfl, ⟨rfl, by decide +kernel, by decide +kernel, by decide +kernel⟩, by decide, by decide⟩
set_option maxHeartbeats 4000000 in
set_option maxRecDepth 100000 in
theorem c_X7_end (l : Launch) (G : MG) (hA : Ap 9 G.2.2) (z : St)  (hI : IO z) (h18 : ∀ a, a < nA z → z 18 a = 0 ∨ z 18 a = 1) : CIm l G yX7_end wsX7_end rm_X7_end [.ref (G.2.2 0)] z (fun ρ ζ => ρ = (mEnd z).1 ∧ ζ = (mEnd z).2) := by
  refine ci_of (own := RX7) (cc := cX7_end) (maxL := 4) (ret := .int) (by decide +kernel) rfl rfl ?_ (Nat.le_of_ble_eq_true rfl) (KQ_mv (ExM_mv G)) ?_
  · intro v z' _; rfl
  · intro X hX ret
    refine g_lv (lv' := [(0, .ref (G.2.2 0))]) rfl ?_
    obtain ⟨e3, h40⟩ := iNa hI
    have hT := iT hI
    have h59 : z 0 0 = 59 ↔ ¬ z 0 0 < 59 := full_iff (n := 59) (by decide) ⟨_, by omega, hT.1⟩
    refine g_aload_n hX 0 dX7_end_0 rfl ?_
    refine m_g_0 hX i_X7_end_wsX70 (List.mem_of_getElem? (i := 1) rfl) dX7_end_1 ?_
    refine g_iconst hX 0 dX7_end_4 (by decide) ?_
    refine m_ld_at hX 0 rfl (by decide) dX7_end_5 (v := (z 0 0)) rfl ?_
    refine g_bipush hX 59 dX7_end_6 (by decide) ?_
    refine g_ic_ne hX 14 dX7_end_8 (by decide) (fun c1 => ?_) (fun c1 => ?_)
    · -- jump 14
      have hgo : z 0 0 < 59 := by grind
      refine g_iconst hX 0 dX7_end_14 (by decide) ?_
      refine g_istore_n hX [(1, .int 0), (0, .ref (G.2.2 0))] dX7_end_15 (by decide) rfl ?_
      refine g_iconst hX 0 dX7_end_16 (by decide) ?_
      refine g_istore_n hX [(2, .int 0), (1, .int 0), (0, .ref (G.2.2 0))] dX7_end_17 (by decide) rfl ?_
      have loop18 : ∀ (nf : Nat) (k : Nat) (y : St), (nA z < k + nf) → (k ≤ nA z) → (y = judgeM z k) → Go X (y) 18 [(0, .ref (G.2.2 0)), (1, .int (missedM z k)), (2, .int (nI k))] [] := by
        intro nf
        induction nf with
        | zero =>
          intro k y hmu hk hy
          exfalso; omega
        | succ nf ih =>
          intro k y hmu hk hy
          have hlo : ∀ f, f ≠ 9 ∧ f ≠ 87 ∧ f ≠ 15 → y f = z f := fun f hf => by rw [hy]; exact judgeM_lo _ _ hf
          have hIy : IO y := IO_of hI (fun f hf => hlo f (by omega))
          have y3 : y 3 0 = z 3 0 := by rw [hlo 3 (by decide)]
          have y18 : y 18 = z 18 := hlo 18 (by decide)
          have hny : nA y = nA z := by unfold nA; rw [y3]
          refine g_iload_n hX 2 dX7_end_18 rfl ?_
          refine g_aload_n hX 0 dX7_end_19 rfl ?_
          refine m_g_0 hX i_X7_end_wsX70 (List.mem_of_getElem? (i := 1) rfl) dX7_end_20 ?_
          refine g_iconst hX 3 dX7_end_23 (by decide) ?_
          refine m_ld_at hX 3 rfl (by decide) dX7_end_24 (v := (y 3 0)) rfl ?_
          refine g_ic_ge hX 102 dX7_end_25 (by decide) (fun c2 => ?_) (fun c2 => ?_)
          · -- jump 102
            have hke : k = nA z := by
              rw [y3, e3] at c2; have := (nI_leI (by omega) (by omega)).mp c2; omega
            refine g_aload_n hX 0 dX7_end_102 rfl ?_
            refine g_aload_n hX 0 dX7_end_103 rfl ?_
            refine m_g_0 hX i_X7_end_wsX70 (List.mem_of_getElem? (i := 1) rfl) dX7_end_104 ?_
            refine g_iconst hX 0 dX7_end_107 (by decide) ?_
            refine m_ld_at hX 0 rfl (by decide) dX7_end_108 (v := (y 0 0)) rfl ?_
            refine g_cvvE hX (As := [.int (y 0 0)]) (rest := []) (c_X7_lose l G hA y (d := (y 0 0)) (hI := hIy)) k_X7_end_X7_lose rc_Model rfl rfl (Nat.le_of_ble_eq_true rfl) dX7_end_109 ?_
            refine g_aload_n hX 0 dX7_end_112 rfl ?_
            refine m_g_0 hX i_X7_end_wsX70 (List.mem_of_getElem? (i := 1) rfl) dX7_end_113 ?_
            refine g_iconst hX 0 dX7_end_116 (by decide) ?_
            refine g_dup2 hX dX7_end_117 rfl rfl ?_
            refine m_ld_at hX 0 rfl (by decide) dX7_end_118 (v := ((loseK y (-1) (y 0 0) (nA y)) 0 0)) rfl ?_
            refine g_iconst hX 1 dX7_end_119 (by decide) ?_
            refine g_iadd hX dX7_end_120 ?_
            refine m_st_at hX hA 0 rfl (by decide) dX7_end_121 ?_
            refine g_z (z2 := u2 (loseK y (-1) (y 0 0) (nA y)) 0 0 (((loseK y (-1) (y 0 0) (nA y)) 0 0) + 1)) (rfl) ?_
            refine g_iload_n hX 1 dX7_end_122 rfl ?_
            refine ret _ _ _ _ dX7_end_123 ?_
            simp only [mEnd]
            rw [if_neg (not_not_intro hgo), hny]
            exact ⟨by rw [hke], by rw [hlo 0 (by decide), hy, hke, loseK_ne (f := 0) (Or.inl (by decide)), judgeM_lo _ _ (f := 0) (by decide)]⟩
          · -- on 28
            have hkn : k < nA z := by
              rw [y3, e3] at c2; exact Nat.lt_of_not_le (fun q => c2 (nI_le q (by omega)))
            have hC := iC hI hkn
            have h8 := h18 _ hkn
            rw [← y18] at h8
            have e11 : y 11 k = z 11 k := by rw [hlo 11 (by decide)]
            refine g_aload_n hX 0 dX7_end_28 rfl ?_
            refine g_iload_n hX 2 dX7_end_29 rfl ?_
            refine g_cvE hX (As := [.int (nI k)]) (rest := []) (c_X7_isOfToday l G y (a := k) (ha := (by omega))) k_X7_end_X7_isOfToday rc_Model rfl rfl (Nat.le_of_ble_eq_true rfl) dX7_end_30 ?_
            refine g_bi_eq hX 96 dX7_end_33 (by decide) (fun c3 => ?_) (fun c3 => ?_)
            · -- jump 96
              refine g_iinc hX (nI (k + 1)) 2 [(2, .int (nI (k + 1))), (0, .ref (G.2.2 0)), (1, .int (missedM z k))] dX7_end_96 rfl (nI_1 k) (by decide) rfl ?_
              refine g_goto hX 18 dX7_end_99 (by decide) ?_
              -- back to 18
              refine g_sub [1, 2, 0] [(0, .ref (G.2.2 0)), (1, .int (missedM z k)), (2, .int (nI (k + 1)))] rfl ?_
              have e1 : (missedM z k : Int32) = missedM z (k + 1) := by
                rw [missedM, ← hy]; unfold missed1; rw [if_neg (by grind), Int32.add_zero]
              refine g_lv (lv' := [(0, .ref (G.2.2 0)), (1, .int (missedM z (k + 1))), (2, .int (nI (k + 1)))]) (by rw [e1]) ?_
              exact ih (k + 1) y (by omega) (by omega) (by rw [judgeM, ← hy]; unfold judgeM1; rw [if_neg (by grind)])
            · -- on 36
              refine g_aload_n hX 0 dX7_end_36 rfl ?_
              refine g_iload_n hX 2 dX7_end_37 rfl ?_
              refine g_iconst hX 4 dX7_end_38 (by decide) ?_
              refine g_cvE hX (As := [.int (nI k), .int 4]) (rest := []) (c_X7_of l G y (a := k) (w := 4) (ha := (by omega)) (hw := (by decide))) k_X7_end_X7_of rc_Model rfl rfl (Nat.le_of_ble_eq_true rfl) dX7_end_39 ?_
              refine g_top (y 15 k) rfl ?_
              refine g_iconst hX 1 dX7_end_42 (by decide) ?_
              refine g_ic_ne hX 96 dX7_end_43 (by decide) (fun c4 => ?_) (fun c4 => ?_)
              · -- jump 96
                refine g_iinc hX (nI (k + 1)) 2 [(2, .int (nI (k + 1))), (0, .ref (G.2.2 0)), (1, .int (missedM z k))] dX7_end_96 rfl (nI_1 k) (by decide) rfl ?_
                refine g_goto hX 18 dX7_end_99 (by decide) ?_
                -- back to 18
                refine g_sub [1, 2, 0] [(0, .ref (G.2.2 0)), (1, .int (missedM z k)), (2, .int (nI (k + 1)))] rfl ?_
                have e1 : (missedM z k : Int32) = missedM z (k + 1) := by
                  rw [missedM, ← hy]; unfold missed1; rw [if_neg (by grind), Int32.add_zero]
                refine g_lv (lv' := [(0, .ref (G.2.2 0)), (1, .int (missedM z (k + 1))), (2, .int (nI (k + 1)))]) (by rw [e1]) ?_
                exact ih (k + 1) y (by omega) (by omega) (by rw [judgeM, ← hy]; unfold judgeM1; rw [if_neg (by grind)])
              · -- on 46
                refine g_aload_n hX 0 dX7_end_46 rfl ?_
                refine g_iload_n hX 2 dX7_end_47 rfl ?_
                refine g_bipush hX 7 dX7_end_48 (by decide) ?_
                refine g_cvE hX (As := [.int (nI k), .int 7]) (rest := []) (c_X7_of l G y (a := k) (w := 7) (ha := (by omega)) (hw := (by decide))) k_X7_end_X7_of rc_Model rfl rfl (Nat.le_of_ble_eq_true rfl) dX7_end_50 ?_
                refine g_top (y 18 k) rfl ?_
                refine g_iconst hX 1 dX7_end_53 (by decide) ?_
                refine g_ic_ne hX 61 dX7_end_54 (by decide) (fun c5 => ?_) (fun c5 => ?_)
                · -- jump 61
                  refine g_iconst hX 0 dX7_end_61 (by decide) ?_
                  refine g_istore_n hX [(3, .int 0), (0, .ref (G.2.2 0)), (1, .int (missedM z k)), (2, .int (nI k))] dX7_end_62 (by decide) rfl ?_
                  refine g_aload_n hX 1 dX7_end_63 rfl ?_
                  refine g_iload_n hX 3 dX7_end_64 rfl ?_
                  refine g_iconst hX 4 dX7_end_65 (by decide) ?_
                  refine g_iload_n hX 0 dX7_end_66 rfl ?_
                  refine g_if_eq hX 74 dX7_end_67 (by decide) (fun c6 => ?_) (fun c6 => ?_)
                  · -- jump 74
                    refine g_bipush hX 6 dX7_end_74 (by decide) ?_
                    refine g_cvvE hX (As := [.int (nI k), .int 4, .int 6]) (rest := []) (c_X7_lay l G hA y (a := k) (w := 4) (v := 6) (ha := (by omega)) (hw := (by decide))) k_X7_end_X7_lay rc_Model rfl rfl (Nat.le_of_ble_eq_true rfl) dX7_end_76 ?_
                    refine g_z (z2 := u2 y 15 k 6) rfl ?_
                    refine g_iload_n hX 0 dX7_end_79 rfl ?_
                    refine g_if_ne hX 96 dX7_end_80 (by decide) (fun c7 => ?_) (fun c7 => ?_)
                    · -- jump 96
                      exact absurd c7 (by decide)
                    · -- on 83
                      refine g_iinc hX ((missedM z k) + 1) 2 [(1, .int ((missedM z k) + 1)), (3, .int 0), (0, .ref (G.2.2 0)), (2, .int (nI k))] dX7_end_83 rfl rfl (by decide) rfl ?_
                      refine g_aload_n hX 2 dX7_end_86 rfl ?_
                      refine g_aload_n hX 2 dX7_end_87 rfl ?_
                      refine g_iload_n hX 3 dX7_end_88 rfl ?_
                      refine g_iconst hX 0 dX7_end_89 (by decide) ?_
                      refine g_cvE hX (As := [.int (nI k), .int 0]) (rest := [.ref (G.2.2 0)]) (c_X7_of l G (u2 y 15 k 6) (a := k) (w := 0) (ha := (by omega)) (hw := (by decide))) k_X7_end_X7_of rc_Model rfl rfl (Nat.le_of_ble_eq_true rfl) dX7_end_90 ?_
                      refine g_top ((u2 y 15 k 6) 11 k) rfl ?_
                      refine g_top (y 11 k) (by simp [u2]) ?_
                      refine g_st (st2 := [.int (nI (cn (y 11 k))), .ref (G.2.2 0)]) (by rw [← (show (y 11 k) = nI (cn (y 11 k)) from (by rw [e11]; exact hC.1))]) ?_
                      refine g_cvvE hX (As := [.int (nI (cn (y 11 k)))]) (rest := []) (c_X7_strike l G hA (u2 y 15 k 6) (c := (cn (y 11 k))) (hc := (by rw [e11]; exact hC.2))) k_X7_end_X7_strike rc_Model rfl rfl (Nat.le_of_ble_eq_true rfl) dX7_end_93 ?_
                      refine g_iinc hX (nI (k + 1)) 3 [(2, .int (nI (k + 1))), (1, .int ((missedM z k) + 1)), (3, .int 0), (0, .ref (G.2.2 0))] dX7_end_96 rfl (nI_1 k) (by decide) rfl ?_
                      refine g_goto hX 18 dX7_end_99 (by decide) ?_
                      -- back to 18
                      refine g_sub [3, 1, 0] [(0, .ref (G.2.2 0)), (1, .int ((missedM z k) + 1)), (2, .int (nI (k + 1)))] rfl ?_
                      have e1 : ((missedM z k) + 1 : Int32) = missedM z (k + 1) := by
                        rw [missedM, ← hy]; simp [missed1, c1, c2, c3, c4, c5, c6, c7]; try grind
                      refine g_lv (lv' := [(0, .ref (G.2.2 0)), (1, .int (missedM z (k + 1))), (2, .int (nI (k + 1)))]) (by rw [e1]) ?_
                      exact ih (k + 1) (strikeM (u2 y 15 k 6) (cn (y 11 k)) ((u2 y 15 k 6) 4 2) ((u2 y 15 k 6) 0 0 + (u2 y 15 k 6) 4 3)) (by omega) (by omega) (by rw [judgeM, ← hy]; unfold judgeM1; rw [if_pos (by grind), if_pos (by grind)]; simp [u2])
                  · -- on 70
                    exact absurd c6 (by decide)
                · -- on 57
                  refine g_iconst hX 1 dX7_end_57 (by decide) ?_
                  refine g_goto hX 62 dX7_end_58 (by decide) ?_
                  refine g_istore_n hX [(3, .int 1), (0, .ref (G.2.2 0)), (1, .int (missedM z k)), (2, .int (nI k))] dX7_end_62 (by decide) rfl ?_
                  refine g_aload_n hX 1 dX7_end_63 rfl ?_
                  refine g_iload_n hX 3 dX7_end_64 rfl ?_
                  refine g_iconst hX 4 dX7_end_65 (by decide) ?_
                  refine g_iload_n hX 0 dX7_end_66 rfl ?_
                  refine g_if_eq hX 74 dX7_end_67 (by decide) (fun c8 => ?_) (fun c8 => ?_)
                  · -- jump 74
                    exact absurd c8 (by decide)
                  · -- on 70
                    refine g_iconst hX 5 dX7_end_70 (by decide) ?_
                    refine g_goto hX 76 dX7_end_71 (by decide) ?_
                    refine g_cvvE hX (As := [.int (nI k), .int 4, .int 5]) (rest := []) (c_X7_lay l G hA y (a := k) (w := 4) (v := 5) (ha := (by omega)) (hw := (by decide))) k_X7_end_X7_lay rc_Model rfl rfl (Nat.le_of_ble_eq_true rfl) dX7_end_76 ?_
                    refine g_z (z2 := u2 y 15 k 5) rfl ?_
                    refine g_iload_n hX 0 dX7_end_79 rfl ?_
                    refine g_if_ne hX 96 dX7_end_80 (by decide) (fun c9 => ?_) (fun c9 => ?_)
                    · -- jump 96
                      refine g_iinc hX (nI (k + 1)) 3 [(2, .int (nI (k + 1))), (3, .int 1), (0, .ref (G.2.2 0)), (1, .int (missedM z k))] dX7_end_96 rfl (nI_1 k) (by decide) rfl ?_
                      refine g_goto hX 18 dX7_end_99 (by decide) ?_
                      -- back to 18
                      refine g_sub [2, 3, 0] [(0, .ref (G.2.2 0)), (1, .int (missedM z k)), (2, .int (nI (k + 1)))] rfl ?_
                      have e1 : (missedM z k : Int32) = missedM z (k + 1) := by
                        rw [missedM, ← hy]; unfold missed1; rw [if_neg (by grind), Int32.add_zero]
                      refine g_lv (lv' := [(0, .ref (G.2.2 0)), (1, .int (missedM z (k + 1))), (2, .int (nI (k + 1)))]) (by rw [e1]) ?_
                      exact ih (k + 1) (u2 y 15 k 5) (by omega) (by omega) (by rw [judgeM, ← hy]; unfold judgeM1; rw [if_pos (by grind), if_neg (by grind)])
                    · -- on 83
                      exact absurd c9 (by decide)
      refine g_sub [2, 1, 0] [(0, .ref (G.2.2 0)), (1, .int 0), (2, .int 0)] rfl ?_
      have e1 : (0 : Int32) = missedM z 0 := by
        rfl
      refine g_lv (lv' := [(0, .ref (G.2.2 0)), (1, .int (missedM z 0)), (2, .int 0)]) (by rw [← e1]) ?_
      exact loop18 (nA z + 1) 0 z (by omega) (Nat.zero_le _) rfl
    · -- on 11
      refine g_bipush hX (-5) dX7_end_11 (by decide) ?_
      refine ret _ _ _ _ dX7_end_13 ?_
      first | (simp [mEnd, c1]; done) | grind [mEnd]
