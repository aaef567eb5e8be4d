def rm_X7_enter : Room := { frames := 2, cells := 0, slots := 0, locals := 45 }
theorem i_X7_enter_wsX70 : ∀ w ∈ wsX70, w ∈ wsX7_enter := fun w h => List.mem_cons_of_mem _ (List.mem_append_right _ h)
theorem k_X7_enter_X7_isBarred : CW rm_X7_enter wsX7_enter RX7 RX7 90 yX7_isBarred cX7_isBarred 3 (some .boolean) wsX7_isBarred rm_X7_isBarred 2 := ⟨gX7_enter_X7_isBarred, ⟨_, rfl⟩, rfl, rfl, ⟨rfl, by decide +kernel, by decide +kernel, by decide +kernel⟩, by decide, by decide⟩
theorem k_X7_enter_X7_isOn : CW rm_X7_enter wsX7_enter RX7 RX7 69 yX7_isOn cX7_isOn 4 (some .boolean) wsX7_isOn rm_X7_isOn 3 := ⟨gX7_enter_X7_isOn, ⟨_, rfl⟩, rfl, rfl, ⟨rfl, by decide +kernel, by decide +kernel, by decide +kernel⟩, by decide, by decide⟩
theorem k_X7_enter_X7_lay : CW rm_X7_enter wsX7_enter RX7 RX7 75 yX7_lay cX7_lay 4 none wsX7_lay rm_X7_lay 3 := ⟨gX7_enter_X7_lay, ⟨_, rfl⟩, rfl, rfl, ⟨rfl, by decide +kernel, by decide +kernel, by decide +kernel⟩, by decide, by decide⟩
theorem k_X7_enter_X7_of : CW rm_X7_enter wsX7_enter RX7 RX7 66 yX7_of cX7_of 3 (some .int) wsX7_of rm_X7_of 2 := ⟨gX7_enter_X7_of, ⟨_, rfl⟩, rfl, rfl, ⟨rfl, by decide +kernel, by decide +kernel, by decide +kernel⟩, by decide, by decide⟩
theorem k_X7_enter_X7_ticketsOf : CW rm_X7_enter wsX7_enter RX7 RX7 93 yX7_ticketsOf cX7_ticketsOf 2 (some .int) wsX7_ticketsOf rm_X7_ticketsOf 1 := ⟨gX7_enter_X7_ticketsOf, ⟨_, rfl⟩, rfl, rfl, ⟨rfl, by decide +kernel, by decide +kernel, by decide +kernel⟩, by decide, by decide⟩
set_option maxHeartbeats 4000000 in
set_option maxRecDepth 100000 in
theorem c_X7_enter (l : Launch) (G : MG) (hA : Ap 9 G.2.2) (z : St) {r : Int32} {d : Int32} (hI : IO z) : CVm l G yX7_enter wsX7_enter rm_X7_enter [.ref (G.2.2 0), .int r, .int d] z (fun ζ => ζ = enterM z r d (nA z)) := by
  refine cv_of (own := RX7) (cc := cX7_enter) (maxL := 5) (by decide +kernel) rfl rfl (Nat.le_of_ble_eq_true rfl) (KQ_mv (ExM_mv G)) ?_
  intro X hX ret
  refine g_lv (lv' := [(0, .ref (G.2.2 0)), (1, .int r), (2, .int d)]) rfl ?_
  obtain ⟨e3, h40⟩ := iNa hI
  refine g_iconst hX 0 dX7_enter_0 (by decide) ?_
  refine g_istore_n hX [(3, .int 0), (0, .ref (G.2.2 0)), (1, .int r), (2, .int d)] dX7_enter_1 (by decide) rfl ?_
  have loop2 : ∀ (nf : Nat) (k : Nat) (y : St), (nA z < k + nf) → (k ≤ nA z) → (y = enterM z r d k) → Go X (y) 2 [(0, .ref (G.2.2 0)), (1, .int r), (2, .int d), (3, .int (nI k))] [] := by
    intro nf
    induction nf with
    | zero =>
      intro k y hmu hk hy
      exfalso; omega
    | succ nf ih =>
      intro k y hmu hk hy
      have hlo : ∀ f, f ≠ 82 ∧ f ≠ 81 ∧ f ≠ 15 → y f = z f := fun f hf => by rw [hy]; exact enterM_lo _ _ _ _ hf
      have hIy : IO y := IO_of hI (fun f hf => hlo f (by omega))
      have y3 : y 3 0 = z 3 0 := by rw [hlo 3 (by decide)]
      have hny : nA y = nA z := by unfold nA; rw [y3]
      refine g_iload_n hX 3 dX7_enter_2 rfl ?_
      refine g_aload_n hX 0 dX7_enter_3 rfl ?_
      refine m_g_0 hX i_X7_enter_wsX70 (List.mem_of_getElem? (i := 1) rfl) dX7_enter_4 ?_
      refine g_iconst hX 3 dX7_enter_7 (by decide) ?_
      refine m_ld_at hX 3 rfl (by decide) dX7_enter_8 (v := (y 3 0)) rfl ?_
      refine g_ic_ge hX 119 dX7_enter_9 (by decide) (fun c1 => ?_) (fun c1 => ?_)
      · -- jump 119
        have hke : k = nA z := by
          rw [y3, e3] at c1; have := (nI_leI (by omega) (by omega)).mp c1; omega
        refine ret _ _ _ dX7_enter_119 ?_
        rw [hy, hke]
      · -- on 12
        have hkn : k < nA z := by
          rw [y3, e3] at c1; exact Nat.lt_of_not_le (fun q => c1 (nI_le q (by omega)))
        have hC := iC hIy (show k < nA y by omega)
        refine g_aload_n hX 0 dX7_enter_12 rfl ?_
        refine g_iload_n hX 3 dX7_enter_13 rfl ?_
        refine g_iload_n hX 1 dX7_enter_14 rfl ?_
        refine g_iload_n hX 2 dX7_enter_15 rfl ?_
        refine g_cvE hX (As := [.int (nI k), .int r, .int d]) (rest := []) (c_X7_isOn l G y (a := k) (r := r) (d := d) (ha := (by omega))) k_X7_enter_X7_isOn rc_Model rfl rfl (Nat.le_of_ble_eq_true rfl) dX7_enter_16 ?_
        refine g_bi_eq hX 35 dX7_enter_19 (by decide) (fun c2 => ?_) (fun c2 => ?_)
        · -- jump 35
          refine g_iconst hX 0 dX7_enter_35 (by decide) ?_
          refine g_istore hX [(4, .int 0), (0, .ref (G.2.2 0)), (1, .int r), (2, .int d), (3, .int (nI k))] dX7_enter_36 (by decide) rfl ?_
          refine g_aload_n hX 1 dX7_enter_38 rfl ?_
          refine m_g_7 hX i_X7_enter_wsX70 (List.mem_of_getElem? (i := 2) rfl) dX7_enter_39 ?_
          refine g_iload_n hX 4 dX7_enter_42 rfl ?_
          refine g_iload hX 0 dX7_enter_43 rfl ?_
          refine g_if_eq hX 66 dX7_enter_45 (by decide) (fun c3 => ?_) (fun c3 => ?_)
          · -- jump 66
            refine g_iconst hX 0 dX7_enter_66 (by decide) ?_
            refine m_st_isIn hX hA k rfl (by omega) (Or.inl rfl) dX7_enter_67 ?_
            refine g_aload_n hX 1 dX7_enter_68 rfl ?_
            refine m_g_6 hX i_X7_enter_wsX70 (List.mem_of_getElem? (i := 3) rfl) dX7_enter_69 ?_
            refine g_iload_n hX 4 dX7_enter_72 rfl ?_
            refine g_aload_n hX 1 dX7_enter_73 rfl ?_
            refine m_g_7 hX i_X7_enter_wsX70 (List.mem_of_getElem? (i := 2) rfl) dX7_enter_74 ?_
            refine g_iload_n hX 4 dX7_enter_77 rfl ?_
            refine m_ld_isIn hX k rfl (by omega) dX7_enter_78 ?_
            refine g_top (0) (by simp [u2]) ?_
            refine g_if_eq hX 90 dX7_enter_79 (by decide) (fun c4 => ?_) (fun c4 => ?_)
            · -- jump 90
              refine g_iconst hX 0 dX7_enter_90 (by decide) ?_
              refine m_st_tickets hX hA k rfl (by omega) dX7_enter_91 ?_
              refine g_iload hX 0 dX7_enter_92 rfl ?_
              refine g_if_eq hX 113 dX7_enter_94 (by decide) (fun c5 => ?_) (fun c5 => ?_)
              · -- jump 113
                refine g_iinc hX (nI (k + 1)) 4 [(3, .int (nI (k + 1))), (4, .int 0), (0, .ref (G.2.2 0)), (1, .int r), (2, .int d)] dX7_enter_113 rfl (nI_1 k) (by decide) rfl ?_
                refine g_goto hX 2 dX7_enter_116 (by decide) ?_
                -- back to 2
                refine g_sub [2, 3, 4, 0] [(0, .ref (G.2.2 0)), (1, .int r), (2, .int d), (3, .int (nI (k + 1)))] rfl ?_
                exact ih (k + 1) (u2 (u2 y 82 k 0) 81 k 0) (by omega) (by omega) (by rw [enterM, ← hy]; unfold enterM1 enterM1.z15a; first | (simp [c1, c2, c3, c4, c5, tkt, u2]; done) | grind)
              · -- on 97
                exact absurd c5 (by decide)
            · -- on 82
              exact absurd c4 (by decide)
          · -- on 48
            exact absurd c3 (by decide)
        · -- on 22
          refine g_aload_n hX 0 dX7_enter_22 rfl ?_
          refine g_iload_n hX 3 dX7_enter_23 rfl ?_
          refine g_iconst hX 4 dX7_enter_24 (by decide) ?_
          refine g_cvE hX (As := [.int (nI k), .int 4]) (rest := []) (c_X7_of l G y (a := k) (w := 4) (ha := (by omega)) (hw := (by decide))) k_X7_enter_X7_of rc_Model rfl rfl (Nat.le_of_ble_eq_true rfl) dX7_enter_25 ?_
          refine g_top (y 15 k) rfl ?_
          refine g_if_ne hX 35 dX7_enter_28 (by decide) (fun c6 => ?_) (fun c6 => ?_)
          · -- jump 35
            refine g_iconst hX 0 dX7_enter_35 (by decide) ?_
            refine g_istore hX [(4, .int 0), (0, .ref (G.2.2 0)), (1, .int r), (2, .int d), (3, .int (nI k))] dX7_enter_36 (by decide) rfl ?_
            refine g_aload_n hX 1 dX7_enter_38 rfl ?_
            refine m_g_7 hX i_X7_enter_wsX70 (List.mem_of_getElem? (i := 2) rfl) dX7_enter_39 ?_
            refine g_iload_n hX 4 dX7_enter_42 rfl ?_
            refine g_iload hX 0 dX7_enter_43 rfl ?_
            refine g_if_eq hX 66 dX7_enter_45 (by decide) (fun c7 => ?_) (fun c7 => ?_)
            · -- jump 66
              refine g_iconst hX 0 dX7_enter_66 (by decide) ?_
              refine m_st_isIn hX hA k rfl (by omega) (Or.inl rfl) dX7_enter_67 ?_
              refine g_aload_n hX 1 dX7_enter_68 rfl ?_
              refine m_g_6 hX i_X7_enter_wsX70 (List.mem_of_getElem? (i := 3) rfl) dX7_enter_69 ?_
              refine g_iload_n hX 4 dX7_enter_72 rfl ?_
              refine g_aload_n hX 1 dX7_enter_73 rfl ?_
              refine m_g_7 hX i_X7_enter_wsX70 (List.mem_of_getElem? (i := 2) rfl) dX7_enter_74 ?_
              refine g_iload_n hX 4 dX7_enter_77 rfl ?_
              refine m_ld_isIn hX k rfl (by omega) dX7_enter_78 ?_
              refine g_top (0) (by simp [u2]) ?_
              refine g_if_eq hX 90 dX7_enter_79 (by decide) (fun c8 => ?_) (fun c8 => ?_)
              · -- jump 90
                refine g_iconst hX 0 dX7_enter_90 (by decide) ?_
                refine m_st_tickets hX hA k rfl (by omega) dX7_enter_91 ?_
                refine g_iload hX 0 dX7_enter_92 rfl ?_
                refine g_if_eq hX 113 dX7_enter_94 (by decide) (fun c9 => ?_) (fun c9 => ?_)
                · -- jump 113
                  refine g_iinc hX (nI (k + 1)) 4 [(3, .int (nI (k + 1))), (4, .int 0), (0, .ref (G.2.2 0)), (1, .int r), (2, .int d)] dX7_enter_113 rfl (nI_1 k) (by decide) rfl ?_
                  refine g_goto hX 2 dX7_enter_116 (by decide) ?_
                  -- back to 2
                  refine g_sub [2, 3, 4, 0] [(0, .ref (G.2.2 0)), (1, .int r), (2, .int d), (3, .int (nI (k + 1)))] rfl ?_
                  exact ih (k + 1) (u2 (u2 y 82 k 0) 81 k 0) (by omega) (by omega) (by rw [enterM, ← hy]; unfold enterM1 enterM1.z15a; first | (simp [c1, c2, c6, c7, c8, c9, tkt, u2]; done) | grind)
                · -- on 97
                  exact absurd c9 (by decide)
              · -- on 82
                exact absurd c8 (by decide)
            · -- on 48
              exact absurd c7 (by decide)
          · -- on 31
            refine g_iconst hX 1 dX7_enter_31 (by decide) ?_
            refine g_goto hX 36 dX7_enter_32 (by decide) ?_
            refine g_istore hX [(4, .int 1), (0, .ref (G.2.2 0)), (1, .int r), (2, .int d), (3, .int (nI k))] dX7_enter_36 (by decide) rfl ?_
            refine g_aload_n hX 1 dX7_enter_38 rfl ?_
            refine m_g_7 hX i_X7_enter_wsX70 (List.mem_of_getElem? (i := 2) rfl) dX7_enter_39 ?_
            refine g_iload_n hX 4 dX7_enter_42 rfl ?_
            refine g_iload hX 0 dX7_enter_43 rfl ?_
            refine g_if_eq hX 66 dX7_enter_45 (by decide) (fun c10 => ?_) (fun c10 => ?_)
            · -- jump 66
              exact absurd c10 (by decide)
            · -- on 48
              refine g_aload_n hX 1 dX7_enter_48 rfl ?_
              refine g_aload_n hX 1 dX7_enter_49 rfl ?_
              refine g_iload_n hX 4 dX7_enter_50 rfl ?_
              refine g_iconst hX 0 dX7_enter_51 (by decide) ?_
              refine g_cvE hX (As := [.int (nI k), .int 0]) (rest := [.ref (G.2.2 0), .int (nI k), .ref (G.2.2 7)]) (c_X7_of l G y (a := k) (w := 0) (ha := (by omega)) (hw := (by decide))) k_X7_enter_X7_of rc_Model rfl rfl (Nat.le_of_ble_eq_true rfl) dX7_enter_52 ?_
              refine g_top (y 11 k) rfl ?_
              refine g_iload_n hX 3 dX7_enter_55 rfl ?_
              refine g_st (st2 := [.int d, .int (nI (cn (y 11 k))), .ref (G.2.2 0), .int (nI k), .ref (G.2.2 7)]) (by rw [← (show (y 11 k) = nI (cn (y 11 k)) from hC.1)]) ?_
              refine g_cvE hX (As := [.int (nI (cn (y 11 k))), .int d]) (rest := [.int (nI k), .ref (G.2.2 7)]) (c_X7_isBarred l G y (c := (cn (y 11 k))) (d := d) (hc := hC.2)) k_X7_enter_X7_isBarred rc_Model rfl rfl (Nat.le_of_ble_eq_true rfl) dX7_enter_56 ?_
              refine g_bi_ne hX 66 dX7_enter_59 (by decide) (fun c11 => ?_) (fun c11 => ?_)
              · -- jump 66
                refine g_iconst hX 0 dX7_enter_66 (by decide) ?_
                refine m_st_isIn hX hA k rfl (by omega) (Or.inl rfl) dX7_enter_67 ?_
                refine g_aload_n hX 1 dX7_enter_68 rfl ?_
                refine m_g_6 hX i_X7_enter_wsX70 (List.mem_of_getElem? (i := 3) rfl) dX7_enter_69 ?_
                refine g_iload_n hX 4 dX7_enter_72 rfl ?_
                refine g_aload_n hX 1 dX7_enter_73 rfl ?_
                refine m_g_7 hX i_X7_enter_wsX70 (List.mem_of_getElem? (i := 2) rfl) dX7_enter_74 ?_
                refine g_iload_n hX 4 dX7_enter_77 rfl ?_
                refine m_ld_isIn hX k rfl (by omega) dX7_enter_78 ?_
                refine g_top (0) (by simp [u2]) ?_
                refine g_if_eq hX 90 dX7_enter_79 (by decide) (fun c12 => ?_) (fun c12 => ?_)
                · -- jump 90
                  refine g_iconst hX 0 dX7_enter_90 (by decide) ?_
                  refine m_st_tickets hX hA k rfl (by omega) dX7_enter_91 ?_
                  refine g_iload hX 0 dX7_enter_92 rfl ?_
                  refine g_if_eq hX 113 dX7_enter_94 (by decide) (fun c13 => ?_) (fun c13 => ?_)
                  · -- jump 113
                    exact absurd c13 (by decide)
                  · -- on 97
                    refine g_aload_n hX 1 dX7_enter_97 rfl ?_
                    refine m_g_7 hX i_X7_enter_wsX70 (List.mem_of_getElem? (i := 2) rfl) dX7_enter_98 ?_
                    refine g_iload_n hX 4 dX7_enter_101 rfl ?_
                    refine m_ld_isIn hX k rfl (by omega) dX7_enter_102 ?_
                    refine g_top (0) (by simp [u2]) ?_
                    refine g_if_ne hX 113 dX7_enter_103 (by decide) (fun c14 => ?_) (fun c14 => ?_)
                    · -- jump 113
                      exact absurd c14 (by decide)
                    · -- on 106
                      refine g_aload_n hX 1 dX7_enter_106 rfl ?_
                      refine g_iload_n hX 4 dX7_enter_107 rfl ?_
                      refine g_iconst hX 4 dX7_enter_108 (by decide) ?_
                      refine g_iconst hX 2 dX7_enter_109 (by decide) ?_
                      refine g_cvvE hX (As := [.int (nI k), .int 4, .int 2]) (rest := []) (c_X7_lay l G hA (u2 (u2 y 82 k 0) 81 k 0) (a := k) (w := 4) (v := 2) (ha := (by omega)) (hw := (by decide))) k_X7_enter_X7_lay rc_Model rfl rfl (Nat.le_of_ble_eq_true rfl) dX7_enter_110 ?_
                      refine g_z (z2 := u2 (u2 (u2 y 82 k 0) 81 k 0) 15 k 2) rfl ?_
                      refine g_iinc hX (nI (k + 1)) 4 [(3, .int (nI (k + 1))), (4, .int 1), (0, .ref (G.2.2 0)), (1, .int r), (2, .int d)] dX7_enter_113 rfl (nI_1 k) (by decide) rfl ?_
                      refine g_goto hX 2 dX7_enter_116 (by decide) ?_
                      -- back to 2
                      refine g_sub [2, 3, 4, 0] [(0, .ref (G.2.2 0)), (1, .int r), (2, .int d), (3, .int (nI (k + 1)))] rfl ?_
                      exact ih (k + 1) (u2 (u2 (u2 y 82 k 0) 81 k 0) 15 k 2) (by omega) (by omega) (by rw [enterM, ← hy]; unfold enterM1 enterM1.z15a; first | (simp [c1, c2, c6, c10, c11, c12, c13, c14, tkt, u2]; done) | grind)
                · -- on 82
                  exact absurd c12 (by decide)
              · -- on 62
                refine g_iconst hX 1 dX7_enter_62 (by decide) ?_
                refine g_goto hX 67 dX7_enter_63 (by decide) ?_
                refine m_st_isIn hX hA k rfl (by omega) (Or.inr rfl) dX7_enter_67 ?_
                refine g_aload_n hX 1 dX7_enter_68 rfl ?_
                refine m_g_6 hX i_X7_enter_wsX70 (List.mem_of_getElem? (i := 3) rfl) dX7_enter_69 ?_
                refine g_iload_n hX 4 dX7_enter_72 rfl ?_
                refine g_aload_n hX 1 dX7_enter_73 rfl ?_
                refine m_g_7 hX i_X7_enter_wsX70 (List.mem_of_getElem? (i := 2) rfl) dX7_enter_74 ?_
                refine g_iload_n hX 4 dX7_enter_77 rfl ?_
                refine m_ld_isIn hX k rfl (by omega) dX7_enter_78 ?_
                refine g_top (1) (by simp [u2]) ?_
                refine g_if_eq hX 90 dX7_enter_79 (by decide) (fun c15 => ?_) (fun c15 => ?_)
                · -- jump 90
                  exact absurd c15 (by decide)
                · -- on 82
                  refine g_aload_n hX 1 dX7_enter_82 rfl ?_
                  refine g_iload_n hX 4 dX7_enter_83 rfl ?_
                  refine g_cvE hX (As := [.int (nI k)]) (rest := [.int (nI k), .ref (G.2.2 6)]) (c_X7_ticketsOf l G (u2 y 82 k 1) (a := k) (ha := (by rw [nA_of (y := u2 y 82 k 1) (z := y) (u2_f (by decide))]; omega)) (hI := (IO_of hIy (fun f hf => u2_f (by omega))))) k_X7_enter_X7_ticketsOf rc_Model rfl rfl (Nat.le_of_ble_eq_true rfl) dX7_enter_84 ?_
                  refine g_top (tkt y k) (by simp [tkt, u2]) ?_
                  refine g_goto hX 91 dX7_enter_87 (by decide) ?_
                  refine m_st_tickets hX hA k rfl (by omega) dX7_enter_91 ?_
                  refine g_iload hX 0 dX7_enter_92 rfl ?_
                  refine g_if_eq hX 113 dX7_enter_94 (by decide) (fun c16 => ?_) (fun c16 => ?_)
                  · -- jump 113
                    exact absurd c16 (by decide)
                  · -- on 97
                    refine g_aload_n hX 1 dX7_enter_97 rfl ?_
                    refine m_g_7 hX i_X7_enter_wsX70 (List.mem_of_getElem? (i := 2) rfl) dX7_enter_98 ?_
                    refine g_iload_n hX 4 dX7_enter_101 rfl ?_
                    refine m_ld_isIn hX k rfl (by omega) dX7_enter_102 ?_
                    refine g_top (1) (by simp [u2]) ?_
                    refine g_if_ne hX 113 dX7_enter_103 (by decide) (fun c17 => ?_) (fun c17 => ?_)
                    · -- jump 113
                      refine g_iinc hX (nI (k + 1)) 4 [(3, .int (nI (k + 1))), (4, .int 1), (0, .ref (G.2.2 0)), (1, .int r), (2, .int d)] dX7_enter_113 rfl (nI_1 k) (by decide) rfl ?_
                      refine g_goto hX 2 dX7_enter_116 (by decide) ?_
                      -- back to 2
                      refine g_sub [2, 3, 4, 0] [(0, .ref (G.2.2 0)), (1, .int r), (2, .int d), (3, .int (nI (k + 1)))] rfl ?_
                      exact ih (k + 1) (u2 (u2 y 82 k 1) 81 k (tkt y k)) (by omega) (by omega) (by rw [enterM, ← hy]; unfold enterM1 enterM1.z15a; first | (simp [c1, c2, c6, c10, c11, c15, c16, c17, tkt, u2]; done) | grind)
                    · -- on 106
                      exact absurd c17 (by decide)
  refine g_sub [1, 2, 3, 0] [(0, .ref (G.2.2 0)), (1, .int r), (2, .int d), (3, .int 0)] rfl ?_
  exact loop2 (nA z + 1) 0 z (by omega) (Nat.zero_le _) rfl
def rm_X7_ticketsLeft : Room := { frames := 0, cells := 0, slots := 0, locals := 0 }
theorem i_X7_ticketsLeft_wsX70 : ∀ w ∈ wsX70, w ∈ wsX7_ticketsLeft := fun w h => List.mem_cons_of_mem _ (List.mem_append_right _ h)
set_option maxHeartbeats 4000000 in
set_option maxRecDepth 100000 in
theorem c_X7_ticketsLeft (l : Launch) (G : MG) (z : St)  (hI : IO z) : CIm l G yX7_ticketsLeft wsX7_ticketsLeft rm_X7_ticketsLeft [.ref (G.2.2 0)] z (fun ρ ζ => ρ = tkS z (nA z) ∧ ζ = z) := by
  refine ci_of (own := RX7) (cc := cX7_ticketsLeft) (maxL := 3) (ret := .int) (by decide +kernel) rfl rfl ?_ (Nat.le_of_ble_eq_true rfl) (KQ_mv (ExM_mv G)) ?_
  · intro v z' _; rfl
  · intro X hX ret
    refine g_lv (lv' := [(0, .ref (G.2.2 0))]) rfl ?_
    obtain ⟨e3, h40⟩ := iNa hI
    refine g_iconst hX 0 dX7_ticketsLeft_0 (by decide) ?_
    refine g_istore_n hX [(1, .int 0), (0, .ref (G.2.2 0))] dX7_ticketsLeft_1 (by decide) rfl ?_
    refine g_iconst hX 0 dX7_ticketsLeft_2 (by decide) ?_
    refine g_istore_n hX [(2, .int 0), (1, .int 0), (0, .ref (G.2.2 0))] dX7_ticketsLeft_3 (by decide) rfl ?_
    have loop4 : ∀ (nf : Nat) (k : Nat), (nA z < k + nf) → (k ≤ nA z) → Go X (z) 4 [(0, .ref (G.2.2 0)), (1, .int (tkS z k)), (2, .int (nI k))] [] := by
      intro nf
      induction nf with
      | zero =>
        intro k hmu hk
        exfalso; omega
      | succ nf ih =>
        intro k hmu hk
        refine g_iload_n hX 2 dX7_ticketsLeft_4 rfl ?_
        refine g_aload_n hX 0 dX7_ticketsLeft_5 rfl ?_
        refine m_g_0 hX i_X7_ticketsLeft_wsX70 (List.mem_of_getElem? (i := 1) rfl) dX7_ticketsLeft_6 ?_
        refine g_iconst hX 3 dX7_ticketsLeft_9 (by decide) ?_
        refine m_ld_at hX 3 rfl (by decide) dX7_ticketsLeft_10 (v := (z 3 0)) rfl ?_
        refine g_ic_ge hX 29 dX7_ticketsLeft_11 (by decide) (fun c1 => ?_) (fun c1 => ?_)
        · -- jump 29
          have hke : k = nA z := by
            rw [e3] at c1; have := (nI_leI (by omega) (by omega)).mp c1; omega
          refine g_iload_n hX 1 dX7_ticketsLeft_29 rfl ?_
          refine ret _ _ _ _ dX7_ticketsLeft_30 ?_
          exact ⟨by rw [hke], rfl⟩
        · -- on 14
          have hkn : k < nA z := by
            rw [e3] at c1; exact Nat.lt_of_not_le (fun q => c1 (nI_le q (by omega)))
          refine g_iload_n hX 1 dX7_ticketsLeft_14 rfl ?_
          refine g_aload_n hX 0 dX7_ticketsLeft_15 rfl ?_
          refine m_g_6 hX i_X7_ticketsLeft_wsX70 (List.mem_of_getElem? (i := 2) rfl) dX7_ticketsLeft_16 ?_
          refine g_iload_n hX 2 dX7_ticketsLeft_19 rfl ?_
          refine m_ld_tickets hX k rfl (by omega) dX7_ticketsLeft_20 ?_
          refine g_iadd hX dX7_ticketsLeft_21 ?_
          refine g_istore_n hX [(1, .int ((tkS z k) + (z 81 k))), (0, .ref (G.2.2 0)), (2, .int (nI k))] dX7_ticketsLeft_22 (by decide) rfl ?_
          refine g_iinc hX (nI (k + 1)) 2 [(2, .int (nI (k + 1))), (1, .int ((tkS z k) + (z 81 k))), (0, .ref (G.2.2 0))] dX7_ticketsLeft_23 rfl (nI_1 k) (by decide) rfl ?_
          refine g_goto hX 4 dX7_ticketsLeft_26 (by decide) ?_
          -- back to 4
          refine g_sub [2, 1, 0] [(0, .ref (G.2.2 0)), (1, .int ((tkS z k) + (z 81 k))), (2, .int (nI (k + 1)))] rfl ?_
          have e1 : ((tkS z k) + (z 81 k) : Int32) = tkS z (k + 1) := by
            rfl
          refine g_lv (lv' := [(0, .ref (G.2.2 0)), (1, .int (tkS z (k + 1))), (2, .int (nI (k + 1)))]) (by rw [e1]) ?_
          exact ih (k + 1) (by omega) (by omega)
    refine g_sub [2, 1, 0] [(0, .ref (G.2.2 0)), (1, .int 0), (2, .int 0)] rfl ?_
    have e1 : (0 : Int32) = tkS z 0 := by
      rfl
    refine g_lv (lv' := [(0, .ref (G.2.2 0)), (1, .int (tkS z 0)), (2, .int 0)]) (by rw [← e1]) ?_
    exact loop4 (nA z + 1) 0 (by omega) (Nat.zero_le _)
def rm_X7_remember : Room := { frames := 1, cells := 0, slots := 0, locals := 23 }
theorem i_X7_remember_wsX70 : ∀ w ∈ wsX70, w ∈ wsX7_remember := fun w h => List.mem_cons_of_mem _ (List.mem_append_right _ h)
theorem k_X7_remember_X7_layClimber : CW rm_X7_remember wsX7_remember RX7 RX7 54 yX7_layClimber cX7_layClimber 4 none wsX7_layClimber rm_X7_layClimber 3 := ⟨gX7_remember_X7_layClimber, ⟨_, rfl⟩, rfl, rfl, ⟨rfl, by decide +kernel, by decide +kernel, by decide +kernel⟩, by decide, by decide⟩
theorem k_X7_remember_X7_of : CW rm_X7_remember wsX7_remember RX7 RX7 66 yX7_of cX7_of 3 (some .int) wsX7_of rm_X7_of 2 := ⟨gX7_remember_X7_of, ⟨_, rfl⟩, rfl, rfl, ⟨rfl, by decide +kernel, by decide +kernel, by decide +kernel⟩, by decide, by decide⟩
theorem k_X7_remember_X7_ofClimber : CW rm_X7_remember wsX7_remember RX7 RX7 39 yX7_ofClimber cX7_ofClimber 3 (some .int) wsX7_ofClimber rm_X7_ofClimber 2 := ⟨gX7_remember_X7_ofClimber, ⟨_, rfl⟩, rfl, rfl, ⟨rfl, by decide +kernel, by decide +kernel, by decide +kernel⟩, by decide, by decide⟩
set_option maxHeartbeats 4000000 in
set_option maxRecDepth 100000 in
theorem c_X7_remember (l : Launch) (G : MG) (hA : Ap 9 G.2.2) (z : St)  (hI : IO z) : CVm l G yX7_remember wsX7_remember rm_X7_remember [.ref (G.2.2 0)] z (fun ζ => ζ = remM z (cn (z 2 0))) := by
  refine cv_of (own := RX7) (cc := cX7_remember) (maxL := 5) (by decide +kernel) rfl rfl (Nat.le_of_ble_eq_true rfl) (KQ_mv (ExM_mv G)) ?_
  intro X hX ret
  refine g_lv (lv' := [(0, .ref (G.2.2 0))]) rfl ?_
  obtain ⟨e3, h40⟩ := iNa hI
  have hNc := iNc hI
  refine g_iconst hX 0 dX7_remember_0 (by decide) ?_
  refine g_istore_n hX [(1, .int 0), (0, .ref (G.2.2 0))] dX7_remember_1 (by decide) rfl ?_
  have loop2 : ∀ (nf : Nat) (c : Nat) (y : St), (cn (z 2 0) < c + nf) → (c ≤ cn (z 2 0)) → (y = remM z c) → Go X (y) 2 [(0, .ref (G.2.2 0)), (1, .int (nI c))] [] := by
    intro nf
    induction nf with
    | zero =>
      intro c y hmu hk hy
      exfalso; omega
    | succ nf ihO =>
      intro c y hmu hk hy
      have hlo : ∀ f, f ≠ 8 → y f = z f := fun f hf => by rw [hy]; exact remM_lo _ _ hf
      have hIy : IO y := IO_of hI (fun f hf => hlo f (by omega))
      have y3 : y 3 0 = z 3 0 := by rw [hlo 3 (by decide)]
      have y2 : y 2 0 = z 2 0 := by rw [hlo 2 (by decide)]
      have hny : nA y = nA z := by unfold nA; rw [y3]
      refine g_iload_n hX 1 dX7_remember_2 rfl ?_
      refine g_aload_n hX 0 dX7_remember_3 rfl ?_
      refine m_g_0 hX i_X7_remember_wsX70 (List.mem_of_getElem? (i := 1) rfl) dX7_remember_4 ?_
      refine g_iconst hX 2 dX7_remember_7 (by decide) ?_
      refine m_ld_at hX 2 rfl (by decide) dX7_remember_8 (v := (y 2 0)) rfl ?_
      refine g_ic_ge hX 141 dX7_remember_9 (by decide) (fun c1 => ?_) (fun c1 => ?_)
      · -- jump 141
        have hce : c = cn (z 2 0) := by
          rw [y2, hNc.1] at c1; have := (nI_leI (by omega) (by omega)).mp c1; omega
        refine ret _ _ _ dX7_remember_141 ?_
        rw [hy, hce]
      · -- on 12
        have hcn : c < cn (z 2 0) := by
          rw [y2, hNc.1] at c1; exact Nat.lt_of_not_le (fun q => c1 (nI_le q (by omega)))
        refine g_iconst hX 0 dX7_remember_12 (by decide) ?_
        refine g_istore_n hX [(2, .int 0), (0, .ref (G.2.2 0)), (1, .int (nI c))] dX7_remember_13 (by decide) rfl ?_
        refine g_iconst hX 0 dX7_remember_14 (by decide) ?_
        refine g_istore_n hX [(3, .int 0), (2, .int 0), (0, .ref (G.2.2 0)), (1, .int (nI c))] dX7_remember_15 (by decide) rfl ?_
        refine g_iconst hX 0 dX7_remember_16 (by decide) ?_
        refine g_istore hX [(4, .int 0), (3, .int 0), (2, .int 0), (0, .ref (G.2.2 0)), (1, .int (nI c))] dX7_remember_17 (by decide) rfl ?_
        have loop19 : ∀ (nf : Nat) (k : Nat), (nA z < k + nf) → (k ≤ nA z) → Go X (y) 19 [(0, .ref (G.2.2 0)), (1, .int (nI c)), (2, .int (bi (anyN (fun a => decide (¬ y 82 a = 0 ∧ y 11 a = nI c)) k = true))), (3, .int (bi (anyN (fun a => decide ((¬ y 82 a = 0 ∧ y 11 a = nI c) ∧ y 15 a = 1)) k = true))), (4, .int (nI k))] [] := by
          intro nf
          induction nf with
          | zero =>
            intro k hmu hk2
            exfalso; omega
          | succ nf ih =>
            intro k hmu hk2
            refine g_iload hX 4 dX7_remember_19 rfl ?_
            refine g_aload_n hX 0 dX7_remember_21 rfl ?_
            refine m_g_0 hX i_X7_remember_wsX70 (List.mem_of_getElem? (i := 1) rfl) dX7_remember_22 ?_
            refine g_iconst hX 3 dX7_remember_25 (by decide) ?_
            refine m_ld_at hX 3 rfl (by decide) dX7_remember_26 (v := (y 3 0)) rfl ?_
            refine g_ic_ge hX 109 dX7_remember_27 (by decide) (fun c2 => ?_) (fun c2 => ?_)
            · -- jump 109
              have hke : k = nA z := by
                rw [y3, e3] at c2; have := (nI_leI (by omega) (by omega)).mp c2; omega
              subst hke
              refine g_iload_n hX 2 dX7_remember_109 rfl ?_
              refine g_bi_eq hX 135 dX7_remember_110 (by decide) (fun c3 => ?_) (fun c3 => ?_)
              · -- jump 135
                refine g_iinc hX (nI (c + 1)) 1 [(1, .int (nI (c + 1))), (0, .ref (G.2.2 0)), (2, .int (bi (anyN (fun a => decide (¬ y 82 a = 0 ∧ y 11 a = nI c)) (nA z) = true))), (3, .int (bi (anyN (fun a => decide ((¬ y 82 a = 0 ∧ y 11 a = nI c) ∧ y 15 a = 1)) (nA z) = true))), (4, .int (nI (nA z)))] dX7_remember_135 rfl (nI_1 c) (by decide) rfl ?_
                refine g_goto hX 2 dX7_remember_138 (by decide) ?_
                -- back to 2
                refine g_sub [1, 0] [(0, .ref (G.2.2 0)), (1, .int (nI (c + 1)))] rfl ?_
                exact ihO (c + 1) y (by omega) (by omega) (by rw [remM, ← hy]; unfold remM1; first | (simp [c1, c2, c3]; done) | grind)
              · -- on 113
                refine g_aload_n hX 0 dX7_remember_113 rfl ?_
                refine g_iload_n hX 1 dX7_remember_114 rfl ?_
                refine g_iconst hX 0 dX7_remember_115 (by decide) ?_
                refine g_iload_n hX 3 dX7_remember_116 rfl ?_
                refine g_bi_eq hX 124 dX7_remember_117 (by decide) (fun c4 => ?_) (fun c4 => ?_)
                · -- jump 124
                  refine g_aload_n hX 0 dX7_remember_124 rfl ?_
                  refine g_iload_n hX 1 dX7_remember_125 rfl ?_
                  refine g_iconst hX 0 dX7_remember_126 (by decide) ?_
                  refine g_cvE hX (As := [.int (nI c), .int 0]) (rest := [.int 0, .int (nI c), .ref (G.2.2 0)]) (c_X7_ofClimber l G y (c := c) (w := 0) (hc := (by omega)) (hw := (by decide))) k_X7_remember_X7_ofClimber rc_Model rfl rfl (Nat.le_of_ble_eq_true rfl) dX7_remember_127 ?_
                  refine g_top (y 8 c) rfl ?_
                  refine g_iconst hX 1 dX7_remember_130 (by decide) ?_
                  refine g_iadd hX dX7_remember_131 ?_
                  refine g_cvvE hX (As := [.int (nI c), .int 0, .int ((y 8 c) + 1)]) (rest := []) (c_X7_layClimber l G hA y (c := c) (w := 0) (v := ((y 8 c) + 1)) (hc := (by omega)) (hw := (by decide))) k_X7_remember_X7_layClimber rc_Model rfl rfl (Nat.le_of_ble_eq_true rfl) dX7_remember_132 ?_
                  refine g_z (z2 := u2 y 8 c ((y 8 c) + 1)) rfl ?_
                  refine g_iinc hX (nI (c + 1)) 1 [(1, .int (nI (c + 1))), (0, .ref (G.2.2 0)), (2, .int (bi (anyN (fun a => decide (¬ y 82 a = 0 ∧ y 11 a = nI c)) (nA z) = true))), (3, .int (bi (anyN (fun a => decide ((¬ y 82 a = 0 ∧ y 11 a = nI c) ∧ y 15 a = 1)) (nA z) = true))), (4, .int (nI (nA z)))] dX7_remember_135 rfl (nI_1 c) (by decide) rfl ?_
                  refine g_goto hX 2 dX7_remember_138 (by decide) ?_
                  -- back to 2
                  refine g_sub [1, 0] [(0, .ref (G.2.2 0)), (1, .int (nI (c + 1)))] rfl ?_
                  exact ihO (c + 1) (u2 y 8 c ((y 8 c) + 1)) (by omega) (by omega) (by rw [remM, ← hy]; unfold remM1; first | (simp [c1, c2, c3, c4]; done) | grind)
                · -- on 120
                  refine g_iconst hX 0 dX7_remember_120 (by decide) ?_
                  refine g_goto hX 132 dX7_remember_121 (by decide) ?_
                  refine g_cvvE hX (As := [.int (nI c), .int 0, .int 0]) (rest := []) (c_X7_layClimber l G hA y (c := c) (w := 0) (v := 0) (hc := (by omega)) (hw := (by decide))) k_X7_remember_X7_layClimber rc_Model rfl rfl (Nat.le_of_ble_eq_true rfl) dX7_remember_132 ?_
                  refine g_z (z2 := u2 y 8 c 0) rfl ?_
                  refine g_iinc hX (nI (c + 1)) 1 [(1, .int (nI (c + 1))), (0, .ref (G.2.2 0)), (2, .int (bi (anyN (fun a => decide (¬ y 82 a = 0 ∧ y 11 a = nI c)) (nA z) = true))), (3, .int (bi (anyN (fun a => decide ((¬ y 82 a = 0 ∧ y 11 a = nI c) ∧ y 15 a = 1)) (nA z) = true))), (4, .int (nI (nA z)))] dX7_remember_135 rfl (nI_1 c) (by decide) rfl ?_
                  refine g_goto hX 2 dX7_remember_138 (by decide) ?_
                  -- back to 2
                  refine g_sub [1, 0] [(0, .ref (G.2.2 0)), (1, .int (nI (c + 1)))] rfl ?_
                  exact ihO (c + 1) (u2 y 8 c 0) (by omega) (by omega) (by rw [remM, ← hy]; unfold remM1; first | (simp [c1, c2, c3, c4]; done) | grind)
            · -- on 30
              have hkn : k < nA z := by
                rw [y3, e3] at c2; exact Nat.lt_of_not_le (fun q => c2 (nI_le q (by omega)))
              refine g_iload_n hX 2 dX7_remember_30 rfl ?_
              refine g_bi_ne hX 55 dX7_remember_31 (by decide) (fun c5 => ?_) (fun c5 => ?_)
              · -- jump 55
                refine g_iconst hX 1 dX7_remember_55 (by decide) ?_
                refine g_goto hX 60 dX7_remember_56 (by decide) ?_
                refine g_istore_n hX [(2, .int 1), (0, .ref (G.2.2 0)), (1, .int (nI c)), (3, .int (bi (anyN (fun a => decide ((¬ y 82 a = 0 ∧ y 11 a = nI c) ∧ y 15 a = 1)) k = true))), (4, .int (nI k))] dX7_remember_60 (by decide) rfl ?_
                refine g_iload_n hX 3 dX7_remember_61 rfl ?_
                refine g_bi_ne hX 97 dX7_remember_62 (by decide) (fun c6 => ?_) (fun c6 => ?_)
                · -- jump 97
                  refine g_iconst hX 1 dX7_remember_97 (by decide) ?_
                  refine g_goto hX 102 dX7_remember_98 (by decide) ?_
                  refine g_istore_n hX [(3, .int 1), (2, .int 1), (0, .ref (G.2.2 0)), (1, .int (nI c)), (4, .int (nI k))] dX7_remember_102 (by decide) rfl ?_
                  refine g_iinc hX (nI (k + 1)) 4 [(4, .int (nI (k + 1))), (3, .int 1), (2, .int 1), (0, .ref (G.2.2 0)), (1, .int (nI c))] dX7_remember_103 rfl (nI_1 k) (by decide) rfl ?_
                  refine g_goto hX 19 dX7_remember_106 (by decide) ?_
                  -- back to 19
                  refine g_sub [3, 4, 2, 1, 0] [(0, .ref (G.2.2 0)), (1, .int (nI c)), (2, .int 1), (3, .int 1), (4, .int (nI (k + 1)))] rfl ?_
                  have e2 : (1 : Int32) = bi (anyN (fun a => decide (¬ y 82 a = 0 ∧ y 11 a = nI c)) (k + 1) = true) := by
                    exact (bi_t (by rw [anyN]; grind)).symm
                  refine g_lv (lv' := [(0, .ref (G.2.2 0)), (1, .int (nI c)), (2, .int (bi (anyN (fun a => decide (¬ y 82 a = 0 ∧ y 11 a = nI c)) (k + 1) = true))), (3, .int 1), (4, .int (nI (k + 1)))]) (by rw [← e2]) ?_
                  have e3 : (1 : Int32) = bi (anyN (fun a => decide ((¬ y 82 a = 0 ∧ y 11 a = nI c) ∧ y 15 a = 1)) (k + 1) = true) := by
                    exact (bi_t (by rw [anyN]; grind)).symm
                  refine g_lv (lv' := [(0, .ref (G.2.2 0)), (1, .int (nI c)), (2, .int (bi (anyN (fun a => decide (¬ y 82 a = 0 ∧ y 11 a = nI c)) (k + 1) = true))), (3, .int (bi (anyN (fun a => decide ((¬ y 82 a = 0 ∧ y 11 a = nI c) ∧ y 15 a = 1)) (k + 1) = true))), (4, .int (nI (k + 1)))]) (by rw [← e3]) ?_
                  exact ih (k + 1) (by omega) (by omega)
                · -- on 65
                  refine g_aload_n hX 1 dX7_remember_65 rfl ?_
                  refine m_g_7 hX i_X7_remember_wsX70 (List.mem_of_getElem? (i := 2) rfl) dX7_remember_66 ?_
                  refine g_iload hX 4 dX7_remember_69 rfl ?_
                  refine m_ld_isIn hX k rfl (by omega) dX7_remember_71 ?_
                  refine g_if_eq hX 101 dX7_remember_72 (by decide) (fun c7 => ?_) (fun c7 => ?_)
                  · -- jump 101
                    refine g_iconst hX 0 dX7_remember_101 (by decide) ?_
                    refine g_istore_n hX [(3, .int 0), (2, .int 1), (0, .ref (G.2.2 0)), (1, .int (nI c)), (4, .int (nI k))] dX7_remember_102 (by decide) rfl ?_
                    refine g_iinc hX (nI (k + 1)) 4 [(4, .int (nI (k + 1))), (3, .int 0), (2, .int 1), (0, .ref (G.2.2 0)), (1, .int (nI c))] dX7_remember_103 rfl (nI_1 k) (by decide) rfl ?_
                    refine g_goto hX 19 dX7_remember_106 (by decide) ?_
                    -- back to 19
                    refine g_sub [3, 4, 2, 1, 0] [(0, .ref (G.2.2 0)), (1, .int (nI c)), (2, .int 1), (3, .int 0), (4, .int (nI (k + 1)))] rfl ?_
                    have e2 : (1 : Int32) = bi (anyN (fun a => decide (¬ y 82 a = 0 ∧ y 11 a = nI c)) (k + 1) = true) := by
                      exact (bi_t (by rw [anyN]; grind)).symm
                    refine g_lv (lv' := [(0, .ref (G.2.2 0)), (1, .int (nI c)), (2, .int (bi (anyN (fun a => decide (¬ y 82 a = 0 ∧ y 11 a = nI c)) (k + 1) = true))), (3, .int 0), (4, .int (nI (k + 1)))]) (by rw [← e2]) ?_
                    have e3 : (0 : Int32) = bi (anyN (fun a => decide ((¬ y 82 a = 0 ∧ y 11 a = nI c) ∧ y 15 a = 1)) (k + 1) = true) := by
                      exact (bi_f (by rw [anyN]; grind)).symm
                    refine g_lv (lv' := [(0, .ref (G.2.2 0)), (1, .int (nI c)), (2, .int (bi (anyN (fun a => decide (¬ y 82 a = 0 ∧ y 11 a = nI c)) (k + 1) = true))), (3, .int (bi (anyN (fun a => decide ((¬ y 82 a = 0 ∧ y 11 a = nI c) ∧ y 15 a = 1)) (k + 1) = true))), (4, .int (nI (k + 1)))]) (by rw [← e3]) ?_
                    exact ih (k + 1) (by omega) (by omega)
                  · -- on 75
                    refine g_aload_n hX 1 dX7_remember_75 rfl ?_
                    refine g_iload hX 4 dX7_remember_76 rfl ?_
                    refine g_iconst hX 0 dX7_remember_78 (by decide) ?_
                    refine g_cvE hX (As := [.int (nI k), .int 0]) (rest := []) (c_X7_of l G y (a := k) (w := 0) (ha := (by omega)) (hw := (by decide))) k_X7_remember_X7_of rc_Model rfl rfl (Nat.le_of_ble_eq_true rfl) dX7_remember_79 ?_
                    refine g_top (y 11 k) rfl ?_
                    refine g_iload_n hX 2 dX7_remember_82 rfl ?_
                    refine g_ic_ne hX 101 dX7_remember_83 (by decide) (fun c8 => ?_) (fun c8 => ?_)
                    · -- jump 101
                      refine g_iconst hX 0 dX7_remember_101 (by decide) ?_
                      refine g_istore_n hX [(3, .int 0), (2, .int 1), (0, .ref (G.2.2 0)), (1, .int (nI c)), (4, .int (nI k))] dX7_remember_102 (by decide) rfl ?_
                      refine g_iinc hX (nI (k + 1)) 4 [(4, .int (nI (k + 1))), (3, .int 0), (2, .int 1), (0, .ref (G.2.2 0)), (1, .int (nI c))] dX7_remember_103 rfl (nI_1 k) (by decide) rfl ?_
                      refine g_goto hX 19 dX7_remember_106 (by decide) ?_
                      -- back to 19
                      refine g_sub [3, 4, 2, 1, 0] [(0, .ref (G.2.2 0)), (1, .int (nI c)), (2, .int 1), (3, .int 0), (4, .int (nI (k + 1)))] rfl ?_
                      have e2 : (1 : Int32) = bi (anyN (fun a => decide (¬ y 82 a = 0 ∧ y 11 a = nI c)) (k + 1) = true) := by
                        exact (bi_t (by rw [anyN]; grind)).symm
                      refine g_lv (lv' := [(0, .ref (G.2.2 0)), (1, .int (nI c)), (2, .int (bi (anyN (fun a => decide (¬ y 82 a = 0 ∧ y 11 a = nI c)) (k + 1) = true))), (3, .int 0), (4, .int (nI (k + 1)))]) (by rw [← e2]) ?_
                      have e3 : (0 : Int32) = bi (anyN (fun a => decide ((¬ y 82 a = 0 ∧ y 11 a = nI c) ∧ y 15 a = 1)) (k + 1) = true) := by
                        exact (bi_f (by rw [anyN]; grind)).symm
                      refine g_lv (lv' := [(0, .ref (G.2.2 0)), (1, .int (nI c)), (2, .int (bi (anyN (fun a => decide (¬ y 82 a = 0 ∧ y 11 a = nI c)) (k + 1) = true))), (3, .int (bi (anyN (fun a => decide ((¬ y 82 a = 0 ∧ y 11 a = nI c) ∧ y 15 a = 1)) (k + 1) = true))), (4, .int (nI (k + 1)))]) (by rw [← e3]) ?_
                      exact ih (k + 1) (by omega) (by omega)
                    · -- on 86
                      refine g_aload_n hX 1 dX7_remember_86 rfl ?_
                      refine g_iload hX 4 dX7_remember_87 rfl ?_
                      refine g_iconst hX 4 dX7_remember_89 (by decide) ?_
                      refine g_cvE hX (As := [.int (nI k), .int 4]) (rest := []) (c_X7_of l G y (a := k) (w := 4) (ha := (by omega)) (hw := (by decide))) k_X7_remember_X7_of rc_Model rfl rfl (Nat.le_of_ble_eq_true rfl) dX7_remember_90 ?_
                      refine g_top (y 15 k) rfl ?_
                      refine g_iconst hX 1 dX7_remember_93 (by decide) ?_
                      refine g_ic_ne hX 101 dX7_remember_94 (by decide) (fun c9 => ?_) (fun c9 => ?_)
                      · -- jump 101
                        refine g_iconst hX 0 dX7_remember_101 (by decide) ?_
                        refine g_istore_n hX [(3, .int 0), (2, .int 1), (0, .ref (G.2.2 0)), (1, .int (nI c)), (4, .int (nI k))] dX7_remember_102 (by decide) rfl ?_
                        refine g_iinc hX (nI (k + 1)) 4 [(4, .int (nI (k + 1))), (3, .int 0), (2, .int 1), (0, .ref (G.2.2 0)), (1, .int (nI c))] dX7_remember_103 rfl (nI_1 k) (by decide) rfl ?_
                        refine g_goto hX 19 dX7_remember_106 (by decide) ?_
                        -- back to 19
                        refine g_sub [3, 4, 2, 1, 0] [(0, .ref (G.2.2 0)), (1, .int (nI c)), (2, .int 1), (3, .int 0), (4, .int (nI (k + 1)))] rfl ?_
                        have e2 : (1 : Int32) = bi (anyN (fun a => decide (¬ y 82 a = 0 ∧ y 11 a = nI c)) (k + 1) = true) := by
                          exact (bi_t (by rw [anyN]; grind)).symm
                        refine g_lv (lv' := [(0, .ref (G.2.2 0)), (1, .int (nI c)), (2, .int (bi (anyN (fun a => decide (¬ y 82 a = 0 ∧ y 11 a = nI c)) (k + 1) = true))), (3, .int 0), (4, .int (nI (k + 1)))]) (by rw [← e2]) ?_
                        have e3 : (0 : Int32) = bi (anyN (fun a => decide ((¬ y 82 a = 0 ∧ y 11 a = nI c) ∧ y 15 a = 1)) (k + 1) = true) := by
                          exact (bi_f (by rw [anyN]; grind)).symm
                        refine g_lv (lv' := [(0, .ref (G.2.2 0)), (1, .int (nI c)), (2, .int (bi (anyN (fun a => decide (¬ y 82 a = 0 ∧ y 11 a = nI c)) (k + 1) = true))), (3, .int (bi (anyN (fun a => decide ((¬ y 82 a = 0 ∧ y 11 a = nI c) ∧ y 15 a = 1)) (k + 1) = true))), (4, .int (nI (k + 1)))]) (by rw [← e3]) ?_
                        exact ih (k + 1) (by omega) (by omega)
                      · -- on 97
                        refine g_iconst hX 1 dX7_remember_97 (by decide) ?_
                        refine g_goto hX 102 dX7_remember_98 (by decide) ?_
                        refine g_istore_n hX [(3, .int 1), (2, .int 1), (0, .ref (G.2.2 0)), (1, .int (nI c)), (4, .int (nI k))] dX7_remember_102 (by decide) rfl ?_
                        refine g_iinc hX (nI (k + 1)) 4 [(4, .int (nI (k + 1))), (3, .int 1), (2, .int 1), (0, .ref (G.2.2 0)), (1, .int (nI c))] dX7_remember_103 rfl (nI_1 k) (by decide) rfl ?_
                        refine g_goto hX 19 dX7_remember_106 (by decide) ?_
                        -- back to 19
                        refine g_sub [3, 4, 2, 1, 0] [(0, .ref (G.2.2 0)), (1, .int (nI c)), (2, .int 1), (3, .int 1), (4, .int (nI (k + 1)))] rfl ?_
                        have e2 : (1 : Int32) = bi (anyN (fun a => decide (¬ y 82 a = 0 ∧ y 11 a = nI c)) (k + 1) = true) := by
                          exact (bi_t (by rw [anyN]; grind)).symm
                        refine g_lv (lv' := [(0, .ref (G.2.2 0)), (1, .int (nI c)), (2, .int (bi (anyN (fun a => decide (¬ y 82 a = 0 ∧ y 11 a = nI c)) (k + 1) = true))), (3, .int 1), (4, .int (nI (k + 1)))]) (by rw [← e2]) ?_
                        have e3 : (1 : Int32) = bi (anyN (fun a => decide ((¬ y 82 a = 0 ∧ y 11 a = nI c) ∧ y 15 a = 1)) (k + 1) = true) := by
                          exact (bi_t (by rw [anyN]; grind)).symm
                        refine g_lv (lv' := [(0, .ref (G.2.2 0)), (1, .int (nI c)), (2, .int (bi (anyN (fun a => decide (¬ y 82 a = 0 ∧ y 11 a = nI c)) (k + 1) = true))), (3, .int (bi (anyN (fun a => decide ((¬ y 82 a = 0 ∧ y 11 a = nI c) ∧ y 15 a = 1)) (k + 1) = true))), (4, .int (nI (k + 1)))]) (by rw [← e3]) ?_
                        exact ih (k + 1) (by omega) (by omega)
              · -- on 34
                refine g_aload_n hX 0 dX7_remember_34 rfl ?_
                refine m_g_7 hX i_X7_remember_wsX70 (List.mem_of_getElem? (i := 2) rfl) dX7_remember_35 ?_
                refine g_iload hX 4 dX7_remember_38 rfl ?_
                refine m_ld_isIn hX k rfl (by omega) dX7_remember_40 ?_
                refine g_if_eq hX 59 dX7_remember_41 (by decide) (fun c10 => ?_) (fun c10 => ?_)
                · -- jump 59
                  refine g_iconst hX 0 dX7_remember_59 (by decide) ?_
                  refine g_istore_n hX [(2, .int 0), (0, .ref (G.2.2 0)), (1, .int (nI c)), (3, .int (bi (anyN (fun a => decide ((¬ y 82 a = 0 ∧ y 11 a = nI c) ∧ y 15 a = 1)) k = true))), (4, .int (nI k))] dX7_remember_60 (by decide) rfl ?_
                  refine g_iload_n hX 3 dX7_remember_61 rfl ?_
                  refine g_bi_ne hX 97 dX7_remember_62 (by decide) (fun c11 => ?_) (fun c11 => ?_)
                  · -- jump 97
                    refine g_iconst hX 1 dX7_remember_97 (by decide) ?_
                    refine g_goto hX 102 dX7_remember_98 (by decide) ?_
                    refine g_istore_n hX [(3, .int 1), (2, .int 0), (0, .ref (G.2.2 0)), (1, .int (nI c)), (4, .int (nI k))] dX7_remember_102 (by decide) rfl ?_
                    refine g_iinc hX (nI (k + 1)) 4 [(4, .int (nI (k + 1))), (3, .int 1), (2, .int 0), (0, .ref (G.2.2 0)), (1, .int (nI c))] dX7_remember_103 rfl (nI_1 k) (by decide) rfl ?_
                    refine g_goto hX 19 dX7_remember_106 (by decide) ?_
                    -- back to 19
                    refine g_sub [3, 4, 2, 1, 0] [(0, .ref (G.2.2 0)), (1, .int (nI c)), (2, .int 0), (3, .int 1), (4, .int (nI (k + 1)))] rfl ?_
                    have e2 : (0 : Int32) = bi (anyN (fun a => decide (¬ y 82 a = 0 ∧ y 11 a = nI c)) (k + 1) = true) := by
                      exact (bi_f (by rw [anyN]; grind)).symm
                    refine g_lv (lv' := [(0, .ref (G.2.2 0)), (1, .int (nI c)), (2, .int (bi (anyN (fun a => decide (¬ y 82 a = 0 ∧ y 11 a = nI c)) (k + 1) = true))), (3, .int 1), (4, .int (nI (k + 1)))]) (by rw [← e2]) ?_
                    have e3 : (1 : Int32) = bi (anyN (fun a => decide ((¬ y 82 a = 0 ∧ y 11 a = nI c) ∧ y 15 a = 1)) (k + 1) = true) := by
                      exact (bi_t (by rw [anyN]; grind)).symm
                    refine g_lv (lv' := [(0, .ref (G.2.2 0)), (1, .int (nI c)), (2, .int (bi (anyN (fun a => decide (¬ y 82 a = 0 ∧ y 11 a = nI c)) (k + 1) = true))), (3, .int (bi (anyN (fun a => decide ((¬ y 82 a = 0 ∧ y 11 a = nI c) ∧ y 15 a = 1)) (k + 1) = true))), (4, .int (nI (k + 1)))]) (by rw [← e3]) ?_
                    exact ih (k + 1) (by omega) (by omega)
                  · -- on 65
                    refine g_aload_n hX 1 dX7_remember_65 rfl ?_
                    refine m_g_7 hX i_X7_remember_wsX70 (List.mem_of_getElem? (i := 2) rfl) dX7_remember_66 ?_
                    refine g_iload hX 4 dX7_remember_69 rfl ?_
                    refine m_ld_isIn hX k rfl (by omega) dX7_remember_71 ?_
                    refine g_if_eq hX 101 dX7_remember_72 (by decide) (fun c12 => ?_) (fun c12 => ?_)
                    · -- jump 101
                      refine g_iconst hX 0 dX7_remember_101 (by decide) ?_
                      refine g_istore_n hX [(3, .int 0), (2, .int 0), (0, .ref (G.2.2 0)), (1, .int (nI c)), (4, .int (nI k))] dX7_remember_102 (by decide) rfl ?_
                      refine g_iinc hX (nI (k + 1)) 4 [(4, .int (nI (k + 1))), (3, .int 0), (2, .int 0), (0, .ref (G.2.2 0)), (1, .int (nI c))] dX7_remember_103 rfl (nI_1 k) (by decide) rfl ?_
                      refine g_goto hX 19 dX7_remember_106 (by decide) ?_
                      -- back to 19
                      refine g_sub [3, 4, 2, 1, 0] [(0, .ref (G.2.2 0)), (1, .int (nI c)), (2, .int 0), (3, .int 0), (4, .int (nI (k + 1)))] rfl ?_
                      have e2 : (0 : Int32) = bi (anyN (fun a => decide (¬ y 82 a = 0 ∧ y 11 a = nI c)) (k + 1) = true) := by
                        exact (bi_f (by rw [anyN]; grind)).symm
                      refine g_lv (lv' := [(0, .ref (G.2.2 0)), (1, .int (nI c)), (2, .int (bi (anyN (fun a => decide (¬ y 82 a = 0 ∧ y 11 a = nI c)) (k + 1) = true))), (3, .int 0), (4, .int (nI (k + 1)))]) (by rw [← e2]) ?_
                      have e3 : (0 : Int32) = bi (anyN (fun a => decide ((¬ y 82 a = 0 ∧ y 11 a = nI c) ∧ y 15 a = 1)) (k + 1) = true) := by
                        exact (bi_f (by rw [anyN]; grind)).symm
                      refine g_lv (lv' := [(0, .ref (G.2.2 0)), (1, .int (nI c)), (2, .int (bi (anyN (fun a => decide (¬ y 82 a = 0 ∧ y 11 a = nI c)) (k + 1) = true))), (3, .int (bi (anyN (fun a => decide ((¬ y 82 a = 0 ∧ y 11 a = nI c) ∧ y 15 a = 1)) (k + 1) = true))), (4, .int (nI (k + 1)))]) (by rw [← e3]) ?_
                      exact ih (k + 1) (by omega) (by omega)
                    · -- on 75
                      refine g_aload_n hX 1 dX7_remember_75 rfl ?_
                      refine g_iload hX 4 dX7_remember_76 rfl ?_
                      refine g_iconst hX 0 dX7_remember_78 (by decide) ?_
                      refine g_cvE hX (As := [.int (nI k), .int 0]) (rest := []) (c_X7_of l G y (a := k) (w := 0) (ha := (by omega)) (hw := (by decide))) k_X7_remember_X7_of rc_Model rfl rfl (Nat.le_of_ble_eq_true rfl) dX7_remember_79 ?_
                      refine g_top (y 11 k) rfl ?_
                      refine g_iload_n hX 2 dX7_remember_82 rfl ?_
                      refine g_ic_ne hX 101 dX7_remember_83 (by decide) (fun c13 => ?_) (fun c13 => ?_)
                      · -- jump 101
                        refine g_iconst hX 0 dX7_remember_101 (by decide) ?_
                        refine g_istore_n hX [(3, .int 0), (2, .int 0), (0, .ref (G.2.2 0)), (1, .int (nI c)), (4, .int (nI k))] dX7_remember_102 (by decide) rfl ?_
                        refine g_iinc hX (nI (k + 1)) 4 [(4, .int (nI (k + 1))), (3, .int 0), (2, .int 0), (0, .ref (G.2.2 0)), (1, .int (nI c))] dX7_remember_103 rfl (nI_1 k) (by decide) rfl ?_
                        refine g_goto hX 19 dX7_remember_106 (by decide) ?_
                        -- back to 19
                        refine g_sub [3, 4, 2, 1, 0] [(0, .ref (G.2.2 0)), (1, .int (nI c)), (2, .int 0), (3, .int 0), (4, .int (nI (k + 1)))] rfl ?_
                        have e2 : (0 : Int32) = bi (anyN (fun a => decide (¬ y 82 a = 0 ∧ y 11 a = nI c)) (k + 1) = true) := by
                          exact (bi_f (by rw [anyN]; grind)).symm
                        refine g_lv (lv' := [(0, .ref (G.2.2 0)), (1, .int (nI c)), (2, .int (bi (anyN (fun a => decide (¬ y 82 a = 0 ∧ y 11 a = nI c)) (k + 1) = true))), (3, .int 0), (4, .int (nI (k + 1)))]) (by rw [← e2]) ?_
                        have e3 : (0 : Int32) = bi (anyN (fun a => decide ((¬ y 82 a = 0 ∧ y 11 a = nI c) ∧ y 15 a = 1)) (k + 1) = true) := by
                          exact (bi_f (by rw [anyN]; grind)).symm
                        refine g_lv (lv' := [(0, .ref (G.2.2 0)), (1, .int (nI c)), (2, .int (bi (anyN (fun a => decide (¬ y 82 a = 0 ∧ y 11 a = nI c)) (k + 1) = true))), (3, .int (bi (anyN (fun a => decide ((¬ y 82 a = 0 ∧ y 11 a = nI c) ∧ y 15 a = 1)) (k + 1) = true))), (4, .int (nI (k + 1)))]) (by rw [← e3]) ?_
                        exact ih (k + 1) (by omega) (by omega)
                      · -- on 86
                        refine g_aload_n hX 1 dX7_remember_86 rfl ?_
                        refine g_iload hX 4 dX7_remember_87 rfl ?_
                        refine g_iconst hX 4 dX7_remember_89 (by decide) ?_
                        refine g_cvE hX (As := [.int (nI k), .int 4]) (rest := []) (c_X7_of l G y (a := k) (w := 4) (ha := (by omega)) (hw := (by decide))) k_X7_remember_X7_of rc_Model rfl rfl (Nat.le_of_ble_eq_true rfl) dX7_remember_90 ?_
                        refine g_top (y 15 k) rfl ?_
                        refine g_iconst hX 1 dX7_remember_93 (by decide) ?_
                        refine g_ic_ne hX 101 dX7_remember_94 (by decide) (fun c14 => ?_) (fun c14 => ?_)
                        · -- jump 101
                          refine g_iconst hX 0 dX7_remember_101 (by decide) ?_
                          refine g_istore_n hX [(3, .int 0), (2, .int 0), (0, .ref (G.2.2 0)), (1, .int (nI c)), (4, .int (nI k))] dX7_remember_102 (by decide) rfl ?_
                          refine g_iinc hX (nI (k + 1)) 4 [(4, .int (nI (k + 1))), (3, .int 0), (2, .int 0), (0, .ref (G.2.2 0)), (1, .int (nI c))] dX7_remember_103 rfl (nI_1 k) (by decide) rfl ?_
                          refine g_goto hX 19 dX7_remember_106 (by decide) ?_
                          -- back to 19
                          refine g_sub [3, 4, 2, 1, 0] [(0, .ref (G.2.2 0)), (1, .int (nI c)), (2, .int 0), (3, .int 0), (4, .int (nI (k + 1)))] rfl ?_
                          have e2 : (0 : Int32) = bi (anyN (fun a => decide (¬ y 82 a = 0 ∧ y 11 a = nI c)) (k + 1) = true) := by
                            exact (bi_f (by rw [anyN]; grind)).symm
                          refine g_lv (lv' := [(0, .ref (G.2.2 0)), (1, .int (nI c)), (2, .int (bi (anyN (fun a => decide (¬ y 82 a = 0 ∧ y 11 a = nI c)) (k + 1) = true))), (3, .int 0), (4, .int (nI (k + 1)))]) (by rw [← e2]) ?_
                          have e3 : (0 : Int32) = bi (anyN (fun a => decide ((¬ y 82 a = 0 ∧ y 11 a = nI c) ∧ y 15 a = 1)) (k + 1) = true) := by
                            exact (bi_f (by rw [anyN]; grind)).symm
                          refine g_lv (lv' := [(0, .ref (G.2.2 0)), (1, .int (nI c)), (2, .int (bi (anyN (fun a => decide (¬ y 82 a = 0 ∧ y 11 a = nI c)) (k + 1) = true))), (3, .int (bi (anyN (fun a => decide ((¬ y 82 a = 0 ∧ y 11 a = nI c) ∧ y 15 a = 1)) (k + 1) = true))), (4, .int (nI (k + 1)))]) (by rw [← e3]) ?_
                          exact ih (k + 1) (by omega) (by omega)
                        · -- on 97
                          refine g_iconst hX 1 dX7_remember_97 (by decide) ?_
                          refine g_goto hX 102 dX7_remember_98 (by decide) ?_
                          refine g_istore_n hX [(3, .int 1), (2, .int 0), (0, .ref (G.2.2 0)), (1, .int (nI c)), (4, .int (nI k))] dX7_remember_102 (by decide) rfl ?_
                          refine g_iinc hX (nI (k + 1)) 4 [(4, .int (nI (k + 1))), (3, .int 1), (2, .int 0), (0, .ref (G.2.2 0)), (1, .int (nI c))] dX7_remember_103 rfl (nI_1 k) (by decide) rfl ?_
                          refine g_goto hX 19 dX7_remember_106 (by decide) ?_
                          -- back to 19
                          refine g_sub [3, 4, 2, 1, 0] [(0, .ref (G.2.2 0)), (1, .int (nI c)), (2, .int 0), (3, .int 1), (4, .int (nI (k + 1)))] rfl ?_
                          have e2 : (0 : Int32) = bi (anyN (fun a => decide (¬ y 82 a = 0 ∧ y 11 a = nI c)) (k + 1) = true) := by
                            exact (bi_f (by rw [anyN]; grind)).symm
                          refine g_lv (lv' := [(0, .ref (G.2.2 0)), (1, .int (nI c)), (2, .int (bi (anyN (fun a => decide (¬ y 82 a = 0 ∧ y 11 a = nI c)) (k + 1) = true))), (3, .int 1), (4, .int (nI (k + 1)))]) (by rw [← e2]) ?_
                          have e3 : (1 : Int32) = bi (anyN (fun a => decide ((¬ y 82 a = 0 ∧ y 11 a = nI c) ∧ y 15 a = 1)) (k + 1) = true) := by
                            exact (bi_t (by rw [anyN]; grind)).symm
                          refine g_lv (lv' := [(0, .ref (G.2.2 0)), (1, .int (nI c)), (2, .int (bi (anyN (fun a => decide (¬ y 82 a = 0 ∧ y 11 a = nI c)) (k + 1) = true))), (3, .int (bi (anyN (fun a => decide ((¬ y 82 a = 0 ∧ y 11 a = nI c) ∧ y 15 a = 1)) (k + 1) = true))), (4, .int (nI (k + 1)))]) (by rw [← e3]) ?_
                          exact ih (k + 1) (by omega) (by omega)
                · -- on 44
                  refine g_aload_n hX 0 dX7_remember_44 rfl ?_
                  refine g_iload hX 4 dX7_remember_45 rfl ?_
                  refine g_iconst hX 0 dX7_remember_47 (by decide) ?_
                  refine g_cvE hX (As := [.int (nI k), .int 0]) (rest := []) (c_X7_of l G y (a := k) (w := 0) (ha := (by omega)) (hw := (by decide))) k_X7_remember_X7_of rc_Model rfl rfl (Nat.le_of_ble_eq_true rfl) dX7_remember_48 ?_
                  refine g_top (y 11 k) rfl ?_
                  refine g_iload_n hX 1 dX7_remember_51 rfl ?_
                  refine g_ic_ne hX 59 dX7_remember_52 (by decide) (fun c15 => ?_) (fun c15 => ?_)
                  · -- jump 59
                    refine g_iconst hX 0 dX7_remember_59 (by decide) ?_
                    refine g_istore_n hX [(2, .int 0), (0, .ref (G.2.2 0)), (1, .int (nI c)), (3, .int (bi (anyN (fun a => decide ((¬ y 82 a = 0 ∧ y 11 a = nI c) ∧ y 15 a = 1)) k = true))), (4, .int (nI k))] dX7_remember_60 (by decide) rfl ?_
                    refine g_iload_n hX 3 dX7_remember_61 rfl ?_
                    refine g_bi_ne hX 97 dX7_remember_62 (by decide) (fun c16 => ?_) (fun c16 => ?_)
                    · -- jump 97
                      refine g_iconst hX 1 dX7_remember_97 (by decide) ?_
                      refine g_goto hX 102 dX7_remember_98 (by decide) ?_
                      refine g_istore_n hX [(3, .int 1), (2, .int 0), (0, .ref (G.2.2 0)), (1, .int (nI c)), (4, .int (nI k))] dX7_remember_102 (by decide) rfl ?_
                      refine g_iinc hX (nI (k + 1)) 4 [(4, .int (nI (k + 1))), (3, .int 1), (2, .int 0), (0, .ref (G.2.2 0)), (1, .int (nI c))] dX7_remember_103 rfl (nI_1 k) (by decide) rfl ?_
                      refine g_goto hX 19 dX7_remember_106 (by decide) ?_
                      -- back to 19
                      refine g_sub [3, 4, 2, 1, 0] [(0, .ref (G.2.2 0)), (1, .int (nI c)), (2, .int 0), (3, .int 1), (4, .int (nI (k + 1)))] rfl ?_
                      have e2 : (0 : Int32) = bi (anyN (fun a => decide (¬ y 82 a = 0 ∧ y 11 a = nI c)) (k + 1) = true) := by
                        exact (bi_f (by rw [anyN]; grind)).symm
                      refine g_lv (lv' := [(0, .ref (G.2.2 0)), (1, .int (nI c)), (2, .int (bi (anyN (fun a => decide (¬ y 82 a = 0 ∧ y 11 a = nI c)) (k + 1) = true))), (3, .int 1), (4, .int (nI (k + 1)))]) (by rw [← e2]) ?_
                      have e3 : (1 : Int32) = bi (anyN (fun a => decide ((¬ y 82 a = 0 ∧ y 11 a = nI c) ∧ y 15 a = 1)) (k + 1) = true) := by
                        exact (bi_t (by rw [anyN]; grind)).symm
                      refine g_lv (lv' := [(0, .ref (G.2.2 0)), (1, .int (nI c)), (2, .int (bi (anyN (fun a => decide (¬ y 82 a = 0 ∧ y 11 a = nI c)) (k + 1) = true))), (3, .int (bi (anyN (fun a => decide ((¬ y 82 a = 0 ∧ y 11 a = nI c) ∧ y 15 a = 1)) (k + 1) = true))), (4, .int (nI (k + 1)))]) (by rw [← e3]) ?_
                      exact ih (k + 1) (by omega) (by omega)
                    · -- on 65
                      refine g_aload_n hX 1 dX7_remember_65 rfl ?_
                      refine m_g_7 hX i_X7_remember_wsX70 (List.mem_of_getElem? (i := 2) rfl) dX7_remember_66 ?_
                      refine g_iload hX 4 dX7_remember_69 rfl ?_
                      refine m_ld_isIn hX k rfl (by omega) dX7_remember_71 ?_
                      refine g_if_eq hX 101 dX7_remember_72 (by decide) (fun c17 => ?_) (fun c17 => ?_)
                      · -- jump 101
                        refine g_iconst hX 0 dX7_remember_101 (by decide) ?_
                        refine g_istore_n hX [(3, .int 0), (2, .int 0), (0, .ref (G.2.2 0)), (1, .int (nI c)), (4, .int (nI k))] dX7_remember_102 (by decide) rfl ?_
                        refine g_iinc hX (nI (k + 1)) 4 [(4, .int (nI (k + 1))), (3, .int 0), (2, .int 0), (0, .ref (G.2.2 0)), (1, .int (nI c))] dX7_remember_103 rfl (nI_1 k) (by decide) rfl ?_
                        refine g_goto hX 19 dX7_remember_106 (by decide) ?_
                        -- back to 19
                        refine g_sub [3, 4, 2, 1, 0] [(0, .ref (G.2.2 0)), (1, .int (nI c)), (2, .int 0), (3, .int 0), (4, .int (nI (k + 1)))] rfl ?_
                        have e2 : (0 : Int32) = bi (anyN (fun a => decide (¬ y 82 a = 0 ∧ y 11 a = nI c)) (k + 1) = true) := by
                          exact (bi_f (by rw [anyN]; grind)).symm
                        refine g_lv (lv' := [(0, .ref (G.2.2 0)), (1, .int (nI c)), (2, .int (bi (anyN (fun a => decide (¬ y 82 a = 0 ∧ y 11 a = nI c)) (k + 1) = true))), (3, .int 0), (4, .int (nI (k + 1)))]) (by rw [← e2]) ?_
                        have e3 : (0 : Int32) = bi (anyN (fun a => decide ((¬ y 82 a = 0 ∧ y 11 a = nI c) ∧ y 15 a = 1)) (k + 1) = true) := by
                          exact (bi_f (by rw [anyN]; grind)).symm
                        refine g_lv (lv' := [(0, .ref (G.2.2 0)), (1, .int (nI c)), (2, .int (bi (anyN (fun a => decide (¬ y 82 a = 0 ∧ y 11 a = nI c)) (k + 1) = true))), (3, .int (bi (anyN (fun a => decide ((¬ y 82 a = 0 ∧ y 11 a = nI c) ∧ y 15 a = 1)) (k + 1) = true))), (4, .int (nI (k + 1)))]) (by rw [← e3]) ?_
                        exact ih (k + 1) (by omega) (by omega)
                      · -- on 75
                        refine g_aload_n hX 1 dX7_remember_75 rfl ?_
                        refine g_iload hX 4 dX7_remember_76 rfl ?_
                        refine g_iconst hX 0 dX7_remember_78 (by decide) ?_
                        refine g_cvE hX (As := [.int (nI k), .int 0]) (rest := []) (c_X7_of l G y (a := k) (w := 0) (ha := (by omega)) (hw := (by decide))) k_X7_remember_X7_of rc_Model rfl rfl (Nat.le_of_ble_eq_true rfl) dX7_remember_79 ?_
                        refine g_top (y 11 k) rfl ?_
                        refine g_iload_n hX 2 dX7_remember_82 rfl ?_
                        refine g_ic_ne hX 101 dX7_remember_83 (by decide) (fun c18 => ?_) (fun c18 => ?_)
                        · -- jump 101
                          refine g_iconst hX 0 dX7_remember_101 (by decide) ?_
                          refine g_istore_n hX [(3, .int 0), (2, .int 0), (0, .ref (G.2.2 0)), (1, .int (nI c)), (4, .int (nI k))] dX7_remember_102 (by decide) rfl ?_
                          refine g_iinc hX (nI (k + 1)) 4 [(4, .int (nI (k + 1))), (3, .int 0), (2, .int 0), (0, .ref (G.2.2 0)), (1, .int (nI c))] dX7_remember_103 rfl (nI_1 k) (by decide) rfl ?_
                          refine g_goto hX 19 dX7_remember_106 (by decide) ?_
                          -- back to 19
                          refine g_sub [3, 4, 2, 1, 0] [(0, .ref (G.2.2 0)), (1, .int (nI c)), (2, .int 0), (3, .int 0), (4, .int (nI (k + 1)))] rfl ?_
                          have e2 : (0 : Int32) = bi (anyN (fun a => decide (¬ y 82 a = 0 ∧ y 11 a = nI c)) (k + 1) = true) := by
                            exact (bi_f (by rw [anyN]; grind)).symm
                          refine g_lv (lv' := [(0, .ref (G.2.2 0)), (1, .int (nI c)), (2, .int (bi (anyN (fun a => decide (¬ y 82 a = 0 ∧ y 11 a = nI c)) (k + 1) = true))), (3, .int 0), (4, .int (nI (k + 1)))]) (by rw [← e2]) ?_
                          have e3 : (0 : Int32) = bi (anyN (fun a => decide ((¬ y 82 a = 0 ∧ y 11 a = nI c) ∧ y 15 a = 1)) (k + 1) = true) := by
                            exact (bi_f (by rw [anyN]; grind)).symm
                          refine g_lv (lv' := [(0, .ref (G.2.2 0)), (1, .int (nI c)), (2, .int (bi (anyN (fun a => decide (¬ y 82 a = 0 ∧ y 11 a = nI c)) (k + 1) = true))), (3, .int (bi (anyN (fun a => decide ((¬ y 82 a = 0 ∧ y 11 a = nI c) ∧ y 15 a = 1)) (k + 1) = true))), (4, .int (nI (k + 1)))]) (by rw [← e3]) ?_
                          exact ih (k + 1) (by omega) (by omega)
                        · -- on 86
                          refine g_aload_n hX 1 dX7_remember_86 rfl ?_
                          refine g_iload hX 4 dX7_remember_87 rfl ?_
                          refine g_iconst hX 4 dX7_remember_89 (by decide) ?_
                          refine g_cvE hX (As := [.int (nI k), .int 4]) (rest := []) (c_X7_of l G y (a := k) (w := 4) (ha := (by omega)) (hw := (by decide))) k_X7_remember_X7_of rc_Model rfl rfl (Nat.le_of_ble_eq_true rfl) dX7_remember_90 ?_
                          refine g_top (y 15 k) rfl ?_
                          refine g_iconst hX 1 dX7_remember_93 (by decide) ?_
                          refine g_ic_ne hX 101 dX7_remember_94 (by decide) (fun c19 => ?_) (fun c19 => ?_)
                          · -- jump 101
                            refine g_iconst hX 0 dX7_remember_101 (by decide) ?_
                            refine g_istore_n hX [(3, .int 0), (2, .int 0), (0, .ref (G.2.2 0)), (1, .int (nI c)), (4, .int (nI k))] dX7_remember_102 (by decide) rfl ?_
                            refine g_iinc hX (nI (k + 1)) 4 [(4, .int (nI (k + 1))), (3, .int 0), (2, .int 0), (0, .ref (G.2.2 0)), (1, .int (nI c))] dX7_remember_103 rfl (nI_1 k) (by decide) rfl ?_
                            refine g_goto hX 19 dX7_remember_106 (by decide) ?_
                            -- back to 19
                            refine g_sub [3, 4, 2, 1, 0] [(0, .ref (G.2.2 0)), (1, .int (nI c)), (2, .int 0), (3, .int 0), (4, .int (nI (k + 1)))] rfl ?_
                            have e2 : (0 : Int32) = bi (anyN (fun a => decide (¬ y 82 a = 0 ∧ y 11 a = nI c)) (k + 1) = true) := by
                              exact (bi_f (by rw [anyN]; grind)).symm
                            refine g_lv (lv' := [(0, .ref (G.2.2 0)), (1, .int (nI c)), (2, .int (bi (anyN (fun a => decide (¬ y 82 a = 0 ∧ y 11 a = nI c)) (k + 1) = true))), (3, .int 0), (4, .int (nI (k + 1)))]) (by rw [← e2]) ?_
                            have e3 : (0 : Int32) = bi (anyN (fun a => decide ((¬ y 82 a = 0 ∧ y 11 a = nI c) ∧ y 15 a = 1)) (k + 1) = true) := by
                              exact (bi_f (by rw [anyN]; grind)).symm
                            refine g_lv (lv' := [(0, .ref (G.2.2 0)), (1, .int (nI c)), (2, .int (bi (anyN (fun a => decide (¬ y 82 a = 0 ∧ y 11 a = nI c)) (k + 1) = true))), (3, .int (bi (anyN (fun a => decide ((¬ y 82 a = 0 ∧ y 11 a = nI c) ∧ y 15 a = 1)) (k + 1) = true))), (4, .int (nI (k + 1)))]) (by rw [← e3]) ?_
                            exact ih (k + 1) (by omega) (by omega)
                          · -- on 97
                            refine g_iconst hX 1 dX7_remember_97 (by decide) ?_
                            refine g_goto hX 102 dX7_remember_98 (by decide) ?_
                            refine g_istore_n hX [(3, .int 1), (2, .int 0), (0, .ref (G.2.2 0)), (1, .int (nI c)), (4, .int (nI k))] dX7_remember_102 (by decide) rfl ?_
                            refine g_iinc hX (nI (k + 1)) 4 [(4, .int (nI (k + 1))), (3, .int 1), (2, .int 0), (0, .ref (G.2.2 0)), (1, .int (nI c))] dX7_remember_103 rfl (nI_1 k) (by decide) rfl ?_
                            refine g_goto hX 19 dX7_remember_106 (by decide) ?_
                            -- back to 19
                            refine g_sub [3, 4, 2, 1, 0] [(0, .ref (G.2.2 0)), (1, .int (nI c)), (2, .int 0), (3, .int 1), (4, .int (nI (k + 1)))] rfl ?_
                            have e2 : (0 : Int32) = bi (anyN (fun a => decide (¬ y 82 a = 0 ∧ y 11 a = nI c)) (k + 1) = true) := by
                              exact (bi_f (by rw [anyN]; grind)).symm
                            refine g_lv (lv' := [(0, .ref (G.2.2 0)), (1, .int (nI c)), (2, .int (bi (anyN (fun a => decide (¬ y 82 a = 0 ∧ y 11 a = nI c)) (k + 1) = true))), (3, .int 1), (4, .int (nI (k + 1)))]) (by rw [← e2]) ?_
                            have e3 : (1 : Int32) = bi (anyN (fun a => decide ((¬ y 82 a = 0 ∧ y 11 a = nI c) ∧ y 15 a = 1)) (k + 1) = true) := by
                              exact (bi_t (by rw [anyN]; grind)).symm
                            refine g_lv (lv' := [(0, .ref (G.2.2 0)), (1, .int (nI c)), (2, .int (bi (anyN (fun a => decide (¬ y 82 a = 0 ∧ y 11 a = nI c)) (k + 1) = true))), (3, .int (bi (anyN (fun a => decide ((¬ y 82 a = 0 ∧ y 11 a = nI c) ∧ y 15 a = 1)) (k + 1) = true))), (4, .int (nI (k + 1)))]) (by rw [← e3]) ?_
                            exact ih (k + 1) (by omega) (by omega)
                  · -- on 55
                    refine g_iconst hX 1 dX7_remember_55 (by decide) ?_
                    refine g_goto hX 60 dX7_remember_56 (by decide) ?_
                    refine g_istore_n hX [(2, .int 1), (0, .ref (G.2.2 0)), (1, .int (nI c)), (3, .int (bi (anyN (fun a => decide ((¬ y 82 a = 0 ∧ y 11 a = nI c) ∧ y 15 a = 1)) k = true))), (4, .int (nI k))] dX7_remember_60 (by decide) rfl ?_
                    refine g_iload_n hX 3 dX7_remember_61 rfl ?_
                    refine g_bi_ne hX 97 dX7_remember_62 (by decide) (fun c20 => ?_) (fun c20 => ?_)
                    · -- jump 97
                      refine g_iconst hX 1 dX7_remember_97 (by decide) ?_
                      refine g_goto hX 102 dX7_remember_98 (by decide) ?_
                      refine g_istore_n hX [(3, .int 1), (2, .int 1), (0, .ref (G.2.2 0)), (1, .int (nI c)), (4, .int (nI k))] dX7_remember_102 (by decide) rfl ?_
                      refine g_iinc hX (nI (k + 1)) 4 [(4, .int (nI (k + 1))), (3, .int 1), (2, .int 1), (0, .ref (G.2.2 0)), (1, .int (nI c))] dX7_remember_103 rfl (nI_1 k) (by decide) rfl ?_
                      refine g_goto hX 19 dX7_remember_106 (by decide) ?_
                      -- back to 19
                      refine g_sub [3, 4, 2, 1, 0] [(0, .ref (G.2.2 0)), (1, .int (nI c)), (2, .int 1), (3, .int 1), (4, .int (nI (k + 1)))] rfl ?_
                      have e2 : (1 : Int32) = bi (anyN (fun a => decide (¬ y 82 a = 0 ∧ y 11 a = nI c)) (k + 1) = true) := by
                        exact (bi_t (by rw [anyN]; grind)).symm
                      refine g_lv (lv' := [(0, .ref (G.2.2 0)), (1, .int (nI c)), (2, .int (bi (anyN (fun a => decide (¬ y 82 a = 0 ∧ y 11 a = nI c)) (k + 1) = true))), (3, .int 1), (4, .int (nI (k + 1)))]) (by rw [← e2]) ?_
                      have e3 : (1 : Int32) = bi (anyN (fun a => decide ((¬ y 82 a = 0 ∧ y 11 a = nI c) ∧ y 15 a = 1)) (k + 1) = true) := by
                        exact (bi_t (by rw [anyN]; grind)).symm
                      refine g_lv (lv' := [(0, .ref (G.2.2 0)), (1, .int (nI c)), (2, .int (bi (anyN (fun a => decide (¬ y 82 a = 0 ∧ y 11 a = nI c)) (k + 1) = true))), (3, .int (bi (anyN (fun a => decide ((¬ y 82 a = 0 ∧ y 11 a = nI c) ∧ y 15 a = 1)) (k + 1) = true))), (4, .int (nI (k + 1)))]) (by rw [← e3]) ?_
                      exact ih (k + 1) (by omega) (by omega)
                    · -- on 65
                      refine g_aload_n hX 1 dX7_remember_65 rfl ?_
                      refine m_g_7 hX i_X7_remember_wsX70 (List.mem_of_getElem? (i := 2) rfl) dX7_remember_66 ?_
                      refine g_iload hX 4 dX7_remember_69 rfl ?_
                      refine m_ld_isIn hX k rfl (by omega) dX7_remember_71 ?_
                      refine g_if_eq hX 101 dX7_remember_72 (by decide) (fun c21 => ?_) (fun c21 => ?_)
                      · -- jump 101
                        refine g_iconst hX 0 dX7_remember_101 (by decide) ?_
                        refine g_istore_n hX [(3, .int 0), (2, .int 1), (0, .ref (G.2.2 0)), (1, .int (nI c)), (4, .int (nI k))] dX7_remember_102 (by decide) rfl ?_
                        refine g_iinc hX (nI (k + 1)) 4 [(4, .int (nI (k + 1))), (3, .int 0), (2, .int 1), (0, .ref (G.2.2 0)), (1, .int (nI c))] dX7_remember_103 rfl (nI_1 k) (by decide) rfl ?_
                        refine g_goto hX 19 dX7_remember_106 (by decide) ?_
                        -- back to 19
                        refine g_sub [3, 4, 2, 1, 0] [(0, .ref (G.2.2 0)), (1, .int (nI c)), (2, .int 1), (3, .int 0), (4, .int (nI (k + 1)))] rfl ?_
                        have e2 : (1 : Int32) = bi (anyN (fun a => decide (¬ y 82 a = 0 ∧ y 11 a = nI c)) (k + 1) = true) := by
                          exact (bi_t (by rw [anyN]; grind)).symm
                        refine g_lv (lv' := [(0, .ref (G.2.2 0)), (1, .int (nI c)), (2, .int (bi (anyN (fun a => decide (¬ y 82 a = 0 ∧ y 11 a = nI c)) (k + 1) = true))), (3, .int 0), (4, .int (nI (k + 1)))]) (by rw [← e2]) ?_
                        have e3 : (0 : Int32) = bi (anyN (fun a => decide ((¬ y 82 a = 0 ∧ y 11 a = nI c) ∧ y 15 a = 1)) (k + 1) = true) := by
                          exact (bi_f (by rw [anyN]; grind)).symm
                        refine g_lv (lv' := [(0, .ref (G.2.2 0)), (1, .int (nI c)), (2, .int (bi (anyN (fun a => decide (¬ y 82 a = 0 ∧ y 11 a = nI c)) (k + 1) = true))), (3, .int (bi (anyN (fun a => decide ((¬ y 82 a = 0 ∧ y 11 a = nI c) ∧ y 15 a = 1)) (k + 1) = true))), (4, .int (nI (k + 1)))]) (by rw [← e3]) ?_
                        exact ih (k + 1) (by omega) (by omega)
                      · -- on 75
                        refine g_aload_n hX 1 dX7_remember_75 rfl ?_
                        refine g_iload hX 4 dX7_remember_76 rfl ?_
                        refine g_iconst hX 0 dX7_remember_78 (by decide) ?_
                        refine g_cvE hX (As := [.int (nI k), .int 0]) (rest := []) (c_X7_of l G y (a := k) (w := 0) (ha := (by omega)) (hw := (by decide))) k_X7_remember_X7_of rc_Model rfl rfl (Nat.le_of_ble_eq_true rfl) dX7_remember_79 ?_
                        refine g_top (y 11 k) rfl ?_
                        refine g_iload_n hX 2 dX7_remember_82 rfl ?_
                        refine g_ic_ne hX 101 dX7_remember_83 (by decide) (fun c22 => ?_) (fun c22 => ?_)
                        · -- jump 101
                          refine g_iconst hX 0 dX7_remember_101 (by decide) ?_
                          refine g_istore_n hX [(3, .int 0), (2, .int 1), (0, .ref (G.2.2 0)), (1, .int (nI c)), (4, .int (nI k))] dX7_remember_102 (by decide) rfl ?_
                          refine g_iinc hX (nI (k + 1)) 4 [(4, .int (nI (k + 1))), (3, .int 0), (2, .int 1), (0, .ref (G.2.2 0)), (1, .int (nI c))] dX7_remember_103 rfl (nI_1 k) (by decide) rfl ?_
                          refine g_goto hX 19 dX7_remember_106 (by decide) ?_
                          -- back to 19
                          refine g_sub [3, 4, 2, 1, 0] [(0, .ref (G.2.2 0)), (1, .int (nI c)), (2, .int 1), (3, .int 0), (4, .int (nI (k + 1)))] rfl ?_
                          have e2 : (1 : Int32) = bi (anyN (fun a => decide (¬ y 82 a = 0 ∧ y 11 a = nI c)) (k + 1) = true) := by
                            exact (bi_t (by rw [anyN]; grind)).symm
                          refine g_lv (lv' := [(0, .ref (G.2.2 0)), (1, .int (nI c)), (2, .int (bi (anyN (fun a => decide (¬ y 82 a = 0 ∧ y 11 a = nI c)) (k + 1) = true))), (3, .int 0), (4, .int (nI (k + 1)))]) (by rw [← e2]) ?_
                          have e3 : (0 : Int32) = bi (anyN (fun a => decide ((¬ y 82 a = 0 ∧ y 11 a = nI c) ∧ y 15 a = 1)) (k + 1) = true) := by
                            exact (bi_f (by rw [anyN]; grind)).symm
                          refine g_lv (lv' := [(0, .ref (G.2.2 0)), (1, .int (nI c)), (2, .int (bi (anyN (fun a => decide (¬ y 82 a = 0 ∧ y 11 a = nI c)) (k + 1) = true))), (3, .int (bi (anyN (fun a => decide ((¬ y 82 a = 0 ∧ y 11 a = nI c) ∧ y 15 a = 1)) (k + 1) = true))), (4, .int (nI (k + 1)))]) (by rw [← e3]) ?_
                          exact ih (k + 1) (by omega) (by omega)
                        · -- on 86
                          refine g_aload_n hX 1 dX7_remember_86 rfl ?_
                          refine g_iload hX 4 dX7_remember_87 rfl ?_
                          refine g_iconst hX 4 dX7_remember_89 (by decide) ?_
                          refine g_cvE hX (As := [.int (nI k), .int 4]) (rest := []) (c_X7_of l G y (a := k) (w := 4) (ha := (by omega)) (hw := (by decide))) k_X7_remember_X7_of rc_Model rfl rfl (Nat.le_of_ble_eq_true rfl) dX7_remember_90 ?_
                          refine g_top (y 15 k) rfl ?_
                          refine g_iconst hX 1 dX7_remember_93 (by decide) ?_
                          refine g_ic_ne hX 101 dX7_remember_94 (by decide) (fun c23 => ?_) (fun c23 => ?_)
                          · -- jump 101
                            refine g_iconst hX 0 dX7_remember_101 (by decide) ?_
                            refine g_istore_n hX [(3, .int 0), (2, .int 1), (0, .ref (G.2.2 0)), (1, .int (nI c)), (4, .int (nI k))] dX7_remember_102 (by decide) rfl ?_
                            refine g_iinc hX (nI (k + 1)) 4 [(4, .int (nI (k + 1))), (3, .int 0), (2, .int 1), (0, .ref (G.2.2 0)), (1, .int (nI c))] dX7_remember_103 rfl (nI_1 k) (by decide) rfl ?_
                            refine g_goto hX 19 dX7_remember_106 (by decide) ?_
                            -- back to 19
                            refine g_sub [3, 4, 2, 1, 0] [(0, .ref (G.2.2 0)), (1, .int (nI c)), (2, .int 1), (3, .int 0), (4, .int (nI (k + 1)))] rfl ?_
                            have e2 : (1 : Int32) = bi (anyN (fun a => decide (¬ y 82 a = 0 ∧ y 11 a = nI c)) (k + 1) = true) := by
                              exact (bi_t (by rw [anyN]; grind)).symm
                            refine g_lv (lv' := [(0, .ref (G.2.2 0)), (1, .int (nI c)), (2, .int (bi (anyN (fun a => decide (¬ y 82 a = 0 ∧ y 11 a = nI c)) (k + 1) = true))), (3, .int 0), (4, .int (nI (k + 1)))]) (by rw [← e2]) ?_
                            have e3 : (0 : Int32) = bi (anyN (fun a => decide ((¬ y 82 a = 0 ∧ y 11 a = nI c) ∧ y 15 a = 1)) (k + 1) = true) := by
                              exact (bi_f (by rw [anyN]; grind)).symm
                            refine g_lv (lv' := [(0, .ref (G.2.2 0)), (1, .int (nI c)), (2, .int (bi (anyN (fun a => decide (¬ y 82 a = 0 ∧ y 11 a = nI c)) (k + 1) = true))), (3, .int (bi (anyN (fun a => decide ((¬ y 82 a = 0 ∧ y 11 a = nI c) ∧ y 15 a = 1)) (k + 1) = true))), (4, .int (nI (k + 1)))]) (by rw [← e3]) ?_
                            exact ih (k + 1) (by omega) (by omega)
                          · -- on 97
                            refine g_iconst hX 1 dX7_remember_97 (by decide) ?_
                            refine g_goto hX 102 dX7_remember_98 (by decide) ?_
                            refine g_istore_n hX [(3, .int 1), (2, .int 1), (0, .ref (G.2.2 0)), (1, .int (nI c)), (4, .int (nI k))] dX7_remember_102 (by decide) rfl ?_
                            refine g_iinc hX (nI (k + 1)) 4 [(4, .int (nI (k + 1))), (3, .int 1), (2, .int 1), (0, .ref (G.2.2 0)), (1, .int (nI c))] dX7_remember_103 rfl (nI_1 k) (by decide) rfl ?_
                            refine g_goto hX 19 dX7_remember_106 (by decide) ?_
                            -- back to 19
                            refine g_sub [3, 4, 2, 1, 0] [(0, .ref (G.2.2 0)), (1, .int (nI c)), (2, .int 1), (3, .int 1), (4, .int (nI (k + 1)))] rfl ?_
                            have e2 : (1 : Int32) = bi (anyN (fun a => decide (¬ y 82 a = 0 ∧ y 11 a = nI c)) (k + 1) = true) := by
                              exact (bi_t (by rw [anyN]; grind)).symm
                            refine g_lv (lv' := [(0, .ref (G.2.2 0)), (1, .int (nI c)), (2, .int (bi (anyN (fun a => decide (¬ y 82 a = 0 ∧ y 11 a = nI c)) (k + 1) = true))), (3, .int 1), (4, .int (nI (k + 1)))]) (by rw [← e2]) ?_
                            have e3 : (1 : Int32) = bi (anyN (fun a => decide ((¬ y 82 a = 0 ∧ y 11 a = nI c) ∧ y 15 a = 1)) (k + 1) = true) := by
                              exact (bi_t (by rw [anyN]; grind)).symm
                            refine g_lv (lv' := [(0, .ref (G.2.2 0)), (1, .int (nI c)), (2, .int (bi (anyN (fun a => decide (¬ y 82 a = 0 ∧ y 11 a = nI c)) (k + 1) = true))), (3, .int (bi (anyN (fun a => decide ((¬ y 82 a = 0 ∧ y 11 a = nI c) ∧ y 15 a = 1)) (k + 1) = true))), (4, .int (nI (k + 1)))]) (by rw [← e3]) ?_
                            exact ih (k + 1) (by omega) (by omega)
        refine g_sub [3, 4, 2, 1, 0] [(0, .ref (G.2.2 0)), (1, .int (nI c)), (2, .int 0), (3, .int 0), (4, .int 0)] rfl ?_
        have e2 : (0 : Int32) = bi (anyN (fun a => decide (¬ y 82 a = 0 ∧ y 11 a = nI c)) 0 = true) := by
          rfl
        refine g_lv (lv' := [(0, .ref (G.2.2 0)), (1, .int (nI c)), (2, .int (bi (anyN (fun a => decide (¬ y 82 a = 0 ∧ y 11 a = nI c)) 0 = true))), (3, .int 0), (4, .int 0)]) (by rw [← e2]) ?_
        have e3 : (0 : Int32) = bi (anyN (fun a => decide ((¬ y 82 a = 0 ∧ y 11 a = nI c) ∧ y 15 a = 1)) 0 = true) := by
          rfl
        refine g_lv (lv' := [(0, .ref (G.2.2 0)), (1, .int (nI c)), (2, .int (bi (anyN (fun a => decide (¬ y 82 a = 0 ∧ y 11 a = nI c)) 0 = true))), (3, .int (bi (anyN (fun a => decide ((¬ y 82 a = 0 ∧ y 11 a = nI c) ∧ y 15 a = 1)) 0 = true))), (4, .int 0)]) (by rw [← e3]) ?_
        exact loop19 (nA z + 1) 0 (by omega) (Nat.zero_le _)
  refine g_sub [1, 0] [(0, .ref (G.2.2 0)), (1, .int 0)] rfl ?_
  exact loop2 (cn (z 2 0) + 1) 0 z (by omega) (Nat.zero_le _) rfl
def rm_X7_putAside : Room := { frames := 0, cells := 0, slots := 0, locals := 0 }
theorem i_X7_putAside_wsX70 : ∀ w ∈ wsX70, w ∈ wsX7_putAside := fun w h => List.mem_cons_of_mem _ (List.mem_append_right _ h)
set_option maxHeartbeats 4000000 in
set_option maxRecDepth 100000 in
theorem c_X7_putAside (l : Launch) (G : MG) (hA : Ap 9 G.2.2) (z : St)   : CVm l G yX7_putAside wsX7_putAside rm_X7_putAside [.ref (G.2.2 0)] z (fun ζ => ζ = asK z 478) := by
  refine cv_of (own := RX7) (cc := cX7_putAside) (maxL := 2) (by decide +kernel) rfl rfl (Nat.le_of_ble_eq_true rfl) (KQ_mv (ExM_mv G)) ?_
  intro X hX ret
  refine g_lv (lv' := [(0, .ref (G.2.2 0))]) rfl ?_
  refine g_iconst hX 0 dX7_putAside_0 (by decide) ?_
  refine g_istore_n hX [(1, .int 0), (0, .ref (G.2.2 0))] dX7_putAside_1 (by decide) rfl ?_
  have loop2 : ∀ (nf : Nat) (k : Nat), (478 < k + nf) → (k ≤ 478) → Go X (asK z k) 2 [(0, .ref (G.2.2 0)), (1, .int (nI k))] [] := by
    intro nf
    induction nf with
    | zero =>
      intro k hmu hk
      exfalso; omega
    | succ nf ih =>
      intro k hmu hk
      refine g_iload_n hX 1 dX7_putAside_2 rfl ?_
      refine g_sipush hX 478 dX7_putAside_3 (by decide) ?_
      refine g_ic_ge hX 27 dX7_putAside_6 (by decide) (fun c1 => ?_) (fun c1 => ?_)
      · -- jump 27
        have hke : k = 478 := by
          have := (nI_leI (a := 478) (by omega) (by omega)).mp c1; omega
        refine ret _ _ _ dX7_putAside_27 ?_
        rw [hke]
      · -- on 9
        have hkn : k < 478 := Nat.lt_of_not_le (fun q => c1 (nI_le (a := 478) q (by omega)))
        refine g_aload_n hX 0 dX7_putAside_9 rfl ?_
        refine m_g_1 hX i_X7_putAside_wsX70 (List.mem_of_getElem? (i := 1) rfl) dX7_putAside_10 ?_
        refine g_iload_n hX 1 dX7_putAside_13 rfl ?_
        refine g_aload_n hX 0 dX7_putAside_14 rfl ?_
        refine m_g_0 hX i_X7_putAside_wsX70 (List.mem_of_getElem? (i := 2) rfl) dX7_putAside_15 ?_
        refine g_iload_n hX 1 dX7_putAside_18 rfl ?_
        refine m_ld_at hX k rfl (by omega) dX7_putAside_19 (v := atF z 0 k) (atF_of (by decide) (fun f hf => asK_lo z k (by omega)) k) ?_
        refine m_st_aside hX hA k rfl (by omega) dX7_putAside_20 ?_
        refine g_iinc hX (nI (k + 1)) 1 [(1, .int (nI (k + 1))), (0, .ref (G.2.2 0))] dX7_putAside_21 rfl (nI_1 k) (by decide) rfl ?_
        refine g_goto hX 2 dX7_putAside_24 (by decide) ?_
        -- back to 2
        refine g_sub [1, 0] [(0, .ref (G.2.2 0)), (1, .int (nI (k + 1)))] rfl ?_
        have ez : u2 (asK z k) 80 k (atF z 0 k) = asK z (k + 1) := by
          exact asK_u2 z k
        refine g_z ez ?_
        exact ih (k + 1) (by omega) (by omega)
  refine g_sub [1, 0] [(0, .ref (G.2.2 0)), (1, .int 0)] rfl ?_
  have ez : z = asK z 0 := by
    exact (asK_0 z).symm
  refine g_z ez ?_
  exact loop2 (478 + 1) 0 (by omega) (Nat.zero_le _)
def rm_X7_putBack : Room := { frames := 0, cells := 0, slots := 0, locals := 0 }
theorem i_X7_putBack_wsX70 : ∀ w ∈ wsX70, w ∈ wsX7_putBack := fun w h => List.mem_cons_of_mem _ (List.mem_append_right _ h)
set_option maxHeartbeats 4000000 in
set_option maxRecDepth 100000 in
theorem c_X7_putBack (l : Launch) (G : MG) (hA : Ap 9 G.2.2) (z : St)   : CVm l G yX7_putBack wsX7_putBack rm_X7_putBack [.ref (G.2.2 0)] z (fun ζ => ζ = cpK z 0 478 (fun j => z 80 j)) := by
  refine cv_of (own := RX7) (cc := cX7_putBack) (maxL := 2) (by decide +kernel) rfl rfl (Nat.le_of_ble_eq_true rfl) (KQ_mv (ExM_mv G)) ?_
  intro X hX ret
  refine g_lv (lv' := [(0, .ref (G.2.2 0))]) rfl ?_
  refine g_iconst hX 0 dX7_putBack_0 (by decide) ?_
  refine g_istore_n hX [(1, .int 0), (0, .ref (G.2.2 0))] dX7_putBack_1 (by decide) rfl ?_
  have loop2 : ∀ (nf : Nat) (k : Nat), (478 < k + nf) → (k ≤ 478) → Go X (cpK z 0 k (fun j => z 80 j)) 2 [(0, .ref (G.2.2 0)), (1, .int (nI k))] [] := by
    intro nf
    induction nf with
    | zero =>
      intro k hmu hk
      exfalso; omega
    | succ nf ih =>
      intro k hmu hk
      refine g_iload_n hX 1 dX7_putBack_2 rfl ?_
      refine g_sipush hX 478 dX7_putBack_3 (by decide) ?_
      refine g_ic_ge hX 27 dX7_putBack_6 (by decide) (fun c1 => ?_) (fun c1 => ?_)
      · -- jump 27
        have hke : k = 478 := by
          have := (nI_leI (a := 478) (by omega) (by omega)).mp c1; omega
        refine ret _ _ _ dX7_putBack_27 ?_
        rw [hke]
      · -- on 9
        have hkn : k < 478 := Nat.lt_of_not_le (fun q => c1 (nI_le (a := 478) q (by omega)))
        refine g_aload_n hX 0 dX7_putBack_9 rfl ?_
        refine m_g_0 hX i_X7_putBack_wsX70 (List.mem_of_getElem? (i := 1) rfl) dX7_putBack_10 ?_
        refine g_iload_n hX 1 dX7_putBack_13 rfl ?_
        refine g_aload_n hX 0 dX7_putBack_14 rfl ?_
        refine m_g_1 hX i_X7_putBack_wsX70 (List.mem_of_getElem? (i := 2) rfl) dX7_putBack_15 ?_
        refine g_iload_n hX 1 dX7_putBack_18 rfl ?_
        refine m_ld_aside hX k rfl (by omega) dX7_putBack_19 ?_
        refine m_st_at hX hA k rfl (by omega) dX7_putBack_20 ?_
        refine g_iinc hX (nI (k + 1)) 1 [(1, .int (nI (k + 1))), (0, .ref (G.2.2 0))] dX7_putBack_21 rfl (nI_1 k) (by decide) rfl ?_
        refine g_goto hX 2 dX7_putBack_24 (by decide) ?_
        -- back to 2
        refine g_sub [1, 0] [(0, .ref (G.2.2 0)), (1, .int (nI (k + 1)))] rfl ?_
        have ez : u2 (cpK z 0 k (fun j => z 80 j)) (gO 0 (fO k)) (iO k) ((cpK z 0 k (fun j => z 80 j)) 80 k) = cpK z 0 (k + 1) (fun j => z 80 j) := by
          rw [cpK_hi z (by decide) _ (f := 80) (by decide)]
          exact cpK_u2 z (by decide) k (fun j => z 80 j)
        refine g_z ez ?_
        exact ih (k + 1) (by omega) (by omega)
  refine g_sub [1, 0] [(0, .ref (G.2.2 0)), (1, .int 0)] rfl ?_
  have ez : z = cpK z 0 0 (fun j => z 80 j) := by
    exact (cpK_0 z 0 _).symm
  refine g_z ez ?_
  exact loop2 (478 + 1) 0 (by omega) (Nat.zero_le _)
def rm_X7_wipe : Room := { frames := 0, cells := 0, slots := 0, locals := 0 }
theorem i_X7_wipe_wsX70 : ∀ w ∈ wsX70, w ∈ wsX7_wipe := fun w h => List.mem_cons_of_mem _ (List.mem_append_right _ h)
set_option maxHeartbeats 4000000 in
set_option maxRecDepth 100000 in
theorem c_X7_wipe (l : Launch) (G : MG) (hA : Ap 9 G.2.2) (z : St)   : CIm l G yX7_wipe wsX7_wipe rm_X7_wipe [.ref (G.2.2 0)] z (fun ρ ζ => ρ = (spWipe z).1 ∧ ζ = (spWipe z).2) := by
  refine ci_of (own := RX7) (cc := cX7_wipe) (maxL := 2) (ret := .int) (by decide +kernel) rfl rfl ?_ (Nat.le_of_ble_eq_true rfl) (KQ_mv (ExM_mv G)) ?_
  · intro v z' _; rfl
  · intro X hX ret
    refine g_lv (lv' := [(0, .ref (G.2.2 0))]) rfl ?_
    refine g_aload_n hX 0 dX7_wipe_0 rfl ?_
    refine m_g_5 hX i_X7_wipe_wsX70 (List.mem_of_getElem? (i := 1) rfl) dX7_wipe_1 ?_
    refine g_istore_n hX [(1, .int (z 69 0)), (0, .ref (G.2.2 0))] dX7_wipe_4 (by decide) rfl ?_
    refine g_aload_n hX 1 dX7_wipe_5 rfl ?_
    refine g_iconst hX 0 dX7_wipe_6 (by decide) ?_
    refine m_p_5 hX hA i_X7_wipe_wsX70 (List.mem_of_getElem? (i := 1) rfl) dX7_wipe_7 ?_
    refine g_iload_n hX 0 dX7_wipe_10 rfl ?_
    refine ret _ _ _ _ dX7_wipe_11 ?_
    exact ⟨rfl, rfl⟩
