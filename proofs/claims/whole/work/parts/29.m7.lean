def rm_X7_odds : Room := { frames := 2, cells := 0, slots := 0, locals := 45 }
theorem i_X7_odds_wsX70 : ∀ w ∈ wsX70, w ∈ wsX7_odds := fun w h => List.mem_cons_of_mem _ (List.mem_append_right _ h)
theorem k_X7_odds_X7_isApplication : CW rm_X7_odds wsX7_odds RX7 RX7 128 yX7_isApplication cX7_isApplication 2 (some .boolean) wsX7_isApplication rm_X7_isApplication 1 := ⟨gX7_odds_X7_isApplication, ⟨_, rfl⟩, rfl, rfl, ⟨rfl, by decide +kernel, by decide +kernel, by decide +kernel⟩, by decide, by decide⟩
theorem k_X7_odds_X7_isBarred : CW rm_X7_odds wsX7_odds RX7 RX7 90 yX7_isBarred cX7_isBarred 3 (some .boolean) wsX7_isBarred rm_X7_isBarred 2 := ⟨gX7_odds_X7_isBarred, ⟨_, rfl⟩, rfl, rfl, ⟨rfl, by decide +kernel, by decide +kernel, by decide +kernel⟩, by decide, by decide⟩
theorem k_X7_odds_X7_isOn : CW rm_X7_odds wsX7_odds RX7 RX7 69 yX7_isOn cX7_isOn 4 (some .boolean) wsX7_isOn rm_X7_isOn 3 := ⟨gX7_odds_X7_isOn, ⟨_, rfl⟩, rfl, rfl, ⟨rfl, by decide +kernel, by decide +kernel, by decide +kernel⟩, by decide, by decide⟩
theorem k_X7_odds_X7_of : CW rm_X7_odds wsX7_odds RX7 RX7 66 yX7_of cX7_of 3 (some .int) wsX7_of rm_X7_of 2 := ⟨gX7_odds_X7_of, ⟨_, rfl⟩, rfl, rfl, ⟨rfl, by decide +kernel, by decide +kernel, by decide +kernel⟩, by decide, by decide⟩
theorem k_X7_odds_X7_ticketsOf : CW rm_X7_odds wsX7_odds RX7 RX7 93 yX7_ticketsOf cX7_ticketsOf 2 (some .int) wsX7_ticketsOf rm_X7_ticketsOf 1 := ⟨gX7_odds_X7_ticketsOf, ⟨_, rfl⟩, rfl, rfl, ⟨rfl, by decide +kernel, by decide +kernel, by decide +kernel⟩, by decide, by decide⟩
set_option maxHeartbeats 4000000 in
set_option maxRecDepth 100000 in
theorem c_X7_odds (l : Launch) (G : MG) (z : St) {x : Int32} (hI : IO z) (hod : ∀ a, a < nA z → inO z (z 12 a) (z 13 a) a → 0 < odS z (z 12 a) (z 13 a) (nA z)) : CIm l G yX7_odds wsX7_odds rm_X7_odds [.ref (G.2.2 0), .int x] z (fun ρ ζ => ρ = mOdds z x ∧ ζ = z) := by
  refine ci_of (own := RX7) (cc := cX7_odds) (maxL := 6) (ret := .int) (by decide +kernel) rfl rfl ?_ (Nat.le_of_ble_eq_true rfl) (KQ_mv (ExM_mv G)) ?_
  · intro v z' _; rfl
  · intro X hX ret
    refine g_lv (lv' := [(0, .ref (G.2.2 0)), (1, .int x)]) rfl ?_
    obtain ⟨e3, h40⟩ := iNa hI
    refine g_aload_n hX 0 dX7_odds_0 rfl ?_
    refine g_iload_n hX 1 dX7_odds_1 rfl ?_
    refine g_cvE hX (As := [.int x]) (rest := []) (c_X7_isApplication l G z (x := x) (hI := (by assumption))) k_X7_odds_X7_isApplication rc_Model rfl rfl (Nat.le_of_ble_eq_true rfl) dX7_odds_2 ?_
    refine g_bi_ne hX 10 dX7_odds_5 (by decide) (fun c1 => ?_) (fun c1 => ?_)
    · -- jump 10
      have hap := c1
      have ha := appP_in hI c1
      refine g_lv (lv' := [(0, .ref (G.2.2 0)), (1, .int (nI (cn x)))]) (by rw [← (show x = (nI (cn x)) from ha.1)]) ?_
      refine g_aload_n hX 0 dX7_odds_10 rfl ?_
      refine g_iload_n hX 1 dX7_odds_11 rfl ?_
      refine g_iconst hX 2 dX7_odds_12 (by decide) ?_
      refine g_cvE hX (As := [.int (nI (cn x)), .int 2]) (rest := []) (c_X7_of l G z (a := (cn x)) (w := 2) (ha := (by omega)) (hw := (by decide))) k_X7_odds_X7_of rc_Model rfl rfl (Nat.le_of_ble_eq_true rfl) dX7_odds_13 ?_
      refine g_top (z 13 (cn x)) rfl ?_
      refine g_istore_n hX [(2, .int (z 13 (cn x))), (0, .ref (G.2.2 0)), (1, .int (nI (cn x)))] dX7_odds_16 (by decide) rfl ?_
      refine g_aload_n hX 1 dX7_odds_17 rfl ?_
      refine g_iload_n hX 2 dX7_odds_18 rfl ?_
      refine g_iconst hX 4 dX7_odds_19 (by decide) ?_
      refine g_cvE hX (As := [.int (nI (cn x)), .int 4]) (rest := []) (c_X7_of l G z (a := (cn x)) (w := 4) (ha := (by omega)) (hw := (by decide))) k_X7_odds_X7_of rc_Model rfl rfl (Nat.le_of_ble_eq_true rfl) dX7_odds_20 ?_
      refine g_top (z 15 (cn x)) rfl ?_
      refine g_if_ne hX 40 dX7_odds_23 (by decide) (fun c2 => ?_) (fun c2 => ?_)
      · -- jump 40
        refine g_bipush hX (-5) dX7_odds_40 (by decide) ?_
        refine ret _ _ _ _ dX7_odds_42 ?_
        first | (simp [mOdds, c1, c2]; done) | grind [mOdds]
      · -- on 26
        have s0 : z 15 (cn x) = 0 := Decidable.not_not.mp c2
        refine g_aload_n hX 1 dX7_odds_26 rfl ?_
        refine g_aload_n hX 1 dX7_odds_27 rfl ?_
        refine g_iload_n hX 2 dX7_odds_28 rfl ?_
        refine g_iconst hX 0 dX7_odds_29 (by decide) ?_
        refine g_cvE hX (As := [.int (nI (cn x)), .int 0]) (rest := [.ref (G.2.2 0)]) (c_X7_of l G z (a := (cn x)) (w := 0) (ha := (by omega)) (hw := (by decide))) k_X7_odds_X7_of rc_Model rfl rfl (Nat.le_of_ble_eq_true rfl) dX7_odds_30 ?_
        refine g_top (z 11 (cn x)) rfl ?_
        refine g_iload_n hX 0 dX7_odds_33 rfl ?_
        refine g_st (st2 := [.int (z 13 (cn x)), .int (nI (cn (z 11 (cn x)))), .ref (G.2.2 0)]) (by rw [← (show (z 11 (cn x)) = nI (cn (z 11 (cn x))) from (iC hI ha.2.1).1)]) ?_
        refine g_cvE hX (As := [.int (nI (cn (z 11 (cn x)))), .int (z 13 (cn x))]) (rest := []) (c_X7_isBarred l G z (c := (cn (z 11 (cn x)))) (d := (z 13 (cn x))) (hc := (iC hI ha.2.1).2)) k_X7_odds_X7_isBarred rc_Model rfl rfl (Nat.le_of_ble_eq_true rfl) dX7_odds_34 ?_
        refine g_bi_eq hX 43 dX7_odds_37 (by decide) (fun c3 => ?_) (fun c3 => ?_)
        · -- jump 43
          have s1 := c3
          refine g_iconst hX 0 dX7_odds_43 (by decide) ?_
          refine g_istore_n hX [(3, .int 0), (2, .int (z 13 (cn x))), (0, .ref (G.2.2 0)), (1, .int (nI (cn x)))] dX7_odds_44 (by decide) rfl ?_
          refine g_iconst hX 0 dX7_odds_45 (by decide) ?_
          refine g_istore hX [(4, .int 0), (3, .int 0), (2, .int (z 13 (cn x))), (0, .ref (G.2.2 0)), (1, .int (nI (cn x)))] dX7_odds_46 (by decide) rfl ?_
          have loop48 : ∀ (nf : Nat) (k : Nat), (nA z < k + nf) → (k ≤ nA z) → Go X (z) 48 [(0, .ref (G.2.2 0)), (1, .int (nI (cn x))), (2, .int (z 13 (cn x))), (3, .int (odS z (z 12 (cn x)) (z 13 (cn x)) k)), (4, .int (nI k))] [] := by
            intro nf
            induction nf with
            | zero =>
              intro k hmu hk
              exfalso; omega
            | succ nf ih =>
              intro k hmu hk
              refine g_iload hX 4 dX7_odds_48 rfl ?_
              refine g_aload_n hX 0 dX7_odds_50 rfl ?_
              refine m_g_0 hX i_X7_odds_wsX70 (List.mem_of_getElem? (i := 1) rfl) dX7_odds_51 ?_
              refine g_iconst hX 3 dX7_odds_54 (by decide) ?_
              refine m_ld_at hX 3 rfl (by decide) dX7_odds_55 (v := (z 3 0)) rfl ?_
              refine g_ic_ge hX 131 dX7_odds_56 (by decide) (fun c4 => ?_) (fun c4 => ?_)
              · -- jump 131
                have hke : k = nA z := by
                  rw [e3] at c4; have := (nI_leI (by omega) (by omega)).mp c4; omega
                refine g_ldc2 hX 1000000 dX7_odds_131 (List.mem_of_getElem? (i := 2) rfl) ?_
                refine g_aload_n hX 0 dX7_odds_134 rfl ?_
                refine g_iload_n hX 1 dX7_odds_135 rfl ?_
                refine g_cvE hX (As := [.int (nI (cn x))]) (rest := [.long 1000000]) (c_X7_ticketsOf l G z (a := (cn x)) (ha := ha.2.1) (hI := (by assumption))) k_X7_odds_X7_ticketsOf rc_Model rfl rfl (Nat.le_of_ble_eq_true rfl) dX7_odds_136 ?_
                refine g_i2l hX dX7_odds_139 ?_
                refine g_lmul hX dX7_odds_140 ?_
                refine g_iload_n hX 3 dX7_odds_141 rfl ?_
                refine g_i2l hX dX7_odds_142 ?_
                refine g_ldiv hX dX7_odds_143 (by rw [hke]; exact i64_ne (hod _ ha.2.1 ⟨⟨rfl, rfl⟩, s0, s1⟩)) ?_
                refine g_l2i hX dX7_odds_144 ?_
                refine ret _ _ _ _ dX7_odds_145 ?_
                refine ⟨?_, rfl⟩
                rw [hke, mOdds, if_neg (not_not_intro hap), if_neg (fun h => h.elim (fun q => q s0) s1)]
              · -- on 59
                have hkn : k < nA z := by
                  rw [e3] at c4; exact Nat.lt_of_not_le (fun q => c4 (nI_le q (by omega)))
                refine g_aload_n hX 0 dX7_odds_59 rfl ?_
                refine g_iload hX 4 dX7_odds_60 rfl ?_
                refine g_aload_n hX 0 dX7_odds_62 rfl ?_
                refine g_iload_n hX 1 dX7_odds_63 rfl ?_
                refine g_iconst hX 1 dX7_odds_64 (by decide) ?_
                refine g_cvE hX (As := [.int (nI (cn x)), .int 1]) (rest := [.int (nI k), .ref (G.2.2 0)]) (c_X7_of l G z (a := (cn x)) (w := 1) (ha := (by omega)) (hw := (by decide))) k_X7_odds_X7_of rc_Model rfl rfl (Nat.le_of_ble_eq_true rfl) dX7_odds_65 ?_
                refine g_top (z 12 (cn x)) rfl ?_
                refine g_iload_n hX 2 dX7_odds_68 rfl ?_
                refine g_cvE hX (As := [.int (nI k), .int (z 12 (cn x)), .int (z 13 (cn x))]) (rest := []) (c_X7_isOn l G z (a := k) (r := (z 12 (cn x))) (d := (z 13 (cn x))) (ha := (by omega))) k_X7_odds_X7_isOn rc_Model rfl rfl (Nat.le_of_ble_eq_true rfl) dX7_odds_69 ?_
                refine g_bi_eq hX 104 dX7_odds_72 (by decide) (fun c5 => ?_) (fun c5 => ?_)
                · -- jump 104
                  refine g_iconst hX 0 dX7_odds_104 (by decide) ?_
                  refine g_istore hX [(5, .int 0), (0, .ref (G.2.2 0)), (1, .int (nI (cn x))), (2, .int (z 13 (cn x))), (3, .int (odS z (z 12 (cn x)) (z 13 (cn x)) k)), (4, .int (nI k))] dX7_odds_105 (by decide) rfl ?_
                  refine g_iload_n hX 4 dX7_odds_107 rfl ?_
                  refine g_iload hX 0 dX7_odds_108 rfl ?_
                  refine g_if_eq hX 122 dX7_odds_110 (by decide) (fun c6 => ?_) (fun c6 => ?_)
                  · -- jump 122
                    refine g_iconst hX 0 dX7_odds_122 (by decide) ?_
                    refine g_iadd hX dX7_odds_123 ?_
                    refine g_istore_n hX [(3, .int ((odS z (z 12 (cn x)) (z 13 (cn x)) k) + 0)), (5, .int 0), (0, .ref (G.2.2 0)), (1, .int (nI (cn x))), (2, .int (z 13 (cn x))), (4, .int (nI k))] dX7_odds_124 (by decide) rfl ?_
                    refine g_iinc hX (nI (k + 1)) 5 [(4, .int (nI (k + 1))), (3, .int ((odS z (z 12 (cn x)) (z 13 (cn x)) k) + 0)), (5, .int 0), (0, .ref (G.2.2 0)), (1, .int (nI (cn x))), (2, .int (z 13 (cn x)))] dX7_odds_125 rfl (nI_1 k) (by decide) rfl ?_
                    refine g_goto hX 48 dX7_odds_128 (by decide) ?_
                    -- back to 48
                    refine g_sub [3, 4, 5, 1, 0] [(0, .ref (G.2.2 0)), (1, .int (nI (cn x))), (2, .int (z 13 (cn x))), (3, .int ((odS z (z 12 (cn x)) (z 13 (cn x)) k) + 0)), (4, .int (nI (k + 1)))] rfl ?_
                    have e3 : ((odS z (z 12 (cn x)) (z 13 (cn x)) k) + 0 : Int32) = odS z (z 12 (cn x)) (z 13 (cn x)) (k + 1) := by
                      show _ = odS z (z 12 (cn x)) (z 13 (cn x)) k + (if inO z (z 12 (cn x)) (z 13 (cn x)) k then tkt z k else 0)
                      rw [if_neg (by grind)]
                    refine g_lv (lv' := [(0, .ref (G.2.2 0)), (1, .int (nI (cn x))), (2, .int (z 13 (cn x))), (3, .int (odS z (z 12 (cn x)) (z 13 (cn x)) (k + 1))), (4, .int (nI (k + 1)))]) (by rw [e3]) ?_
                    exact ih (k + 1) (by omega) (by omega)
                  · -- on 113
                    exact absurd c6 (by decide)
                · -- on 75
                  refine g_aload_n hX 0 dX7_odds_75 rfl ?_
                  refine g_iload hX 4 dX7_odds_76 rfl ?_
                  refine g_iconst hX 4 dX7_odds_78 (by decide) ?_
                  refine g_cvE hX (As := [.int (nI k), .int 4]) (rest := []) (c_X7_of l G z (a := k) (w := 4) (ha := (by omega)) (hw := (by decide))) k_X7_odds_X7_of rc_Model rfl rfl (Nat.le_of_ble_eq_true rfl) dX7_odds_79 ?_
                  refine g_top (z 15 k) rfl ?_
                  refine g_if_ne hX 104 dX7_odds_82 (by decide) (fun c7 => ?_) (fun c7 => ?_)
                  · -- jump 104
                    refine g_iconst hX 0 dX7_odds_104 (by decide) ?_
                    refine g_istore hX [(5, .int 0), (0, .ref (G.2.2 0)), (1, .int (nI (cn x))), (2, .int (z 13 (cn x))), (3, .int (odS z (z 12 (cn x)) (z 13 (cn x)) k)), (4, .int (nI k))] dX7_odds_105 (by decide) rfl ?_
                    refine g_iload_n hX 4 dX7_odds_107 rfl ?_
                    refine g_iload hX 0 dX7_odds_108 rfl ?_
                    refine g_if_eq hX 122 dX7_odds_110 (by decide) (fun c8 => ?_) (fun c8 => ?_)
                    · -- jump 122
                      refine g_iconst hX 0 dX7_odds_122 (by decide) ?_
                      refine g_iadd hX dX7_odds_123 ?_
                      refine g_istore_n hX [(3, .int ((odS z (z 12 (cn x)) (z 13 (cn x)) k) + 0)), (5, .int 0), (0, .ref (G.2.2 0)), (1, .int (nI (cn x))), (2, .int (z 13 (cn x))), (4, .int (nI k))] dX7_odds_124 (by decide) rfl ?_
                      refine g_iinc hX (nI (k + 1)) 5 [(4, .int (nI (k + 1))), (3, .int ((odS z (z 12 (cn x)) (z 13 (cn x)) k) + 0)), (5, .int 0), (0, .ref (G.2.2 0)), (1, .int (nI (cn x))), (2, .int (z 13 (cn x)))] dX7_odds_125 rfl (nI_1 k) (by decide) rfl ?_
                      refine g_goto hX 48 dX7_odds_128 (by decide) ?_
                      -- back to 48
                      refine g_sub [3, 4, 5, 1, 0] [(0, .ref (G.2.2 0)), (1, .int (nI (cn x))), (2, .int (z 13 (cn x))), (3, .int ((odS z (z 12 (cn x)) (z 13 (cn x)) k) + 0)), (4, .int (nI (k + 1)))] rfl ?_
                      have e3 : ((odS z (z 12 (cn x)) (z 13 (cn x)) k) + 0 : Int32) = odS z (z 12 (cn x)) (z 13 (cn x)) (k + 1) := by
                        show _ = odS z (z 12 (cn x)) (z 13 (cn x)) k + (if inO z (z 12 (cn x)) (z 13 (cn x)) k then tkt z k else 0)
                        rw [if_neg (by grind)]
                      refine g_lv (lv' := [(0, .ref (G.2.2 0)), (1, .int (nI (cn x))), (2, .int (z 13 (cn x))), (3, .int (odS z (z 12 (cn x)) (z 13 (cn x)) (k + 1))), (4, .int (nI (k + 1)))]) (by rw [e3]) ?_
                      exact ih (k + 1) (by omega) (by omega)
                    · -- on 113
                      exact absurd c8 (by decide)
                  · -- on 85
                    refine g_aload_n hX 0 dX7_odds_85 rfl ?_
                    refine g_aload_n hX 0 dX7_odds_86 rfl ?_
                    refine g_iload hX 4 dX7_odds_87 rfl ?_
                    refine g_iconst hX 0 dX7_odds_89 (by decide) ?_
                    refine g_cvE hX (As := [.int (nI k), .int 0]) (rest := [.ref (G.2.2 0)]) (c_X7_of l G z (a := k) (w := 0) (ha := (by omega)) (hw := (by decide))) k_X7_odds_X7_of rc_Model rfl rfl (Nat.le_of_ble_eq_true rfl) dX7_odds_90 ?_
                    refine g_top (z 11 k) rfl ?_
                    refine g_iload_n hX 2 dX7_odds_93 rfl ?_
                    refine g_st (st2 := [.int (z 13 (cn x)), .int (nI (cn (z 11 k))), .ref (G.2.2 0)]) (by rw [← (show (z 11 k) = nI (cn (z 11 k)) from (iC hI hkn).1)]) ?_
                    refine g_cvE hX (As := [.int (nI (cn (z 11 k))), .int (z 13 (cn x))]) (rest := []) (c_X7_isBarred l G z (c := (cn (z 11 k))) (d := (z 13 (cn x))) (hc := (iC hI hkn).2)) k_X7_odds_X7_isBarred rc_Model rfl rfl (Nat.le_of_ble_eq_true rfl) dX7_odds_94 ?_
                    refine g_bi_ne hX 104 dX7_odds_97 (by decide) (fun c9 => ?_) (fun c9 => ?_)
                    · -- jump 104
                      refine g_iconst hX 0 dX7_odds_104 (by decide) ?_
                      refine g_istore hX [(5, .int 0), (0, .ref (G.2.2 0)), (1, .int (nI (cn x))), (2, .int (z 13 (cn x))), (3, .int (odS z (z 12 (cn x)) (z 13 (cn x)) k)), (4, .int (nI k))] dX7_odds_105 (by decide) rfl ?_
                      refine g_iload_n hX 4 dX7_odds_107 rfl ?_
                      refine g_iload hX 0 dX7_odds_108 rfl ?_
                      refine g_if_eq hX 122 dX7_odds_110 (by decide) (fun c10 => ?_) (fun c10 => ?_)
                      · -- jump 122
                        refine g_iconst hX 0 dX7_odds_122 (by decide) ?_
                        refine g_iadd hX dX7_odds_123 ?_
                        refine g_istore_n hX [(3, .int ((odS z (z 12 (cn x)) (z 13 (cn x)) k) + 0)), (5, .int 0), (0, .ref (G.2.2 0)), (1, .int (nI (cn x))), (2, .int (z 13 (cn x))), (4, .int (nI k))] dX7_odds_124 (by decide) rfl ?_
                        refine g_iinc hX (nI (k + 1)) 5 [(4, .int (nI (k + 1))), (3, .int ((odS z (z 12 (cn x)) (z 13 (cn x)) k) + 0)), (5, .int 0), (0, .ref (G.2.2 0)), (1, .int (nI (cn x))), (2, .int (z 13 (cn x)))] dX7_odds_125 rfl (nI_1 k) (by decide) rfl ?_
                        refine g_goto hX 48 dX7_odds_128 (by decide) ?_
                        -- back to 48
                        refine g_sub [3, 4, 5, 1, 0] [(0, .ref (G.2.2 0)), (1, .int (nI (cn x))), (2, .int (z 13 (cn x))), (3, .int ((odS z (z 12 (cn x)) (z 13 (cn x)) k) + 0)), (4, .int (nI (k + 1)))] rfl ?_
                        have e3 : ((odS z (z 12 (cn x)) (z 13 (cn x)) k) + 0 : Int32) = odS z (z 12 (cn x)) (z 13 (cn x)) (k + 1) := by
                          show _ = odS z (z 12 (cn x)) (z 13 (cn x)) k + (if inO z (z 12 (cn x)) (z 13 (cn x)) k then tkt z k else 0)
                          rw [if_neg (by grind)]
                        refine g_lv (lv' := [(0, .ref (G.2.2 0)), (1, .int (nI (cn x))), (2, .int (z 13 (cn x))), (3, .int (odS z (z 12 (cn x)) (z 13 (cn x)) (k + 1))), (4, .int (nI (k + 1)))]) (by rw [e3]) ?_
                        exact ih (k + 1) (by omega) (by omega)
                      · -- on 113
                        exact absurd c10 (by decide)
                    · -- on 100
                      refine g_iconst hX 1 dX7_odds_100 (by decide) ?_
                      refine g_goto hX 105 dX7_odds_101 (by decide) ?_
                      refine g_istore hX [(5, .int 1), (0, .ref (G.2.2 0)), (1, .int (nI (cn x))), (2, .int (z 13 (cn x))), (3, .int (odS z (z 12 (cn x)) (z 13 (cn x)) k)), (4, .int (nI k))] dX7_odds_105 (by decide) rfl ?_
                      refine g_iload_n hX 4 dX7_odds_107 rfl ?_
                      refine g_iload hX 0 dX7_odds_108 rfl ?_
                      refine g_if_eq hX 122 dX7_odds_110 (by decide) (fun c11 => ?_) (fun c11 => ?_)
                      · -- jump 122
                        exact absurd c11 (by decide)
                      · -- on 113
                        refine g_aload_n hX 1 dX7_odds_113 rfl ?_
                        refine g_iload hX 5 dX7_odds_114 rfl ?_
                        refine g_cvE hX (As := [.int (nI k)]) (rest := [.int (odS z (z 12 (cn x)) (z 13 (cn x)) k)]) (c_X7_ticketsOf l G z (a := k) (ha := hkn) (hI := (by assumption))) k_X7_odds_X7_ticketsOf rc_Model rfl rfl (Nat.le_of_ble_eq_true rfl) dX7_odds_116 ?_
                        refine g_goto hX 123 dX7_odds_119 (by decide) ?_
                        refine g_iadd hX dX7_odds_123 ?_
                        refine g_istore_n hX [(3, .int ((odS z (z 12 (cn x)) (z 13 (cn x)) k) + (tkt z k))), (5, .int 1), (0, .ref (G.2.2 0)), (1, .int (nI (cn x))), (2, .int (z 13 (cn x))), (4, .int (nI k))] dX7_odds_124 (by decide) rfl ?_
                        refine g_iinc hX (nI (k + 1)) 5 [(4, .int (nI (k + 1))), (3, .int ((odS z (z 12 (cn x)) (z 13 (cn x)) k) + (tkt z k))), (5, .int 1), (0, .ref (G.2.2 0)), (1, .int (nI (cn x))), (2, .int (z 13 (cn x)))] dX7_odds_125 rfl (nI_1 k) (by decide) rfl ?_
                        refine g_goto hX 48 dX7_odds_128 (by decide) ?_
                        -- back to 48
                        refine g_sub [3, 4, 5, 1, 0] [(0, .ref (G.2.2 0)), (1, .int (nI (cn x))), (2, .int (z 13 (cn x))), (3, .int ((odS z (z 12 (cn x)) (z 13 (cn x)) k) + (tkt z k))), (4, .int (nI (k + 1)))] rfl ?_
                        have e3 : ((odS z (z 12 (cn x)) (z 13 (cn x)) k) + (tkt z k) : Int32) = odS z (z 12 (cn x)) (z 13 (cn x)) (k + 1) := by
                          show _ = odS z (z 12 (cn x)) (z 13 (cn x)) k + (if inO z (z 12 (cn x)) (z 13 (cn x)) k then tkt z k else 0)
                          rw [if_pos (by grind)]
                        refine g_lv (lv' := [(0, .ref (G.2.2 0)), (1, .int (nI (cn x))), (2, .int (z 13 (cn x))), (3, .int (odS z (z 12 (cn x)) (z 13 (cn x)) (k + 1))), (4, .int (nI (k + 1)))]) (by rw [e3]) ?_
                        exact ih (k + 1) (by omega) (by omega)
          refine g_sub [3, 4, 2, 1, 0] [(0, .ref (G.2.2 0)), (1, .int (nI (cn x))), (2, .int (z 13 (cn x))), (3, .int 0), (4, .int 0)] rfl ?_
          have e3 : (0 : Int32) = odS z (z 12 (cn x)) (z 13 (cn x)) 0 := by
            rfl
          refine g_lv (lv' := [(0, .ref (G.2.2 0)), (1, .int (nI (cn x))), (2, .int (z 13 (cn x))), (3, .int (odS z (z 12 (cn x)) (z 13 (cn x)) 0)), (4, .int 0)]) (by rw [← e3]) ?_
          exact loop48 (nA z + 1) 0 (by omega) (Nat.zero_le _)
        · -- on 40
          refine g_bipush hX (-5) dX7_odds_40 (by decide) ?_
          refine ret _ _ _ _ dX7_odds_42 ?_
          first | (simp [mOdds, c1, c2, c3]; done) | grind [mOdds]
    · -- on 8
      refine g_iconst hX (-1) dX7_odds_8 (by decide) ?_
      refine ret _ _ _ _ dX7_odds_9 ?_
      first | (simp [mOdds, c1]; done) | grind [mOdds]
def rm_X7_tries : Room := { frames := 5, cells := 0, slots := 0, locals := 119 }
theorem i_X7_tries_wsX70 : ∀ w ∈ wsX70, w ∈ wsX7_tries := fun w h => List.mem_cons_of_mem _ (List.mem_append_right _ h)
theorem k_X7_tries_X7_hold : CW rm_X7_tries wsX7_tries RX7 RX7 122 yX7_hold cX7_hold 7 (some .int) wsX7_hold rm_X7_hold 2 := ⟨gX7_tries_X7_hold, ⟨_, rfl⟩, rfl, rfl, ⟨rfl, by decide +kernel, by decide +kernel, by decide +kernel⟩, by decide, by decide⟩
theorem k_X7_tries_X7_in : CS rm_X7_tries wsX7_tries RX7 35 yX7_in cX7_in 3 (some .boolean) wsX7_in rm_X7_in 3 := ⟨gX7_tries_X7_in, ⟨_, rfl⟩, rfl, rfl, ⟨rfl, by decide +kernel, by decide +kernel, by decide +kernel⟩, by decide, by decide⟩
theorem k_X7_tries_X7_isApplication : CW rm_X7_tries wsX7_tries RX7 RX7 128 yX7_isApplication cX7_isApplication 2 (some .boolean) wsX7_isApplication rm_X7_isApplication 1 := ⟨gX7_tries_X7_isApplication, ⟨_, rfl⟩, rfl, rfl, ⟨rfl, by decide +kernel, by decide +kernel, by decide +kernel⟩, by decide, by decide⟩
theorem k_X7_tries_X7_isClosed : CW rm_X7_tries wsX7_tries RX7 RX7 84 yX7_isClosed cX7_isClosed 2 (some .boolean) wsX7_isClosed rm_X7_isClosed 1 := ⟨gX7_tries_X7_isClosed, ⟨_, rfl⟩, rfl, rfl, ⟨rfl, by decide +kernel, by decide +kernel, by decide +kernel⟩, by decide, by decide⟩
theorem k_X7_tries_X7_of : CW rm_X7_tries wsX7_tries RX7 RX7 66 yX7_of cX7_of 3 (some .int) wsX7_of rm_X7_of 2 := ⟨gX7_tries_X7_of, ⟨_, rfl⟩, rfl, rfl, ⟨rfl, by decide +kernel, by decide +kernel, by decide +kernel⟩, by decide, by decide⟩
theorem k_X7_tries_X7_putAside : CW rm_X7_tries wsX7_tries RX7 RX7 165 yX7_putAside cX7_putAside 2 none wsX7_putAside rm_X7_putAside 0 := ⟨gX7_tries_X7_putAside, ⟨_, rfl⟩, rfl, rfl, ⟨rfl, by decide +kernel, by decide +kernel, by decide +kernel⟩, by decide, by decide⟩
theorem k_X7_tries_X7_putBack : CW rm_X7_tries wsX7_tries RX7 RX7 168 yX7_putBack cX7_putBack 2 none wsX7_putBack rm_X7_putBack 0 := ⟨gX7_tries_X7_putBack, ⟨_, rfl⟩, rfl, rfl, ⟨rfl, by decide +kernel, by decide +kernel, by decide +kernel⟩, by decide, by decide⟩
theorem k_X7_tries_X7_setting : CW rm_X7_tries wsX7_tries RX7 RX7 63 yX7_setting cX7_setting 2 (some .int) wsX7_setting rm_X7_setting 1 := ⟨gX7_tries_X7_setting, ⟨_, rfl⟩, rfl, rfl, ⟨rfl, by decide +kernel, by decide +kernel, by decide +kernel⟩, by decide, by decide⟩
set_option maxHeartbeats 4000000 in
set_option maxRecDepth 100000 in
theorem c_X7_tries (l : Launch) (G : MG) (hA : Ap 9 G.2.2) (z : St) {x : Int32} {t : Int32} (hI : IO z) (hcl : ∀ d, d < 60 → z 7 d = 0 ∨ z 7 d = 1) (h16 : ∀ a, a < nA z → (z 15 a = 0 ∨ z 15 a = 2) → z 16 a = 0) (hpay : ∀ a, a < nA z → 0 < z 4 0 * z 14 a) (hsd : ∃ s, s < 65536 ∧ z 4 5 = nI s) : CIm l G yX7_tries wsX7_tries rm_X7_tries [.ref (G.2.2 0), .int x, .int t] z (fun ρ ζ => ρ = (mTries z x t).1 ∧ ζ = (mTries z x t).2) := by
  refine ci_of (own := RX7) (cc := cX7_tries) (maxL := 8) (ret := .int) (by decide +kernel) rfl rfl ?_ (Nat.le_of_ble_eq_true rfl) (KQ_mv (ExM_mv G)) ?_
  · intro v z' _; rfl
  · intro X hX ret
    refine g_lv (lv' := [(0, .ref (G.2.2 0)), (1, .int x), (2, .int t)]) rfl ?_
    refine g_aload_n hX 0 dX7_tries_0 rfl ?_
    refine g_iload_n hX 1 dX7_tries_1 rfl ?_
    refine g_cvE hX (As := [.int x]) (rest := []) (c_X7_isApplication l G z (x := x) (hI := (by assumption))) k_X7_tries_X7_isApplication rc_Model rfl rfl (Nat.le_of_ble_eq_true rfl) dX7_tries_2 ?_
    refine g_bi_ne hX 10 dX7_tries_5 (by decide) (fun c1 => ?_) (fun c1 => ?_)
    · -- jump 10
      have hap := c1
      have ha := appP_in hI c1
      have hD := iD hI ha.2.1
      have hR := iR hI ha.2.1
      refine g_lv (lv' := [(0, .ref (G.2.2 0)), (1, .int (nI (cn x))), (2, .int t)]) (by rw [← (show x = (nI (cn x)) from ha.1)]) ?_
      refine g_iload_n hX 2 dX7_tries_10 rfl ?_
      refine g_iconst hX 1 dX7_tries_11 (by decide) ?_
      refine g_sipush hX 200 dX7_tries_12 (by decide) ?_
      refine g_csE hX (As := [.int t, .int 1, .int 200]) (rest := []) (c_X7_in l G z (x := t) (lo := 1) (hi := 200) ) k_X7_tries_X7_in rfl rfl (Nat.le_of_ble_eq_true rfl) dX7_tries_15 ?_
      refine g_bi_ne hX 24 dX7_tries_18 (by decide) (fun c2 => ?_) (fun c2 => ?_)
      · -- jump 24
        have ht0 : ¬ (t < 1 ∨ ¬ t ≤ 200) := fun h => h.elim (fun q => absurd c2.1 (Int32.not_le.mpr q)) (fun q => q c2.2)
        have ht := tms_in (t := t) (Int32.not_lt.mpr c2.1) c2.2
        refine g_lv (lv' := [(0, .ref (G.2.2 0)), (1, .int (nI (cn x))), (2, .int (nI (cn t)))]) (by rw [← (show t = (nI (cn t)) from ht.1)]) ?_
        refine g_aload_n hX 0 dX7_tries_24 rfl ?_
        refine g_iload_n hX 1 dX7_tries_25 rfl ?_
        refine g_iconst hX 2 dX7_tries_26 (by decide) ?_
        refine g_cvE hX (As := [.int (nI (cn x)), .int 2]) (rest := []) (c_X7_of l G z (a := (cn x)) (w := 2) (ha := (by omega)) (hw := (by decide))) k_X7_tries_X7_of rc_Model rfl rfl (Nat.le_of_ble_eq_true rfl) dX7_tries_27 ?_
        refine g_top (z 13 (cn x)) rfl ?_
        refine g_istore_n hX [(3, .int (z 13 (cn x))), (0, .ref (G.2.2 0)), (1, .int (nI (cn x))), (2, .int (nI (cn t)))] dX7_tries_30 (by decide) rfl ?_
        refine g_aload_n hX 1 dX7_tries_31 rfl ?_
        refine g_iload_n hX 2 dX7_tries_32 rfl ?_
        refine g_iconst hX 4 dX7_tries_33 (by decide) ?_
        refine g_cvE hX (As := [.int (nI (cn x)), .int 4]) (rest := []) (c_X7_of l G z (a := (cn x)) (w := 4) (ha := (by omega)) (hw := (by decide))) k_X7_tries_X7_of rc_Model rfl rfl (Nat.le_of_ble_eq_true rfl) dX7_tries_34 ?_
        refine g_top (z 15 (cn x)) rfl ?_
        have hop : openP z (z 13 (cn x)) ↔ (z 0 0 ≤ z 13 (cn x) ∧ ¬ z 7 (cn (z 13 (cn x))) = 1) := ⟨fun h => ⟨h.1, fun e => by rw [h.2.2] at e; exact absurd e (by decide)⟩, fun h => (open_m hI hcl hD h.1).mpr h.2⟩
        refine g_if_ne hX 58 dX7_tries_37 (by decide) (fun c3 => ?_) (fun c3 => ?_)
        · -- jump 58
          refine g_bipush hX (-5) dX7_tries_58 (by decide) ?_
          refine ret _ _ _ _ dX7_tries_60 ?_
          first | (simp [mTries, c1, c2, c3]; done) | grind [mTries]
        · -- on 40
          have s0 : z 15 (cn x) = 0 := Decidable.not_not.mp c3
          refine g_iload_n hX 0 dX7_tries_40 rfl ?_
          refine g_aload_n hX 1 dX7_tries_41 rfl ?_
          refine m_g_0 hX i_X7_tries_wsX70 (List.mem_of_getElem? (i := 1) rfl) dX7_tries_42 ?_
          refine g_iconst hX 0 dX7_tries_45 (by decide) ?_
          refine m_ld_at hX 0 rfl (by decide) dX7_tries_46 (v := (z 0 0)) rfl ?_
          refine g_ic_lt hX 58 dX7_tries_47 (by decide) (fun c4 => ?_) (fun c4 => ?_)
          · -- jump 58
            refine g_bipush hX (-5) dX7_tries_58 (by decide) ?_
            refine ret _ _ _ _ dX7_tries_60 ?_
            first | (simp [mTries, c1, c2, c3, c4]; done) | grind [mTries]
          · -- on 50
            have s2 : z 0 0 ≤ z 13 (cn x) := Int32.not_lt.mp c4
            refine g_aload_n hX 1 dX7_tries_50 rfl ?_
            refine g_iload_n hX 0 dX7_tries_51 rfl ?_
            refine g_st (st2 := [.int (nI (cn (z 13 (cn x)))), .ref (G.2.2 0)]) (by rw [← (show (z 13 (cn x)) = nI (cn (z 13 (cn x))) from hD.1)]) ?_
            refine g_cvE hX (As := [.int (nI (cn (z 13 (cn x))))]) (rest := []) (c_X7_isClosed l G z (d := (cn (z 13 (cn x)))) (hd := hD.2)) k_X7_tries_X7_isClosed rc_Model rfl rfl (Nat.le_of_ble_eq_true rfl) dX7_tries_52 ?_
            refine g_bi_eq hX 61 dX7_tries_55 (by decide) (fun c5 => ?_) (fun c5 => ?_)
            · -- jump 61
              have s3 : ¬ (¬ z 15 (cn x) = 0 ∨ ¬ openP z (z 13 (cn x))) := fun h => h.elim (fun q => q s0) (fun q => q (hop.mpr ⟨s2, c5⟩))
              refine g_aload_n hX 1 dX7_tries_61 rfl ?_
              refine g_cvvE hX (As := []) (rest := []) (c_X7_putAside l G hA z  ) k_X7_tries_X7_putAside rc_Model rfl rfl (Nat.le_of_ble_eq_true rfl) dX7_tries_62 ?_
              refine g_iconst hX 0 dX7_tries_65 (by decide) ?_
              refine g_istore hX [(4, .int 0), (3, .int (z 13 (cn x))), (0, .ref (G.2.2 0)), (1, .int (nI (cn x))), (2, .int (nI (cn t)))] dX7_tries_66 (by decide) rfl ?_
              refine g_iconst hX 0 dX7_tries_68 (by decide) ?_
              refine g_istore hX [(5, .int 0), (4, .int 0), (3, .int (z 13 (cn x))), (0, .ref (G.2.2 0)), (1, .int (nI (cn x))), (2, .int (nI (cn t)))] dX7_tries_69 (by decide) rfl ?_
              have loop71 : ∀ (nf : Nat) (k : Nat), (cn t < k + nf) → (k ≤ cn t) → Go X (tryK z (z 12 (cn x)) (z 13 (cn x)) k) 71 [(0, .ref (G.2.2 0)), (1, .int (nI (cn x))), (2, .int (nI (cn t))), (3, .int (z 13 (cn x))), (4, .int (tryW z (z 12 (cn x)) (z 13 (cn x)) (cn x) k)), (5, .int (nI k))] [] := by
                intro nf
                induction nf with
                | zero =>
                  intro k hmu hk
                  exfalso; omega
                | succ nf ih =>
                  intro k hmu hk
                  have hy := TrI_K hsd (z 12 (cn x)) (z 13 (cn x)) k
                  refine g_iload hX 5 dX7_tries_71 rfl ?_
                  refine g_iload_n hX 2 dX7_tries_73 rfl ?_
                  refine g_ic_ge hX 141 dX7_tries_74 (by decide) (fun c6 => ?_) (fun c6 => ?_)
                  · -- jump 141
                    have hke : k = cn t := by
                      have := (nI_leI (by omega) (by omega)).mp c6; omega
                    refine g_aload_n hX 0 dX7_tries_141 rfl ?_
                    refine g_cvvE hX (As := []) (rest := []) (c_X7_putBack l G hA (tryK z (z 12 (cn x)) (z 13 (cn x)) k)  ) k_X7_tries_X7_putBack rc_Model rfl rfl (Nat.le_of_ble_eq_true rfl) dX7_tries_142 ?_
                    refine g_iload hX 4 dX7_tries_145 rfl ?_
                    refine ret _ _ _ _ dX7_tries_147 ?_
                    rw [hke, mTries, if_neg (not_not_intro hap), if_neg ht0, if_neg s3]
                    exact ⟨rfl, rfl⟩
                  · -- on 77
                    have hkn : k < cn t := Nat.lt_of_not_le (fun q => c6 (nI_le q (by omega)))
                    refine g_aload_n hX 0 dX7_tries_77 rfl ?_
                    refine g_aload_n hX 0 dX7_tries_78 rfl ?_
                    refine g_iload_n hX 1 dX7_tries_79 rfl ?_
                    refine g_iconst hX 1 dX7_tries_80 (by decide) ?_
                    refine g_cvE hX (As := [.int (nI (cn x)), .int 1]) (rest := [.ref (G.2.2 0)]) (c_X7_of l G (tryK z (z 12 (cn x)) (z 13 (cn x)) k) (a := (cn x)) (w := 1) (ha := (by omega)) (hw := (by decide))) k_X7_tries_X7_of rc_Model rfl rfl (Nat.le_of_ble_eq_true rfl) dX7_tries_81 ?_
                    refine g_top ((tryK z (z 12 (cn x)) (z 13 (cn x)) k) 12 (cn x)) rfl ?_
                    refine g_top (z 12 (cn x)) (TrI_a hy ha.2.2 (w := 1) (by decide)) ?_
                    refine g_iload_n hX 3 dX7_tries_84 rfl ?_
                    refine g_st (st2 := [.int (z 13 (cn x)), .int (nI (cn (z 12 (cn x)))), .ref (G.2.2 0)]) (by rw [← (show (z 12 (cn x)) = nI (cn (z 12 (cn x))) from hR.1)]) ?_
                    refine g_cvE hX (As := [.int (nI (cn (z 12 (cn x)))), .int (z 13 (cn x))]) (rest := []) (c_X7_hold l G hA (tryK z (z 12 (cn x)) (z 13 (cn x)) k) (q := (cn (z 12 (cn x)))) (d := (z 13 (cn x))) (hq := hR.2) (hI := (TrI_IO hy hI)) (h16 := (TrI_16 hy hI h16)) (hpay := (TrI_pay hy hI hpay)) (hsd := hy.2.2.1)) k_X7_tries_X7_hold rc_Model rfl rfl (Nat.le_of_ble_eq_true rfl) dX7_tries_85 ?_
                    refine g_z (z2 := (mHold (tryK z (z 12 (cn x)) (z 13 (cn x)) k) (z 12 (cn x)) (z 13 (cn x))).2) (by rw [← hR.1]) ?_
                    refine g_top ((mHold (tryK z (z 12 (cn x)) (z 13 (cn x)) k) (z 12 (cn x)) (z 13 (cn x))).1) (by rw [← hR.1]) ?_
                    refine g_istore hX [(6, .int ((mHold (tryK z (z 12 (cn x)) (z 13 (cn x)) k) (z 12 (cn x)) (z 13 (cn x))).1)), (0, .ref (G.2.2 0)), (1, .int (nI (cn x))), (2, .int (nI (cn t))), (3, .int (z 13 (cn x))), (4, .int (tryW z (z 12 (cn x)) (z 13 (cn x)) (cn x) k)), (5, .int (nI k))] dX7_tries_88 (by decide) rfl ?_
                    refine g_iload hX 5 dX7_tries_90 rfl ?_
                    refine g_iload hX 0 dX7_tries_92 rfl ?_
                    refine g_if_le hX 111 dX7_tries_94 (by decide) (fun c7 => ?_) (fun c7 => ?_)
                    · -- jump 111
                      have s6 : ¬ (0 < (mHold (tryK z (z 12 (cn x)) (z 13 (cn x)) k) (z 12 (cn x)) (z 13 (cn x))).1 ∧ (mHold (tryK z (z 12 (cn x)) (z 13 (cn x)) k) (z 12 (cn x)) (z 13 (cn x))).2 15 (cn x) = 1) := fun h => absurd h.1 (Int32.not_lt.mpr c7)
                      refine g_iconst hX 0 dX7_tries_111 (by decide) ?_
                      refine g_iadd hX dX7_tries_112 ?_
                      refine g_istore hX [(4, .int ((tryW z (z 12 (cn x)) (z 13 (cn x)) (cn x) k) + 0)), (6, .int ((mHold (tryK z (z 12 (cn x)) (z 13 (cn x)) k) (z 12 (cn x)) (z 13 (cn x))).1)), (0, .ref (G.2.2 0)), (1, .int (nI (cn x))), (2, .int (nI (cn t))), (3, .int (z 13 (cn x))), (5, .int (nI k))] dX7_tries_113 (by decide) rfl ?_
                      refine g_aload_n hX 2 dX7_tries_115 rfl ?_
                      refine g_iconst hX 5 dX7_tries_116 (by decide) ?_
                      refine g_cvE hX (As := [.int 5]) (rest := []) (c_X7_setting l G ((mHold (tryK z (z 12 (cn x)) (z 13 (cn x)) k) (z 12 (cn x)) (z 13 (cn x))).2) (w := 5) (hw := (by decide))) k_X7_tries_X7_setting rc_Model rfl rfl (Nat.le_of_ble_eq_true rfl) dX7_tries_117 ?_
                      refine g_istore hX [(7, .int (((mHold (tryK z (z 12 (cn x)) (z 13 (cn x)) k) (z 12 (cn x)) (z 13 (cn x))).2) 4 5)), (4, .int ((tryW z (z 12 (cn x)) (z 13 (cn x)) (cn x) k) + 0)), (6, .int ((mHold (tryK z (z 12 (cn x)) (z 13 (cn x)) k) (z 12 (cn x)) (z 13 (cn x))).1)), (0, .ref (G.2.2 0)), (1, .int (nI (cn x))), (2, .int (nI (cn t))), (3, .int (z 13 (cn x))), (5, .int (nI k))] dX7_tries_120 (by decide) rfl ?_
                      refine g_aload_n hX 3 dX7_tries_122 rfl ?_
                      refine g_cvvE hX (As := []) (rest := []) (c_X7_putBack l G hA ((mHold (tryK z (z 12 (cn x)) (z 13 (cn x)) k) (z 12 (cn x)) (z 13 (cn x))).2)  ) k_X7_tries_X7_putBack rc_Model rfl rfl (Nat.le_of_ble_eq_true rfl) dX7_tries_123 ?_
                      refine g_aload_n hX 3 dX7_tries_126 rfl ?_
                      refine m_g_0 hX i_X7_tries_wsX70 (List.mem_of_getElem? (i := 1) rfl) dX7_tries_127 ?_
                      refine g_bipush hX 9 dX7_tries_130 (by decide) ?_
                      refine g_iload hX 0 dX7_tries_132 rfl ?_
                      refine m_st_at hX hA 9 rfl (by decide) dX7_tries_134 ?_
                      refine g_z (z2 := u2 (cpK ((mHold (tryK z (z 12 (cn x)) (z 13 (cn x)) k) (z 12 (cn x)) (z 13 (cn x))).2) 0 478 (fun j => ((mHold (tryK z (z 12 (cn x)) (z 13 (cn x)) k) (z 12 (cn x)) (z 13 (cn x))).2) 80 j)) 4 5 (((mHold (tryK z (z 12 (cn x)) (z 13 (cn x)) k) (z 12 (cn x)) (z 13 (cn x))).2) 4 5)) (rfl) ?_
                      refine g_iinc hX (nI (k + 1)) 7 [(5, .int (nI (k + 1))), (7, .int (((mHold (tryK z (z 12 (cn x)) (z 13 (cn x)) k) (z 12 (cn x)) (z 13 (cn x))).2) 4 5)), (4, .int ((tryW z (z 12 (cn x)) (z 13 (cn x)) (cn x) k) + 0)), (6, .int ((mHold (tryK z (z 12 (cn x)) (z 13 (cn x)) k) (z 12 (cn x)) (z 13 (cn x))).1)), (0, .ref (G.2.2 0)), (1, .int (nI (cn x))), (2, .int (nI (cn t))), (3, .int (z 13 (cn x)))] dX7_tries_135 rfl (nI_1 k) (by decide) rfl ?_
                      refine g_goto hX 71 dX7_tries_138 (by decide) ?_
                      -- back to 71
                      refine g_sub [4, 5, 6, 7, 2, 0] [(0, .ref (G.2.2 0)), (1, .int (nI (cn x))), (2, .int (nI (cn t))), (3, .int (z 13 (cn x))), (4, .int ((tryW z (z 12 (cn x)) (z 13 (cn x)) (cn x) k) + 0)), (5, .int (nI (k + 1)))] rfl ?_
                      have e4 : ((tryW z (z 12 (cn x)) (z 13 (cn x)) (cn x) k) + 0 : Int32) = tryW z (z 12 (cn x)) (z 13 (cn x)) (cn x) (k + 1) := by
                        rw [tryW, if_neg s6]
                      refine g_lv (lv' := [(0, .ref (G.2.2 0)), (1, .int (nI (cn x))), (2, .int (nI (cn t))), (3, .int (z 13 (cn x))), (4, .int (tryW z (z 12 (cn x)) (z 13 (cn x)) (cn x) (k + 1))), (5, .int (nI (k + 1)))]) (by rw [e4]) ?_
                      have ez : u2 (cpK ((mHold (tryK z (z 12 (cn x)) (z 13 (cn x)) k) (z 12 (cn x)) (z 13 (cn x))).2) 0 478 (fun j => ((mHold (tryK z (z 12 (cn x)) (z 13 (cn x)) k) (z 12 (cn x)) (z 13 (cn x))).2) 80 j)) 4 5 (((mHold (tryK z (z 12 (cn x)) (z 13 (cn x)) k) (z 12 (cn x)) (z 13 (cn x))).2) 4 5) = tryK z (z 12 (cn x)) (z 13 (cn x)) (k + 1) := by
                        rfl
                      refine g_z ez ?_
                      exact ih (k + 1) (by omega) (by omega)
                    · -- on 97
                      have s4 : 0 < (mHold (tryK z (z 12 (cn x)) (z 13 (cn x)) k) (z 12 (cn x)) (z 13 (cn x))).1 := Int32.not_le.mp c7
                      refine g_aload_n hX 1 dX7_tries_97 rfl ?_
                      refine g_iload_n hX 2 dX7_tries_98 rfl ?_
                      refine g_iconst hX 4 dX7_tries_99 (by decide) ?_
                      refine g_cvE hX (As := [.int (nI (cn x)), .int 4]) (rest := [.int (tryW z (z 12 (cn x)) (z 13 (cn x)) (cn x) k)]) (c_X7_of l G ((mHold (tryK z (z 12 (cn x)) (z 13 (cn x)) k) (z 12 (cn x)) (z 13 (cn x))).2) (a := (cn x)) (w := 4) (ha := (by omega)) (hw := (by decide))) k_X7_tries_X7_of rc_Model rfl rfl (Nat.le_of_ble_eq_true rfl) dX7_tries_100 ?_
                      refine g_top (((mHold (tryK z (z 12 (cn x)) (z 13 (cn x)) k) (z 12 (cn x)) (z 13 (cn x))).2) 15 (cn x)) rfl ?_
                      refine g_iconst hX 1 dX7_tries_103 (by decide) ?_
                      refine g_ic_ne hX 111 dX7_tries_104 (by decide) (fun c8 => ?_) (fun c8 => ?_)
                      · -- jump 111
                        have s6 : ¬ (0 < (mHold (tryK z (z 12 (cn x)) (z 13 (cn x)) k) (z 12 (cn x)) (z 13 (cn x))).1 ∧ (mHold (tryK z (z 12 (cn x)) (z 13 (cn x)) k) (z 12 (cn x)) (z 13 (cn x))).2 15 (cn x) = 1) := fun h => c8 h.2
                        refine g_iconst hX 0 dX7_tries_111 (by decide) ?_
                        refine g_iadd hX dX7_tries_112 ?_
                        refine g_istore hX [(4, .int ((tryW z (z 12 (cn x)) (z 13 (cn x)) (cn x) k) + 0)), (6, .int ((mHold (tryK z (z 12 (cn x)) (z 13 (cn x)) k) (z 12 (cn x)) (z 13 (cn x))).1)), (0, .ref (G.2.2 0)), (1, .int (nI (cn x))), (2, .int (nI (cn t))), (3, .int (z 13 (cn x))), (5, .int (nI k))] dX7_tries_113 (by decide) rfl ?_
                        refine g_aload_n hX 2 dX7_tries_115 rfl ?_
                        refine g_iconst hX 5 dX7_tries_116 (by decide) ?_
                        refine g_cvE hX (As := [.int 5]) (rest := []) (c_X7_setting l G ((mHold (tryK z (z 12 (cn x)) (z 13 (cn x)) k) (z 12 (cn x)) (z 13 (cn x))).2) (w := 5) (hw := (by decide))) k_X7_tries_X7_setting rc_Model rfl rfl (Nat.le_of_ble_eq_true rfl) dX7_tries_117 ?_
                        refine g_istore hX [(7, .int (((mHold (tryK z (z 12 (cn x)) (z 13 (cn x)) k) (z 12 (cn x)) (z 13 (cn x))).2) 4 5)), (4, .int ((tryW z (z 12 (cn x)) (z 13 (cn x)) (cn x) k) + 0)), (6, .int ((mHold (tryK z (z 12 (cn x)) (z 13 (cn x)) k) (z 12 (cn x)) (z 13 (cn x))).1)), (0, .ref (G.2.2 0)), (1, .int (nI (cn x))), (2, .int (nI (cn t))), (3, .int (z 13 (cn x))), (5, .int (nI k))] dX7_tries_120 (by decide) rfl ?_
                        refine g_aload_n hX 3 dX7_tries_122 rfl ?_
                        refine g_cvvE hX (As := []) (rest := []) (c_X7_putBack l G hA ((mHold (tryK z (z 12 (cn x)) (z 13 (cn x)) k) (z 12 (cn x)) (z 13 (cn x))).2)  ) k_X7_tries_X7_putBack rc_Model rfl rfl (Nat.le_of_ble_eq_true rfl) dX7_tries_123 ?_
                        refine g_aload_n hX 3 dX7_tries_126 rfl ?_
                        refine m_g_0 hX i_X7_tries_wsX70 (List.mem_of_getElem? (i := 1) rfl) dX7_tries_127 ?_
                        refine g_bipush hX 9 dX7_tries_130 (by decide) ?_
                        refine g_iload hX 0 dX7_tries_132 rfl ?_
                        refine m_st_at hX hA 9 rfl (by decide) dX7_tries_134 ?_
                        refine g_z (z2 := u2 (cpK ((mHold (tryK z (z 12 (cn x)) (z 13 (cn x)) k) (z 12 (cn x)) (z 13 (cn x))).2) 0 478 (fun j => ((mHold (tryK z (z 12 (cn x)) (z 13 (cn x)) k) (z 12 (cn x)) (z 13 (cn x))).2) 80 j)) 4 5 (((mHold (tryK z (z 12 (cn x)) (z 13 (cn x)) k) (z 12 (cn x)) (z 13 (cn x))).2) 4 5)) (rfl) ?_
                        refine g_iinc hX (nI (k + 1)) 7 [(5, .int (nI (k + 1))), (7, .int (((mHold (tryK z (z 12 (cn x)) (z 13 (cn x)) k) (z 12 (cn x)) (z 13 (cn x))).2) 4 5)), (4, .int ((tryW z (z 12 (cn x)) (z 13 (cn x)) (cn x) k) + 0)), (6, .int ((mHold (tryK z (z 12 (cn x)) (z 13 (cn x)) k) (z 12 (cn x)) (z 13 (cn x))).1)), (0, .ref (G.2.2 0)), (1, .int (nI (cn x))), (2, .int (nI (cn t))), (3, .int (z 13 (cn x)))] dX7_tries_135 rfl (nI_1 k) (by decide) rfl ?_
                        refine g_goto hX 71 dX7_tries_138 (by decide) ?_
                        -- back to 71
                        refine g_sub [4, 5, 6, 7, 2, 0] [(0, .ref (G.2.2 0)), (1, .int (nI (cn x))), (2, .int (nI (cn t))), (3, .int (z 13 (cn x))), (4, .int ((tryW z (z 12 (cn x)) (z 13 (cn x)) (cn x) k) + 0)), (5, .int (nI (k + 1)))] rfl ?_
                        have e4 : ((tryW z (z 12 (cn x)) (z 13 (cn x)) (cn x) k) + 0 : Int32) = tryW z (z 12 (cn x)) (z 13 (cn x)) (cn x) (k + 1) := by
                          rw [tryW, if_neg s6]
                        refine g_lv (lv' := [(0, .ref (G.2.2 0)), (1, .int (nI (cn x))), (2, .int (nI (cn t))), (3, .int (z 13 (cn x))), (4, .int (tryW z (z 12 (cn x)) (z 13 (cn x)) (cn x) (k + 1))), (5, .int (nI (k + 1)))]) (by rw [e4]) ?_
                        have ez : u2 (cpK ((mHold (tryK z (z 12 (cn x)) (z 13 (cn x)) k) (z 12 (cn x)) (z 13 (cn x))).2) 0 478 (fun j => ((mHold (tryK z (z 12 (cn x)) (z 13 (cn x)) k) (z 12 (cn x)) (z 13 (cn x))).2) 80 j)) 4 5 (((mHold (tryK z (z 12 (cn x)) (z 13 (cn x)) k) (z 12 (cn x)) (z 13 (cn x))).2) 4 5) = tryK z (z 12 (cn x)) (z 13 (cn x)) (k + 1) := by
                          rfl
                        refine g_z ez ?_
                        exact ih (k + 1) (by omega) (by omega)
                      · -- on 107
                        have s6 : 0 < (mHold (tryK z (z 12 (cn x)) (z 13 (cn x)) k) (z 12 (cn x)) (z 13 (cn x))).1 ∧ (mHold (tryK z (z 12 (cn x)) (z 13 (cn x)) k) (z 12 (cn x)) (z 13 (cn x))).2 15 (cn x) = 1 := ⟨s4, Decidable.not_not.mp c8⟩
                        refine g_iconst hX 1 dX7_tries_107 (by decide) ?_
                        refine g_goto hX 112 dX7_tries_108 (by decide) ?_
                        refine g_iadd hX dX7_tries_112 ?_
                        refine g_istore hX [(4, .int ((tryW z (z 12 (cn x)) (z 13 (cn x)) (cn x) k) + 1)), (6, .int ((mHold (tryK z (z 12 (cn x)) (z 13 (cn x)) k) (z 12 (cn x)) (z 13 (cn x))).1)), (0, .ref (G.2.2 0)), (1, .int (nI (cn x))), (2, .int (nI (cn t))), (3, .int (z 13 (cn x))), (5, .int (nI k))] dX7_tries_113 (by decide) rfl ?_
                        refine g_aload_n hX 2 dX7_tries_115 rfl ?_
                        refine g_iconst hX 5 dX7_tries_116 (by decide) ?_
                        refine g_cvE hX (As := [.int 5]) (rest := []) (c_X7_setting l G ((mHold (tryK z (z 12 (cn x)) (z 13 (cn x)) k) (z 12 (cn x)) (z 13 (cn x))).2) (w := 5) (hw := (by decide))) k_X7_tries_X7_setting rc_Model rfl rfl (Nat.le_of_ble_eq_true rfl) dX7_tries_117 ?_
                        refine g_istore hX [(7, .int (((mHold (tryK z (z 12 (cn x)) (z 13 (cn x)) k) (z 12 (cn x)) (z 13 (cn x))).2) 4 5)), (4, .int ((tryW z (z 12 (cn x)) (z 13 (cn x)) (cn x) k) + 1)), (6, .int ((mHold (tryK z (z 12 (cn x)) (z 13 (cn x)) k) (z 12 (cn x)) (z 13 (cn x))).1)), (0, .ref (G.2.2 0)), (1, .int (nI (cn x))), (2, .int (nI (cn t))), (3, .int (z 13 (cn x))), (5, .int (nI k))] dX7_tries_120 (by decide) rfl ?_
                        refine g_aload_n hX 3 dX7_tries_122 rfl ?_
                        refine g_cvvE hX (As := []) (rest := []) (c_X7_putBack l G hA ((mHold (tryK z (z 12 (cn x)) (z 13 (cn x)) k) (z 12 (cn x)) (z 13 (cn x))).2)  ) k_X7_tries_X7_putBack rc_Model rfl rfl (Nat.le_of_ble_eq_true rfl) dX7_tries_123 ?_
                        refine g_aload_n hX 3 dX7_tries_126 rfl ?_
                        refine m_g_0 hX i_X7_tries_wsX70 (List.mem_of_getElem? (i := 1) rfl) dX7_tries_127 ?_
                        refine g_bipush hX 9 dX7_tries_130 (by decide) ?_
                        refine g_iload hX 0 dX7_tries_132 rfl ?_
                        refine m_st_at hX hA 9 rfl (by decide) dX7_tries_134 ?_
                        refine g_z (z2 := u2 (cpK ((mHold (tryK z (z 12 (cn x)) (z 13 (cn x)) k) (z 12 (cn x)) (z 13 (cn x))).2) 0 478 (fun j => ((mHold (tryK z (z 12 (cn x)) (z 13 (cn x)) k) (z 12 (cn x)) (z 13 (cn x))).2) 80 j)) 4 5 (((mHold (tryK z (z 12 (cn x)) (z 13 (cn x)) k) (z 12 (cn x)) (z 13 (cn x))).2) 4 5)) (rfl) ?_
                        refine g_iinc hX (nI (k + 1)) 7 [(5, .int (nI (k + 1))), (7, .int (((mHold (tryK z (z 12 (cn x)) (z 13 (cn x)) k) (z 12 (cn x)) (z 13 (cn x))).2) 4 5)), (4, .int ((tryW z (z 12 (cn x)) (z 13 (cn x)) (cn x) k) + 1)), (6, .int ((mHold (tryK z (z 12 (cn x)) (z 13 (cn x)) k) (z 12 (cn x)) (z 13 (cn x))).1)), (0, .ref (G.2.2 0)), (1, .int (nI (cn x))), (2, .int (nI (cn t))), (3, .int (z 13 (cn x)))] dX7_tries_135 rfl (nI_1 k) (by decide) rfl ?_
                        refine g_goto hX 71 dX7_tries_138 (by decide) ?_
                        -- back to 71
                        refine g_sub [4, 5, 6, 7, 2, 0] [(0, .ref (G.2.2 0)), (1, .int (nI (cn x))), (2, .int (nI (cn t))), (3, .int (z 13 (cn x))), (4, .int ((tryW z (z 12 (cn x)) (z 13 (cn x)) (cn x) k) + 1)), (5, .int (nI (k + 1)))] rfl ?_
                        have e4 : ((tryW z (z 12 (cn x)) (z 13 (cn x)) (cn x) k) + 1 : Int32) = tryW z (z 12 (cn x)) (z 13 (cn x)) (cn x) (k + 1) := by
                          rw [tryW, if_pos s6]
                        refine g_lv (lv' := [(0, .ref (G.2.2 0)), (1, .int (nI (cn x))), (2, .int (nI (cn t))), (3, .int (z 13 (cn x))), (4, .int (tryW z (z 12 (cn x)) (z 13 (cn x)) (cn x) (k + 1))), (5, .int (nI (k + 1)))]) (by rw [e4]) ?_
                        have ez : u2 (cpK ((mHold (tryK z (z 12 (cn x)) (z 13 (cn x)) k) (z 12 (cn x)) (z 13 (cn x))).2) 0 478 (fun j => ((mHold (tryK z (z 12 (cn x)) (z 13 (cn x)) k) (z 12 (cn x)) (z 13 (cn x))).2) 80 j)) 4 5 (((mHold (tryK z (z 12 (cn x)) (z 13 (cn x)) k) (z 12 (cn x)) (z 13 (cn x))).2) 4 5) = tryK z (z 12 (cn x)) (z 13 (cn x)) (k + 1) := by
                          rfl
                        refine g_z ez ?_
                        exact ih (k + 1) (by omega) (by omega)
              refine g_sub [3, 4, 5, 2, 1, 0] [(0, .ref (G.2.2 0)), (1, .int (nI (cn x))), (2, .int (nI (cn t))), (3, .int (z 13 (cn x))), (4, .int 0), (5, .int 0)] rfl ?_
              have e4 : (0 : Int32) = tryW z (z 12 (cn x)) (z 13 (cn x)) (cn x) 0 := by
                rfl
              refine g_lv (lv' := [(0, .ref (G.2.2 0)), (1, .int (nI (cn x))), (2, .int (nI (cn t))), (3, .int (z 13 (cn x))), (4, .int (tryW z (z 12 (cn x)) (z 13 (cn x)) (cn x) 0)), (5, .int 0)]) (by rw [← e4]) ?_
              have ez : asK z 478 = tryK z (z 12 (cn x)) (z 13 (cn x)) 0 := by
                rfl
              refine g_z ez ?_
              exact loop71 (cn t + 1) 0 (by omega) (Nat.zero_le _)
            · -- on 58
              refine g_bipush hX (-5) dX7_tries_58 (by decide) ?_
              refine ret _ _ _ _ dX7_tries_60 ?_
              first | (simp [mTries, c1, c2, c3, c4, c5]; done) | grind [mTries]
      · -- on 21
        refine g_bipush hX (-2) dX7_tries_21 (by decide) ?_
        refine ret _ _ _ _ dX7_tries_23 ?_
        first | (simp [mTries, c1, c2]; done) | grind [mTries]
    · -- on 8
      refine g_iconst hX (-1) dX7_tries_8 (by decide) ?_
      refine ret _ _ _ _ dX7_tries_9 ?_
      first | (simp [mTries, c1]; done) | grind [mTries]
def rm_X7_next : Room := { frames := 0, cells := 0, slots := 0, locals := 0 }
theorem i_X7_next_wsX70 : ∀ w ∈ wsX70, w ∈ wsX7_next := fun w h => List.mem_cons_of_mem _ (List.mem_append_right _ h)
set_option maxHeartbeats 4000000 in
set_option maxRecDepth 100000 in
theorem c_X7_next (l : Launch) (G : MG) (z : St)  (hS : SP z) : CIm l G yX7_next wsX7_next rm_X7_next [.ref (G.2.2 0)] z (fun ρ ζ => ρ = nxt z (spN z) ∧ ζ = z) := by
  refine ci_of (own := RX7) (cc := cX7_next) (maxL := 1) (ret := .int) (by decide +kernel) rfl rfl ?_ (Nat.le_of_ble_eq_true rfl) (KQ_mv (ExM_mv G)) ?_
  · intro v z' _; rfl
  · intro X hX ret
    refine g_lv (lv' := [(0, .ref (G.2.2 0))]) rfl ?_
    obtain ⟨hP, h83, hsl, h84⟩ := hS
    obtain ⟨e69, h60⟩ := pL hP
    refine g_aload_n hX 0 dX7_next_0 rfl ?_
    refine m_g_8 hX i_X7_next_wsX70 (List.mem_of_getElem? (i := 1) rfl) dX7_next_1 ?_
    refine g_aload_n hX 0 dX7_next_4 rfl ?_
    refine m_g_5 hX i_X7_next_wsX70 (List.mem_of_getElem? (i := 2) rfl) dX7_next_5 ?_
    refine g_ic_ge hX 23 dX7_next_8 (by decide) (fun c1 => ?_) (fun c1 => ?_)
    · -- jump 23
      have hlt : ¬ spN z < lenN z := by
        rw [h83, e69] at c1; have := (nI_leI (by omega) (by omega)).mp c1; omega
      refine g_iconst hX 0 dX7_next_23 (by decide) ?_
      refine ret _ _ _ _ dX7_next_24 ?_
      refine ⟨?_, rfl⟩
      first | rw [nxt, if_pos hlt] | rw [nxt, if_neg hlt]
    · -- on 11
      have hlt : spN z < lenN z := by
        rw [h83, e69] at c1; exact Nat.lt_of_not_le (fun q => c1 (nI_le q (by omega)))
      refine g_aload_n hX 0 dX7_next_11 rfl ?_
      refine m_g_4 hX i_X7_next_wsX70 (List.mem_of_getElem? (i := 3) rfl) dX7_next_12 ?_
      refine g_aload_n hX 0 dX7_next_15 rfl ?_
      refine m_g_8 hX i_X7_next_wsX70 (List.mem_of_getElem? (i := 1) rfl) dX7_next_16 ?_
      refine m_ld_pad hX (spN z) h83 (by omega) dX7_next_19 ?_
      refine g_goto hX 24 dX7_next_20 (by decide) ?_
      refine ret _ _ _ _ dX7_next_24 ?_
      refine ⟨?_, rfl⟩
      first | rw [nxt, if_pos hlt] | rw [nxt, if_neg hlt]
def rm_X7_need : Room := { frames := 1, cells := 0, slots := 0, locals := 20 }
theorem i_X7_need_wsX70 : ∀ w ∈ wsX70, w ∈ wsX7_need := fun w h => List.mem_cons_of_mem _ (List.mem_append_right _ h)
theorem k_X7_need_X7_next : CW rm_X7_need wsX7_need RX7 RX7 180 yX7_next cX7_next 1 (some .int) wsX7_next rm_X7_next 0 := ⟨gX7_need_X7_next, ⟨_, rfl⟩, rfl, rfl, ⟨rfl, by decide +kernel, by decide +kernel, by decide +kernel⟩, by decide, by decide⟩
set_option maxHeartbeats 4000000 in
set_option maxRecDepth 100000 in
theorem c_X7_need (l : Launch) (G : MG) (hA : Ap 9 G.2.2) (z : St) {s : Int32} (hS : SP z) : CVm l G yX7_need wsX7_need rm_X7_need [.ref (G.2.2 0), .int s] z (fun ζ => ζ = needZ z s) := by
  refine cv_of (own := RX7) (cc := cX7_need) (maxL := 2) (by decide +kernel) rfl rfl (Nat.le_of_ble_eq_true rfl) (KQ_mv (ExM_mv G)) ?_
  intro X hX ret
  refine g_lv (lv' := [(0, .ref (G.2.2 0)), (1, .int s)]) rfl ?_
  have h84 := hS.2.2.2
  have e83 := sp1 hS
  refine g_aload_n hX 0 dX7_need_0 rfl ?_
  refine g_aload_n hX 0 dX7_need_1 rfl ?_
  refine m_g_9 hX i_X7_need_wsX70 (List.mem_of_getElem? (i := 1) rfl) dX7_need_2 ?_
  refine g_if_ne hX 16 dX7_need_5 (by decide) (fun c1 => ?_) (fun c1 => ?_)
  · -- jump 16
    have hno : ¬ (z 84 0 = 0 ∧ nxt z (spN z) = s) := fun h => c1 h.1
    refine g_iconst hX 1 dX7_need_16 (by decide) ?_
    refine g_goto hX 21 dX7_need_17 (by decide) ?_
    refine m_p_9 hX hA (Or.inr rfl) i_X7_need_wsX70 (List.mem_of_getElem? (i := 1) rfl) dX7_need_21 ?_
    refine g_aload_n hX 0 dX7_need_24 rfl ?_
    refine g_dup hX dX7_need_25 rfl ?_
    refine m_g_8 hX i_X7_need_wsX70 (List.mem_of_getElem? (i := 2) rfl) dX7_need_26 ?_
    refine g_top (z 83 0) (by simp [u2]) ?_
    refine g_aload_n hX 0 dX7_need_29 rfl ?_
    refine m_g_9 hX i_X7_need_wsX70 (List.mem_of_getElem? (i := 1) rfl) dX7_need_30 ?_
    refine g_top (1) (by simp [u2]) ?_
    refine g_if_eq hX 40 dX7_need_33 (by decide) (fun c2 => ?_) (fun c2 => ?_)
    · -- jump 40
      exact absurd c2 (by decide)
    · -- on 36
      refine g_iconst hX 0 dX7_need_36 (by decide) ?_
      refine g_goto hX 41 dX7_need_37 (by decide) ?_
      refine g_iadd hX dX7_need_41 ?_
      refine m_p_8 hX hA i_X7_need_wsX70 (List.mem_of_getElem? (i := 2) rfl) dX7_need_42 ?_
      refine ret _ _ _ dX7_need_45 ?_
      rw [needZ, if_neg hno, Int32.add_zero]
      exact u2_self (u2_ne (by omega))
  · -- on 8
    have hw : z 84 0 = 0 := Decidable.not_not.mp c1
    refine g_aload_n hX 0 dX7_need_8 rfl ?_
    refine g_cvE hX (As := []) (rest := [.ref (G.2.2 0)]) (c_X7_next l G z  (hS := (by assumption))) k_X7_need_X7_next rc_Model rfl rfl (Nat.le_of_ble_eq_true rfl) dX7_need_9 ?_
    refine g_iload_n hX 1 dX7_need_12 rfl ?_
    refine g_ic_eq hX 20 dX7_need_13 (by decide) (fun c3 => ?_) (fun c3 => ?_)
    · -- jump 20
      have hyes : z 84 0 = 0 ∧ nxt z (spN z) = s := ⟨hw, c3⟩
      refine g_iconst hX 0 dX7_need_20 (by decide) ?_
      refine m_p_9 hX hA (Or.inl rfl) i_X7_need_wsX70 (List.mem_of_getElem? (i := 1) rfl) dX7_need_21 ?_
      refine g_aload_n hX 0 dX7_need_24 rfl ?_
      refine g_dup hX dX7_need_25 rfl ?_
      refine m_g_8 hX i_X7_need_wsX70 (List.mem_of_getElem? (i := 2) rfl) dX7_need_26 ?_
      refine g_top (z 83 0) (by simp [u2]) ?_
      refine g_aload_n hX 0 dX7_need_29 rfl ?_
      refine m_g_9 hX i_X7_need_wsX70 (List.mem_of_getElem? (i := 1) rfl) dX7_need_30 ?_
      refine g_top (0) (by simp [u2]) ?_
      refine g_if_eq hX 40 dX7_need_33 (by decide) (fun c4 => ?_) (fun c4 => ?_)
      · -- jump 40
        refine g_iconst hX 1 dX7_need_40 (by decide) ?_
        refine g_iadd hX dX7_need_41 ?_
        refine m_p_8 hX hA i_X7_need_wsX70 (List.mem_of_getElem? (i := 2) rfl) dX7_need_42 ?_
        refine ret _ _ _ dX7_need_45 ?_
        rw [needZ, if_pos hyes, e83]
      · -- on 36
        exact absurd c4 (by decide)
    · -- on 16
      have hno : ¬ (z 84 0 = 0 ∧ nxt z (spN z) = s) := fun h => c3 h.2
      refine g_iconst hX 1 dX7_need_16 (by decide) ?_
      refine g_goto hX 21 dX7_need_17 (by decide) ?_
      refine m_p_9 hX hA (Or.inr rfl) i_X7_need_wsX70 (List.mem_of_getElem? (i := 1) rfl) dX7_need_21 ?_
      refine g_aload_n hX 0 dX7_need_24 rfl ?_
      refine g_dup hX dX7_need_25 rfl ?_
      refine m_g_8 hX i_X7_need_wsX70 (List.mem_of_getElem? (i := 2) rfl) dX7_need_26 ?_
      refine g_top (z 83 0) (by simp [u2]) ?_
      refine g_aload_n hX 0 dX7_need_29 rfl ?_
      refine m_g_9 hX i_X7_need_wsX70 (List.mem_of_getElem? (i := 1) rfl) dX7_need_30 ?_
      refine g_top (1) (by simp [u2]) ?_
      refine g_if_eq hX 40 dX7_need_33 (by decide) (fun c5 => ?_) (fun c5 => ?_)
      · -- jump 40
        exact absurd c5 (by decide)
      · -- on 36
        refine g_iconst hX 0 dX7_need_36 (by decide) ?_
        refine g_goto hX 41 dX7_need_37 (by decide) ?_
        refine g_iadd hX dX7_need_41 ?_
        refine m_p_8 hX hA i_X7_need_wsX70 (List.mem_of_getElem? (i := 2) rfl) dX7_need_42 ?_
        refine ret _ _ _ dX7_need_45 ?_
        rw [needZ, if_neg hno, Int32.add_zero]
        exact u2_self (u2_ne (by omega))
def rm_X7_takeNumber : Room := { frames := 1, cells := 0, slots := 0, locals := 22 }
theorem i_X7_takeNumber_wsX70 : ∀ w ∈ wsX70, w ∈ wsX7_takeNumber := fun w h => List.mem_cons_of_mem _ (List.mem_append_right _ h)
theorem k_X7_takeNumber_X7_in : CS rm_X7_takeNumber wsX7_takeNumber RX7 35 yX7_in cX7_in 3 (some .boolean) wsX7_in rm_X7_in 3 := ⟨gX7_takeNumber_X7_in, ⟨_, rfl⟩, rfl, rfl, ⟨rfl, by decide +kernel, by decide +kernel, by decide +kernel⟩, by decide, by decide⟩
theorem k_X7_takeNumber_X7_next : CW rm_X7_takeNumber wsX7_takeNumber RX7 RX7 180 yX7_next cX7_next 1 (some .int) wsX7_next rm_X7_next 0 := ⟨gX7_takeNumber_X7_next, ⟨_, rfl⟩, rfl, rfl, ⟨rfl, by decide +kernel, by decide +kernel, by decide +kernel⟩, by decide, by decide⟩
set_option maxHeartbeats 4000000 in
set_option maxRecDepth 100000 in
theorem c_X7_takeNumber (l : Launch) (G : MG) (hA : Ap 9 G.2.2) (z : St) {lo : Int32} {hi : Int32} (hS : SP z) (hlo : 0 < 48 + lo) : CIm l G yX7_takeNumber wsX7_takeNumber rm_X7_takeNumber [.ref (G.2.2 0), .int lo, .int hi] z (fun ρ ζ => ρ = numR z lo hi ∧ ζ = numZ z lo hi) := by
  refine ci_of (own := RX7) (cc := cX7_takeNumber) (maxL := 4) (ret := .int) (by decide +kernel) rfl rfl ?_ (Nat.le_of_ble_eq_true rfl) (KQ_mv (ExM_mv G)) ?_
  · intro v z' _; rfl
  · intro X hX ret
    refine g_lv (lv' := [(0, .ref (G.2.2 0)), (1, .int lo), (2, .int hi)]) rfl ?_
    obtain ⟨e69, h60⟩ := pL hS.1
    have e83 := sp1 hS
    refine g_aload_n hX 0 dX7_takeNumber_0 rfl ?_
    refine g_aload_n hX 0 dX7_takeNumber_1 rfl ?_
    refine m_g_9 hX i_X7_takeNumber_wsX70 (List.mem_of_getElem? (i := 1) rfl) dX7_takeNumber_2 ?_
    refine g_if_ne hX 37 dX7_takeNumber_5 (by decide) (fun c1 => ?_) (fun c1 => ?_)
    · -- jump 37
      have hok : ¬ okN z lo hi := fun h => c1 h.1
      refine g_iconst hX 1 dX7_takeNumber_37 (by decide) ?_
      refine g_goto hX 42 dX7_takeNumber_38 (by decide) ?_
      refine m_p_9 hX hA (Or.inr rfl) i_X7_takeNumber_wsX70 (List.mem_of_getElem? (i := 1) rfl) dX7_takeNumber_42 ?_
      refine g_aload_n hX 0 dX7_takeNumber_45 rfl ?_
      refine m_g_9 hX i_X7_takeNumber_wsX70 (List.mem_of_getElem? (i := 1) rfl) dX7_takeNumber_46 ?_
      refine g_top (1) (by simp [u2]) ?_
      refine g_if_eq hX 54 dX7_takeNumber_49 (by decide) (fun c2 => ?_) (fun c2 => ?_)
      · -- jump 54
        exact absurd c2 (by decide)
      · -- on 52
        refine g_iconst hX 0 dX7_takeNumber_52 (by decide) ?_
        refine ret _ _ _ _ dX7_takeNumber_53 ?_
        rw [numR, numZ, if_neg hok, if_neg hok]
        exact ⟨rfl, rfl⟩
    · -- on 8
      have hw : z 84 0 = 0 := Decidable.not_not.mp c1
      refine g_aload_n hX 0 dX7_takeNumber_8 rfl ?_
      refine g_cvE hX (As := []) (rest := [.ref (G.2.2 0)]) (c_X7_next l G z  (hS := (by assumption))) k_X7_takeNumber_X7_next rc_Model rfl rfl (Nat.le_of_ble_eq_true rfl) dX7_takeNumber_9 ?_
      refine g_bipush hX 48 dX7_takeNumber_12 (by decide) ?_
      refine g_iload_n hX 1 dX7_takeNumber_14 rfl ?_
      refine g_iadd hX dX7_takeNumber_15 ?_
      refine g_iload_n hX 2 dX7_takeNumber_16 rfl ?_
      refine g_bipush hX 9 dX7_takeNumber_17 (by decide) ?_
      refine g_ic_ge hX 29 dX7_takeNumber_19 (by decide) (fun c3 => ?_) (fun c3 => ?_)
      · -- jump 29
        have h9 : ¬ hi < 9 := Int32.not_lt.mpr c3
        refine g_bipush hX 57 dX7_takeNumber_29 (by decide) ?_
        refine g_csE hX (As := [.int (nxt z (spN z)), .int (48 + lo), .int 57]) (rest := [.ref (G.2.2 0)]) (c_X7_in l G z (x := (nxt z (spN z))) (lo := (48 + lo)) (hi := 57) ) k_X7_takeNumber_X7_in rfl rfl (Nat.le_of_ble_eq_true rfl) dX7_takeNumber_31 ?_
        refine g_bi_ne hX 41 dX7_takeNumber_34 (by decide) (fun c4 => ?_) (fun c4 => ?_)
        · -- jump 41
          have hok : okN z lo hi := ⟨hw, c4.1, by first | (rw [if_pos h9]; exact c4.2) | (rw [if_neg h9]; exact c4.2)⟩
          have hin := okN_in hlo hok
          refine g_iconst hX 0 dX7_takeNumber_41 (by decide) ?_
          refine m_p_9 hX hA (Or.inl rfl) i_X7_takeNumber_wsX70 (List.mem_of_getElem? (i := 1) rfl) dX7_takeNumber_42 ?_
          refine g_aload_n hX 0 dX7_takeNumber_45 rfl ?_
          refine m_g_9 hX i_X7_takeNumber_wsX70 (List.mem_of_getElem? (i := 1) rfl) dX7_takeNumber_46 ?_
          refine g_top (0) (by simp [u2]) ?_
          refine g_if_eq hX 54 dX7_takeNumber_49 (by decide) (fun c5 => ?_) (fun c5 => ?_)
          · -- jump 54
            refine g_aload_n hX 0 dX7_takeNumber_54 rfl ?_
            refine g_cvE hX (As := []) (rest := []) (c_X7_next l G (u2 z 84 0 0)  (hS := (SP_w hS))) k_X7_takeNumber_X7_next rc_Model rfl rfl (Nat.le_of_ble_eq_true rfl) dX7_takeNumber_55 ?_
            refine g_top (nxt z (spN z)) (nxt_w z 0) ?_
            refine g_bipush hX 48 dX7_takeNumber_58 (by decide) ?_
            refine g_isub hX dX7_takeNumber_60 ?_
            refine g_istore_n hX [(3, .int ((nxt z (spN z)) - 48)), (0, .ref (G.2.2 0)), (1, .int lo), (2, .int hi)] dX7_takeNumber_61 (by decide) rfl ?_
            refine g_aload_n hX 1 dX7_takeNumber_62 rfl ?_
            refine g_dup hX dX7_takeNumber_63 rfl ?_
            refine m_g_8 hX i_X7_takeNumber_wsX70 (List.mem_of_getElem? (i := 2) rfl) dX7_takeNumber_64 ?_
            refine g_top (z 83 0) (by simp [u2]) ?_
            refine g_iconst hX 1 dX7_takeNumber_67 (by decide) ?_
            refine g_iadd hX dX7_takeNumber_68 ?_
            refine m_p_8 hX hA i_X7_takeNumber_wsX70 (List.mem_of_getElem? (i := 2) rfl) dX7_takeNumber_69 ?_
            refine g_z (z2 := u2 (u2 z 84 0 0) 83 0 (nI (spN z + 1))) (by rw [e83]) ?_
            have loop72 : ∀ (nf : Nat) (f : Nat) (v : Int32) (p : Nat), (f < nf) → (p ≤ lenN z) → (61 ≤ f + p) → (numM z hi f v p = numM z hi 61 (nxt z (spN z) - 48) (spN z + 1)) → Go X (u2 (u2 z 84 0 0) 83 0 (nI p)) 72 [(0, .ref (G.2.2 0)), (1, .int lo), (2, .int hi), (3, .int v)] [] := by
              intro nf
              induction nf with
              | zero =>
                intro f v p hmu hp hf hr
                exfalso; omega
              | succ nf ih =>
                intro f v p hmu hp hf hr
                refine g_iload_n hX 3 dX7_takeNumber_72 rfl ?_
                refine g_if_le hX 132 dX7_takeNumber_73 (by decide) (fun c6 => ?_) (fun c6 => ?_)
                · -- jump 132
                  have hx : ¬ (0 < v ∧ (48 ≤ nxt z p ∧ nxt z p ≤ 57) ∧ ¬ hi < 10 * v + nxt z p - 48) := fun h => absurd h.1 (Int32.not_lt.mpr c6)
                  refine g_iload_n hX 3 dX7_takeNumber_132 rfl ?_
                  refine ret _ _ _ _ dX7_takeNumber_133 ?_
                  have e : numM z hi f v p = (v, p) := by
                    obtain ⟨m, rfl⟩ : ∃ m, f = m + 1 := ⟨f - 1, by omega⟩
                    rw [numM, if_neg hx]
                  rw [numR, numZ, if_pos hok, if_pos hok, ← hr, e]
                  exact ⟨rfl, rfl⟩
                · -- on 76
                  have hv : 0 < v := Int32.not_le.mp c6
                  refine g_aload_n hX 0 dX7_takeNumber_76 rfl ?_
                  refine g_cvE hX (As := []) (rest := []) (c_X7_next l G (u2 (u2 z 84 0 0) 83 0 (nI p))  (hS := (SP_p hS hp))) k_X7_takeNumber_X7_next rc_Model rfl rfl (Nat.le_of_ble_eq_true rfl) dX7_takeNumber_77 ?_
                  refine g_top (nxt z p) (nxt_p hS hp) ?_
                  refine g_bipush hX 48 dX7_takeNumber_80 (by decide) ?_
                  refine g_bipush hX 57 dX7_takeNumber_82 (by decide) ?_
                  refine g_csE hX (As := [.int (nxt z p), .int 48, .int 57]) (rest := []) (c_X7_in l G (u2 (u2 z 84 0 0) 83 0 (nI p)) (x := (nxt z p)) (lo := 48) (hi := 57) ) k_X7_takeNumber_X7_in rfl rfl (Nat.le_of_ble_eq_true rfl) dX7_takeNumber_84 ?_
                  refine g_bi_eq hX 132 dX7_takeNumber_87 (by decide) (fun c7 => ?_) (fun c7 => ?_)
                  · -- jump 132
                    have hx : ¬ (0 < v ∧ (48 ≤ nxt z p ∧ nxt z p ≤ 57) ∧ ¬ hi < 10 * v + nxt z p - 48) := fun h => c7 h.2.1
                    refine g_iload_n hX 3 dX7_takeNumber_132 rfl ?_
                    refine ret _ _ _ _ dX7_takeNumber_133 ?_
                    have e : numM z hi f v p = (v, p) := by
                      obtain ⟨m, rfl⟩ : ∃ m, f = m + 1 := ⟨f - 1, by omega⟩
                      rw [numM, if_neg hx]
                    rw [numR, numZ, if_pos hok, if_pos hok, ← hr, e]
                    exact ⟨rfl, rfl⟩
                  · -- on 90
                    have hd : 48 ≤ nxt z p ∧ nxt z p ≤ 57 := c7
                    refine g_bipush hX 10 dX7_takeNumber_90 (by decide) ?_
                    refine g_iload_n hX 3 dX7_takeNumber_92 rfl ?_
                    refine g_imul hX dX7_takeNumber_93 ?_
                    refine g_aload_n hX 0 dX7_takeNumber_94 rfl ?_
                    refine g_cvE hX (As := []) (rest := [.int (10 * v)]) (c_X7_next l G (u2 (u2 z 84 0 0) 83 0 (nI p))  (hS := (SP_p hS hp))) k_X7_takeNumber_X7_next rc_Model rfl rfl (Nat.le_of_ble_eq_true rfl) dX7_takeNumber_95 ?_
                    refine g_top (nxt z p) (nxt_p hS hp) ?_
                    refine g_iadd hX dX7_takeNumber_98 ?_
                    refine g_bipush hX 48 dX7_takeNumber_99 (by decide) ?_
                    refine g_isub hX dX7_takeNumber_101 ?_
                    refine g_iload_n hX 2 dX7_takeNumber_102 rfl ?_
                    refine g_ic_gt hX 132 dX7_takeNumber_103 (by decide) (fun c8 => ?_) (fun c8 => ?_)
                    · -- jump 132
                      have hx : ¬ (0 < v ∧ (48 ≤ nxt z p ∧ nxt z p ≤ 57) ∧ ¬ hi < 10 * v + nxt z p - 48) := fun h => h.2.2 c8
                      refine g_iload_n hX 3 dX7_takeNumber_132 rfl ?_
                      refine ret _ _ _ _ dX7_takeNumber_133 ?_
                      have e : numM z hi f v p = (v, p) := by
                        obtain ⟨m, rfl⟩ : ∃ m, f = m + 1 := ⟨f - 1, by omega⟩
                        rw [numM, if_neg hx]
                      rw [numR, numZ, if_pos hok, if_pos hok, ← hr, e]
                      exact ⟨rfl, rfl⟩
                    · -- on 106
                      have hh : ¬ hi < 10 * v + nxt z p - 48 := c8
                      refine g_bipush hX 10 dX7_takeNumber_106 (by decide) ?_
                      refine g_iload_n hX 3 dX7_takeNumber_108 rfl ?_
                      refine g_imul hX dX7_takeNumber_109 ?_
                      refine g_aload_n hX 0 dX7_takeNumber_110 rfl ?_
                      refine g_cvE hX (As := []) (rest := [.int (10 * v)]) (c_X7_next l G (u2 (u2 z 84 0 0) 83 0 (nI p))  (hS := (SP_p hS hp))) k_X7_takeNumber_X7_next rc_Model rfl rfl (Nat.le_of_ble_eq_true rfl) dX7_takeNumber_111 ?_
                      refine g_top (nxt z p) (nxt_p hS hp) ?_
                      refine g_iadd hX dX7_takeNumber_114 ?_
                      refine g_bipush hX 48 dX7_takeNumber_115 (by decide) ?_
                      refine g_isub hX dX7_takeNumber_117 ?_
                      refine g_istore_n hX [(3, .int (((10 * v) + (nxt z p)) - 48)), (0, .ref (G.2.2 0)), (1, .int lo), (2, .int hi)] dX7_takeNumber_118 (by decide) rfl ?_
                      refine g_aload_n hX 1 dX7_takeNumber_119 rfl ?_
                      refine g_dup hX dX7_takeNumber_120 rfl ?_
                      refine m_g_8 hX i_X7_takeNumber_wsX70 (List.mem_of_getElem? (i := 2) rfl) dX7_takeNumber_121 ?_
                      refine g_top (nI p) (by simp [u2]) ?_
                      refine g_iconst hX 1 dX7_takeNumber_124 (by decide) ?_
                      refine g_iadd hX dX7_takeNumber_125 ?_
                      refine m_p_8 hX hA i_X7_takeNumber_wsX70 (List.mem_of_getElem? (i := 2) rfl) dX7_takeNumber_126 ?_
                      refine g_z (z2 := u2 (u2 z 84 0 0) 83 0 (nI (p + 1))) (by rw [u2_u2, nI_1]) ?_
                      refine g_goto hX 72 dX7_takeNumber_129 (by decide) ?_
                      -- back to 72
                      refine g_sub [1, 2, 3, 0] [(0, .ref (G.2.2 0)), (1, .int lo), (2, .int hi), (3, .int (((10 * v) + (nxt z p)) - 48))] rfl ?_
                      exact ih (f - 1) (10 * v + nxt z p - 48) (p + 1) (by omega) (by have := nxt_in (z := z) (p := p) (fun e => by rw [e] at hd; exact absurd hd.1 (by decide)); omega) (by omega) (by rw [← hr]; obtain ⟨m, rfl⟩ : ∃ m, f = m + 1 := ⟨f - 1, by omega⟩; rw [Nat.add_sub_cancel]; conv => rhs; rw [numM, if_pos ⟨hv, hd, hh⟩])
            refine g_sub [1, 2, 3, 0] [(0, .ref (G.2.2 0)), (1, .int lo), (2, .int hi), (3, .int ((nxt z (spN z)) - 48))] rfl ?_
            exact loop72 62 61 (nxt z (spN z) - 48) (spN z + 1) (by omega) (by omega) (by omega) rfl
          · -- on 52
            exact absurd c5 (by decide)
        · -- on 37
          have hok : ¬ okN z lo hi := fun h => c4 ⟨h.2.1, by have h2 := h.2.2; first | (rw [if_pos h9] at h2; exact h2) | (rw [if_neg h9] at h2; exact h2)⟩
          refine g_iconst hX 1 dX7_takeNumber_37 (by decide) ?_
          refine g_goto hX 42 dX7_takeNumber_38 (by decide) ?_
          refine m_p_9 hX hA (Or.inr rfl) i_X7_takeNumber_wsX70 (List.mem_of_getElem? (i := 1) rfl) dX7_takeNumber_42 ?_
          refine g_aload_n hX 0 dX7_takeNumber_45 rfl ?_
          refine m_g_9 hX i_X7_takeNumber_wsX70 (List.mem_of_getElem? (i := 1) rfl) dX7_takeNumber_46 ?_
          refine g_top (1) (by simp [u2]) ?_
          refine g_if_eq hX 54 dX7_takeNumber_49 (by decide) (fun c9 => ?_) (fun c9 => ?_)
          · -- jump 54
            exact absurd c9 (by decide)
          · -- on 52
            refine g_iconst hX 0 dX7_takeNumber_52 (by decide) ?_
            refine ret _ _ _ _ dX7_takeNumber_53 ?_
            rw [numR, numZ, if_neg hok, if_neg hok]
            exact ⟨rfl, rfl⟩
      · -- on 22
        have h9 : hi < 9 := Int32.not_le.mp c3
        refine g_bipush hX 48 dX7_takeNumber_22 (by decide) ?_
        refine g_iload_n hX 2 dX7_takeNumber_24 rfl ?_
        refine g_iadd hX dX7_takeNumber_25 ?_
        refine g_goto hX 31 dX7_takeNumber_26 (by decide) ?_
        refine g_csE hX (As := [.int (nxt z (spN z)), .int (48 + lo), .int (48 + hi)]) (rest := [.ref (G.2.2 0)]) (c_X7_in l G z (x := (nxt z (spN z))) (lo := (48 + lo)) (hi := (48 + hi)) ) k_X7_takeNumber_X7_in rfl rfl (Nat.le_of_ble_eq_true rfl) dX7_takeNumber_31 ?_
        refine g_bi_ne hX 41 dX7_takeNumber_34 (by decide) (fun c10 => ?_) (fun c10 => ?_)
        · -- jump 41
          have hok : okN z lo hi := ⟨hw, c10.1, by first | (rw [if_pos h9]; exact c10.2) | (rw [if_neg h9]; exact c10.2)⟩
          have hin := okN_in hlo hok
          refine g_iconst hX 0 dX7_takeNumber_41 (by decide) ?_
          refine m_p_9 hX hA (Or.inl rfl) i_X7_takeNumber_wsX70 (List.mem_of_getElem? (i := 1) rfl) dX7_takeNumber_42 ?_
          refine g_aload_n hX 0 dX7_takeNumber_45 rfl ?_
          refine m_g_9 hX i_X7_takeNumber_wsX70 (List.mem_of_getElem? (i := 1) rfl) dX7_takeNumber_46 ?_
          refine g_top (0) (by simp [u2]) ?_
          refine g_if_eq hX 54 dX7_takeNumber_49 (by decide) (fun c11 => ?_) (fun c11 => ?_)
          · -- jump 54
            refine g_aload_n hX 0 dX7_takeNumber_54 rfl ?_
            refine g_cvE hX (As := []) (rest := []) (c_X7_next l G (u2 z 84 0 0)  (hS := (SP_w hS))) k_X7_takeNumber_X7_next rc_Model rfl rfl (Nat.le_of_ble_eq_true rfl) dX7_takeNumber_55 ?_
            refine g_top (nxt z (spN z)) (nxt_w z 0) ?_
            refine g_bipush hX 48 dX7_takeNumber_58 (by decide) ?_
            refine g_isub hX dX7_takeNumber_60 ?_
            refine g_istore_n hX [(3, .int ((nxt z (spN z)) - 48)), (0, .ref (G.2.2 0)), (1, .int lo), (2, .int hi)] dX7_takeNumber_61 (by decide) rfl ?_
            refine g_aload_n hX 1 dX7_takeNumber_62 rfl ?_
            refine g_dup hX dX7_takeNumber_63 rfl ?_
            refine m_g_8 hX i_X7_takeNumber_wsX70 (List.mem_of_getElem? (i := 2) rfl) dX7_takeNumber_64 ?_
            refine g_top (z 83 0) (by simp [u2]) ?_
            refine g_iconst hX 1 dX7_takeNumber_67 (by decide) ?_
            refine g_iadd hX dX7_takeNumber_68 ?_
            refine m_p_8 hX hA i_X7_takeNumber_wsX70 (List.mem_of_getElem? (i := 2) rfl) dX7_takeNumber_69 ?_
            refine g_z (z2 := u2 (u2 z 84 0 0) 83 0 (nI (spN z + 1))) (by rw [e83]) ?_
            have loop72 : ∀ (nf : Nat) (f : Nat) (v : Int32) (p : Nat), (f < nf) → (p ≤ lenN z) → (61 ≤ f + p) → (numM z hi f v p = numM z hi 61 (nxt z (spN z) - 48) (spN z + 1)) → Go X (u2 (u2 z 84 0 0) 83 0 (nI p)) 72 [(0, .ref (G.2.2 0)), (1, .int lo), (2, .int hi), (3, .int v)] [] := by
              intro nf
              induction nf with
              | zero =>
                intro f v p hmu hp hf hr
                exfalso; omega
              | succ nf ih =>
                intro f v p hmu hp hf hr
                refine g_iload_n hX 3 dX7_takeNumber_72 rfl ?_
                refine g_if_le hX 132 dX7_takeNumber_73 (by decide) (fun c12 => ?_) (fun c12 => ?_)
                · -- jump 132
                  have hx : ¬ (0 < v ∧ (48 ≤ nxt z p ∧ nxt z p ≤ 57) ∧ ¬ hi < 10 * v + nxt z p - 48) := fun h => absurd h.1 (Int32.not_lt.mpr c12)
                  refine g_iload_n hX 3 dX7_takeNumber_132 rfl ?_
                  refine ret _ _ _ _ dX7_takeNumber_133 ?_
                  have e : numM z hi f v p = (v, p) := by
                    obtain ⟨m, rfl⟩ : ∃ m, f = m + 1 := ⟨f - 1, by omega⟩
                    rw [numM, if_neg hx]
                  rw [numR, numZ, if_pos hok, if_pos hok, ← hr, e]
                  exact ⟨rfl, rfl⟩
                · -- on 76
                  have hv : 0 < v := Int32.not_le.mp c12
                  refine g_aload_n hX 0 dX7_takeNumber_76 rfl ?_
                  refine g_cvE hX (As := []) (rest := []) (c_X7_next l G (u2 (u2 z 84 0 0) 83 0 (nI p))  (hS := (SP_p hS hp))) k_X7_takeNumber_X7_next rc_Model rfl rfl (Nat.le_of_ble_eq_true rfl) dX7_takeNumber_77 ?_
                  refine g_top (nxt z p) (nxt_p hS hp) ?_
                  refine g_bipush hX 48 dX7_takeNumber_80 (by decide) ?_
                  refine g_bipush hX 57 dX7_takeNumber_82 (by decide) ?_
                  refine g_csE hX (As := [.int (nxt z p), .int 48, .int 57]) (rest := []) (c_X7_in l G (u2 (u2 z 84 0 0) 83 0 (nI p)) (x := (nxt z p)) (lo := 48) (hi := 57) ) k_X7_takeNumber_X7_in rfl rfl (Nat.le_of_ble_eq_true rfl) dX7_takeNumber_84 ?_
                  refine g_bi_eq hX 132 dX7_takeNumber_87 (by decide) (fun c13 => ?_) (fun c13 => ?_)
                  · -- jump 132
                    have hx : ¬ (0 < v ∧ (48 ≤ nxt z p ∧ nxt z p ≤ 57) ∧ ¬ hi < 10 * v + nxt z p - 48) := fun h => c13 h.2.1
                    refine g_iload_n hX 3 dX7_takeNumber_132 rfl ?_
                    refine ret _ _ _ _ dX7_takeNumber_133 ?_
                    have e : numM z hi f v p = (v, p) := by
                      obtain ⟨m, rfl⟩ : ∃ m, f = m + 1 := ⟨f - 1, by omega⟩
                      rw [numM, if_neg hx]
                    rw [numR, numZ, if_pos hok, if_pos hok, ← hr, e]
                    exact ⟨rfl, rfl⟩
                  · -- on 90
                    have hd : 48 ≤ nxt z p ∧ nxt z p ≤ 57 := c13
                    refine g_bipush hX 10 dX7_takeNumber_90 (by decide) ?_
                    refine g_iload_n hX 3 dX7_takeNumber_92 rfl ?_
                    refine g_imul hX dX7_takeNumber_93 ?_
                    refine g_aload_n hX 0 dX7_takeNumber_94 rfl ?_
                    refine g_cvE hX (As := []) (rest := [.int (10 * v)]) (c_X7_next l G (u2 (u2 z 84 0 0) 83 0 (nI p))  (hS := (SP_p hS hp))) k_X7_takeNumber_X7_next rc_Model rfl rfl (Nat.le_of_ble_eq_true rfl) dX7_takeNumber_95 ?_
                    refine g_top (nxt z p) (nxt_p hS hp) ?_
                    refine g_iadd hX dX7_takeNumber_98 ?_
                    refine g_bipush hX 48 dX7_takeNumber_99 (by decide) ?_
                    refine g_isub hX dX7_takeNumber_101 ?_
                    refine g_iload_n hX 2 dX7_takeNumber_102 rfl ?_
                    refine g_ic_gt hX 132 dX7_takeNumber_103 (by decide) (fun c14 => ?_) (fun c14 => ?_)
                    · -- jump 132
                      have hx : ¬ (0 < v ∧ (48 ≤ nxt z p ∧ nxt z p ≤ 57) ∧ ¬ hi < 10 * v + nxt z p - 48) := fun h => h.2.2 c14
                      refine g_iload_n hX 3 dX7_takeNumber_132 rfl ?_
                      refine ret _ _ _ _ dX7_takeNumber_133 ?_
                      have e : numM z hi f v p = (v, p) := by
                        obtain ⟨m, rfl⟩ : ∃ m, f = m + 1 := ⟨f - 1, by omega⟩
                        rw [numM, if_neg hx]
                      rw [numR, numZ, if_pos hok, if_pos hok, ← hr, e]
                      exact ⟨rfl, rfl⟩
                    · -- on 106
                      have hh : ¬ hi < 10 * v + nxt z p - 48 := c14
                      refine g_bipush hX 10 dX7_takeNumber_106 (by decide) ?_
                      refine g_iload_n hX 3 dX7_takeNumber_108 rfl ?_
                      refine g_imul hX dX7_takeNumber_109 ?_
                      refine g_aload_n hX 0 dX7_takeNumber_110 rfl ?_
                      refine g_cvE hX (As := []) (rest := [.int (10 * v)]) (c_X7_next l G (u2 (u2 z 84 0 0) 83 0 (nI p))  (hS := (SP_p hS hp))) k_X7_takeNumber_X7_next rc_Model rfl rfl (Nat.le_of_ble_eq_true rfl) dX7_takeNumber_111 ?_
                      refine g_top (nxt z p) (nxt_p hS hp) ?_
                      refine g_iadd hX dX7_takeNumber_114 ?_
                      refine g_bipush hX 48 dX7_takeNumber_115 (by decide) ?_
                      refine g_isub hX dX7_takeNumber_117 ?_
                      refine g_istore_n hX [(3, .int (((10 * v) + (nxt z p)) - 48)), (0, .ref (G.2.2 0)), (1, .int lo), (2, .int hi)] dX7_takeNumber_118 (by decide) rfl ?_
                      refine g_aload_n hX 1 dX7_takeNumber_119 rfl ?_
                      refine g_dup hX dX7_takeNumber_120 rfl ?_
                      refine m_g_8 hX i_X7_takeNumber_wsX70 (List.mem_of_getElem? (i := 2) rfl) dX7_takeNumber_121 ?_
                      refine g_top (nI p) (by simp [u2]) ?_
                      refine g_iconst hX 1 dX7_takeNumber_124 (by decide) ?_
                      refine g_iadd hX dX7_takeNumber_125 ?_
                      refine m_p_8 hX hA i_X7_takeNumber_wsX70 (List.mem_of_getElem? (i := 2) rfl) dX7_takeNumber_126 ?_
                      refine g_z (z2 := u2 (u2 z 84 0 0) 83 0 (nI (p + 1))) (by rw [u2_u2, nI_1]) ?_
                      refine g_goto hX 72 dX7_takeNumber_129 (by decide) ?_
                      -- back to 72
                      refine g_sub [1, 2, 3, 0] [(0, .ref (G.2.2 0)), (1, .int lo), (2, .int hi), (3, .int (((10 * v) + (nxt z p)) - 48))] rfl ?_
                      exact ih (f - 1) (10 * v + nxt z p - 48) (p + 1) (by omega) (by have := nxt_in (z := z) (p := p) (fun e => by rw [e] at hd; exact absurd hd.1 (by decide)); omega) (by omega) (by rw [← hr]; obtain ⟨m, rfl⟩ : ∃ m, f = m + 1 := ⟨f - 1, by omega⟩; rw [Nat.add_sub_cancel]; conv => rhs; rw [numM, if_pos ⟨hv, hd, hh⟩])
            refine g_sub [1, 2, 3, 0] [(0, .ref (G.2.2 0)), (1, .int lo), (2, .int hi), (3, .int ((nxt z (spN z)) - 48))] rfl ?_
            exact loop72 62 61 (nxt z (spN z) - 48) (spN z + 1) (by omega) (by omega) (by omega) rfl
          · -- on 52
            exact absurd c11 (by decide)
        · -- on 37
          have hok : ¬ okN z lo hi := fun h => c10 ⟨h.2.1, by have h2 := h.2.2; first | (rw [if_pos h9] at h2; exact h2) | (rw [if_neg h9] at h2; exact h2)⟩
          refine g_iconst hX 1 dX7_takeNumber_37 (by decide) ?_
          refine g_goto hX 42 dX7_takeNumber_38 (by decide) ?_
          refine m_p_9 hX hA (Or.inr rfl) i_X7_takeNumber_wsX70 (List.mem_of_getElem? (i := 1) rfl) dX7_takeNumber_42 ?_
          refine g_aload_n hX 0 dX7_takeNumber_45 rfl ?_
          refine m_g_9 hX i_X7_takeNumber_wsX70 (List.mem_of_getElem? (i := 1) rfl) dX7_takeNumber_46 ?_
          refine g_top (1) (by simp [u2]) ?_
          refine g_if_eq hX 54 dX7_takeNumber_49 (by decide) (fun c15 => ?_) (fun c15 => ?_)
          · -- jump 54
            exact absurd c15 (by decide)
          · -- on 52
            refine g_iconst hX 0 dX7_takeNumber_52 (by decide) ?_
            refine ret _ _ _ _ dX7_takeNumber_53 ?_
            rw [numR, numZ, if_neg hok, if_neg hok]
            exact ⟨rfl, rfl⟩
def rm_X7_takeApplication : Room := { frames := 2, cells := 0, slots := 0, locals := 45 }
theorem i_X7_takeApplication_wsX70 : ∀ w ∈ wsX70, w ∈ wsX7_takeApplication := fun w h => List.mem_cons_of_mem _ (List.mem_append_right _ h)
theorem k_X7_takeApplication_X7_need : CW rm_X7_takeApplication wsX7_takeApplication RX7 RX7 186 yX7_need cX7_need 2 none wsX7_need rm_X7_need 1 := ⟨gX7_takeApplication_X7_need, ⟨_, rfl⟩, rfl, rfl, ⟨rfl, by decide +kernel, by decide +kernel, by decide +kernel⟩, by decide, by decide⟩
theorem k_X7_takeApplication_X7_next : CW rm_X7_takeApplication wsX7_takeApplication RX7 RX7 180 yX7_next cX7_next 1 (some .int) wsX7_next rm_X7_next 0 := ⟨gX7_takeApplication_X7_next, ⟨_, rfl⟩, rfl, rfl, ⟨rfl, by decide +kernel, by decide +kernel, by decide +kernel⟩, by decide, by decide⟩
theorem k_X7_takeApplication_X7_takeNumber : CW rm_X7_takeApplication wsX7_takeApplication RX7 RX7 189 yX7_takeNumber cX7_takeNumber 4 (some .int) wsX7_takeNumber rm_X7_takeNumber 2 := ⟨gX7_takeApplication_X7_takeNumber, ⟨_, rfl⟩, rfl, rfl, ⟨rfl, by decide +kernel, by decide +kernel, by decide +kernel⟩, by decide, by decide⟩
set_option maxHeartbeats 4000000 in
set_option maxRecDepth 100000 in
theorem c_X7_takeApplication (l : Launch) (G : MG) (hA : Ap 9 G.2.2) (z : St)  (hS : SP z) (hm : z 86 0 = nI (cn (z 86 0)) ∧ cn (z 86 0) ≤ 8) : CVm l G yX7_takeApplication wsX7_takeApplication rm_X7_takeApplication [.ref (G.2.2 0)] z (fun ζ => ζ = tA z) := by
  refine cv_of (own := RX7) (cc := cX7_takeApplication) (maxL := 2) (by decide +kernel) rfl rfl (Nat.le_of_ble_eq_true rfl) (KQ_mv (ExM_mv G)) ?_
  intro X hX ret
  refine g_lv (lv' := [(0, .ref (G.2.2 0))]) rfl ?_
  obtain ⟨h86, h8⟩ := hm
  have S4 := SP_tA4 hS (cn (z 86 0))
  refine g_iconst hX 4 dX7_takeApplication_0 (by decide) ?_
  refine g_aload_n hX 0 dX7_takeApplication_1 rfl ?_
  refine m_g_11 hX i_X7_takeApplication_wsX70 (List.mem_of_getElem? (i := 1) rfl) dX7_takeApplication_2 ?_
  refine g_imul hX dX7_takeApplication_5 ?_
  refine g_istore_n hX [(1, .int (4 * (z 86 0))), (0, .ref (G.2.2 0))] dX7_takeApplication_6 (by decide) rfl ?_
  refine g_lv (lv' := [(1, .int (nI (4 * cn (z 86 0)))), (0, .ref (G.2.2 0))]) (by rw [← (show (4 * (z 86 0)) = (nI (4 * cn (z 86 0))) from mul4 h86)]) ?_
  refine g_aload_n hX 1 dX7_takeApplication_7 rfl ?_
  refine g_bipush hX 99 dX7_takeApplication_8 (by decide) ?_
  refine g_cvvE hX (As := [.int 99]) (rest := []) (c_X7_need l G hA z (s := 99) (hS := hS)) k_X7_takeApplication_X7_need rc_Model rfl rfl (Nat.le_of_ble_eq_true rfl) dX7_takeApplication_10 ?_
  refine g_aload_n hX 1 dX7_takeApplication_13 rfl ?_
  refine m_g_10 hX i_X7_takeApplication_wsX70 (List.mem_of_getElem? (i := 2) rfl) dX7_takeApplication_14 ?_
  refine g_iload_n hX 0 dX7_takeApplication_17 rfl ?_
  refine g_aload_n hX 1 dX7_takeApplication_18 rfl ?_
  refine g_iconst hX 0 dX7_takeApplication_19 (by decide) ?_
  refine g_bipush hX 11 dX7_takeApplication_20 (by decide) ?_
  refine g_cvE hX (As := [.int 0, .int 11]) (rest := [.int (nI (4 * cn (z 86 0))), .ref (G.2.2 8)]) (c_X7_takeNumber l G hA (needZ z 99) (lo := 0) (hi := 11) (hS := (SP_need hS (by decide))) (hlo := (by decide))) k_X7_takeApplication_X7_takeNumber rc_Model rfl rfl (Nat.le_of_ble_eq_true rfl) dX7_takeApplication_22 ?_
  refine m_st_read hX hA (4 * cn (z 86 0)) rfl (by omega) dX7_takeApplication_25 ?_
  refine g_aload_n hX 1 dX7_takeApplication_26 rfl ?_
  refine g_z (z2 := rdN z 99 0 11 (4 * cn (z 86 0))) (rfl) ?_
  refine g_bipush hX 114 dX7_takeApplication_27 (by decide) ?_
  refine g_cvvE hX (As := [.int 114]) (rest := []) (c_X7_need l G hA (rdN z 99 0 11 (4 * cn (z 86 0))) (s := 114) (hS := (SP_rd hS (by decide) (by decide) _))) k_X7_takeApplication_X7_need rc_Model rfl rfl (Nat.le_of_ble_eq_true rfl) dX7_takeApplication_29 ?_
  refine g_aload_n hX 1 dX7_takeApplication_32 rfl ?_
  refine m_g_10 hX i_X7_takeApplication_wsX70 (List.mem_of_getElem? (i := 2) rfl) dX7_takeApplication_33 ?_
  refine g_iload_n hX 0 dX7_takeApplication_36 rfl ?_
  refine g_iconst hX 1 dX7_takeApplication_37 (by decide) ?_
  refine g_iadd hX dX7_takeApplication_38 ?_
  refine g_aload_n hX 1 dX7_takeApplication_39 rfl ?_
  refine g_iconst hX 0 dX7_takeApplication_40 (by decide) ?_
  refine g_iconst hX 5 dX7_takeApplication_41 (by decide) ?_
  refine g_cvE hX (As := [.int 0, .int 5]) (rest := [.int ((nI (4 * cn (z 86 0))) + 1), .ref (G.2.2 8)]) (c_X7_takeNumber l G hA (needZ (rdN z 99 0 11 (4 * cn (z 86 0))) 114) (lo := 0) (hi := 5) (hS := (SP_need (SP_rd hS (by decide) (by decide) _) (by decide))) (hlo := (by decide))) k_X7_takeApplication_X7_takeNumber rc_Model rfl rfl (Nat.le_of_ble_eq_true rfl) dX7_takeApplication_42 ?_
  refine m_st_read hX hA (4 * cn (z 86 0) + 1) (nI_1 _) (by omega) dX7_takeApplication_45 ?_
  refine g_z (z2 := rdN (rdN z 99 0 11 (4 * cn (z 86 0))) 114 0 5 (4 * cn (z 86 0) + 1)) (rfl) ?_
  refine g_aload_n hX 1 dX7_takeApplication_46 rfl ?_
  refine g_bipush hX 100 dX7_takeApplication_47 (by decide) ?_
  refine g_cvvE hX (As := [.int 100]) (rest := []) (c_X7_need l G hA (rdN (rdN z 99 0 11 (4 * cn (z 86 0))) 114 0 5 (4 * cn (z 86 0) + 1)) (s := 100) (hS := (SP_rd (SP_rd hS (by decide) (by decide) _) (by decide) (by decide) _))) k_X7_takeApplication_X7_need rc_Model rfl rfl (Nat.le_of_ble_eq_true rfl) dX7_takeApplication_49 ?_
  refine g_aload_n hX 1 dX7_takeApplication_52 rfl ?_
  refine m_g_10 hX i_X7_takeApplication_wsX70 (List.mem_of_getElem? (i := 2) rfl) dX7_takeApplication_53 ?_
  refine g_iload_n hX 0 dX7_takeApplication_56 rfl ?_
  refine g_iconst hX 2 dX7_takeApplication_57 (by decide) ?_
  refine g_iadd hX dX7_takeApplication_58 ?_
  refine g_aload_n hX 1 dX7_takeApplication_59 rfl ?_
  refine g_iconst hX 0 dX7_takeApplication_60 (by decide) ?_
  refine g_bipush hX 59 dX7_takeApplication_61 (by decide) ?_
  refine g_cvE hX (As := [.int 0, .int 59]) (rest := [.int ((nI (4 * cn (z 86 0))) + 2), .ref (G.2.2 8)]) (c_X7_takeNumber l G hA (needZ (rdN (rdN z 99 0 11 (4 * cn (z 86 0))) 114 0 5 (4 * cn (z 86 0) + 1)) 100) (lo := 0) (hi := 59) (hS := (SP_need (SP_rd (SP_rd hS (by decide) (by decide) _) (by decide) (by decide) _) (by decide))) (hlo := (by decide))) k_X7_takeApplication_X7_takeNumber rc_Model rfl rfl (Nat.le_of_ble_eq_true rfl) dX7_takeApplication_63 ?_
  refine m_st_read hX hA (4 * cn (z 86 0) + 2) (nI_add _ 2) (by omega) dX7_takeApplication_66 ?_
  refine g_z (z2 := tA3 z (cn (z 86 0))) (rfl) ?_
  refine g_aload_n hX 1 dX7_takeApplication_67 rfl ?_
  refine m_g_10 hX i_X7_takeApplication_wsX70 (List.mem_of_getElem? (i := 2) rfl) dX7_takeApplication_68 ?_
  refine g_iload_n hX 0 dX7_takeApplication_71 rfl ?_
  refine g_iconst hX 3 dX7_takeApplication_72 (by decide) ?_
  refine g_iadd hX dX7_takeApplication_73 ?_
  refine g_iconst hX 1 dX7_takeApplication_74 (by decide) ?_
  refine m_st_read hX hA (4 * cn (z 86 0) + 3) (nI_add _ 3) (by omega) dX7_takeApplication_75 ?_
  refine g_z (z2 := tA4 z (cn (z 86 0))) (rfl) ?_
  refine g_aload_n hX 1 dX7_takeApplication_76 rfl ?_
  refine m_g_9 hX i_X7_takeApplication_wsX70 (List.mem_of_getElem? (i := 3) rfl) dX7_takeApplication_77 ?_
  refine g_if_ne hX 116 dX7_takeApplication_80 (by decide) (fun c1 => ?_) (fun c1 => ?_)
  · -- jump 116
    have hno : ¬ (tA4 z (cn (z 86 0)) 84 0 = 0 ∧ nxt (tA4 z (cn (z 86 0))) (spN (tA4 z (cn (z 86 0)))) = 120) := fun h => c1 h.1
    refine g_z (z2 := tAx (tA4 z (cn (z 86 0))) (cn (z 86 0))) (by rw [tAx, if_neg hno]) ?_
    refine g_aload_n hX 1 dX7_takeApplication_116 rfl ?_
    refine g_dup hX dX7_takeApplication_117 rfl ?_
    refine m_g_11 hX i_X7_takeApplication_wsX70 (List.mem_of_getElem? (i := 1) rfl) dX7_takeApplication_118 ?_
    refine g_iconst hX 1 dX7_takeApplication_121 (by decide) ?_
    refine g_iadd hX dX7_takeApplication_122 ?_
    refine m_p_11 hX hA i_X7_takeApplication_wsX70 (List.mem_of_getElem? (i := 1) rfl) dX7_takeApplication_123 ?_
    refine ret _ _ _ dX7_takeApplication_126 ?_
    have e : tAx (tA4 z (cn (z 86 0))) (cn (z 86 0)) 86 0 + 1 = nI (cn (z 86 0) + 1) := by
      rw [tAx_lo _ _ (by decide), tA4_lo _ _ (by decide)]
      conv => lhs; rw [h86]
      exact nI_1 _
    rw [e]; rfl
  · -- on 83
    have hw : tA4 z (cn (z 86 0)) 84 0 = 0 := Decidable.not_not.mp c1
    refine g_aload_n hX 1 dX7_takeApplication_83 rfl ?_
    refine g_cvE hX (As := []) (rest := []) (c_X7_next l G (tA4 z (cn (z 86 0)))  (hS := S4)) k_X7_takeApplication_X7_next rc_Model rfl rfl (Nat.le_of_ble_eq_true rfl) dX7_takeApplication_84 ?_
    refine g_bipush hX 120 dX7_takeApplication_87 (by decide) ?_
    refine g_ic_ne hX 116 dX7_takeApplication_89 (by decide) (fun c2 => ?_) (fun c2 => ?_)
    · -- jump 116
      have hno : ¬ (tA4 z (cn (z 86 0)) 84 0 = 0 ∧ nxt (tA4 z (cn (z 86 0))) (spN (tA4 z (cn (z 86 0)))) = 120) := fun h => c2 h.2
      refine g_z (z2 := tAx (tA4 z (cn (z 86 0))) (cn (z 86 0))) (by rw [tAx, if_neg hno]) ?_
      refine g_aload_n hX 1 dX7_takeApplication_116 rfl ?_
      refine g_dup hX dX7_takeApplication_117 rfl ?_
      refine m_g_11 hX i_X7_takeApplication_wsX70 (List.mem_of_getElem? (i := 1) rfl) dX7_takeApplication_118 ?_
      refine g_iconst hX 1 dX7_takeApplication_121 (by decide) ?_
      refine g_iadd hX dX7_takeApplication_122 ?_
      refine m_p_11 hX hA i_X7_takeApplication_wsX70 (List.mem_of_getElem? (i := 1) rfl) dX7_takeApplication_123 ?_
      refine ret _ _ _ dX7_takeApplication_126 ?_
      have e : tAx (tA4 z (cn (z 86 0))) (cn (z 86 0)) 86 0 + 1 = nI (cn (z 86 0) + 1) := by
        rw [tAx_lo _ _ (by decide), tA4_lo _ _ (by decide)]
        conv => lhs; rw [h86]
        exact nI_1 _
      rw [e]; rfl
    · -- on 92
      have hyes : tA4 z (cn (z 86 0)) 84 0 = 0 ∧ nxt (tA4 z (cn (z 86 0))) (spN (tA4 z (cn (z 86 0)))) = 120 := ⟨hw, Decidable.not_not.mp c2⟩
      have hlt : spN (tA4 z (cn (z 86 0))) < lenN (tA4 z (cn (z 86 0))) := nxt_in (fun e => by rw [e] at hyes; exact absurd hyes.2 (by decide))
      refine g_aload_n hX 1 dX7_takeApplication_92 rfl ?_
      refine g_dup hX dX7_takeApplication_93 rfl ?_
      refine m_g_8 hX i_X7_takeApplication_wsX70 (List.mem_of_getElem? (i := 4) rfl) dX7_takeApplication_94 ?_
      refine g_iconst hX 1 dX7_takeApplication_97 (by decide) ?_
      refine g_iadd hX dX7_takeApplication_98 ?_
      refine m_p_8 hX hA i_X7_takeApplication_wsX70 (List.mem_of_getElem? (i := 4) rfl) dX7_takeApplication_99 ?_
      refine g_z (z2 := u2 (tA4 z (cn (z 86 0))) 83 0 (nI (spN (tA4 z (cn (z 86 0))) + 1))) (by rw [sp1 S4]) ?_
      refine g_aload_n hX 1 dX7_takeApplication_102 rfl ?_
      refine m_g_10 hX i_X7_takeApplication_wsX70 (List.mem_of_getElem? (i := 2) rfl) dX7_takeApplication_103 ?_
      refine g_iload_n hX 0 dX7_takeApplication_106 rfl ?_
      refine g_iconst hX 3 dX7_takeApplication_107 (by decide) ?_
      refine g_iadd hX dX7_takeApplication_108 ?_
      refine g_aload_n hX 1 dX7_takeApplication_109 rfl ?_
      refine g_iconst hX 1 dX7_takeApplication_110 (by decide) ?_
      refine g_iconst hX 4 dX7_takeApplication_111 (by decide) ?_
      refine g_cvE hX (As := [.int 1, .int 4]) (rest := [.int ((nI (4 * cn (z 86 0))) + 3), .ref (G.2.2 8)]) (c_X7_takeNumber l G hA (u2 (tA4 z (cn (z 86 0))) 83 0 (nI (spN (tA4 z (cn (z 86 0))) + 1))) (lo := 1) (hi := 4) (hS := (SP_up S4 hlt)) (hlo := (by decide))) k_X7_takeApplication_X7_takeNumber rc_Model rfl rfl (Nat.le_of_ble_eq_true rfl) dX7_takeApplication_112 ?_
      refine m_st_read hX hA (4 * cn (z 86 0) + 3) (nI_add _ 3) (by omega) dX7_takeApplication_115 ?_
      refine g_z (z2 := tAx (tA4 z (cn (z 86 0))) (cn (z 86 0))) (by rw [tAx, if_pos hyes]) ?_
      refine g_aload_n hX 1 dX7_takeApplication_116 rfl ?_
      refine g_dup hX dX7_takeApplication_117 rfl ?_
      refine m_g_11 hX i_X7_takeApplication_wsX70 (List.mem_of_getElem? (i := 1) rfl) dX7_takeApplication_118 ?_
      refine g_iconst hX 1 dX7_takeApplication_121 (by decide) ?_
      refine g_iadd hX dX7_takeApplication_122 ?_
      refine m_p_11 hX hA i_X7_takeApplication_wsX70 (List.mem_of_getElem? (i := 1) rfl) dX7_takeApplication_123 ?_
      refine ret _ _ _ dX7_takeApplication_126 ?_
      have e : tAx (tA4 z (cn (z 86 0))) (cn (z 86 0)) 86 0 + 1 = nI (cn (z 86 0) + 1) := by
        rw [tAx_lo _ _ (by decide), tA4_lo _ _ (by decide)]
        conv => lhs; rw [h86]
        exact nI_1 _
      rw [e]; rfl
def rm_X7_fault : Room := { frames := 3, cells := 0, slots := 0, locals := 66 }
theorem i_X7_fault_wsX70 : ∀ w ∈ wsX70, w ∈ wsX7_fault := fun w h => List.mem_cons_of_mem _ (List.mem_append_right _ h)
theorem k_X7_fault_X7_next : CW rm_X7_fault wsX7_fault RX7 RX7 180 yX7_next cX7_next 1 (some .int) wsX7_next rm_X7_next 0 := ⟨gX7_fault_X7_next, ⟨_, rfl⟩, rfl, rfl, ⟨rfl, by decide +kernel, by decide +kernel, by decide +kernel⟩, by decide, by decide⟩
theorem k_X7_fault_X7_takeApplication : CW rm_X7_fault wsX7_fault RX7 RX7 192 yX7_takeApplication cX7_takeApplication 2 none wsX7_takeApplication rm_X7_takeApplication 0 := ⟨gX7_fault_X7_takeApplication, ⟨_, rfl⟩, rfl, rfl, ⟨rfl, by decide +kernel, by decide +kernel, by decide +kernel⟩, by decide, by decide⟩
set_option maxHeartbeats 4000000 in
set_option maxRecDepth 100000 in
theorem c_X7_fault (l : Launch) (G : MG) (hA : Ap 9 G.2.2) (z : St)  (hP : PO z) : CIm l G yX7_fault wsX7_fault rm_X7_fault [.ref (G.2.2 0)] z (fun ρ ζ => ρ = (mFault z).1 ∧ ζ = mfZ z) := by
  refine ci_of (own := RX7) (cc := cX7_fault) (maxL := 1) (ret := .int) (by decide +kernel) rfl rfl ?_ (Nat.le_of_ble_eq_true rfl) (KQ_mv (ExM_mv G)) ?_
  · intro v z' _; rfl
  · intro X hX ret
    refine g_lv (lv' := [(0, .ref (G.2.2 0))]) rfl ?_
    obtain ⟨e69, h60⟩ := pL hP
    refine g_aload_n hX 0 dX7_fault_0 rfl ?_
    refine g_iconst hX 0 dX7_fault_1 (by decide) ?_
    refine m_p_8 hX hA i_X7_fault_wsX70 (List.mem_of_getElem? (i := 1) rfl) dX7_fault_2 ?_
    refine g_aload_n hX 0 dX7_fault_5 rfl ?_
    refine g_iconst hX 0 dX7_fault_6 (by decide) ?_
    refine m_p_9 hX hA (Or.inl rfl) i_X7_fault_wsX70 (List.mem_of_getElem? (i := 2) rfl) dX7_fault_7 ?_
    refine g_aload_n hX 0 dX7_fault_10 rfl ?_
    refine g_iconst hX 0 dX7_fault_11 (by decide) ?_
    refine m_p_11 hX hA i_X7_fault_wsX70 (List.mem_of_getElem? (i := 3) rfl) dX7_fault_12 ?_
    refine g_z (z2 := mf0 z) (rfl) ?_
    refine g_aload_n hX 0 dX7_fault_15 rfl ?_
    refine g_cvvE hX (As := []) (rest := []) (c_X7_takeApplication l G hA (mf0 z)  (hS := (SP_mf0 hP)) (hm := (mf0_86 z))) k_X7_fault_X7_takeApplication rc_Model rfl rfl (Nat.le_of_ble_eq_true rfl) dX7_fault_16 ?_
    have loop19 : ∀ (nf : Nat) (f : Nat) (y : St), (f < nf) → (TI y) → (∀ g, g ≠ 83 ∧ g ≠ 84 ∧ g ≠ 85 ∧ g ≠ 86 → y g = z g) → (y 84 0 = 0 → 61 ≤ f + spN y) → (mfK f y = mfZ z) → Go X (y) 19 [(0, .ref (G.2.2 0))] [] := by
      intro nf
      induction nf with
      | zero =>
        intro f y hmu hT hlo hf hr
        exfalso; omega
      | succ nf ih =>
        intro f y hmu hT hlo hf hr
        have hll : lenN y = lenN z := lenN_of (hlo _ (by decide))
        have hsl := hT.1.2.2.1
        refine g_aload_n hX 0 dX7_fault_19 rfl ?_
        refine m_g_9 hX i_X7_fault_wsX70 (List.mem_of_getElem? (i := 2) rfl) dX7_fault_20 ?_
        refine g_if_ne hX 52 dX7_fault_23 (by decide) (fun c1 => ?_) (fun c1 => ?_)
        · -- jump 52
          have hno : ¬ (y 84 0 = 0 ∧ nxt y (spN y) = 59) := fun h => c1 h.1
          have hyy : y = mfZ z := by rw [← hr]; exact (mfK_stop hno f).symm
          refine g_aload_n hX 0 dX7_fault_52 rfl ?_
          refine m_g_9 hX i_X7_fault_wsX70 (List.mem_of_getElem? (i := 2) rfl) dX7_fault_53 ?_
          refine g_if_ne hX 70 dX7_fault_56 (by decide) (fun c2 => ?_) (fun c2 => ?_)
          · -- jump 70
            refine g_aload_n hX 0 dX7_fault_70 rfl ?_
            refine m_g_8 hX i_X7_fault_wsX70 (List.mem_of_getElem? (i := 1) rfl) dX7_fault_71 ?_
            refine g_goto hX 79 dX7_fault_74 (by decide) ?_
            refine ret _ _ _ _ dX7_fault_79 ?_
            rw [mFault, ← hyy]
            refine ⟨?_, rfl⟩
            rw [if_pos (by grind)]
          · -- on 59
            refine g_aload_n hX 0 dX7_fault_59 rfl ?_
            refine m_g_8 hX i_X7_fault_wsX70 (List.mem_of_getElem? (i := 1) rfl) dX7_fault_60 ?_
            refine g_aload_n hX 0 dX7_fault_63 rfl ?_
            refine m_g_5 hX i_X7_fault_wsX70 (List.mem_of_getElem? (i := 4) rfl) dX7_fault_64 ?_
            refine g_ic_ge hX 77 dX7_fault_67 (by decide) (fun c3 => ?_) (fun c3 => ?_)
            · -- jump 77
              have hge : ¬ spN y < lenN z := fun h => by
                rw [hT.1.2.1, hlo _ (by decide), e69] at c3; have := (nI_leI (by omega) (by omega)).mp c3; omega
              refine g_bipush hX (-6) dX7_fault_77 (by decide) ?_
              refine ret _ _ _ _ dX7_fault_79 ?_
              rw [mFault, ← hyy]
              refine ⟨?_, rfl⟩
              rw [if_neg (by grind)]
            · -- on 70
              have hge : spN y < lenN z := by
                rw [hT.1.2.1, hlo _ (by decide), e69] at c3; exact Nat.lt_of_not_le (fun q => c3 (nI_le q (by omega)))
              refine g_aload_n hX 0 dX7_fault_70 rfl ?_
              refine m_g_8 hX i_X7_fault_wsX70 (List.mem_of_getElem? (i := 1) rfl) dX7_fault_71 ?_
              refine g_goto hX 79 dX7_fault_74 (by decide) ?_
              refine ret _ _ _ _ dX7_fault_79 ?_
              rw [mFault, ← hyy]
              refine ⟨?_, rfl⟩
              rw [if_pos (by grind)]
        · -- on 26
          have hw : y 84 0 = 0 := Decidable.not_not.mp c1
          refine g_aload_n hX 0 dX7_fault_26 rfl ?_
          refine g_cvE hX (As := []) (rest := []) (c_X7_next l G y  (hS := hT.1)) k_X7_fault_X7_next rc_Model rfl rfl (Nat.le_of_ble_eq_true rfl) dX7_fault_27 ?_
          refine g_bipush hX 59 dX7_fault_30 (by decide) ?_
          refine g_ic_ne hX 52 dX7_fault_32 (by decide) (fun c4 => ?_) (fun c4 => ?_)
          · -- jump 52
            have hno : ¬ (y 84 0 = 0 ∧ nxt y (spN y) = 59) := fun h => c4 h.2
            have hyy : y = mfZ z := by rw [← hr]; exact (mfK_stop hno f).symm
            refine g_aload_n hX 0 dX7_fault_52 rfl ?_
            refine m_g_9 hX i_X7_fault_wsX70 (List.mem_of_getElem? (i := 2) rfl) dX7_fault_53 ?_
            refine g_if_ne hX 70 dX7_fault_56 (by decide) (fun c5 => ?_) (fun c5 => ?_)
            · -- jump 70
              refine g_aload_n hX 0 dX7_fault_70 rfl ?_
              refine m_g_8 hX i_X7_fault_wsX70 (List.mem_of_getElem? (i := 1) rfl) dX7_fault_71 ?_
              refine g_goto hX 79 dX7_fault_74 (by decide) ?_
              refine ret _ _ _ _ dX7_fault_79 ?_
              rw [mFault, ← hyy]
              refine ⟨?_, rfl⟩
              rw [if_pos (by grind)]
            · -- on 59
              refine g_aload_n hX 0 dX7_fault_59 rfl ?_
              refine m_g_8 hX i_X7_fault_wsX70 (List.mem_of_getElem? (i := 1) rfl) dX7_fault_60 ?_
              refine g_aload_n hX 0 dX7_fault_63 rfl ?_
              refine m_g_5 hX i_X7_fault_wsX70 (List.mem_of_getElem? (i := 4) rfl) dX7_fault_64 ?_
              refine g_ic_ge hX 77 dX7_fault_67 (by decide) (fun c6 => ?_) (fun c6 => ?_)
              · -- jump 77
                have hge : ¬ spN y < lenN z := fun h => by
                  rw [hT.1.2.1, hlo _ (by decide), e69] at c6; have := (nI_leI (by omega) (by omega)).mp c6; omega
                refine g_bipush hX (-6) dX7_fault_77 (by decide) ?_
                refine ret _ _ _ _ dX7_fault_79 ?_
                rw [mFault, ← hyy]
                refine ⟨?_, rfl⟩
                rw [if_neg (by grind)]
              · -- on 70
                have hge : spN y < lenN z := by
                  rw [hT.1.2.1, hlo _ (by decide), e69] at c6; exact Nat.lt_of_not_le (fun q => c6 (nI_le q (by omega)))
                refine g_aload_n hX 0 dX7_fault_70 rfl ?_
                refine m_g_8 hX i_X7_fault_wsX70 (List.mem_of_getElem? (i := 1) rfl) dX7_fault_71 ?_
                refine g_goto hX 79 dX7_fault_74 (by decide) ?_
                refine ret _ _ _ _ dX7_fault_79 ?_
                rw [mFault, ← hyy]
                refine ⟨?_, rfl⟩
                rw [if_pos (by grind)]
          · -- on 35
            have h59 := Decidable.not_not.mp c4
            obtain ⟨hlt, hS2, hT2, -⟩ := TI_next hT hw h59
            have hfu := TI_fuel hT hw h59 hf
            refine g_aload_n hX 0 dX7_fault_35 rfl ?_
            refine g_dup hX dX7_fault_36 rfl ?_
            refine m_g_8 hX i_X7_fault_wsX70 (List.mem_of_getElem? (i := 1) rfl) dX7_fault_37 ?_
            refine g_iconst hX 1 dX7_fault_40 (by decide) ?_
            refine g_iadd hX dX7_fault_41 ?_
            refine m_p_8 hX hA i_X7_fault_wsX70 (List.mem_of_getElem? (i := 1) rfl) dX7_fault_42 ?_
            refine g_z (z2 := u2 y 83 0 (nI (spN y + 1))) (by rw [sp1 hT.1]) ?_
            refine g_aload_n hX 0 dX7_fault_45 rfl ?_
            refine g_cvvE hX (As := []) (rest := []) (c_X7_takeApplication l G hA (u2 y 83 0 (nI (spN y + 1)))  (hS := hS2) (hm := (TI_86b hT hw h59))) k_X7_fault_X7_takeApplication rc_Model rfl rfl (Nat.le_of_ble_eq_true rfl) dX7_fault_46 ?_
            refine g_goto hX 19 dX7_fault_49 (by decide) ?_
            -- back to 19
            refine g_sub [0] [(0, .ref (G.2.2 0))] rfl ?_
            exact ih (f - 1) (tA (u2 y 83 0 (nI (spN y + 1)))) (by omega) hT2 (fun g hg => by rw [tA_lo _ hg, u2_f (by omega)]; exact hlo g hg) hfu.2 (by rw [← hr]; obtain ⟨m, rfl⟩ : ∃ m, f = m + 1 := ⟨f - 1, by omega⟩; rw [Nat.add_sub_cancel]; conv => rhs; rw [mfK, if_pos ⟨hw, h59⟩])
    refine g_sub [0] [(0, .ref (G.2.2 0))] rfl ?_
    exact loop19 62 61 (tA (mf0 z)) (by omega) (TI_0 hP) (fun g hg => by rw [tA_lo _ hg]; unfold mf0; rw [u2_f (by omega), u2_f (by omega), u2_f (by omega)]) (fun _ => by omega) rfl
def rm_X7_load : Room := { frames := 4, cells := 0, slots := 0, locals := 95 }
theorem i_X7_load_wsX70 : ∀ w ∈ wsX70, w ∈ wsX7_load := fun w h => List.mem_cons_of_mem _ (List.mem_append_right _ h)
theorem k_X7_load_X7_apply : CW rm_X7_load wsX7_load RX7 RX7 198 yX7_apply cX7_apply 6 (some .int) wsX7_apply rm_X7_apply 4 := ⟨gX7_load_X7_apply, ⟨_, rfl⟩, rfl, rfl, ⟨rfl, by decide +kernel, by decide +kernel, by decide +kernel⟩, by decide, by decide⟩
theorem k_X7_load_X7_fault : CW rm_X7_load wsX7_load RX7 RX7 195 yX7_fault cX7_fault 1 (some .int) wsX7_fault rm_X7_fault 0 := ⟨gX7_load_X7_fault, ⟨_, rfl⟩, rfl, rfl, ⟨rfl, by decide +kernel, by decide +kernel, by decide +kernel⟩, by decide, by decide⟩
set_option maxHeartbeats 4000000 in
set_option maxRecDepth 100000 in
theorem c_X7_load (l : Launch) (G : MG) (hA : Ap 9 G.2.2) (z : St)  (hP : PO z) (hA2 : AI z) : CIm l G yX7_load wsX7_load rm_X7_load [.ref (G.2.2 0)] z (fun ρ ζ => ρ = (mLoad z).1 ∧ ζ = (mLoad z).2) := by
  refine ci_of (own := RX7) (cc := cX7_load) (maxL := 3) (ret := .int) (by decide +kernel) rfl rfl ?_ (Nat.le_of_ble_eq_true rfl) (KQ_mv (ExM_mv G)) ?_
  · intro v z' _; rfl
  · intro X hX ret
    refine g_lv (lv' := [(0, .ref (G.2.2 0))]) rfl ?_
    have h86 := TI_86 (TI_mfZ hP)
    obtain ⟨RR, hR0⟩ : ∃ RR, RR = mlK 10 (mfZ z) 0 := ⟨_, rfl⟩
    refine g_aload_n hX 0 dX7_load_0 rfl ?_
    refine g_cvE hX (As := []) (rest := []) (c_X7_fault l G hA z  (hP := (by assumption))) k_X7_load_X7_fault rc_Model rfl rfl (Nat.le_of_ble_eq_true rfl) dX7_load_1 ?_
    refine g_bipush hX (-6) dX7_load_4 (by decide) ?_
    refine g_ic_eq hX 12 dX7_load_6 (by decide) (fun c1 => ?_) (fun c1 => ?_)
    · -- jump 12
      have h6 : (mFault z).1 = -6 := c1
      refine g_iconst hX 0 dX7_load_12 (by decide) ?_
      refine g_istore_n hX [(1, .int 0), (0, .ref (G.2.2 0))] dX7_load_13 (by decide) rfl ?_
      refine g_iconst hX 1 dX7_load_14 (by decide) ?_
      refine g_istore_n hX [(2, .int 1), (1, .int 0), (0, .ref (G.2.2 0))] dX7_load_15 (by decide) rfl ?_
      have loop16 : ∀ (nf : Nat) (k : Nat) (n : Nat) (y : St) (g : Int32), (10 < k + nf) → (k ≤ 10) → (n ≤ 10) → (y 86 = mfZ z 86) → ((g = 1 ∧ n = k ∧ AI y ∧ mlK (10 - k) y n = RR) ∨ (g = 0 ∧ (n, y) = RR)) → Go X (y) 16 [(0, .ref (G.2.2 0)), (1, .int (nI n)), (2, .int g)] [] := by
        intro nf
        induction nf with
        | zero =>
          intro k n y g hmu hk hn hy86 hcase
          exfalso; omega
        | succ nf ih =>
          intro k n y g hmu hk hn hy86 hcase
          refine g_iload_n hX 2 dX7_load_16 rfl ?_
          refine g_if_eq hX 94 dX7_load_17 (by decide) (fun c2 => ?_) (fun c2 => ?_)
          · -- jump 94
            have hRy : (n, y) = RR := by
              rcases hcase with h | h
              · exact absurd (c2.symm.trans h.1) (by decide)
              · exact h.2
            refine g_aload_n hX 0 dX7_load_94 rfl ?_
            refine g_iconst hX 0 dX7_load_95 (by decide) ?_
            refine m_p_5 hX hA i_X7_load_wsX70 (List.mem_of_getElem? (i := 3) rfl) dX7_load_96 ?_
            refine g_iload_n hX 1 dX7_load_99 rfl ?_
            refine ret _ _ _ _ dX7_load_100 ?_
            exact pr_eq (by rw [mLoad, if_neg (not_not_intro h6), ← hR0, ← hRy])
          · -- on 20
            obtain ⟨-, hnk, hAy, hR⟩ : g = 1 ∧ n = k ∧ AI y ∧ mlK (10 - k) y n = RR := by
              rcases hcase with h | h
              · exact h
              · exact absurd h.1 c2
            refine g_iload_n hX 1 dX7_load_20 rfl ?_
            refine g_aload_n hX 0 dX7_load_21 rfl ?_
            refine m_g_11 hX i_X7_load_wsX70 (List.mem_of_getElem? (i := 1) rfl) dX7_load_22 ?_
            refine g_ic_ge hX 94 dX7_load_25 (by decide) (fun c3 => ?_) (fun c3 => ?_)
            · -- jump 94
              have hRy : (n, y) = RR := by
                rw [← hR]; refine (mlK_stop rfl ?_).symm
                rw [hy86, h86.1] at c3; rw [hy86]; have := (nI_leI (by omega) (by omega)).mp c3; omega
              refine g_aload_n hX 0 dX7_load_94 rfl ?_
              refine g_iconst hX 0 dX7_load_95 (by decide) ?_
              refine m_p_5 hX hA i_X7_load_wsX70 (List.mem_of_getElem? (i := 3) rfl) dX7_load_96 ?_
              refine g_iload_n hX 1 dX7_load_99 rfl ?_
              refine ret _ _ _ _ dX7_load_100 ?_
              exact pr_eq (by rw [mLoad, if_neg (not_not_intro h6), ← hR0, ← hRy])
            · -- on 28
              have hkn : n < cn (mfZ z 86 0) := by
                rw [hy86, h86.1] at c3; exact Nat.lt_of_not_le (fun q => c3 (nI_le q (by omega)))
              refine g_aload_n hX 0 dX7_load_28 rfl ?_
              refine g_aload_n hX 0 dX7_load_29 rfl ?_
              refine m_g_10 hX i_X7_load_wsX70 (List.mem_of_getElem? (i := 2) rfl) dX7_load_30 ?_
              refine g_iconst hX 4 dX7_load_33 (by decide) ?_
              refine g_iload_n hX 1 dX7_load_34 rfl ?_
              refine g_imul hX dX7_load_35 ?_
              refine m_ld_read hX (4 * n) (pk_mul 4 n) (by omega) dX7_load_36 ?_
              refine g_aload_n hX 0 dX7_load_37 rfl ?_
              refine m_g_10 hX i_X7_load_wsX70 (List.mem_of_getElem? (i := 2) rfl) dX7_load_38 ?_
              refine g_iconst hX 4 dX7_load_41 (by decide) ?_
              refine g_iload_n hX 1 dX7_load_42 rfl ?_
              refine g_imul hX dX7_load_43 ?_
              refine g_iconst hX 1 dX7_load_44 (by decide) ?_
              refine g_iadd hX dX7_load_45 ?_
              refine m_ld_read hX (4 * n + 1) (ix_rd n 1) (by omega) dX7_load_46 ?_
              refine g_aload_n hX 0 dX7_load_47 rfl ?_
              refine m_g_10 hX i_X7_load_wsX70 (List.mem_of_getElem? (i := 2) rfl) dX7_load_48 ?_
              refine g_iconst hX 4 dX7_load_51 (by decide) ?_
              refine g_iload_n hX 1 dX7_load_52 rfl ?_
              refine g_imul hX dX7_load_53 ?_
              refine g_iconst hX 2 dX7_load_54 (by decide) ?_
              refine g_iadd hX dX7_load_55 ?_
              refine m_ld_read hX (4 * n + 2) (ix_rd n 2) (by omega) dX7_load_56 ?_
              refine g_aload_n hX 0 dX7_load_57 rfl ?_
              refine m_g_10 hX i_X7_load_wsX70 (List.mem_of_getElem? (i := 2) rfl) dX7_load_58 ?_
              refine g_iconst hX 4 dX7_load_61 (by decide) ?_
              refine g_iload_n hX 1 dX7_load_62 rfl ?_
              refine g_imul hX dX7_load_63 ?_
              refine g_iconst hX 3 dX7_load_64 (by decide) ?_
              refine g_iadd hX dX7_load_65 ?_
              refine m_ld_read hX (4 * n + 3) (ix_rd n 3) (by omega) dX7_load_66 ?_
              refine g_cvE hX (As := [.int (y 85 (4 * n)), .int (y 85 (4 * n + 1)), .int (y 85 (4 * n + 2)), .int (y 85 (4 * n + 3))]) (rest := []) (c_X7_apply l G hA y (c := (y 85 (4 * n))) (r := (y 85 (4 * n + 1))) (d := (y 85 (4 * n + 2))) (p := (y 85 (4 * n + 3))) (hI := hAy.1) (hcl := hAy.2.1) (h87c := hAy.2.2.1) (hst := hAy.2.2.2.1) (hfr := (fun h => hAy.2.2.2.2 _ (Nat.le_refl _) h))) k_X7_load_X7_apply rc_Model rfl rfl (Nat.le_of_ble_eq_true rfl) dX7_load_67 ?_
              refine g_z (z2 := (ml1 y n).2) (rfl) ?_
              refine g_top ((ml1 y n).1) (rfl) ?_
              refine g_if_lt hX 77 dX7_load_70 (by decide) (fun c4 => ?_) (fun c4 => ?_)
              · -- jump 77
                have hlt : (ml1 y n).1 < 0 := c4
                refine g_iconst hX 0 dX7_load_77 (by decide) ?_
                refine g_istore_n hX [(2, .int 0), (0, .ref (G.2.2 0)), (1, .int (nI n))] dX7_load_78 (by decide) rfl ?_
                refine g_iload_n hX 2 dX7_load_79 rfl ?_
                refine g_iload_n hX 0 dX7_load_80 rfl ?_
                refine g_if_eq hX 88 dX7_load_81 (by decide) (fun c5 => ?_) (fun c5 => ?_)
                · -- jump 88
                  refine g_iconst hX 0 dX7_load_88 (by decide) ?_
                  refine g_iadd hX dX7_load_89 ?_
                  refine g_istore_n hX [(1, .int ((nI n) + 0)), (2, .int 0), (0, .ref (G.2.2 0))] dX7_load_90 (by decide) rfl ?_
                  refine g_goto hX 16 dX7_load_91 (by decide) ?_
                  -- back to 16
                  refine g_sub [2, 0, 1] [(0, .ref (G.2.2 0)), (1, .int ((nI n) + 0)), (2, .int 0)] rfl ?_
                  have e1 : ((nI n) + 0 : Int32) = nI n := by
                    exact Int32.add_zero _
                  refine g_lv (lv' := [(0, .ref (G.2.2 0)), (1, .int (nI n)), (2, .int 0)]) (by rw [e1]) ?_
                  exact ih (k + 1) n ((ml1 y n).2) 0 (by omega) (by omega) (by omega) ((ml_lo y n (by decide)).trans hy86) (Or.inr ⟨rfl, by rw [← hR, show 10 - k = (10 - (k + 1)) + 1 from by omega, mlK, if_pos (by rw [hy86]; exact hkn), if_pos hlt]⟩)
                · -- on 84
                  exact absurd c5 (by decide)
              · -- on 73
                have hlt : ¬ (ml1 y n).1 < 0 := c4
                refine g_iconst hX 1 dX7_load_73 (by decide) ?_
                refine g_goto hX 78 dX7_load_74 (by decide) ?_
                refine g_istore_n hX [(2, .int 1), (0, .ref (G.2.2 0)), (1, .int (nI n))] dX7_load_78 (by decide) rfl ?_
                refine g_iload_n hX 2 dX7_load_79 rfl ?_
                refine g_iload_n hX 0 dX7_load_80 rfl ?_
                refine g_if_eq hX 88 dX7_load_81 (by decide) (fun c6 => ?_) (fun c6 => ?_)
                · -- jump 88
                  exact absurd c6 (by decide)
                · -- on 84
                  refine g_iconst hX 1 dX7_load_84 (by decide) ?_
                  refine g_goto hX 89 dX7_load_85 (by decide) ?_
                  refine g_iadd hX dX7_load_89 ?_
                  refine g_istore_n hX [(1, .int ((nI n) + 1)), (2, .int 1), (0, .ref (G.2.2 0))] dX7_load_90 (by decide) rfl ?_
                  refine g_goto hX 16 dX7_load_91 (by decide) ?_
                  -- back to 16
                  refine g_sub [2, 0, 1] [(0, .ref (G.2.2 0)), (1, .int ((nI n) + 1)), (2, .int 1)] rfl ?_
                  have e1 : ((nI n) + 1 : Int32) = nI (n + 1) := by
                    exact nI_1 _
                  refine g_lv (lv' := [(0, .ref (G.2.2 0)), (1, .int (nI (n + 1))), (2, .int 1)]) (by rw [e1]) ?_
                  exact ih (k + 1) (n + 1) ((ml1 y n).2) 1 (by omega) (by omega) (by omega) ((ml_lo y n (by decide)).trans hy86) (Or.inl ⟨rfl, by omega, AI_apply hAy _ _ _ _, by rw [← hR, show 10 - k = (10 - (k + 1)) + 1 from by omega, mlK, if_pos (by rw [hy86]; exact hkn), if_neg hlt]⟩)
      refine g_sub [2, 1, 0] [(0, .ref (G.2.2 0)), (1, .int 0), (2, .int 1)] rfl ?_
      exact loop16 (10 + 1) 0 0 (mfZ z) 1 (by omega) (by omega) (by omega) rfl (Or.inl ⟨rfl, rfl, AI_of hA2 (fun f hf => mfZ_lo z (by omega)), by rw [Nat.sub_zero]; exact hR0.symm⟩)
    · -- on 9
      have h6 : ¬ (mFault z).1 = -6 := c1
      refine g_bipush hX (-3) dX7_load_9 (by decide) ?_
      refine ret _ _ _ _ dX7_load_11 ?_
      exact pr_eq (by rw [mLoad, if_pos h6])
def rm_X7_put : Room := { frames := 1, cells := 0, slots := 0, locals := 22 }
theorem i_X7_put_wsX70 : ∀ w ∈ wsX70, w ∈ wsX7_put := fun w h => List.mem_cons_of_mem _ (List.mem_append_right _ h)
theorem k_X7_put_X7_in : CS rm_X7_put wsX7_put RX7 35 yX7_in cX7_in 3 (some .boolean) wsX7_in rm_X7_in 3 := ⟨gX7_put_X7_in, ⟨_, rfl⟩, rfl, rfl, ⟨rfl, by decide +kernel, by decide +kernel, by decide +kernel⟩, by decide, by decide⟩
set_option maxHeartbeats 4000000 in
set_option maxRecDepth 100000 in
theorem c_X7_put (l : Launch) (G : MG) (hA : Ap 9 G.2.2) (z : St) {c : Int64} (hP : PO z) : CIm l G yX7_put wsX7_put rm_X7_put [.ref (G.2.2 0), .long c] z (fun ρ ζ => ρ = (spPut z c).1 ∧ ζ = (spPut z c).2) := by
  refine ci_of (own := RX7) (cc := cX7_put) (maxL := 7) (ret := .int) (by decide +kernel) rfl rfl ?_ (Nat.le_of_ble_eq_true rfl) (KQ_mv (ExM_mv G)) ?_
  · intro v z' _; rfl
  · intro X hX ret
    refine g_lv (lv' := [(0, .ref (G.2.2 0)), (1, .long c)]) rfl ?_
    obtain ⟨e69, h60⟩ := pL hP
    refine g_iconst hX 0 dX7_put_0 (by decide) ?_
    refine g_istore_n hX [(3, .int 0), (0, .ref (G.2.2 0)), (1, .long c)] dX7_put_1 (by decide) rfl ?_
    refine g_lload_n hX 2 dX7_put_2 rfl ?_
    refine g_lstore hX [(4, .long c), (3, .int 0), (0, .ref (G.2.2 0)), (1, .long c)] dX7_put_3 (by decide) rfl ?_
    have loop5 : ∀ (nf : Nat) (s : Nat) (r : Int64), (8 < s + nf) → (s ≤ 8) → (szK (8 - s) s r = szK 8 0 c) → (r.toUInt64.toNat < 256 ^ (8 - s)) → Go X (z) 5 [(0, .ref (G.2.2 0)), (1, .long c), (3, .int (nI s)), (4, .long r)] [] := by
      intro nf
      induction nf with
      | zero =>
        intro s r hmu hs8 hr hb
        exfalso; omega
      | succ nf ih =>
        intro s r hmu hs8 hr hb
        refine g_iload_n hX 2 dX7_put_5 rfl ?_
        refine g_bipush hX 8 dX7_put_6 (by decide) ?_
        refine g_ic_ge hX 55 dX7_put_8 (by decide) (fun c1 => ?_) (fun c1 => ?_)
        · -- jump 55
          have hke : s = 8 := by
            have := (nI_leI (a := 8) (by omega) (by omega)).mp c1; omega
          have hRR : szK 8 0 c = if r = 0 then nI s else 0 := by
            subst hke; rw [← hr, if_pos (r_0 hb)]; rfl
          refine g_iload_n hX 2 dX7_put_55 rfl ?_
          refine g_if_eq hX 66 dX7_put_56 (by decide) (fun c2 => ?_) (fun c2 => ?_)
          · -- jump 66
            have hR0 : szK 8 0 c = 0 := by rw [hRR, c2]; split <;> rfl
            refine g_bipush hX (-2) dX7_put_66 (by decide) ?_
            refine ret _ _ _ _ dX7_put_68 ?_
            rw [spPut, if_pos hR0]; exact ⟨rfl, rfl⟩
          · -- on 59
            have hs0 := c2
            refine g_lload hX 3 dX7_put_59 rfl ?_
            refine g_lconst hX 0 dX7_put_61 (by decide) ?_
            refine g_lcmp hX dX7_put_62 ?_
            refine g_if_eq hX 69 dX7_put_63 (by decide) (fun c3 => ?_) (fun c3 => ?_)
            · -- jump 69
              have hRs : szK 8 0 c = nI s := by rw [hRR, if_pos ((lg_cmp_eq _ _).mp c3)]
              refine g_aload_n hX 0 dX7_put_69 rfl ?_
              refine m_g_5 hX i_X7_put_wsX70 (List.mem_of_getElem? (i := 2) rfl) dX7_put_70 ?_
              refine g_iload_n hX 2 dX7_put_73 rfl ?_
              refine g_iadd hX dX7_put_74 ?_
              refine g_bipush hX 60 dX7_put_75 (by decide) ?_
              refine g_ic_le hX 83 dX7_put_77 (by decide) (fun c4 => ?_) (fun c4 => ?_)
              · -- jump 83
                have hle : lenN z + s ≤ 60 := by
                  have h := c4; rw [e69, nI_add] at h; exact (nI_leI (b := 60) (by omega) (by omega)).mp h
                have hc := c4
                refine g_iconst hX 0 dX7_put_83 (by decide) ?_
                refine g_istore hX [(6, .int 0), (0, .ref (G.2.2 0)), (1, .long c), (3, .int (nI s)), (4, .long r)] dX7_put_84 (by decide) rfl ?_
                have loop86 : ∀ (nf : Nat) (i : Nat), (s < i + nf) → (i ≤ s) → Go X (wrK z c s i) 86 [(0, .ref (G.2.2 0)), (1, .long c), (3, .int (nI s)), (6, .int (nI i))] [] := by
                  intro nf
                  induction nf with
                  | zero =>
                    intro i hmu hi
                    exfalso; omega
                  | succ nf ihW =>
                    intro i hmu hi
                    refine g_iload hX 3 dX7_put_86 rfl ?_
                    refine g_iload_n hX 2 dX7_put_88 rfl ?_
                    refine g_ic_ge hX 126 dX7_put_89 (by decide) (fun c5 => ?_) (fun c5 => ?_)
                    · -- jump 126
                      have hie : i = s := by
                        have := (nI_leI (by omega) (by omega)).mp c5; omega
                      subst hie
                      refine g_aload_n hX 0 dX7_put_126 rfl ?_
                      refine g_dup hX dX7_put_127 rfl ?_
                      refine m_g_5 hX i_X7_put_wsX70 (List.mem_of_getElem? (i := 2) rfl) dX7_put_128 ?_
                      refine g_iload_n hX 2 dX7_put_131 rfl ?_
                      refine g_iadd hX dX7_put_132 ?_
                      refine m_p_5 hX hA i_X7_put_wsX70 (List.mem_of_getElem? (i := 2) rfl) dX7_put_133 ?_
                      refine g_aload_n hX 0 dX7_put_136 rfl ?_
                      refine m_g_5 hX i_X7_put_wsX70 (List.mem_of_getElem? (i := 2) rfl) dX7_put_137 ?_
                      refine g_top (((wrK z c i i) 69 0) + (nI i)) (by simp [u2]) ?_
                      refine ret _ _ _ _ dX7_put_140 ?_
                      rw [spPut, hRs, if_neg hs0, if_neg (not_not_intro hc), cn_nI (by omega), apd_wr e69 hle]
                      have e : wrK z c i i 69 0 + nI i = nI (lenN z + i) := by rw [wrK_lo _ _ _ _ (by decide), e69]; exact nI_add _ _
                      rw [e]; exact ⟨(u2_s (wrK z c i i) 69 0 (nI (lenN z + i))).symm, rfl⟩
                    · -- on 92
                      have hin : i < s := Nat.lt_of_not_le (fun q => c5 (nI_le q (by omega)))
                      refine g_aload_n hX 0 dX7_put_92 rfl ?_
                      refine m_g_4 hX i_X7_put_wsX70 (List.mem_of_getElem? (i := 3) rfl) dX7_put_93 ?_
                      refine g_aload_n hX 0 dX7_put_96 rfl ?_
                      refine m_g_5 hX i_X7_put_wsX70 (List.mem_of_getElem? (i := 2) rfl) dX7_put_97 ?_
                      refine g_iload hX 3 dX7_put_100 rfl ?_
                      refine g_iadd hX dX7_put_102 ?_
                      refine g_lload_n hX 1 dX7_put_103 rfl ?_
                      refine g_bipush hX 8 dX7_put_104 (by decide) ?_
                      refine g_iload_n hX 2 dX7_put_106 rfl ?_
                      refine g_iconst hX 1 dX7_put_107 (by decide) ?_
                      refine g_isub hX dX7_put_108 ?_
                      refine g_iload hX 3 dX7_put_109 rfl ?_
                      refine g_isub hX dX7_put_111 ?_
                      refine g_imul hX dX7_put_112 ?_
                      refine g_lshr hX dX7_put_113 ?_
                      refine g_ldc2 hX 255 dX7_put_114 (List.mem_of_getElem? (i := 1) rfl) ?_
                      refine g_land hX dX7_put_117 ?_
                      refine g_l2i hX dX7_put_118 ?_
                      refine m_st_pad hX hA (lenN z + i) (by rw [wrK_lo _ _ _ _ (by decide), e69]; exact nI_add _ _) (by omega) dX7_put_119 ?_
                      refine g_iinc hX (nI (i + 1)) 3 [(6, .int (nI (i + 1))), (0, .ref (G.2.2 0)), (1, .long c), (3, .int (nI s))] dX7_put_120 rfl (nI_1 i) (by decide) rfl ?_
                      refine g_goto hX 86 dX7_put_123 (by decide) ?_
                      -- back to 86
                      refine g_sub [1, 2, 3, 0] [(0, .ref (G.2.2 0)), (1, .long c), (3, .int (nI s)), (6, .int (nI (i + 1)))] rfl ?_
                      have ez : u2 (wrK z c s i) 68 (lenN z + i) (((c >>> ((8 * (((nI s) - 1) - (nI i)) : Int32).toInt64 &&& 63)) &&& 255).toInt32) = wrK z c s (i + 1) := by
                        rw [show nI s - 1 - nI i = nI (s - 1 - i) from by rw [show nI s - 1 = nI (s - 1) from pk_sub (b := 1) (by omega), pk_sub (by omega)], chr_m c (by omega)]
                        rfl
                      refine g_z ez ?_
                      exact ihW (i + 1) (by omega) (by omega)
                refine g_sub [1, 2, 3, 0] [(0, .ref (G.2.2 0)), (1, .long c), (3, .int (nI s)), (6, .int 0)] rfl ?_
                have ez : z = wrK z c s 0 := by
                  rfl
                refine g_z ez ?_
                exact loop86 (s + 1) 0 (by omega) (Nat.zero_le _)
              · -- on 80
                have hc := c4
                refine g_bipush hX (-4) dX7_put_80 (by decide) ?_
                refine ret _ _ _ _ dX7_put_82 ?_
                rw [spPut, hRs, if_neg hs0, if_pos hc]; exact ⟨rfl, rfl⟩
            · -- on 66
              have hR0 : szK 8 0 c = 0 := by rw [hRR, if_neg (fun e => c3 ((lg_cmp_eq _ _).mpr e))]
              refine g_bipush hX (-2) dX7_put_66 (by decide) ?_
              refine ret _ _ _ _ dX7_put_68 ?_
              rw [spPut, if_pos hR0]; exact ⟨rfl, rfl⟩
        · -- on 11
          have hkn : s < 8 := Nat.lt_of_not_le (fun q => c1 (nI_le (a := 8) q (by omega)))
          refine g_lload hX 3 dX7_put_11 rfl ?_
          refine g_ldc2 hX 255 dX7_put_13 (List.mem_of_getElem? (i := 1) rfl) ?_
          refine g_land hX dX7_put_16 ?_
          refine g_lconst hX 0 dX7_put_17 (by decide) ?_
          refine g_lcmp hX dX7_put_18 ?_
          refine g_if_eq hX 55 dX7_put_19 (by decide) (fun c6 => ?_) (fun c6 => ?_)
          · -- jump 55
            have hRR : szK 8 0 c = if r = 0 then nI s else 0 := by
              rw [← hr, show 8 - s = (8 - (s + 1)) + 1 from by omega]; exact szK_b0 ((lg_cmp_eq _ _).mp c6)
            refine g_iload_n hX 2 dX7_put_55 rfl ?_
            refine g_if_eq hX 66 dX7_put_56 (by decide) (fun c7 => ?_) (fun c7 => ?_)
            · -- jump 66
              have hR0 : szK 8 0 c = 0 := by rw [hRR, c7]; split <;> rfl
              refine g_bipush hX (-2) dX7_put_66 (by decide) ?_
              refine ret _ _ _ _ dX7_put_68 ?_
              rw [spPut, if_pos hR0]; exact ⟨rfl, rfl⟩
            · -- on 59
              have hs0 := c7
              refine g_lload hX 3 dX7_put_59 rfl ?_
              refine g_lconst hX 0 dX7_put_61 (by decide) ?_
              refine g_lcmp hX dX7_put_62 ?_
              refine g_if_eq hX 69 dX7_put_63 (by decide) (fun c8 => ?_) (fun c8 => ?_)
              · -- jump 69
                have hRs : szK 8 0 c = nI s := by rw [hRR, if_pos ((lg_cmp_eq _ _).mp c8)]
                refine g_aload_n hX 0 dX7_put_69 rfl ?_
                refine m_g_5 hX i_X7_put_wsX70 (List.mem_of_getElem? (i := 2) rfl) dX7_put_70 ?_
                refine g_iload_n hX 2 dX7_put_73 rfl ?_
                refine g_iadd hX dX7_put_74 ?_
                refine g_bipush hX 60 dX7_put_75 (by decide) ?_
                refine g_ic_le hX 83 dX7_put_77 (by decide) (fun c9 => ?_) (fun c9 => ?_)
                · -- jump 83
                  have hle : lenN z + s ≤ 60 := by
                    have h := c9; rw [e69, nI_add] at h; exact (nI_leI (b := 60) (by omega) (by omega)).mp h
                  have hc := c9
                  refine g_iconst hX 0 dX7_put_83 (by decide) ?_
                  refine g_istore hX [(6, .int 0), (0, .ref (G.2.2 0)), (1, .long c), (3, .int (nI s)), (4, .long r)] dX7_put_84 (by decide) rfl ?_
                  have loop86 : ∀ (nf : Nat) (i : Nat), (s < i + nf) → (i ≤ s) → Go X (wrK z c s i) 86 [(0, .ref (G.2.2 0)), (1, .long c), (3, .int (nI s)), (6, .int (nI i))] [] := by
                    intro nf
                    induction nf with
                    | zero =>
                      intro i hmu hi
                      exfalso; omega
                    | succ nf ihW =>
                      intro i hmu hi
                      refine g_iload hX 3 dX7_put_86 rfl ?_
                      refine g_iload_n hX 2 dX7_put_88 rfl ?_
                      refine g_ic_ge hX 126 dX7_put_89 (by decide) (fun c10 => ?_) (fun c10 => ?_)
                      · -- jump 126
                        have hie : i = s := by
                          have := (nI_leI (by omega) (by omega)).mp c10; omega
                        subst hie
                        refine g_aload_n hX 0 dX7_put_126 rfl ?_
                        refine g_dup hX dX7_put_127 rfl ?_
                        refine m_g_5 hX i_X7_put_wsX70 (List.mem_of_getElem? (i := 2) rfl) dX7_put_128 ?_
                        refine g_iload_n hX 2 dX7_put_131 rfl ?_
                        refine g_iadd hX dX7_put_132 ?_
                        refine m_p_5 hX hA i_X7_put_wsX70 (List.mem_of_getElem? (i := 2) rfl) dX7_put_133 ?_
                        refine g_aload_n hX 0 dX7_put_136 rfl ?_
                        refine m_g_5 hX i_X7_put_wsX70 (List.mem_of_getElem? (i := 2) rfl) dX7_put_137 ?_
                        refine g_top (((wrK z c i i) 69 0) + (nI i)) (by simp [u2]) ?_
                        refine ret _ _ _ _ dX7_put_140 ?_
                        rw [spPut, hRs, if_neg hs0, if_neg (not_not_intro hc), cn_nI (by omega), apd_wr e69 hle]
                        have e : wrK z c i i 69 0 + nI i = nI (lenN z + i) := by rw [wrK_lo _ _ _ _ (by decide), e69]; exact nI_add _ _
                        rw [e]; exact ⟨(u2_s (wrK z c i i) 69 0 (nI (lenN z + i))).symm, rfl⟩
                      · -- on 92
                        have hin : i < s := Nat.lt_of_not_le (fun q => c10 (nI_le q (by omega)))
                        refine g_aload_n hX 0 dX7_put_92 rfl ?_
                        refine m_g_4 hX i_X7_put_wsX70 (List.mem_of_getElem? (i := 3) rfl) dX7_put_93 ?_
                        refine g_aload_n hX 0 dX7_put_96 rfl ?_
                        refine m_g_5 hX i_X7_put_wsX70 (List.mem_of_getElem? (i := 2) rfl) dX7_put_97 ?_
                        refine g_iload hX 3 dX7_put_100 rfl ?_
                        refine g_iadd hX dX7_put_102 ?_
                        refine g_lload_n hX 1 dX7_put_103 rfl ?_
                        refine g_bipush hX 8 dX7_put_104 (by decide) ?_
                        refine g_iload_n hX 2 dX7_put_106 rfl ?_
                        refine g_iconst hX 1 dX7_put_107 (by decide) ?_
                        refine g_isub hX dX7_put_108 ?_
                        refine g_iload hX 3 dX7_put_109 rfl ?_
                        refine g_isub hX dX7_put_111 ?_
                        refine g_imul hX dX7_put_112 ?_
                        refine g_lshr hX dX7_put_113 ?_
                        refine g_ldc2 hX 255 dX7_put_114 (List.mem_of_getElem? (i := 1) rfl) ?_
                        refine g_land hX dX7_put_117 ?_
                        refine g_l2i hX dX7_put_118 ?_
                        refine m_st_pad hX hA (lenN z + i) (by rw [wrK_lo _ _ _ _ (by decide), e69]; exact nI_add _ _) (by omega) dX7_put_119 ?_
                        refine g_iinc hX (nI (i + 1)) 3 [(6, .int (nI (i + 1))), (0, .ref (G.2.2 0)), (1, .long c), (3, .int (nI s))] dX7_put_120 rfl (nI_1 i) (by decide) rfl ?_
                        refine g_goto hX 86 dX7_put_123 (by decide) ?_
                        -- back to 86
                        refine g_sub [1, 2, 3, 0] [(0, .ref (G.2.2 0)), (1, .long c), (3, .int (nI s)), (6, .int (nI (i + 1)))] rfl ?_
                        have ez : u2 (wrK z c s i) 68 (lenN z + i) (((c >>> ((8 * (((nI s) - 1) - (nI i)) : Int32).toInt64 &&& 63)) &&& 255).toInt32) = wrK z c s (i + 1) := by
                          rw [show nI s - 1 - nI i = nI (s - 1 - i) from by rw [show nI s - 1 = nI (s - 1) from pk_sub (b := 1) (by omega), pk_sub (by omega)], chr_m c (by omega)]
                          rfl
                        refine g_z ez ?_
                        exact ihW (i + 1) (by omega) (by omega)
                  refine g_sub [1, 2, 3, 0] [(0, .ref (G.2.2 0)), (1, .long c), (3, .int (nI s)), (6, .int 0)] rfl ?_
                  have ez : z = wrK z c s 0 := by
                    rfl
                  refine g_z ez ?_
                  exact loop86 (s + 1) 0 (by omega) (Nat.zero_le _)
                · -- on 80
                  have hc := c9
                  refine g_bipush hX (-4) dX7_put_80 (by decide) ?_
                  refine ret _ _ _ _ dX7_put_82 ?_
                  rw [spPut, hRs, if_neg hs0, if_pos hc]; exact ⟨rfl, rfl⟩
              · -- on 66
                have hR0 : szK 8 0 c = 0 := by rw [hRR, if_neg (fun e => c8 ((lg_cmp_eq _ _).mpr e))]
                refine g_bipush hX (-2) dX7_put_66 (by decide) ?_
                refine ret _ _ _ _ dX7_put_68 ?_
                rw [spPut, if_pos hR0]; exact ⟨rfl, rfl⟩
          · -- on 22
            have hz : ¬ r = 0 := fun e => c6 ((lg_cmp_eq _ _).mpr (by rw [e]; rfl))
            refine g_lload hX 3 dX7_put_22 rfl ?_
            refine g_ldc2 hX 255 dX7_put_24 (List.mem_of_getElem? (i := 1) rfl) ?_
            refine g_land hX dX7_put_27 ?_
            refine g_l2i hX dX7_put_28 ?_
            refine g_bipush hX 33 dX7_put_29 (by decide) ?_
            refine g_bipush hX 126 dX7_put_31 (by decide) ?_
            refine g_csE hX (As := [.int ((r &&& 255).toInt32), .int 33, .int 126]) (rest := []) (c_X7_in l G z (x := ((r &&& 255).toInt32)) (lo := 33) (hi := 126) ) k_X7_put_X7_in rfl rfl (Nat.le_of_ble_eq_true rfl) dX7_put_33 ?_
            refine g_bi_ne hX 42 dX7_put_36 (by decide) (fun c11 => ?_) (fun c11 => ?_)
            · -- jump 42
              have hin := (in_b r).mp c11
              refine g_iinc hX (nI (s + 1)) 2 [(3, .int (nI (s + 1))), (0, .ref (G.2.2 0)), (1, .long c), (4, .long r)] dX7_put_42 rfl (nI_1 s) (by decide) rfl ?_
              refine g_lload hX 3 dX7_put_45 rfl ?_
              refine g_bipush hX 8 dX7_put_47 (by decide) ?_
              refine g_lushr hX dX7_put_49 ?_
              refine g_lstore hX [(4, .long ((r.toUInt64 >>> ((8 : Int32).toInt64.toUInt64 &&& Int64.toUInt64 63)).toInt64)), (3, .int (nI (s + 1))), (0, .ref (G.2.2 0)), (1, .long c)] dX7_put_50 (by decide) rfl ?_
              refine g_goto hX 5 dX7_put_52 (by decide) ?_
              -- back to 5
              refine g_sub [2, 3, 1, 0] [(0, .ref (G.2.2 0)), (1, .long c), (3, .int (nI (s + 1))), (4, .long ((r.toUInt64 >>> ((8 : Int32).toInt64.toUInt64 &&& Int64.toUInt64 63)).toInt64))] rfl ?_
              exact ih (s + 1) (shr8 r) (by omega) (by omega) (by rw [← hr, show 8 - s = (8 - (s + 1)) + 1 from by omega, szK, if_neg hz, if_neg hin]) (shr8_lt hb hkn)
            · -- on 39
              have hR0 : szK 8 0 c = 0 := by
                rw [← hr, show 8 - s = (8 - (s + 1)) + 1 from by omega, szK, if_neg hz, if_pos (Decidable.not_not.mp (fun q => c11 ((in_b r).mpr q)))]
              refine g_bipush hX (-2) dX7_put_39 (by decide) ?_
              refine ret _ _ _ _ dX7_put_41 ?_
              rw [spPut, if_pos hR0]; exact ⟨rfl, rfl⟩
    refine g_sub [2, 3, 1, 0] [(0, .ref (G.2.2 0)), (1, .long c), (3, .int 0), (4, .long c)] rfl ?_
    exact loop5 (8 + 1) 0 c (by omega) (by omega) rfl (r_top c)
