def rm_X7_isOfToday : Room := { frames := 1, cells := 0, slots := 0, locals := 22 }
theorem i_X7_isOfToday_wsX70 : ∀ w ∈ wsX70, w ∈ wsX7_isOfToday := fun w h => List.mem_cons_of_mem _ (List.mem_append_right _ h)
theorem k_X7_isOfToday_X7_of : CW rm_X7_isOfToday wsX7_isOfToday RX7 RX7 66 yX7_of cX7_of 3 (some .int) wsX7_of rm_X7_of 2 := ⟨gX7_isOfToday_X7_of, ⟨_, rfl⟩, rfl, rfl, ⟨rfl, by decide +kernel, by decide +kernel, by decide +kernel⟩, by decide, by decide⟩
set_option maxHeartbeats 4000000 in
set_option maxRecDepth 100000 in
theorem c_X7_isOfToday (l : Launch) (G : MG) (z : St) {a : Nat} (ha : a < 40) : CIm l G yX7_isOfToday wsX7_isOfToday rm_X7_isOfToday [.ref (G.2.2 0), .int (nI a)] z (fun ρ ζ => ρ = bi (z 13 a = z 0 0) ∧ ζ = z) := by
  refine ci_of (own := RX7) (cc := cX7_isOfToday) (maxL := 2) (ret := .boolean) (by decide +kernel) rfl rfl ?_ (Nat.le_of_ble_eq_true rfl) (KQ_mv (ExM_mv G)) ?_
  · rintro v z' ⟨rfl, -⟩; exact nz_bi _
  · intro X hX ret
    refine g_lv (lv' := [(0, .ref (G.2.2 0)), (1, .int (nI a))]) rfl ?_
    refine g_aload_n hX 0 dX7_isOfToday_0 rfl ?_
    refine g_iload_n hX 1 dX7_isOfToday_1 rfl ?_
    refine g_iconst hX 2 dX7_isOfToday_2 (by decide) ?_
    refine g_cvE hX (As := [.int (nI a), .int 2]) (rest := []) (c_X7_of l G z (a := a) (w := 2) (ha := (by omega)) (hw := (by decide))) k_X7_isOfToday_X7_of rc_Model rfl rfl (Nat.le_of_ble_eq_true rfl) dX7_isOfToday_3 ?_
    refine g_top (z 13 a) rfl ?_
    refine g_aload_n hX 0 dX7_isOfToday_6 rfl ?_
    refine m_g_0 hX i_X7_isOfToday_wsX70 (List.mem_of_getElem? (i := 1) rfl) dX7_isOfToday_7 ?_
    refine g_iconst hX 0 dX7_isOfToday_10 (by decide) ?_
    refine m_ld_at hX 0 rfl (by decide) dX7_isOfToday_11 (v := (z 0 0)) rfl ?_
    refine g_ic_ne hX 19 dX7_isOfToday_12 (by decide) (fun c1 => ?_) (fun c1 => ?_)
    · -- jump 19
      refine g_iconst hX 0 dX7_isOfToday_19 (by decide) ?_
      refine ret _ _ _ _ dX7_isOfToday_20 ?_
      refine ⟨?_, rfl⟩
      first | rfl | (simp [bi, c1]; done) | grind [bi]
    · -- on 15
      refine g_iconst hX 1 dX7_isOfToday_15 (by decide) ?_
      refine g_goto hX 20 dX7_isOfToday_16 (by decide) ?_
      refine ret _ _ _ _ dX7_isOfToday_20 ?_
      refine ⟨?_, rfl⟩
      first | rfl | (simp [bi, c1]; done) | grind [bi]
def rm_X7_firstWaiting : Room := { frames := 2, cells := 0, slots := 0, locals := 45 }
theorem i_X7_firstWaiting_wsX70 : ∀ w ∈ wsX70, w ∈ wsX7_firstWaiting := fun w h => List.mem_cons_of_mem _ (List.mem_append_right _ h)
theorem k_X7_firstWaiting_X7_isBarred : CW rm_X7_firstWaiting wsX7_firstWaiting RX7 RX7 90 yX7_isBarred cX7_isBarred 3 (some .boolean) wsX7_isBarred rm_X7_isBarred 2 := ⟨gX7_firstWaiting_X7_isBarred, ⟨_, rfl⟩, rfl, rfl, ⟨rfl, by decide +kernel, by decide +kernel, by decide +kernel⟩, by decide, by decide⟩
theorem k_X7_firstWaiting_X7_isClosed : CW rm_X7_firstWaiting wsX7_firstWaiting RX7 RX7 84 yX7_isClosed cX7_isClosed 2 (some .boolean) wsX7_isClosed rm_X7_isClosed 1 := ⟨gX7_firstWaiting_X7_isClosed, ⟨_, rfl⟩, rfl, rfl, ⟨rfl, by decide +kernel, by decide +kernel, by decide +kernel⟩, by decide, by decide⟩
theorem k_X7_firstWaiting_X7_isOn : CW rm_X7_firstWaiting wsX7_firstWaiting RX7 RX7 69 yX7_isOn cX7_isOn 4 (some .boolean) wsX7_isOn rm_X7_isOn 3 := ⟨gX7_firstWaiting_X7_isOn, ⟨_, rfl⟩, rfl, rfl, ⟨rfl, by decide +kernel, by decide +kernel, by decide +kernel⟩, by decide, by decide⟩
theorem k_X7_firstWaiting_X7_of : CW rm_X7_firstWaiting wsX7_firstWaiting RX7 RX7 66 yX7_of cX7_of 3 (some .int) wsX7_of rm_X7_of 2 := ⟨gX7_firstWaiting_X7_of, ⟨_, rfl⟩, rfl, rfl, ⟨rfl, by decide +kernel, by decide +kernel, by decide +kernel⟩, by decide, by decide⟩
theorem k_X7_firstWaiting_X7_ofClimber : CW rm_X7_firstWaiting wsX7_firstWaiting RX7 RX7 39 yX7_ofClimber cX7_ofClimber 3 (some .int) wsX7_ofClimber rm_X7_ofClimber 2 := ⟨gX7_firstWaiting_X7_ofClimber, ⟨_, rfl⟩, rfl, rfl, ⟨rfl, by decide +kernel, by decide +kernel, by decide +kernel⟩, by decide, by decide⟩
set_option maxHeartbeats 4000000 in
set_option maxRecDepth 100000 in
theorem c_X7_firstWaiting (l : Launch) (G : MG) (z : St) {r : Int32} {e : Nat} {p : Int32} (he : e < 60) (hI : IO z) (h87 : ∀ a, a < nA z → z 87 (cn (z 11 a)) = z 10 (cn (z 11 a))) : CIm l G yX7_firstWaiting wsX7_firstWaiting rm_X7_firstWaiting [.ref (G.2.2 0), .int r, .int (nI e), .int p] z (fun ρ ζ => ρ = (if z 7 e = 1 then -6 else fw z r (nI e) p) ∧ ζ = z) := by
  refine ci_of (own := RX7) (cc := cX7_firstWaiting) (maxL := 8) (ret := .int) (by decide +kernel) rfl rfl ?_ (Nat.le_of_ble_eq_true rfl) (KQ_mv (ExM_mv G)) ?_
  · intro v z' _; rfl
  · intro X hX ret
    refine g_lv (lv' := [(0, .ref (G.2.2 0)), (1, .int r), (2, .int (nI e)), (3, .int p)]) rfl ?_
    obtain ⟨e3, h40⟩ := iNa hI
    refine g_bipush hX (-6) dX7_firstWaiting_0 (by decide) ?_
    refine g_istore hX [(4, .int (-6)), (0, .ref (G.2.2 0)), (1, .int r), (2, .int (nI e)), (3, .int p)] dX7_firstWaiting_2 (by decide) rfl ?_
    refine g_iconst hX 0 dX7_firstWaiting_4 (by decide) ?_
    refine g_istore hX [(5, .int 0), (4, .int (-6)), (0, .ref (G.2.2 0)), (1, .int r), (2, .int (nI e)), (3, .int p)] dX7_firstWaiting_5 (by decide) rfl ?_
    have loop7 : ∀ (nf : Nat) (k : Nat), (nA z < k + nf) → (k ≤ nA z) → Go X (z) 7 [(0, .ref (G.2.2 0)), (1, .int r), (2, .int (nI e)), (3, .int p), (4, .int (fwK z r (nI e) p k)), (5, .int (nI k))] [] := by
      intro nf
      induction nf with
      | zero =>
        intro k hmu hk
        exfalso; omega
      | succ nf ih =>
        intro k hmu hk
        refine g_iload hX 5 dX7_firstWaiting_7 rfl ?_
        refine g_aload_n hX 0 dX7_firstWaiting_9 rfl ?_
        refine m_g_0 hX i_X7_firstWaiting_wsX70 (List.mem_of_getElem? (i := 1) rfl) dX7_firstWaiting_10 ?_
        refine g_iconst hX 3 dX7_firstWaiting_13 (by decide) ?_
        refine m_ld_at hX 3 rfl (by decide) dX7_firstWaiting_14 (v := (z 3 0)) rfl ?_
        refine g_ic_ge hX 129 dX7_firstWaiting_15 (by decide) (fun c1 => ?_) (fun c1 => ?_)
        · -- jump 129
          have hke : k = nA z := by
            rw [e3] at c1; have := (nI_leI (by omega) (by omega)).mp c1; omega
          refine g_aload_n hX 0 dX7_firstWaiting_129 rfl ?_
          refine g_iload_n hX 2 dX7_firstWaiting_130 rfl ?_
          refine g_cvE hX (As := [.int (nI e)]) (rest := []) (c_X7_isClosed l G z (d := e) (hd := he)) k_X7_firstWaiting_X7_isClosed rc_Model rfl rfl (Nat.le_of_ble_eq_true rfl) dX7_firstWaiting_131 ?_
          refine g_bi_eq hX 142 dX7_firstWaiting_134 (by decide) (fun c2 => ?_) (fun c2 => ?_)
          · -- jump 142
            refine g_iload hX 4 dX7_firstWaiting_142 rfl ?_
            refine ret _ _ _ _ dX7_firstWaiting_144 ?_
            refine ⟨?_, rfl⟩
            first | rw [if_pos (by assumption)] | (rw [if_neg (by assumption), hke]; try rfl)
          · -- on 137
            refine g_bipush hX (-6) dX7_firstWaiting_137 (by decide) ?_
            refine g_goto hX 144 dX7_firstWaiting_139 (by decide) ?_
            refine ret _ _ _ _ dX7_firstWaiting_144 ?_
            refine ⟨?_, rfl⟩
            first | rw [if_pos (by assumption)] | (rw [if_neg (by assumption), hke]; try rfl)
        · -- on 18
          have hkn : k < nA z := by
            rw [e3] at c1; exact Nat.lt_of_not_le (fun q => c1 (nI_le q (by omega)))
          have hC := iC hI hkn
          have h8 := h87 k hkn
          refine g_aload_n hX 0 dX7_firstWaiting_18 rfl ?_
          refine g_aload_n hX 0 dX7_firstWaiting_19 rfl ?_
          refine g_iload hX 5 dX7_firstWaiting_20 rfl ?_
          refine g_iconst hX 0 dX7_firstWaiting_22 (by decide) ?_
          refine g_cvE hX (As := [.int (nI k), .int 0]) (rest := [.ref (G.2.2 0)]) (c_X7_of l G z (a := k) (w := 0) (ha := (by omega)) (hw := (by decide))) k_X7_firstWaiting_X7_of rc_Model rfl rfl (Nat.le_of_ble_eq_true rfl) dX7_firstWaiting_23 ?_
          refine g_top (z 11 k) rfl ?_
          refine g_iconst hX 0 dX7_firstWaiting_26 (by decide) ?_
          refine g_st (st2 := [.int 0, .int (nI (cn (z 11 k))), .ref (G.2.2 0)]) (by rw [← (show (z 11 k) = nI (cn (z 11 k)) from hC.1)]) ?_
          refine g_cvE hX (As := [.int (nI (cn (z 11 k))), .int 0]) (rest := []) (c_X7_ofClimber l G z (c := (cn (z 11 k))) (w := 0) (hc := hC.2) (hw := (by decide))) k_X7_firstWaiting_X7_ofClimber rc_Model rfl rfl (Nat.le_of_ble_eq_true rfl) dX7_firstWaiting_27 ?_
          refine g_top (z 8 (cn (z 11 k))) rfl ?_
          refine g_istore hX [(6, .int (z 8 (cn (z 11 k)))), (0, .ref (G.2.2 0)), (1, .int r), (2, .int (nI e)), (3, .int p), (4, .int (fwK z r (nI e) p k)), (5, .int (nI k))] dX7_firstWaiting_30 (by decide) rfl ?_
          refine g_aload_n hX 1 dX7_firstWaiting_32 rfl ?_
          refine g_iload hX 6 dX7_firstWaiting_33 rfl ?_
          refine g_iload_n hX 2 dX7_firstWaiting_35 rfl ?_
          refine g_iload_n hX 3 dX7_firstWaiting_36 rfl ?_
          refine g_cvE hX (As := [.int (nI k), .int r, .int (nI e)]) (rest := []) (c_X7_isOn l G z (a := k) (r := r) (d := (nI e)) (ha := (by omega))) k_X7_firstWaiting_X7_isOn rc_Model rfl rfl (Nat.le_of_ble_eq_true rfl) dX7_firstWaiting_37 ?_
          refine g_bi_eq hX 84 dX7_firstWaiting_40 (by decide) (fun c3 => ?_) (fun c3 => ?_)
          · -- jump 84
            refine g_iconst hX 0 dX7_firstWaiting_84 (by decide) ?_
            refine g_istore hX [(7, .int 0), (6, .int (z 8 (cn (z 11 k)))), (0, .ref (G.2.2 0)), (1, .int r), (2, .int (nI e)), (3, .int p), (4, .int (fwK z r (nI e) p k)), (5, .int (nI k))] dX7_firstWaiting_85 (by decide) rfl ?_
            refine g_iload hX 0 dX7_firstWaiting_87 rfl ?_
            refine g_if_eq hX 119 dX7_firstWaiting_89 (by decide) (fun c4 => ?_) (fun c4 => ?_)
            · -- jump 119
              refine g_iload hX 6 dX7_firstWaiting_119 rfl ?_
              refine g_istore hX [(4, .int (fwK z r (nI e) p k)), (7, .int 0), (6, .int (z 8 (cn (z 11 k)))), (0, .ref (G.2.2 0)), (1, .int r), (2, .int (nI e)), (3, .int p), (5, .int (nI k))] dX7_firstWaiting_121 (by decide) rfl ?_
              refine g_iinc hX (nI (k + 1)) 7 [(5, .int (nI (k + 1))), (4, .int (fwK z r (nI e) p k)), (7, .int 0), (6, .int (z 8 (cn (z 11 k)))), (0, .ref (G.2.2 0)), (1, .int r), (2, .int (nI e)), (3, .int p)] dX7_firstWaiting_123 rfl (nI_1 k) (by decide) rfl ?_
              refine g_goto hX 7 dX7_firstWaiting_126 (by decide) ?_
              -- back to 7
              refine g_sub [4, 5, 6, 7, 1, 0] [(0, .ref (G.2.2 0)), (1, .int r), (2, .int (nI e)), (3, .int p), (4, .int (fwK z r (nI e) p k)), (5, .int (nI (k + 1)))] rfl ?_
              have e4 : (fwK z r (nI e) p k : Int32) = fwK z r (nI e) p (k + 1) := by
                rw [fwK, if_neg (by grind)]
              refine g_lv (lv' := [(0, .ref (G.2.2 0)), (1, .int r), (2, .int (nI e)), (3, .int p), (4, .int (fwK z r (nI e) p (k + 1))), (5, .int (nI (k + 1)))]) (by rw [e4]) ?_
              exact ih (k + 1) (by omega) (by omega)
            · -- on 92
              exact absurd c4 (by decide)
          · -- on 43
            refine g_aload_n hX 1 dX7_firstWaiting_43 rfl ?_
            refine g_iload hX 6 dX7_firstWaiting_44 rfl ?_
            refine g_iconst hX 4 dX7_firstWaiting_46 (by decide) ?_
            refine g_cvE hX (As := [.int (nI k), .int 4]) (rest := []) (c_X7_of l G z (a := k) (w := 4) (ha := (by omega)) (hw := (by decide))) k_X7_firstWaiting_X7_of rc_Model rfl rfl (Nat.le_of_ble_eq_true rfl) dX7_firstWaiting_47 ?_
            refine g_top (z 15 k) rfl ?_
            refine g_iconst hX 2 dX7_firstWaiting_50 (by decide) ?_
            refine g_ic_ne hX 84 dX7_firstWaiting_51 (by decide) (fun c5 => ?_) (fun c5 => ?_)
            · -- jump 84
              refine g_iconst hX 0 dX7_firstWaiting_84 (by decide) ?_
              refine g_istore hX [(7, .int 0), (6, .int (z 8 (cn (z 11 k)))), (0, .ref (G.2.2 0)), (1, .int r), (2, .int (nI e)), (3, .int p), (4, .int (fwK z r (nI e) p k)), (5, .int (nI k))] dX7_firstWaiting_85 (by decide) rfl ?_
              refine g_iload hX 0 dX7_firstWaiting_87 rfl ?_
              refine g_if_eq hX 119 dX7_firstWaiting_89 (by decide) (fun c6 => ?_) (fun c6 => ?_)
              · -- jump 119
                refine g_iload hX 6 dX7_firstWaiting_119 rfl ?_
                refine g_istore hX [(4, .int (fwK z r (nI e) p k)), (7, .int 0), (6, .int (z 8 (cn (z 11 k)))), (0, .ref (G.2.2 0)), (1, .int r), (2, .int (nI e)), (3, .int p), (5, .int (nI k))] dX7_firstWaiting_121 (by decide) rfl ?_
                refine g_iinc hX (nI (k + 1)) 7 [(5, .int (nI (k + 1))), (4, .int (fwK z r (nI e) p k)), (7, .int 0), (6, .int (z 8 (cn (z 11 k)))), (0, .ref (G.2.2 0)), (1, .int r), (2, .int (nI e)), (3, .int p)] dX7_firstWaiting_123 rfl (nI_1 k) (by decide) rfl ?_
                refine g_goto hX 7 dX7_firstWaiting_126 (by decide) ?_
                -- back to 7
                refine g_sub [4, 5, 6, 7, 1, 0] [(0, .ref (G.2.2 0)), (1, .int r), (2, .int (nI e)), (3, .int p), (4, .int (fwK z r (nI e) p k)), (5, .int (nI (k + 1)))] rfl ?_
                have e4 : (fwK z r (nI e) p k : Int32) = fwK z r (nI e) p (k + 1) := by
                  rw [fwK, if_neg (by grind)]
                refine g_lv (lv' := [(0, .ref (G.2.2 0)), (1, .int r), (2, .int (nI e)), (3, .int p), (4, .int (fwK z r (nI e) p (k + 1))), (5, .int (nI (k + 1)))]) (by rw [e4]) ?_
                exact ih (k + 1) (by omega) (by omega)
              · -- on 92
                exact absurd c6 (by decide)
            · -- on 54
              refine g_aload_n hX 1 dX7_firstWaiting_54 rfl ?_
              refine g_iload hX 6 dX7_firstWaiting_55 rfl ?_
              refine g_iconst hX 3 dX7_firstWaiting_57 (by decide) ?_
              refine g_cvE hX (As := [.int (nI k), .int 3]) (rest := []) (c_X7_of l G z (a := k) (w := 3) (ha := (by omega)) (hw := (by decide))) k_X7_firstWaiting_X7_of rc_Model rfl rfl (Nat.le_of_ble_eq_true rfl) dX7_firstWaiting_58 ?_
              refine g_top (z 14 k) rfl ?_
              refine g_iload_n hX 4 dX7_firstWaiting_61 rfl ?_
              refine g_ic_gt hX 84 dX7_firstWaiting_62 (by decide) (fun c7 => ?_) (fun c7 => ?_)
              · -- jump 84
                refine g_iconst hX 0 dX7_firstWaiting_84 (by decide) ?_
                refine g_istore hX [(7, .int 0), (6, .int (z 8 (cn (z 11 k)))), (0, .ref (G.2.2 0)), (1, .int r), (2, .int (nI e)), (3, .int p), (4, .int (fwK z r (nI e) p k)), (5, .int (nI k))] dX7_firstWaiting_85 (by decide) rfl ?_
                refine g_iload hX 0 dX7_firstWaiting_87 rfl ?_
                refine g_if_eq hX 119 dX7_firstWaiting_89 (by decide) (fun c8 => ?_) (fun c8 => ?_)
                · -- jump 119
                  refine g_iload hX 6 dX7_firstWaiting_119 rfl ?_
                  refine g_istore hX [(4, .int (fwK z r (nI e) p k)), (7, .int 0), (6, .int (z 8 (cn (z 11 k)))), (0, .ref (G.2.2 0)), (1, .int r), (2, .int (nI e)), (3, .int p), (5, .int (nI k))] dX7_firstWaiting_121 (by decide) rfl ?_
                  refine g_iinc hX (nI (k + 1)) 7 [(5, .int (nI (k + 1))), (4, .int (fwK z r (nI e) p k)), (7, .int 0), (6, .int (z 8 (cn (z 11 k)))), (0, .ref (G.2.2 0)), (1, .int r), (2, .int (nI e)), (3, .int p)] dX7_firstWaiting_123 rfl (nI_1 k) (by decide) rfl ?_
                  refine g_goto hX 7 dX7_firstWaiting_126 (by decide) ?_
                  -- back to 7
                  refine g_sub [4, 5, 6, 7, 1, 0] [(0, .ref (G.2.2 0)), (1, .int r), (2, .int (nI e)), (3, .int p), (4, .int (fwK z r (nI e) p k)), (5, .int (nI (k + 1)))] rfl ?_
                  have e4 : (fwK z r (nI e) p k : Int32) = fwK z r (nI e) p (k + 1) := by
                    rw [fwK, if_neg (by grind)]
                  refine g_lv (lv' := [(0, .ref (G.2.2 0)), (1, .int r), (2, .int (nI e)), (3, .int p), (4, .int (fwK z r (nI e) p (k + 1))), (5, .int (nI (k + 1)))]) (by rw [e4]) ?_
                  exact ih (k + 1) (by omega) (by omega)
                · -- on 92
                  exact absurd c8 (by decide)
              · -- on 65
                refine g_aload_n hX 1 dX7_firstWaiting_65 rfl ?_
                refine g_aload_n hX 1 dX7_firstWaiting_66 rfl ?_
                refine g_iload hX 6 dX7_firstWaiting_67 rfl ?_
                refine g_iconst hX 0 dX7_firstWaiting_69 (by decide) ?_
                refine g_cvE hX (As := [.int (nI k), .int 0]) (rest := [.ref (G.2.2 0)]) (c_X7_of l G z (a := k) (w := 0) (ha := (by omega)) (hw := (by decide))) k_X7_firstWaiting_X7_of rc_Model rfl rfl (Nat.le_of_ble_eq_true rfl) dX7_firstWaiting_70 ?_
                refine g_top (z 11 k) rfl ?_
                refine g_iload_n hX 3 dX7_firstWaiting_73 rfl ?_
                refine g_st (st2 := [.int (nI e), .int (nI (cn (z 11 k))), .ref (G.2.2 0)]) (by rw [← (show (z 11 k) = nI (cn (z 11 k)) from hC.1)]) ?_
                refine g_cvE hX (As := [.int (nI (cn (z 11 k))), .int (nI e)]) (rest := []) (c_X7_isBarred l G z (c := (cn (z 11 k))) (d := (nI e)) (hc := hC.2)) k_X7_firstWaiting_X7_isBarred rc_Model rfl rfl (Nat.le_of_ble_eq_true rfl) dX7_firstWaiting_74 ?_
                refine g_bi_ne hX 84 dX7_firstWaiting_77 (by decide) (fun c9 => ?_) (fun c9 => ?_)
                · -- jump 84
                  refine g_iconst hX 0 dX7_firstWaiting_84 (by decide) ?_
                  refine g_istore hX [(7, .int 0), (6, .int (z 8 (cn (z 11 k)))), (0, .ref (G.2.2 0)), (1, .int r), (2, .int (nI e)), (3, .int p), (4, .int (fwK z r (nI e) p k)), (5, .int (nI k))] dX7_firstWaiting_85 (by decide) rfl ?_
                  refine g_iload hX 0 dX7_firstWaiting_87 rfl ?_
                  refine g_if_eq hX 119 dX7_firstWaiting_89 (by decide) (fun c10 => ?_) (fun c10 => ?_)
                  · -- jump 119
                    refine g_iload hX 6 dX7_firstWaiting_119 rfl ?_
                    refine g_istore hX [(4, .int (fwK z r (nI e) p k)), (7, .int 0), (6, .int (z 8 (cn (z 11 k)))), (0, .ref (G.2.2 0)), (1, .int r), (2, .int (nI e)), (3, .int p), (5, .int (nI k))] dX7_firstWaiting_121 (by decide) rfl ?_
                    refine g_iinc hX (nI (k + 1)) 7 [(5, .int (nI (k + 1))), (4, .int (fwK z r (nI e) p k)), (7, .int 0), (6, .int (z 8 (cn (z 11 k)))), (0, .ref (G.2.2 0)), (1, .int r), (2, .int (nI e)), (3, .int p)] dX7_firstWaiting_123 rfl (nI_1 k) (by decide) rfl ?_
                    refine g_goto hX 7 dX7_firstWaiting_126 (by decide) ?_
                    -- back to 7
                    refine g_sub [4, 5, 6, 7, 1, 0] [(0, .ref (G.2.2 0)), (1, .int r), (2, .int (nI e)), (3, .int p), (4, .int (fwK z r (nI e) p k)), (5, .int (nI (k + 1)))] rfl ?_
                    have e4 : (fwK z r (nI e) p k : Int32) = fwK z r (nI e) p (k + 1) := by
                      rw [fwK, if_neg (by grind)]
                    refine g_lv (lv' := [(0, .ref (G.2.2 0)), (1, .int r), (2, .int (nI e)), (3, .int p), (4, .int (fwK z r (nI e) p (k + 1))), (5, .int (nI (k + 1)))]) (by rw [e4]) ?_
                    exact ih (k + 1) (by omega) (by omega)
                  · -- on 92
                    exact absurd c10 (by decide)
                · -- on 80
                  refine g_iconst hX 1 dX7_firstWaiting_80 (by decide) ?_
                  refine g_goto hX 85 dX7_firstWaiting_81 (by decide) ?_
                  refine g_istore hX [(7, .int 1), (6, .int (z 8 (cn (z 11 k)))), (0, .ref (G.2.2 0)), (1, .int r), (2, .int (nI e)), (3, .int p), (4, .int (fwK z r (nI e) p k)), (5, .int (nI k))] dX7_firstWaiting_85 (by decide) rfl ?_
                  refine g_iload hX 0 dX7_firstWaiting_87 rfl ?_
                  refine g_if_eq hX 119 dX7_firstWaiting_89 (by decide) (fun c11 => ?_) (fun c11 => ?_)
                  · -- jump 119
                    exact absurd c11 (by decide)
                  · -- on 92
                    refine g_iload hX 6 dX7_firstWaiting_92 rfl ?_
                    refine g_if_lt hX 114 dX7_firstWaiting_94 (by decide) (fun c12 => ?_) (fun c12 => ?_)
                    · -- jump 114
                      refine g_iload hX 7 dX7_firstWaiting_114 rfl ?_
                      refine g_goto hX 121 dX7_firstWaiting_116 (by decide) ?_
                      refine g_istore hX [(4, .int (nI k)), (7, .int 1), (6, .int (z 8 (cn (z 11 k)))), (0, .ref (G.2.2 0)), (1, .int r), (2, .int (nI e)), (3, .int p), (5, .int (nI k))] dX7_firstWaiting_121 (by decide) rfl ?_
                      refine g_iinc hX (nI (k + 1)) 7 [(5, .int (nI (k + 1))), (4, .int (nI k)), (7, .int 1), (6, .int (z 8 (cn (z 11 k)))), (0, .ref (G.2.2 0)), (1, .int r), (2, .int (nI e)), (3, .int p)] dX7_firstWaiting_123 rfl (nI_1 k) (by decide) rfl ?_
                      refine g_goto hX 7 dX7_firstWaiting_126 (by decide) ?_
                      -- back to 7
                      refine g_sub [4, 5, 6, 7, 1, 0] [(0, .ref (G.2.2 0)), (1, .int r), (2, .int (nI e)), (3, .int p), (4, .int (nI k)), (5, .int (nI (k + 1)))] rfl ?_
                      have e4 : (nI k : Int32) = fwK z r (nI e) p (k + 1) := by
                        rw [fwK, if_pos (by grind)]
                      refine g_lv (lv' := [(0, .ref (G.2.2 0)), (1, .int r), (2, .int (nI e)), (3, .int p), (4, .int (fwK z r (nI e) p (k + 1))), (5, .int (nI (k + 1)))]) (by rw [e4]) ?_
                      exact ih (k + 1) (by omega) (by omega)
                    · -- on 97
                      have hb : fwK z r (nI e) p k = nI (cn (fwK z r (nI e) p k)) ∧ cn (fwK z r (nI e) p k) < k := by
                        rcases fwK_rng z r (nI e) p k with h | ⟨j, h1, h2, -⟩
                        · exact absurd (by rw [h]; decide) c12
                        · rw [h2, cn_nI (by omega)]; exact ⟨rfl, h1⟩
                      have hB := iC hI (show cn (fwK z r (nI e) p k) < nA z by omega)
                      refine g_iload hX 1 dX7_firstWaiting_97 rfl ?_
                      refine g_aload_n hX 2 dX7_firstWaiting_99 rfl ?_
                      refine g_aload_n hX 2 dX7_firstWaiting_100 rfl ?_
                      refine g_iload hX 6 dX7_firstWaiting_101 rfl ?_
                      refine g_iconst hX 0 dX7_firstWaiting_103 (by decide) ?_
                      refine g_st (st2 := [.int 0, .int (nI (cn (fwK z r (nI e) p k))), .ref (G.2.2 0), .ref (G.2.2 0), .int (z 8 (cn (z 11 k)))]) (by rw [← (show (fwK z r (nI e) p k) = nI (cn (fwK z r (nI e) p k)) from hb.1)]) ?_
                      refine g_cvE hX (As := [.int (nI (cn (fwK z r (nI e) p k))), .int 0]) (rest := [.ref (G.2.2 0), .int (z 8 (cn (z 11 k)))]) (c_X7_of l G z (a := (cn (fwK z r (nI e) p k))) (w := 0) (ha := (by omega)) (hw := (by decide))) k_X7_firstWaiting_X7_of rc_Model rfl rfl (Nat.le_of_ble_eq_true rfl) dX7_firstWaiting_104 ?_
                      refine g_top (z 11 (cn (fwK z r (nI e) p k))) rfl ?_
                      refine g_iconst hX 0 dX7_firstWaiting_107 (by decide) ?_
                      refine g_st (st2 := [.int 0, .int (nI (cn (z 11 (cn (fwK z r (nI e) p k))))), .ref (G.2.2 0), .int (z 8 (cn (z 11 k)))]) (by rw [← (show (z 11 (cn (fwK z r (nI e) p k))) = nI (cn (z 11 (cn (fwK z r (nI e) p k)))) from hB.1)]) ?_
                      refine g_cvE hX (As := [.int (nI (cn (z 11 (cn (fwK z r (nI e) p k))))), .int 0]) (rest := [.int (z 8 (cn (z 11 k)))]) (c_X7_ofClimber l G z (c := (cn (z 11 (cn (fwK z r (nI e) p k))))) (w := 0) (hc := hB.2) (hw := (by decide))) k_X7_firstWaiting_X7_ofClimber rc_Model rfl rfl (Nat.le_of_ble_eq_true rfl) dX7_firstWaiting_108 ?_
                      refine g_top (z 8 (cn (z 11 (cn (fwK z r (nI e) p k))))) rfl ?_
                      refine g_ic_le hX 119 dX7_firstWaiting_111 (by decide) (fun c13 => ?_) (fun c13 => ?_)
                      · -- jump 119
                        refine g_iload hX 6 dX7_firstWaiting_119 rfl ?_
                        refine g_istore hX [(4, .int (fwK z r (nI e) p k)), (7, .int 1), (6, .int (z 8 (cn (z 11 k)))), (0, .ref (G.2.2 0)), (1, .int r), (2, .int (nI e)), (3, .int p), (5, .int (nI k))] dX7_firstWaiting_121 (by decide) rfl ?_
                        refine g_iinc hX (nI (k + 1)) 7 [(5, .int (nI (k + 1))), (4, .int (fwK z r (nI e) p k)), (7, .int 1), (6, .int (z 8 (cn (z 11 k)))), (0, .ref (G.2.2 0)), (1, .int r), (2, .int (nI e)), (3, .int p)] dX7_firstWaiting_123 rfl (nI_1 k) (by decide) rfl ?_
                        refine g_goto hX 7 dX7_firstWaiting_126 (by decide) ?_
                        -- back to 7
                        refine g_sub [4, 5, 6, 7, 1, 0] [(0, .ref (G.2.2 0)), (1, .int r), (2, .int (nI e)), (3, .int p), (4, .int (fwK z r (nI e) p k)), (5, .int (nI (k + 1)))] rfl ?_
                        have e4 : (fwK z r (nI e) p k : Int32) = fwK z r (nI e) p (k + 1) := by
                          rw [fwK, if_neg (by grind)]
                        refine g_lv (lv' := [(0, .ref (G.2.2 0)), (1, .int r), (2, .int (nI e)), (3, .int p), (4, .int (fwK z r (nI e) p (k + 1))), (5, .int (nI (k + 1)))]) (by rw [e4]) ?_
                        exact ih (k + 1) (by omega) (by omega)
                      · -- on 114
                        refine g_iload hX 7 dX7_firstWaiting_114 rfl ?_
                        refine g_goto hX 121 dX7_firstWaiting_116 (by decide) ?_
                        refine g_istore hX [(4, .int (nI k)), (7, .int 1), (6, .int (z 8 (cn (z 11 k)))), (0, .ref (G.2.2 0)), (1, .int r), (2, .int (nI e)), (3, .int p), (5, .int (nI k))] dX7_firstWaiting_121 (by decide) rfl ?_
                        refine g_iinc hX (nI (k + 1)) 7 [(5, .int (nI (k + 1))), (4, .int (nI k)), (7, .int 1), (6, .int (z 8 (cn (z 11 k)))), (0, .ref (G.2.2 0)), (1, .int r), (2, .int (nI e)), (3, .int p)] dX7_firstWaiting_123 rfl (nI_1 k) (by decide) rfl ?_
                        refine g_goto hX 7 dX7_firstWaiting_126 (by decide) ?_
                        -- back to 7
                        refine g_sub [4, 5, 6, 7, 1, 0] [(0, .ref (G.2.2 0)), (1, .int r), (2, .int (nI e)), (3, .int p), (4, .int (nI k)), (5, .int (nI (k + 1)))] rfl ?_
                        have e4 : (nI k : Int32) = fwK z r (nI e) p (k + 1) := by
                          rw [fwK, if_pos (by grind)]
                        refine g_lv (lv' := [(0, .ref (G.2.2 0)), (1, .int r), (2, .int (nI e)), (3, .int p), (4, .int (fwK z r (nI e) p (k + 1))), (5, .int (nI (k + 1)))]) (by rw [e4]) ?_
                        exact ih (k + 1) (by omega) (by omega)
    refine g_sub [2, 3, 4, 5, 1, 0] [(0, .ref (G.2.2 0)), (1, .int r), (2, .int (nI e)), (3, .int p), (4, .int (-6)), (5, .int 0)] rfl ?_
    exact loop7 (nA z + 1) 0 (by omega) (Nat.zero_le _)
def rm_X7_sumOf : Room := { frames := 1, cells := 0, slots := 0, locals := 22 }
theorem i_X7_sumOf_wsX70 : ∀ w ∈ wsX70, w ∈ wsX7_sumOf := fun w h => List.mem_cons_of_mem _ (List.mem_append_right _ h)
theorem k_X7_sumOf_X7_of : CW rm_X7_sumOf wsX7_sumOf RX7 RX7 66 yX7_of cX7_of 3 (some .int) wsX7_of rm_X7_of 2 := ⟨gX7_sumOf_X7_of, ⟨_, rfl⟩, rfl, rfl, ⟨rfl, by decide +kernel, by decide +kernel, by decide +kernel⟩, by decide, by decide⟩
set_option maxHeartbeats 4000000 in
set_option maxRecDepth 100000 in
theorem c_X7_sumOf (l : Launch) (G : MG) (z : St) {c : Int32} {w : Int32} (hI : IO z) : CIm l G yX7_sumOf wsX7_sumOf rm_X7_sumOf [.ref (G.2.2 0), .int c, .int w] z (fun ρ ζ => ρ = sumN z c w ∧ ζ = z) := by
  refine ci_of (own := RX7) (cc := cX7_sumOf) (maxL := 5) (ret := .int) (by decide +kernel) rfl rfl ?_ (Nat.le_of_ble_eq_true rfl) (KQ_mv (ExM_mv G)) ?_
  · intro v z' _; rfl
  · intro X hX ret
    refine g_lv (lv' := [(0, .ref (G.2.2 0)), (1, .int c), (2, .int w)]) rfl ?_
    obtain ⟨e3, h40⟩ := iNa hI
    refine g_iconst hX 0 dX7_sumOf_0 (by decide) ?_
    refine g_istore_n hX [(3, .int 0), (0, .ref (G.2.2 0)), (1, .int c), (2, .int w)] dX7_sumOf_1 (by decide) rfl ?_
    refine g_iconst hX 0 dX7_sumOf_2 (by decide) ?_
    refine g_istore hX [(4, .int 0), (3, .int 0), (0, .ref (G.2.2 0)), (1, .int c), (2, .int w)] dX7_sumOf_3 (by decide) rfl ?_
    have loop5 : ∀ (nf : Nat) (k : Nat), (nA z < k + nf) → (k ≤ nA z) → Go X (z) 5 [(0, .ref (G.2.2 0)), (1, .int c), (2, .int w), (3, .int (sm (sumG z c w) k)), (4, .int (nI k))] [] := by
      intro nf
      induction nf with
      | zero =>
        intro k hmu hk
        exfalso; omega
      | succ nf ih =>
        intro k hmu hk
        refine g_iload hX 4 dX7_sumOf_5 rfl ?_
        refine g_aload_n hX 0 dX7_sumOf_7 rfl ?_
        refine m_g_0 hX i_X7_sumOf_wsX70 (List.mem_of_getElem? (i := 1) rfl) dX7_sumOf_8 ?_
        refine g_iconst hX 3 dX7_sumOf_11 (by decide) ?_
        refine m_ld_at hX 3 rfl (by decide) dX7_sumOf_12 (v := (z 3 0)) rfl ?_
        refine g_ic_ge hX 92 dX7_sumOf_13 (by decide) (fun c1 => ?_) (fun c1 => ?_)
        · -- jump 92
          have hke : k = nA z := by
            rw [e3] at c1; have := (nI_leI (by omega) (by omega)).mp c1; omega
          refine g_iload_n hX 3 dX7_sumOf_92 rfl ?_
          refine ret _ _ _ _ dX7_sumOf_93 ?_
          exact ⟨by rw [hke]; rfl, rfl⟩
        · -- on 16
          have hkn : k < nA z := by
            rw [e3] at c1; exact Nat.lt_of_not_le (fun q => c1 (nI_le q (by omega)))
          refine g_aload_n hX 0 dX7_sumOf_16 rfl ?_
          refine g_iload hX 4 dX7_sumOf_17 rfl ?_
          refine g_iconst hX 0 dX7_sumOf_19 (by decide) ?_
          refine g_cvE hX (As := [.int (nI k), .int 0]) (rest := []) (c_X7_of l G z (a := k) (w := 0) (ha := (by omega)) (hw := (by decide))) k_X7_sumOf_X7_of rc_Model rfl rfl (Nat.le_of_ble_eq_true rfl) dX7_sumOf_20 ?_
          refine g_top (z 11 k) rfl ?_
          refine g_iload_n hX 1 dX7_sumOf_23 rfl ?_
          refine g_ic_ne hX 86 dX7_sumOf_24 (by decide) (fun c2 => ?_) (fun c2 => ?_)
          · -- jump 86
            refine g_iinc hX (nI (k + 1)) 4 [(4, .int (nI (k + 1))), (0, .ref (G.2.2 0)), (1, .int c), (2, .int w), (3, .int (sm (sumG z c w) k))] dX7_sumOf_86 rfl (nI_1 k) (by decide) rfl ?_
            refine g_goto hX 5 dX7_sumOf_89 (by decide) ?_
            -- back to 5
            refine g_sub [1, 2, 3, 4, 0] [(0, .ref (G.2.2 0)), (1, .int c), (2, .int w), (3, .int (sm (sumG z c w) k)), (4, .int (nI (k + 1)))] rfl ?_
            have e3 : (sm (sumG z c w) k : Int32) = sm (sumG z c w) (k + 1) := by
              rw [sm, sumG]; first | (simp [c1, c2]; done) | grind
            refine g_lv (lv' := [(0, .ref (G.2.2 0)), (1, .int c), (2, .int w), (3, .int (sm (sumG z c w) (k + 1))), (4, .int (nI (k + 1)))]) (by rw [e3]) ?_
            exact ih (k + 1) (by omega) (by omega)
          · -- on 27
            refine g_iload_n hX 3 dX7_sumOf_27 rfl ?_
            refine g_iload_n hX 2 dX7_sumOf_28 rfl ?_
            refine g_iconst hX 3 dX7_sumOf_29 (by decide) ?_
            refine g_ic_ne hX 52 dX7_sumOf_30 (by decide) (fun c3 => ?_) (fun c3 => ?_)
            · -- jump 52
              refine g_iload_n hX 2 dX7_sumOf_52 rfl ?_
              refine g_iconst hX 4 dX7_sumOf_53 (by decide) ?_
              refine g_ic_ne hX 67 dX7_sumOf_54 (by decide) (fun c4 => ?_) (fun c4 => ?_)
              · -- jump 67
                refine g_iload_n hX 2 dX7_sumOf_67 rfl ?_
                refine g_iconst hX 5 dX7_sumOf_68 (by decide) ?_
                refine g_ic_ne hX 83 dX7_sumOf_69 (by decide) (fun c5 => ?_) (fun c5 => ?_)
                · -- jump 83
                  refine g_iconst hX 1 dX7_sumOf_83 (by decide) ?_
                  refine g_iadd hX dX7_sumOf_84 ?_
                  refine g_istore_n hX [(3, .int ((sm (sumG z c w) k) + 1)), (0, .ref (G.2.2 0)), (1, .int c), (2, .int w), (4, .int (nI k))] dX7_sumOf_85 (by decide) rfl ?_
                  refine g_iinc hX (nI (k + 1)) 4 [(4, .int (nI (k + 1))), (3, .int ((sm (sumG z c w) k) + 1)), (0, .ref (G.2.2 0)), (1, .int c), (2, .int w)] dX7_sumOf_86 rfl (nI_1 k) (by decide) rfl ?_
                  refine g_goto hX 5 dX7_sumOf_89 (by decide) ?_
                  -- back to 5
                  refine g_sub [2, 3, 4, 1, 0] [(0, .ref (G.2.2 0)), (1, .int c), (2, .int w), (3, .int ((sm (sumG z c w) k) + 1)), (4, .int (nI (k + 1)))] rfl ?_
                  have e3 : ((sm (sumG z c w) k) + 1 : Int32) = sm (sumG z c w) (k + 1) := by
                    rw [sm, sumG]; first | (simp [c1, c2, c3, c4, c5]; done) | grind
                  refine g_lv (lv' := [(0, .ref (G.2.2 0)), (1, .int c), (2, .int w), (3, .int (sm (sumG z c w) (k + 1))), (4, .int (nI (k + 1)))]) (by rw [e3]) ?_
                  exact ih (k + 1) (by omega) (by omega)
                · -- on 72
                  refine g_aload_n hX 0 dX7_sumOf_72 rfl ?_
                  refine g_iload hX 4 dX7_sumOf_73 rfl ?_
                  refine g_bipush hX 6 dX7_sumOf_75 (by decide) ?_
                  refine g_cvE hX (As := [.int (nI k), .int 6]) (rest := [.int (sm (sumG z c w) k)]) (c_X7_of l G z (a := k) (w := 6) (ha := (by omega)) (hw := (by decide))) k_X7_sumOf_X7_of rc_Model rfl rfl (Nat.le_of_ble_eq_true rfl) dX7_sumOf_77 ?_
                  refine g_top (z 17 k) rfl ?_
                  refine g_goto hX 84 dX7_sumOf_80 (by decide) ?_
                  refine g_iadd hX dX7_sumOf_84 ?_
                  refine g_istore_n hX [(3, .int ((sm (sumG z c w) k) + (z 17 k))), (0, .ref (G.2.2 0)), (1, .int c), (2, .int w), (4, .int (nI k))] dX7_sumOf_85 (by decide) rfl ?_
                  refine g_iinc hX (nI (k + 1)) 4 [(4, .int (nI (k + 1))), (3, .int ((sm (sumG z c w) k) + (z 17 k))), (0, .ref (G.2.2 0)), (1, .int c), (2, .int w)] dX7_sumOf_86 rfl (nI_1 k) (by decide) rfl ?_
                  refine g_goto hX 5 dX7_sumOf_89 (by decide) ?_
                  -- back to 5
                  refine g_sub [2, 3, 4, 1, 0] [(0, .ref (G.2.2 0)), (1, .int c), (2, .int w), (3, .int ((sm (sumG z c w) k) + (z 17 k))), (4, .int (nI (k + 1)))] rfl ?_
                  have e3 : ((sm (sumG z c w) k) + (z 17 k) : Int32) = sm (sumG z c w) (k + 1) := by
                    rw [sm, sumG]; first | (simp [c1, c2, c3, c4, c5]; done) | grind
                  refine g_lv (lv' := [(0, .ref (G.2.2 0)), (1, .int c), (2, .int w), (3, .int (sm (sumG z c w) (k + 1))), (4, .int (nI (k + 1)))]) (by rw [e3]) ?_
                  exact ih (k + 1) (by omega) (by omega)
              · -- on 57
                refine g_aload_n hX 0 dX7_sumOf_57 rfl ?_
                refine g_iload hX 4 dX7_sumOf_58 rfl ?_
                refine g_iconst hX 5 dX7_sumOf_60 (by decide) ?_
                refine g_cvE hX (As := [.int (nI k), .int 5]) (rest := [.int (sm (sumG z c w) k)]) (c_X7_of l G z (a := k) (w := 5) (ha := (by omega)) (hw := (by decide))) k_X7_sumOf_X7_of rc_Model rfl rfl (Nat.le_of_ble_eq_true rfl) dX7_sumOf_61 ?_
                refine g_top (z 16 k) rfl ?_
                refine g_goto hX 84 dX7_sumOf_64 (by decide) ?_
                refine g_iadd hX dX7_sumOf_84 ?_
                refine g_istore_n hX [(3, .int ((sm (sumG z c w) k) + (z 16 k))), (0, .ref (G.2.2 0)), (1, .int c), (2, .int w), (4, .int (nI k))] dX7_sumOf_85 (by decide) rfl ?_
                refine g_iinc hX (nI (k + 1)) 4 [(4, .int (nI (k + 1))), (3, .int ((sm (sumG z c w) k) + (z 16 k))), (0, .ref (G.2.2 0)), (1, .int c), (2, .int w)] dX7_sumOf_86 rfl (nI_1 k) (by decide) rfl ?_
                refine g_goto hX 5 dX7_sumOf_89 (by decide) ?_
                -- back to 5
                refine g_sub [2, 3, 4, 1, 0] [(0, .ref (G.2.2 0)), (1, .int c), (2, .int w), (3, .int ((sm (sumG z c w) k) + (z 16 k))), (4, .int (nI (k + 1)))] rfl ?_
                have e3 : ((sm (sumG z c w) k) + (z 16 k) : Int32) = sm (sumG z c w) (k + 1) := by
                  rw [sm, sumG]; first | (simp [c1, c2, c3, c4]; done) | grind
                refine g_lv (lv' := [(0, .ref (G.2.2 0)), (1, .int c), (2, .int w), (3, .int (sm (sumG z c w) (k + 1))), (4, .int (nI (k + 1)))]) (by rw [e3]) ?_
                exact ih (k + 1) (by omega) (by omega)
            · -- on 33
              refine g_aload_n hX 0 dX7_sumOf_33 rfl ?_
              refine g_iload hX 4 dX7_sumOf_34 rfl ?_
              refine g_iconst hX 4 dX7_sumOf_36 (by decide) ?_
              refine g_cvE hX (As := [.int (nI k), .int 4]) (rest := [.int (sm (sumG z c w) k)]) (c_X7_of l G z (a := k) (w := 4) (ha := (by omega)) (hw := (by decide))) k_X7_sumOf_X7_of rc_Model rfl rfl (Nat.le_of_ble_eq_true rfl) dX7_sumOf_37 ?_
              refine g_top (z 15 k) rfl ?_
              refine g_iconst hX 1 dX7_sumOf_40 (by decide) ?_
              refine g_ic_ne hX 48 dX7_sumOf_41 (by decide) (fun c6 => ?_) (fun c6 => ?_)
              · -- jump 48
                refine g_iconst hX 0 dX7_sumOf_48 (by decide) ?_
                refine g_goto hX 84 dX7_sumOf_49 (by decide) ?_
                refine g_iadd hX dX7_sumOf_84 ?_
                refine g_istore_n hX [(3, .int ((sm (sumG z c w) k) + 0)), (0, .ref (G.2.2 0)), (1, .int c), (2, .int w), (4, .int (nI k))] dX7_sumOf_85 (by decide) rfl ?_
                refine g_iinc hX (nI (k + 1)) 4 [(4, .int (nI (k + 1))), (3, .int ((sm (sumG z c w) k) + 0)), (0, .ref (G.2.2 0)), (1, .int c), (2, .int w)] dX7_sumOf_86 rfl (nI_1 k) (by decide) rfl ?_
                refine g_goto hX 5 dX7_sumOf_89 (by decide) ?_
                -- back to 5
                refine g_sub [2, 3, 4, 1, 0] [(0, .ref (G.2.2 0)), (1, .int c), (2, .int w), (3, .int ((sm (sumG z c w) k) + 0)), (4, .int (nI (k + 1)))] rfl ?_
                have e3 : ((sm (sumG z c w) k) + 0 : Int32) = sm (sumG z c w) (k + 1) := by
                  rw [sm, sumG]; first | (simp [c1, c2, c3, c6]; done) | grind
                refine g_lv (lv' := [(0, .ref (G.2.2 0)), (1, .int c), (2, .int w), (3, .int (sm (sumG z c w) (k + 1))), (4, .int (nI (k + 1)))]) (by rw [e3]) ?_
                exact ih (k + 1) (by omega) (by omega)
              · -- on 44
                refine g_iconst hX 1 dX7_sumOf_44 (by decide) ?_
                refine g_goto hX 84 dX7_sumOf_45 (by decide) ?_
                refine g_iadd hX dX7_sumOf_84 ?_
                refine g_istore_n hX [(3, .int ((sm (sumG z c w) k) + 1)), (0, .ref (G.2.2 0)), (1, .int c), (2, .int w), (4, .int (nI k))] dX7_sumOf_85 (by decide) rfl ?_
                refine g_iinc hX (nI (k + 1)) 4 [(4, .int (nI (k + 1))), (3, .int ((sm (sumG z c w) k) + 1)), (0, .ref (G.2.2 0)), (1, .int c), (2, .int w)] dX7_sumOf_86 rfl (nI_1 k) (by decide) rfl ?_
                refine g_goto hX 5 dX7_sumOf_89 (by decide) ?_
                -- back to 5
                refine g_sub [2, 3, 4, 1, 0] [(0, .ref (G.2.2 0)), (1, .int c), (2, .int w), (3, .int ((sm (sumG z c w) k) + 1)), (4, .int (nI (k + 1)))] rfl ?_
                have e3 : ((sm (sumG z c w) k) + 1 : Int32) = sm (sumG z c w) (k + 1) := by
                  rw [sm, sumG]; first | (simp [c1, c2, c3, c6]; done) | grind
                refine g_lv (lv' := [(0, .ref (G.2.2 0)), (1, .int c), (2, .int w), (3, .int (sm (sumG z c w) (k + 1))), (4, .int (nI (k + 1)))]) (by rw [e3]) ?_
                exact ih (k + 1) (by omega) (by omega)
    refine g_sub [2, 3, 4, 1, 0] [(0, .ref (G.2.2 0)), (1, .int c), (2, .int w), (3, .int 0), (4, .int 0)] rfl ?_
    exact loop5 (nA z + 1) 0 (by omega) (Nat.zero_le _)
def rm_X7_allOf : Room := { frames := 1, cells := 0, slots := 0, locals := 22 }
theorem i_X7_allOf_wsX70 : ∀ w ∈ wsX70, w ∈ wsX7_allOf := fun w h => List.mem_cons_of_mem _ (List.mem_append_right _ h)
theorem k_X7_allOf_X7_of : CW rm_X7_allOf wsX7_allOf RX7 RX7 66 yX7_of cX7_of 3 (some .int) wsX7_of rm_X7_of 2 := ⟨gX7_allOf_X7_of, ⟨_, rfl⟩, rfl, rfl, ⟨rfl, by decide +kernel, by decide +kernel, by decide +kernel⟩, by decide, by decide⟩
set_option maxHeartbeats 4000000 in
set_option maxRecDepth 100000 in
theorem c_X7_allOf (l : Launch) (G : MG) (z : St) {w : Int32} (hI : IO z) : CIm l G yX7_allOf wsX7_allOf rm_X7_allOf [.ref (G.2.2 0), .int w] z (fun ρ ζ => ρ = allN z w ∧ ζ = z) := by
  refine ci_of (own := RX7) (cc := cX7_allOf) (maxL := 4) (ret := .int) (by decide +kernel) rfl rfl ?_ (Nat.le_of_ble_eq_true rfl) (KQ_mv (ExM_mv G)) ?_
  · intro v z' _; rfl
  · intro X hX ret
    refine g_lv (lv' := [(0, .ref (G.2.2 0)), (1, .int w)]) rfl ?_
    obtain ⟨e3, h40⟩ := iNa hI
    refine g_iconst hX 0 dX7_allOf_0 (by decide) ?_
    refine g_istore_n hX [(2, .int 0), (0, .ref (G.2.2 0)), (1, .int w)] dX7_allOf_1 (by decide) rfl ?_
    refine g_iconst hX 0 dX7_allOf_2 (by decide) ?_
    refine g_istore_n hX [(3, .int 0), (2, .int 0), (0, .ref (G.2.2 0)), (1, .int w)] dX7_allOf_3 (by decide) rfl ?_
    have loop4 : ∀ (nf : Nat) (k : Nat), (nA z < k + nf) → (k ≤ nA z) → Go X (z) 4 [(0, .ref (G.2.2 0)), (1, .int w), (2, .int (sm (allG z w) k)), (3, .int (nI k))] [] := by
      intro nf
      induction nf with
      | zero =>
        intro k hmu hk
        exfalso; omega
      | succ nf ih =>
        intro k hmu hk
        refine g_iload_n hX 3 dX7_allOf_4 rfl ?_
        refine g_aload_n hX 0 dX7_allOf_5 rfl ?_
        refine m_g_0 hX i_X7_allOf_wsX70 (List.mem_of_getElem? (i := 1) rfl) dX7_allOf_6 ?_
        refine g_iconst hX 3 dX7_allOf_9 (by decide) ?_
        refine m_ld_at hX 3 rfl (by decide) dX7_allOf_10 (v := (z 3 0)) rfl ?_
        refine g_ic_ge hX 71 dX7_allOf_11 (by decide) (fun c1 => ?_) (fun c1 => ?_)
        · -- jump 71
          have hke : k = nA z := by
            rw [e3] at c1; have := (nI_leI (by omega) (by omega)).mp c1; omega
          refine g_iload_n hX 2 dX7_allOf_71 rfl ?_
          refine ret _ _ _ _ dX7_allOf_72 ?_
          exact ⟨by rw [hke]; rfl, rfl⟩
        · -- on 14
          have hkn : k < nA z := by
            rw [e3] at c1; exact Nat.lt_of_not_le (fun q => c1 (nI_le q (by omega)))
          refine g_iload_n hX 2 dX7_allOf_14 rfl ?_
          refine g_iload_n hX 1 dX7_allOf_15 rfl ?_
          refine g_bipush hX 11 dX7_allOf_16 (by decide) ?_
          refine g_ic_ne hX 30 dX7_allOf_18 (by decide) (fun c2 => ?_) (fun c2 => ?_)
          · -- jump 30
            refine g_iload_n hX 1 dX7_allOf_30 rfl ?_
            refine g_bipush hX 12 dX7_allOf_31 (by decide) ?_
            refine g_ic_ne hX 46 dX7_allOf_33 (by decide) (fun c3 => ?_) (fun c3 => ?_)
            · -- jump 46
              refine g_aload_n hX 0 dX7_allOf_46 rfl ?_
              refine g_iload_n hX 3 dX7_allOf_47 rfl ?_
              refine g_iconst hX 4 dX7_allOf_48 (by decide) ?_
              refine g_cvE hX (As := [.int (nI k), .int 4]) (rest := [.int (sm (allG z w) k)]) (c_X7_of l G z (a := k) (w := 4) (ha := (by omega)) (hw := (by decide))) k_X7_allOf_X7_of rc_Model rfl rfl (Nat.le_of_ble_eq_true rfl) dX7_allOf_49 ?_
              refine g_top (z 15 k) rfl ?_
              refine g_iload_n hX 1 dX7_allOf_52 rfl ?_
              refine g_iconst hX 4 dX7_allOf_53 (by decide) ?_
              refine g_isub hX dX7_allOf_54 ?_
              refine g_ic_ne hX 62 dX7_allOf_55 (by decide) (fun c4 => ?_) (fun c4 => ?_)
              · -- jump 62
                refine g_iconst hX 0 dX7_allOf_62 (by decide) ?_
                refine g_iadd hX dX7_allOf_63 ?_
                refine g_istore_n hX [(2, .int ((sm (allG z w) k) + 0)), (0, .ref (G.2.2 0)), (1, .int w), (3, .int (nI k))] dX7_allOf_64 (by decide) rfl ?_
                refine g_iinc hX (nI (k + 1)) 3 [(3, .int (nI (k + 1))), (2, .int ((sm (allG z w) k) + 0)), (0, .ref (G.2.2 0)), (1, .int w)] dX7_allOf_65 rfl (nI_1 k) (by decide) rfl ?_
                refine g_goto hX 4 dX7_allOf_68 (by decide) ?_
                -- back to 4
                refine g_sub [2, 3, 1, 0] [(0, .ref (G.2.2 0)), (1, .int w), (2, .int ((sm (allG z w) k) + 0)), (3, .int (nI (k + 1)))] rfl ?_
                have e2 : ((sm (allG z w) k) + 0 : Int32) = sm (allG z w) (k + 1) := by
                  rw [sm, allG]; first | (simp [c1, c2, c3, c4]; done) | grind
                refine g_lv (lv' := [(0, .ref (G.2.2 0)), (1, .int w), (2, .int (sm (allG z w) (k + 1))), (3, .int (nI (k + 1)))]) (by rw [e2]) ?_
                exact ih (k + 1) (by omega) (by omega)
              · -- on 58
                refine g_iconst hX 1 dX7_allOf_58 (by decide) ?_
                refine g_goto hX 63 dX7_allOf_59 (by decide) ?_
                refine g_iadd hX dX7_allOf_63 ?_
                refine g_istore_n hX [(2, .int ((sm (allG z w) k) + 1)), (0, .ref (G.2.2 0)), (1, .int w), (3, .int (nI k))] dX7_allOf_64 (by decide) rfl ?_
                refine g_iinc hX (nI (k + 1)) 3 [(3, .int (nI (k + 1))), (2, .int ((sm (allG z w) k) + 1)), (0, .ref (G.2.2 0)), (1, .int w)] dX7_allOf_65 rfl (nI_1 k) (by decide) rfl ?_
                refine g_goto hX 4 dX7_allOf_68 (by decide) ?_
                -- back to 4
                refine g_sub [2, 3, 1, 0] [(0, .ref (G.2.2 0)), (1, .int w), (2, .int ((sm (allG z w) k) + 1)), (3, .int (nI (k + 1)))] rfl ?_
                have e2 : ((sm (allG z w) k) + 1 : Int32) = sm (allG z w) (k + 1) := by
                  rw [sm, allG]; first | (simp [c1, c2, c3, c4]; done) | grind
                refine g_lv (lv' := [(0, .ref (G.2.2 0)), (1, .int w), (2, .int (sm (allG z w) (k + 1))), (3, .int (nI (k + 1)))]) (by rw [e2]) ?_
                exact ih (k + 1) (by omega) (by omega)
            · -- on 36
              refine g_aload_n hX 0 dX7_allOf_36 rfl ?_
              refine g_iload_n hX 3 dX7_allOf_37 rfl ?_
              refine g_bipush hX 6 dX7_allOf_38 (by decide) ?_
              refine g_cvE hX (As := [.int (nI k), .int 6]) (rest := [.int (sm (allG z w) k)]) (c_X7_of l G z (a := k) (w := 6) (ha := (by omega)) (hw := (by decide))) k_X7_allOf_X7_of rc_Model rfl rfl (Nat.le_of_ble_eq_true rfl) dX7_allOf_40 ?_
              refine g_top (z 17 k) rfl ?_
              refine g_goto hX 63 dX7_allOf_43 (by decide) ?_
              refine g_iadd hX dX7_allOf_63 ?_
              refine g_istore_n hX [(2, .int ((sm (allG z w) k) + (z 17 k))), (0, .ref (G.2.2 0)), (1, .int w), (3, .int (nI k))] dX7_allOf_64 (by decide) rfl ?_
              refine g_iinc hX (nI (k + 1)) 3 [(3, .int (nI (k + 1))), (2, .int ((sm (allG z w) k) + (z 17 k))), (0, .ref (G.2.2 0)), (1, .int w)] dX7_allOf_65 rfl (nI_1 k) (by decide) rfl ?_
              refine g_goto hX 4 dX7_allOf_68 (by decide) ?_
              -- back to 4
              refine g_sub [2, 3, 1, 0] [(0, .ref (G.2.2 0)), (1, .int w), (2, .int ((sm (allG z w) k) + (z 17 k))), (3, .int (nI (k + 1)))] rfl ?_
              have e2 : ((sm (allG z w) k) + (z 17 k) : Int32) = sm (allG z w) (k + 1) := by
                rw [sm, allG]; first | (simp [c1, c2, c3]; done) | grind
              refine g_lv (lv' := [(0, .ref (G.2.2 0)), (1, .int w), (2, .int (sm (allG z w) (k + 1))), (3, .int (nI (k + 1)))]) (by rw [e2]) ?_
              exact ih (k + 1) (by omega) (by omega)
          · -- on 21
            refine g_aload_n hX 0 dX7_allOf_21 rfl ?_
            refine g_iload_n hX 3 dX7_allOf_22 rfl ?_
            refine g_iconst hX 5 dX7_allOf_23 (by decide) ?_
            refine g_cvE hX (As := [.int (nI k), .int 5]) (rest := [.int (sm (allG z w) k)]) (c_X7_of l G z (a := k) (w := 5) (ha := (by omega)) (hw := (by decide))) k_X7_allOf_X7_of rc_Model rfl rfl (Nat.le_of_ble_eq_true rfl) dX7_allOf_24 ?_
            refine g_top (z 16 k) rfl ?_
            refine g_goto hX 63 dX7_allOf_27 (by decide) ?_
            refine g_iadd hX dX7_allOf_63 ?_
            refine g_istore_n hX [(2, .int ((sm (allG z w) k) + (z 16 k))), (0, .ref (G.2.2 0)), (1, .int w), (3, .int (nI k))] dX7_allOf_64 (by decide) rfl ?_
            refine g_iinc hX (nI (k + 1)) 3 [(3, .int (nI (k + 1))), (2, .int ((sm (allG z w) k) + (z 16 k))), (0, .ref (G.2.2 0)), (1, .int w)] dX7_allOf_65 rfl (nI_1 k) (by decide) rfl ?_
            refine g_goto hX 4 dX7_allOf_68 (by decide) ?_
            -- back to 4
            refine g_sub [2, 3, 1, 0] [(0, .ref (G.2.2 0)), (1, .int w), (2, .int ((sm (allG z w) k) + (z 16 k))), (3, .int (nI (k + 1)))] rfl ?_
            have e2 : ((sm (allG z w) k) + (z 16 k) : Int32) = sm (allG z w) (k + 1) := by
              rw [sm, allG]; first | (simp [c1, c2]; done) | grind
            refine g_lv (lv' := [(0, .ref (G.2.2 0)), (1, .int w), (2, .int (sm (allG z w) (k + 1))), (3, .int (nI (k + 1)))]) (by rw [e2]) ?_
            exact ih (k + 1) (by omega) (by omega)
    refine g_sub [2, 3, 1, 0] [(0, .ref (G.2.2 0)), (1, .int w), (2, .int 0), (3, .int 0)] rfl ?_
    exact loop4 (nA z + 1) 0 (by omega) (Nat.zero_le _)
def rm_X7_closedDays : Room := { frames := 0, cells := 0, slots := 0, locals := 0 }
theorem i_X7_closedDays_wsX70 : ∀ w ∈ wsX70, w ∈ wsX7_closedDays := fun w h => List.mem_cons_of_mem _ (List.mem_append_right _ h)
set_option maxHeartbeats 4000000 in
set_option maxRecDepth 100000 in
theorem c_X7_closedDays (l : Launch) (G : MG) (z : St)  (hcl : ∀ d, d < 60 → z 7 d = 0 ∨ z 7 d = 1) : CIm l G yX7_closedDays wsX7_closedDays rm_X7_closedDays [.ref (G.2.2 0)] z (fun ρ ζ => ρ = closedN z ∧ ζ = z) := by
  refine ci_of (own := RX7) (cc := cX7_closedDays) (maxL := 3) (ret := .int) (by decide +kernel) rfl rfl ?_ (Nat.le_of_ble_eq_true rfl) (KQ_mv (ExM_mv G)) ?_
  · intro v z' _; rfl
  · intro X hX ret
    refine g_lv (lv' := [(0, .ref (G.2.2 0))]) rfl ?_
    refine g_iconst hX 0 dX7_closedDays_0 (by decide) ?_
    refine g_istore_n hX [(1, .int 0), (0, .ref (G.2.2 0))] dX7_closedDays_1 (by decide) rfl ?_
    refine g_iconst hX 0 dX7_closedDays_2 (by decide) ?_
    refine g_istore_n hX [(2, .int 0), (1, .int 0), (0, .ref (G.2.2 0))] dX7_closedDays_3 (by decide) rfl ?_
    have loop4 : ∀ (nf : Nat) (k : Nat), (60 < k + nf) → (k ≤ 60) → Go X (z) 4 [(0, .ref (G.2.2 0)), (1, .int (sm (fun d => if z 7 d = 0 then 0 else 1) k)), (2, .int (nI k))] [] := by
      intro nf
      induction nf with
      | zero =>
        intro k hmu hk
        exfalso; omega
      | succ nf ih =>
        intro k hmu hk
        refine g_iload_n hX 2 dX7_closedDays_4 rfl ?_
        refine g_bipush hX 60 dX7_closedDays_5 (by decide) ?_
        refine g_ic_ge hX 28 dX7_closedDays_7 (by decide) (fun c1 => ?_) (fun c1 => ?_)
        · -- jump 28
          have hke : k = 60 := by
            have := (nI_leI (a := 60) (by omega) (by omega)).mp c1; omega
          refine g_iload_n hX 1 dX7_closedDays_28 rfl ?_
          refine ret _ _ _ _ dX7_closedDays_29 ?_
          exact ⟨by rw [hke]; rfl, rfl⟩
        · -- on 10
          have hkn : k < 60 := Nat.lt_of_not_le (fun q => c1 (nI_le (a := 60) q (by omega)))
          refine g_iload_n hX 1 dX7_closedDays_10 rfl ?_
          refine g_aload_n hX 0 dX7_closedDays_11 rfl ?_
          refine m_g_0 hX i_X7_closedDays_wsX70 (List.mem_of_getElem? (i := 1) rfl) dX7_closedDays_12 ?_
          refine g_bipush hX 22 dX7_closedDays_15 (by decide) ?_
          refine g_iload_n hX 2 dX7_closedDays_17 rfl ?_
          refine g_iadd hX dX7_closedDays_18 ?_
          refine m_ld_at hX (22 + k) (nI_add 22 k) (by omega) dX7_closedDays_19 (v := z 7 k) (at_d z hkn) ?_
          refine g_iadd hX dX7_closedDays_20 ?_
          refine g_istore_n hX [(1, .int ((sm (fun d => if z 7 d = 0 then 0 else 1) k) + (z 7 k))), (0, .ref (G.2.2 0)), (2, .int (nI k))] dX7_closedDays_21 (by decide) rfl ?_
          refine g_iinc hX (nI (k + 1)) 2 [(2, .int (nI (k + 1))), (1, .int ((sm (fun d => if z 7 d = 0 then 0 else 1) k) + (z 7 k))), (0, .ref (G.2.2 0))] dX7_closedDays_22 rfl (nI_1 k) (by decide) rfl ?_
          refine g_goto hX 4 dX7_closedDays_25 (by decide) ?_
          -- back to 4
          refine g_sub [2, 1, 0] [(0, .ref (G.2.2 0)), (1, .int ((sm (fun d => if z 7 d = 0 then 0 else 1) k) + (z 7 k))), (2, .int (nI (k + 1)))] rfl ?_
          have e1 : ((sm (fun d => if z 7 d = 0 then 0 else 1) k) + (z 7 k) : Int32) = sm (fun d => if z 7 d = 0 then 0 else 1) (k + 1) := by
            rw [sm]; rcases hcl k (by omega) with h | h <;> rw [h] <;> rfl
          refine g_lv (lv' := [(0, .ref (G.2.2 0)), (1, .int (sm (fun d => if z 7 d = 0 then 0 else 1) (k + 1))), (2, .int (nI (k + 1)))]) (by rw [e1]) ?_
          exact ih (k + 1) (by omega) (by omega)
    refine g_sub [2, 1, 0] [(0, .ref (G.2.2 0)), (1, .int 0), (2, .int 0)] rfl ?_
    exact loop4 (60 + 1) 0 (by omega) (Nat.zero_le _)
def rm_X7_count : Room := { frames := 2, cells := 0, slots := 0, locals := 45 }
theorem i_X7_count_wsX70 : ∀ w ∈ wsX70, w ∈ wsX7_count := fun w h => List.mem_cons_of_mem _ (List.mem_append_right _ h)
theorem k_X7_count_X7_allOf : CW rm_X7_count wsX7_count RX7 RX7 153 yX7_allOf cX7_allOf 4 (some .int) wsX7_allOf rm_X7_allOf 1 := ⟨gX7_count_X7_allOf, ⟨_, rfl⟩, rfl, rfl, ⟨rfl, by decide +kernel, by decide +kernel, by decide +kernel⟩, by decide, by decide⟩
theorem k_X7_count_X7_closedDays : CW rm_X7_count wsX7_count RX7 RX7 156 yX7_closedDays cX7_closedDays 3 (some .int) wsX7_closedDays rm_X7_closedDays 0 := ⟨gX7_count_X7_closedDays, ⟨_, rfl⟩, rfl, rfl, ⟨rfl, by decide +kernel, by decide +kernel, by decide +kernel⟩, by decide, by decide⟩
theorem k_X7_count_X7_in : CS rm_X7_count wsX7_count RX7 35 yX7_in cX7_in 3 (some .boolean) wsX7_in rm_X7_in 3 := ⟨gX7_count_X7_in, ⟨_, rfl⟩, rfl, rfl, ⟨rfl, by decide +kernel, by decide +kernel, by decide +kernel⟩, by decide, by decide⟩
theorem k_X7_count_X7_setting : CW rm_X7_count wsX7_count RX7 RX7 63 yX7_setting cX7_setting 2 (some .int) wsX7_setting rm_X7_setting 1 := ⟨gX7_count_X7_setting, ⟨_, rfl⟩, rfl, rfl, ⟨rfl, by decide +kernel, by decide +kernel, by decide +kernel⟩, by decide, by decide⟩
set_option maxHeartbeats 4000000 in
set_option maxRecDepth 100000 in
theorem c_X7_count (l : Launch) (G : MG) (z : St) {w : Int32} (hI : IO z) (hcl : ∀ d, d < 60 → z 7 d = 0 ∨ z 7 d = 1) : CIm l G yX7_count wsX7_count rm_X7_count [.ref (G.2.2 0), .int w] z (fun ρ ζ => ρ = spCount z w ∧ ζ = z) := by
  refine ci_of (own := RX7) (cc := cX7_count) (maxL := 2) (ret := .int) (by decide +kernel) rfl rfl ?_ (Nat.le_of_ble_eq_true rfl) (KQ_mv (ExM_mv G)) ?_
  · intro v z' _; rfl
  · intro X hX ret
    refine g_lv (lv' := [(0, .ref (G.2.2 0)), (1, .int w)]) rfl ?_
    refine g_iload_n hX 1 dX7_count_0 rfl ?_
    refine g_iconst hX 0 dX7_count_1 (by decide) ?_
    refine g_iconst hX 3 dX7_count_2 (by decide) ?_
    refine g_csE hX (As := [.int w, .int 0, .int 3]) (rest := []) (c_X7_in l G z (x := w) (lo := 0) (hi := 3) ) k_X7_count_X7_in rfl rfl (Nat.le_of_ble_eq_true rfl) dX7_count_3 ?_
    refine g_bi_eq hX 16 dX7_count_6 (by decide) (fun c1 => ?_) (fun c1 => ?_)
    · -- jump 16
      
      refine g_iload_n hX 1 dX7_count_16 rfl ?_
      refine g_iconst hX 4 dX7_count_17 (by decide) ?_
      refine g_bipush hX 12 dX7_count_18 (by decide) ?_
      refine g_csE hX (As := [.int w, .int 4, .int 12]) (rest := []) (c_X7_in l G z (x := w) (lo := 4) (hi := 12) ) k_X7_count_X7_in rfl rfl (Nat.le_of_ble_eq_true rfl) dX7_count_20 ?_
      refine g_bi_eq hX 32 dX7_count_23 (by decide) (fun c2 => ?_) (fun c2 => ?_)
      · -- jump 32
        refine g_iload_n hX 1 dX7_count_32 rfl ?_
        refine g_bipush hX 15 dX7_count_33 (by decide) ?_
        refine g_bipush hX 20 dX7_count_35 (by decide) ?_
        refine g_csE hX (As := [.int w, .int 15, .int 20]) (rest := []) (c_X7_in l G z (x := w) (lo := 15) (hi := 20) ) k_X7_count_X7_in rfl rfl (Nat.le_of_ble_eq_true rfl) dX7_count_37 ?_
        refine g_bi_eq hX 52 dX7_count_40 (by decide) (fun c3 => ?_) (fun c3 => ?_)
        · -- jump 52
          refine g_iload_n hX 1 dX7_count_52 rfl ?_
          refine g_bipush hX 13 dX7_count_53 (by decide) ?_
          refine g_ic_ne hX 65 dX7_count_55 (by decide) (fun c4 => ?_) (fun c4 => ?_)
          · -- jump 65
            refine g_iload_n hX 1 dX7_count_65 rfl ?_
            refine g_bipush hX 14 dX7_count_66 (by decide) ?_
            refine g_ic_ne hX 78 dX7_count_68 (by decide) (fun c5 => ?_) (fun c5 => ?_)
            · -- jump 78
              refine g_bipush hX (-2) dX7_count_78 (by decide) ?_
              refine ret _ _ _ _ dX7_count_80 ?_
              refine ⟨?_, rfl⟩
              rw [← mCount_eq]
              first | (simp [mCount, c1, c2, c3, c4, c5]; done) | grind [mCount]
            · -- on 71
              refine g_aload_n hX 0 dX7_count_71 rfl ?_
              refine m_g_5 hX i_X7_count_wsX70 (List.mem_of_getElem? (i := 2) rfl) dX7_count_72 ?_
              refine g_goto hX 80 dX7_count_75 (by decide) ?_
              refine ret _ _ _ _ dX7_count_80 ?_
              refine ⟨?_, rfl⟩
              rw [← mCount_eq]
              first | (simp [mCount, c1, c2, c3, c4, c5]; done) | grind [mCount]
          · -- on 58
            refine g_aload_n hX 0 dX7_count_58 rfl ?_
            refine g_cvE hX (As := []) (rest := []) (c_X7_closedDays l G z  (hcl := (by assumption))) k_X7_count_X7_closedDays rc_Model rfl rfl (Nat.le_of_ble_eq_true rfl) dX7_count_59 ?_
            refine g_goto hX 80 dX7_count_62 (by decide) ?_
            refine ret _ _ _ _ dX7_count_80 ?_
            refine ⟨?_, rfl⟩
            rw [← mCount_eq]
            first | (simp [mCount, c1, c2, c3, c4]; done) | grind [mCount]
        · -- on 43
          have hy := rng15 c3
          refine g_aload_n hX 0 dX7_count_43 rfl ?_
          refine g_iload_n hX 1 dX7_count_44 rfl ?_
          refine g_bipush hX 15 dX7_count_45 (by decide) ?_
          refine g_isub hX dX7_count_47 ?_
          refine g_st (st2 := [.int (nI (cn (w - 15))), .ref (G.2.2 0)]) (by rw [← (show (w - 15) = nI (cn (w - 15)) from hy.1)]) ?_
          refine g_cvE hX (As := [.int (nI (cn (w - 15)))]) (rest := []) (c_X7_setting l G z (w := (cn (w - 15))) (hw := hy.2)) k_X7_count_X7_setting rc_Model rfl rfl (Nat.le_of_ble_eq_true rfl) dX7_count_48 ?_
          refine ret _ _ _ _ dX7_count_51 ?_
          refine ⟨?_, rfl⟩
          rw [← mCount_eq]
          first | (simp [mCount, c1, c2, c3]; done) | grind [mCount]
      · -- on 26
        refine g_aload_n hX 0 dX7_count_26 rfl ?_
        refine g_iload_n hX 1 dX7_count_27 rfl ?_
        refine g_cvE hX (As := [.int w]) (rest := []) (c_X7_allOf l G z (w := w) (hI := (by assumption))) k_X7_count_X7_allOf rc_Model rfl rfl (Nat.le_of_ble_eq_true rfl) dX7_count_28 ?_
        refine ret _ _ _ _ dX7_count_31 ?_
        refine ⟨?_, rfl⟩
        rw [← mCount_eq]
        first | (simp [mCount, c1, c2]; done) | grind [mCount]
    · -- on 9
      have hx := rng2 c1 (by decide) 3 (by decide) rfl
      refine g_aload_n hX 0 dX7_count_9 rfl ?_
      refine m_g_0 hX i_X7_count_wsX70 (List.mem_of_getElem? (i := 1) rfl) dX7_count_10 ?_
      refine g_iload_n hX 1 dX7_count_13 rfl ?_
      refine m_ld_at hX (cn w) hx.1 (by omega) dX7_count_14 (v := z (cn w) 0) (at_h z (by omega)) ?_
      refine ret _ _ _ _ dX7_count_15 ?_
      refine ⟨?_, rfl⟩
      rw [← mCount_eq]
      first | (simp [mCount, c1]; done) | grind [mCount]
def rm_X7_climber : Room := { frames := 2, cells := 0, slots := 0, locals := 46 }
theorem k_X7_climber_X7_in : CS rm_X7_climber wsX7_climber RX7 35 yX7_in cX7_in 3 (some .boolean) wsX7_in rm_X7_in 3 := ⟨gX7_climber_X7_in, ⟨_, rfl⟩, rfl, rfl, ⟨rfl, by decide +kernel, by decide +kernel, by decide +kernel⟩, by decide, by decide⟩
theorem k_X7_climber_X7_isClimber : CW rm_X7_climber wsX7_climber RX7 RX7 78 yX7_isClimber cX7_isClimber 2 (some .boolean) wsX7_isClimber rm_X7_isClimber 1 := ⟨gX7_climber_X7_isClimber, ⟨_, rfl⟩, rfl, rfl, ⟨rfl, by decide +kernel, by decide +kernel, by decide +kernel⟩, by decide, by decide⟩
theorem k_X7_climber_X7_ofClimber : CW rm_X7_climber wsX7_climber RX7 RX7 39 yX7_ofClimber cX7_ofClimber 3 (some .int) wsX7_ofClimber rm_X7_ofClimber 2 := ⟨gX7_climber_X7_ofClimber, ⟨_, rfl⟩, rfl, rfl, ⟨rfl, by decide +kernel, by decide +kernel, by decide +kernel⟩, by decide, by decide⟩
theorem k_X7_climber_X7_sumOf : CW rm_X7_climber wsX7_climber RX7 RX7 150 yX7_sumOf cX7_sumOf 5 (some .int) wsX7_sumOf rm_X7_sumOf 2 := ⟨gX7_climber_X7_sumOf, ⟨_, rfl⟩, rfl, rfl, ⟨rfl, by decide +kernel, by decide +kernel, by decide +kernel⟩, by decide, by decide⟩
set_option maxHeartbeats 4000000 in
set_option maxRecDepth 100000 in
theorem c_X7_climber (l : Launch) (G : MG) (z : St) {x : Int32} {w : Int32} (hI : IO z) (h87c : ∀ c, c < cn (z 2 0) → z 87 c = z 10 c) : CIm l G yX7_climber wsX7_climber rm_X7_climber [.ref (G.2.2 0), .int x, .int w] z (fun ρ ζ => ρ = spClimber z x w ∧ ζ = z) := by
  refine ci_of (own := RX7) (cc := cX7_climber) (maxL := 3) (ret := .int) (by decide +kernel) rfl rfl ?_ (Nat.le_of_ble_eq_true rfl) (KQ_mv (ExM_mv G)) ?_
  · intro v z' _; rfl
  · intro X hX ret
    refine g_lv (lv' := [(0, .ref (G.2.2 0)), (1, .int x), (2, .int w)]) rfl ?_
    refine g_aload_n hX 0 dX7_climber_0 rfl ?_
    refine g_iload_n hX 1 dX7_climber_1 rfl ?_
    refine g_cvE hX (As := [.int x]) (rest := []) (c_X7_isClimber l G z (x := x) (hI := (by assumption))) k_X7_climber_X7_isClimber rc_Model rfl rfl (Nat.le_of_ble_eq_true rfl) dX7_climber_2 ?_
    refine g_bi_ne hX 10 dX7_climber_5 (by decide) (fun c1 => ?_) (fun c1 => ?_)
    · -- jump 10
      have hc := climP_in hI c1
      refine g_iload_n hX 2 dX7_climber_10 rfl ?_
      refine g_iconst hX 0 dX7_climber_11 (by decide) ?_
      refine g_iconst hX 2 dX7_climber_12 (by decide) ?_
      refine g_csE hX (As := [.int w, .int 0, .int 2]) (rest := []) (c_X7_in l G z (x := w) (lo := 0) (hi := 2) ) k_X7_climber_X7_in rfl rfl (Nat.le_of_ble_eq_true rfl) dX7_climber_13 ?_
      refine g_bi_eq hX 28 dX7_climber_16 (by decide) (fun c2 => ?_) (fun c2 => ?_)
      · -- jump 28
        refine g_iload_n hX 2 dX7_climber_28 rfl ?_
        refine g_iconst hX 3 dX7_climber_29 (by decide) ?_
        refine g_bipush hX 6 dX7_climber_30 (by decide) ?_
        refine g_csE hX (As := [.int w, .int 3, .int 6]) (rest := []) (c_X7_in l G z (x := w) (lo := 3) (hi := 6) ) k_X7_climber_X7_in rfl rfl (Nat.le_of_ble_eq_true rfl) dX7_climber_32 ?_
        refine g_bi_eq hX 47 dX7_climber_35 (by decide) (fun c3 => ?_) (fun c3 => ?_)
        · -- jump 47
          refine g_bipush hX (-2) dX7_climber_47 (by decide) ?_
          refine ret _ _ _ _ dX7_climber_49 ?_
          refine ⟨?_, rfl⟩
          rw [← mClimber_eq hI h87c]
          first | (simp [mClimber, c1, c2, c3]; done) | grind [mClimber]
        · -- on 38
          refine g_aload_n hX 0 dX7_climber_38 rfl ?_
          refine g_iload_n hX 1 dX7_climber_39 rfl ?_
          refine g_iload_n hX 2 dX7_climber_40 rfl ?_
          refine g_cvE hX (As := [.int x, .int w]) (rest := []) (c_X7_sumOf l G z (c := x) (w := w) (hI := (by assumption))) k_X7_climber_X7_sumOf rc_Model rfl rfl (Nat.le_of_ble_eq_true rfl) dX7_climber_41 ?_
          refine g_goto hX 49 dX7_climber_44 (by decide) ?_
          refine ret _ _ _ _ dX7_climber_49 ?_
          refine ⟨?_, rfl⟩
          rw [← mClimber_eq hI h87c]
          first | (simp [mClimber, c1, c2, c3]; done) | grind [mClimber]
      · -- on 19
        have hx := rng2 c2 (by decide) 2 (by decide) rfl
        refine g_aload_n hX 0 dX7_climber_19 rfl ?_
        refine g_iload_n hX 1 dX7_climber_20 rfl ?_
        refine g_iload_n hX 2 dX7_climber_21 rfl ?_
        refine g_st (st2 := [.int w, .int (nI (cn x)), .ref (G.2.2 0)]) (by rw [← (show x = nI (cn x) from hc.1)]) ?_
        refine g_st (st2 := [.int (nI (cn w)), .int (nI (cn x)), .ref (G.2.2 0)]) (by rw [← (show w = nI (cn w) from hx.1)]) ?_
        refine g_cvE hX (As := [.int (nI (cn x)), .int (nI (cn w))]) (rest := []) (c_X7_ofClimber l G z (c := (cn x)) (w := (cn w)) (hc := hc.2.2) (hw := (by omega))) k_X7_climber_X7_ofClimber rc_Model rfl rfl (Nat.le_of_ble_eq_true rfl) dX7_climber_22 ?_
        refine g_goto hX 49 dX7_climber_25 (by decide) ?_
        refine ret _ _ _ _ dX7_climber_49 ?_
        refine ⟨?_, rfl⟩
        rw [← mClimber_eq hI h87c]
        first | (simp [mClimber, c1, c2]; done) | grind [mClimber]
    · -- on 8
      refine g_iconst hX (-1) dX7_climber_8 (by decide) ?_
      refine ret _ _ _ _ dX7_climber_9 ?_
      refine ⟨?_, rfl⟩
      rw [← mClimber_eq hI h87c]
      first | (simp [mClimber, c1]; done) | grind [mClimber]
def rm_X7_application : Room := { frames := 2, cells := 0, slots := 0, locals := 43 }
theorem k_X7_application_X7_in : CS rm_X7_application wsX7_application RX7 35 yX7_in cX7_in 3 (some .boolean) wsX7_in rm_X7_in 3 := ⟨gX7_application_X7_in, ⟨_, rfl⟩, rfl, rfl, ⟨rfl, by decide +kernel, by decide +kernel, by decide +kernel⟩, by decide, by decide⟩
theorem k_X7_application_X7_isApplication : CW rm_X7_application wsX7_application RX7 RX7 128 yX7_isApplication cX7_isApplication 2 (some .boolean) wsX7_isApplication rm_X7_isApplication 1 := ⟨gX7_application_X7_isApplication, ⟨_, rfl⟩, rfl, rfl, ⟨rfl, by decide +kernel, by decide +kernel, by decide +kernel⟩, by decide, by decide⟩
theorem k_X7_application_X7_of : CW rm_X7_application wsX7_application RX7 RX7 66 yX7_of cX7_of 3 (some .int) wsX7_of rm_X7_of 2 := ⟨gX7_application_X7_of, ⟨_, rfl⟩, rfl, rfl, ⟨rfl, by decide +kernel, by decide +kernel, by decide +kernel⟩, by decide, by decide⟩
theorem k_X7_application_X7_ticketsOf : CW rm_X7_application wsX7_application RX7 RX7 93 yX7_ticketsOf cX7_ticketsOf 2 (some .int) wsX7_ticketsOf rm_X7_ticketsOf 1 := ⟨gX7_application_X7_ticketsOf, ⟨_, rfl⟩, rfl, rfl, ⟨rfl, by decide +kernel, by decide +kernel, by decide +kernel⟩, by decide, by decide⟩
set_option maxHeartbeats 4000000 in
set_option maxRecDepth 100000 in
theorem c_X7_application (l : Launch) (G : MG) (z : St) {x : Int32} {w : Int32} (hI : IO z) (h18 : ∀ a, a < nA z → z 18 a = 0 ∨ z 18 a = 1) : CIm l G yX7_application wsX7_application rm_X7_application [.ref (G.2.2 0), .int x, .int w] z (fun ρ ζ => ρ = spApp z x w ∧ ζ = z) := by
  refine ci_of (own := RX7) (cc := cX7_application) (maxL := 3) (ret := .int) (by decide +kernel) rfl rfl ?_ (Nat.le_of_ble_eq_true rfl) (KQ_mv (ExM_mv G)) ?_
  · intro v z' _; rfl
  · intro X hX ret
    refine g_lv (lv' := [(0, .ref (G.2.2 0)), (1, .int x), (2, .int w)]) rfl ?_
    refine g_aload_n hX 0 dX7_application_0 rfl ?_
    refine g_iload_n hX 1 dX7_application_1 rfl ?_
    refine g_cvE hX (As := [.int x]) (rest := []) (c_X7_isApplication l G z (x := x) (hI := (by assumption))) k_X7_application_X7_isApplication rc_Model rfl rfl (Nat.le_of_ble_eq_true rfl) dX7_application_2 ?_
    refine g_bi_ne hX 10 dX7_application_5 (by decide) (fun c1 => ?_) (fun c1 => ?_)
    · -- jump 10
      have ha := appP_in hI c1
      refine g_iload_n hX 2 dX7_application_10 rfl ?_
      refine g_iconst hX 0 dX7_application_11 (by decide) ?_
      refine g_bipush hX 8 dX7_application_12 (by decide) ?_
      refine g_csE hX (As := [.int w, .int 0, .int 8]) (rest := []) (c_X7_in l G z (x := w) (lo := 0) (hi := 8) ) k_X7_application_X7_in rfl rfl (Nat.le_of_ble_eq_true rfl) dX7_application_14 ?_
      refine g_bi_eq hX 29 dX7_application_17 (by decide) (fun c2 => ?_) (fun c2 => ?_)
      · -- jump 29
        refine g_iload_n hX 2 dX7_application_29 rfl ?_
        refine g_bipush hX 9 dX7_application_30 (by decide) ?_
        refine g_ic_ne hX 43 dX7_application_32 (by decide) (fun c3 => ?_) (fun c3 => ?_)
        · -- jump 43
          refine g_bipush hX (-2) dX7_application_43 (by decide) ?_
          refine ret _ _ _ _ dX7_application_45 ?_
          refine ⟨?_, rfl⟩
          rw [← mApp_eq hI h18]
          first | (simp [mApp, c1, c2, c3]; done) | grind [mApp]
        · -- on 35
          refine g_aload_n hX 0 dX7_application_35 rfl ?_
          refine g_iload_n hX 1 dX7_application_36 rfl ?_
          refine g_st (st2 := [.int (nI (cn x)), .ref (G.2.2 0)]) (by rw [← (show x = nI (cn x) from ha.1)]) ?_
          refine g_cvE hX (As := [.int (nI (cn x))]) (rest := []) (c_X7_ticketsOf l G z (a := (cn x)) (ha := ha.2.1) (hI := (by assumption))) k_X7_application_X7_ticketsOf rc_Model rfl rfl (Nat.le_of_ble_eq_true rfl) dX7_application_37 ?_
          refine g_goto hX 45 dX7_application_40 (by decide) ?_
          refine ret _ _ _ _ dX7_application_45 ?_
          refine ⟨?_, rfl⟩
          rw [← mApp_eq hI h18]
          first | (simp [mApp, c1, c2, c3]; done) | grind [mApp]
      · -- on 20
        have hx := rng2 c2 (by decide) 8 (by decide) rfl
        refine g_aload_n hX 0 dX7_application_20 rfl ?_
        refine g_iload_n hX 1 dX7_application_21 rfl ?_
        refine g_iload_n hX 2 dX7_application_22 rfl ?_
        refine g_st (st2 := [.int w, .int (nI (cn x)), .ref (G.2.2 0)]) (by rw [← (show x = nI (cn x) from ha.1)]) ?_
        refine g_st (st2 := [.int (nI (cn w)), .int (nI (cn x)), .ref (G.2.2 0)]) (by rw [← (show w = nI (cn w) from hx.1)]) ?_
        refine g_cvE hX (As := [.int (nI (cn x)), .int (nI (cn w))]) (rest := []) (c_X7_of l G z (a := (cn x)) (w := (cn w)) (ha := ha.2.2) (hw := (by omega))) k_X7_application_X7_of rc_Model rfl rfl (Nat.le_of_ble_eq_true rfl) dX7_application_23 ?_
        refine g_goto hX 45 dX7_application_26 (by decide) ?_
        refine ret _ _ _ _ dX7_application_45 ?_
        refine ⟨?_, rfl⟩
        rw [← mApp_eq hI h18]
        first | (simp [mApp, c1, c2]; done) | grind [mApp]
    · -- on 8
      refine g_iconst hX (-1) dX7_application_8 (by decide) ?_
      refine ret _ _ _ _ dX7_application_9 ?_
      refine ⟨?_, rfl⟩
      rw [← mApp_eq hI h18]
      first | (simp [mApp, c1]; done) | grind [mApp]
def rm_X7_onRoute : Room := { frames := 4, cells := 0, slots := 0, locals := 93 }
theorem k_X7_onRoute_X7_bufferOf : CW rm_X7_onRoute wsX7_onRoute RX7 RX7 51 yX7_bufferOf cX7_bufferOf 2 (some .int) wsX7_bufferOf rm_X7_bufferOf 1 := ⟨gX7_onRoute_X7_bufferOf, ⟨_, rfl⟩, rfl, rfl, ⟨rfl, by decide +kernel, by decide +kernel, by decide +kernel⟩, by decide, by decide⟩
theorem k_X7_onRoute_X7_inState : CW rm_X7_onRoute wsX7_onRoute RX7 RX7 118 yX7_inState cX7_inState 6 (some .int) wsX7_inState rm_X7_inState 3 := ⟨gX7_onRoute_X7_inState, ⟨_, rfl⟩, rfl, rfl, ⟨rfl, by decide +kernel, by decide +kernel, by decide +kernel⟩, by decide, by decide⟩
theorem k_X7_onRoute_X7_isDay : CS rm_X7_onRoute wsX7_onRoute RX7 81 yX7_isDay cX7_isDay 1 (some .boolean) wsX7_isDay rm_X7_isDay 1 := ⟨gX7_onRoute_X7_isDay, ⟨_, rfl⟩, rfl, rfl, ⟨rfl, by decide +kernel, by decide +kernel, by decide +kernel⟩, by decide, by decide⟩
theorem k_X7_onRoute_X7_isRoute : CW rm_X7_onRoute wsX7_onRoute RX7 RX7 43 yX7_isRoute cX7_isRoute 2 (some .boolean) wsX7_isRoute rm_X7_isRoute 1 := ⟨gX7_onRoute_X7_isRoute, ⟨_, rfl⟩, rfl, rfl, ⟨rfl, by decide +kernel, by decide +kernel, by decide +kernel⟩, by decide, by decide⟩
theorem k_X7_onRoute_X7_left : CW rm_X7_onRoute wsX7_onRoute RX7 RX7 109 yX7_left cX7_left 3 (some .int) wsX7_left rm_X7_left 2 := ⟨gX7_onRoute_X7_left, ⟨_, rfl⟩, rfl, rfl, ⟨rfl, by decide +kernel, by decide +kernel, by decide +kernel⟩, by decide, by decide⟩
theorem k_X7_onRoute_X7_limitOf : CW rm_X7_onRoute wsX7_onRoute RX7 RX7 47 yX7_limitOf cX7_limitOf 2 (some .int) wsX7_limitOf rm_X7_limitOf 1 := ⟨gX7_onRoute_X7_limitOf, ⟨_, rfl⟩, rfl, rfl, ⟨rfl, by decide +kernel, by decide +kernel, by decide +kernel⟩, by decide, by decide⟩
theorem k_X7_onRoute_X7_taken : CW rm_X7_onRoute wsX7_onRoute RX7 RX7 72 yX7_taken cX7_taken 7 (some .int) wsX7_taken rm_X7_taken 2 := ⟨gX7_onRoute_X7_taken, ⟨_, rfl⟩, rfl, rfl, ⟨rfl, by decide +kernel, by decide +kernel, by decide +kernel⟩, by decide, by decide⟩
set_option maxHeartbeats 4000000 in
set_option maxRecDepth 100000 in
theorem c_X7_onRoute (l : Launch) (G : MG) (z : St) {r : Int32} {d : Int32} {w : Int32} (hI : IO z) : CIm l G yX7_onRoute wsX7_onRoute rm_X7_onRoute [.ref (G.2.2 0), .int r, .int d, .int w] z (fun ρ ζ => ρ = spOnRoute z r d w ∧ ζ = z) := by
  refine ci_of (own := RX7) (cc := cX7_onRoute) (maxL := 4) (ret := .int) (by decide +kernel) rfl rfl ?_ (Nat.le_of_ble_eq_true rfl) (KQ_mv (ExM_mv G)) ?_
  · intro v z' _; rfl
  · intro X hX ret
    refine g_lv (lv' := [(0, .ref (G.2.2 0)), (1, .int r), (2, .int d), (3, .int w)]) rfl ?_
    refine g_aload_n hX 0 dX7_onRoute_0 rfl ?_
    refine g_iload_n hX 1 dX7_onRoute_1 rfl ?_
    refine g_cvE hX (As := [.int r]) (rest := []) (c_X7_isRoute l G z (x := r) (hI := (by assumption))) k_X7_onRoute_X7_isRoute rc_Model rfl rfl (Nat.le_of_ble_eq_true rfl) dX7_onRoute_2 ?_
    refine g_bi_eq hX 15 dX7_onRoute_5 (by decide) (fun c1 => ?_) (fun c1 => ?_)
    · -- jump 15
      refine g_iconst hX (-1) dX7_onRoute_15 (by decide) ?_
      refine ret _ _ _ _ dX7_onRoute_16 ?_
      refine ⟨?_, rfl⟩
      first | (simp [spOnRoute, c1]; done) | grind [spOnRoute]
    · -- on 8
      have hr := routeP_in hI c1
      refine g_iload_n hX 2 dX7_onRoute_8 rfl ?_
      refine g_csE hX (As := [.int d]) (rest := []) (c_X7_isDay l G z (x := d) ) k_X7_onRoute_X7_isDay rfl rfl (Nat.le_of_ble_eq_true rfl) dX7_onRoute_9 ?_
      refine g_bi_ne hX 17 dX7_onRoute_12 (by decide) (fun c2 => ?_) (fun c2 => ?_)
      · -- jump 17
        have hdd := dayP_in c2
        refine g_iload_n hX 3 dX7_onRoute_17 rfl ?_
        have ht3 : w = 0 ∨ w = 1 ∨ w = 2 ∨ w = 3 ∨ w = 4 ∨ w = 5 ∨ (w.toInt < 0 ∨ 5 < w.toInt) := by
          have e0 : (0 : Int32).toInt = 0 := by decide
          have e1 : (1 : Int32).toInt = 1 := by decide
          have e2 : (2 : Int32).toInt = 2 := by decide
          have e3 : (3 : Int32).toInt = 3 := by decide
          have e4 : (4 : Int32).toInt = 4 := by decide
          have e5 : (5 : Int32).toInt = 5 := by decide
          simp only [← Int32.toInt_inj]
          omega
        rcases ht3 with ht3 | ht3 | ht3 | ht3 | ht3 | ht3 | ht3
        · -- case 0
          refine g_tabIn hX (off := 38) 56 dX7_onRoute_18 (by rw [ht3]; decide) (by rw [ht3]; decide) (by rw [ht3]; rfl) (by decide) ?_
          refine g_aload_n hX 0 dX7_onRoute_56 rfl ?_
          refine g_iload_n hX 1 dX7_onRoute_57 rfl ?_
          refine g_st (st2 := [.int (nI (cn r)), .ref (G.2.2 0)]) (by rw [← (show r = nI (cn r) from hr.1)]) ?_
          refine g_cvE hX (As := [.int (nI (cn r))]) (rest := []) (c_X7_limitOf l G z (r := (cn r)) (hr6 := hr.2)) k_X7_onRoute_X7_limitOf rc_Model rfl rfl (Nat.le_of_ble_eq_true rfl) dX7_onRoute_58 ?_
          refine ret _ _ _ _ dX7_onRoute_61 ?_
          refine ⟨?_, rfl⟩
          first | (simp [spOnRoute, c1, c2, ht3]; done) | grind [spOnRoute]
        · -- case 1
          refine g_tabIn hX (off := 44) 62 dX7_onRoute_18 (by rw [ht3]; decide) (by rw [ht3]; decide) (by rw [ht3]; rfl) (by decide) ?_
          refine g_aload_n hX 0 dX7_onRoute_62 rfl ?_
          refine g_iload_n hX 1 dX7_onRoute_63 rfl ?_
          refine g_st (st2 := [.int (nI (cn r)), .ref (G.2.2 0)]) (by rw [← (show r = nI (cn r) from hr.1)]) ?_
          refine g_cvE hX (As := [.int (nI (cn r))]) (rest := []) (c_X7_bufferOf l G z (r := (cn r)) (hr6 := hr.2)) k_X7_onRoute_X7_bufferOf rc_Model rfl rfl (Nat.le_of_ble_eq_true rfl) dX7_onRoute_64 ?_
          refine ret _ _ _ _ dX7_onRoute_67 ?_
          refine ⟨?_, rfl⟩
          first | (simp [spOnRoute, c1, c2, ht3]; done) | grind [spOnRoute]
        · -- case 2
          refine g_tabIn hX (off := 50) 68 dX7_onRoute_18 (by rw [ht3]; decide) (by rw [ht3]; decide) (by rw [ht3]; rfl) (by decide) ?_
          refine g_aload_n hX 0 dX7_onRoute_68 rfl ?_
          refine g_iload_n hX 1 dX7_onRoute_69 rfl ?_
          refine g_iload_n hX 2 dX7_onRoute_70 rfl ?_
          refine g_cvE hX (As := [.int r, .int d]) (rest := []) (c_X7_taken l G z (r := r) (d := d) (hI := (by assumption))) k_X7_onRoute_X7_taken rc_Model rfl rfl (Nat.le_of_ble_eq_true rfl) dX7_onRoute_71 ?_
          refine ret _ _ _ _ dX7_onRoute_74 ?_
          refine ⟨?_, rfl⟩
          first | (simp [spOnRoute, c1, c2, ht3]; done) | grind [spOnRoute]
        · -- case 3
          refine g_tabIn hX (off := 57) 75 dX7_onRoute_18 (by rw [ht3]; decide) (by rw [ht3]; decide) (by rw [ht3]; rfl) (by decide) ?_
          refine g_aload_n hX 0 dX7_onRoute_75 rfl ?_
          refine g_iload_n hX 1 dX7_onRoute_76 rfl ?_
          refine g_iload_n hX 2 dX7_onRoute_77 rfl ?_
          refine g_st (st2 := [.int d, .int (nI (cn r)), .ref (G.2.2 0)]) (by rw [← (show r = nI (cn r) from hr.1)]) ?_
          refine g_cvE hX (As := [.int (nI (cn r)), .int d]) (rest := []) (c_X7_left l G z (q := (cn r)) (d := d) (hq := hr.2) (hI := (by assumption))) k_X7_onRoute_X7_left rc_Model rfl rfl (Nat.le_of_ble_eq_true rfl) dX7_onRoute_78 ?_
          refine g_top (leftP z r d) (by rw [← hr.1]) ?_
          refine g_if_le hX 93 dX7_onRoute_81 (by decide) (fun c4 => ?_) (fun c4 => ?_)
          · -- jump 93
            refine g_iconst hX 0 dX7_onRoute_93 (by decide) ?_
            refine ret _ _ _ _ dX7_onRoute_94 ?_
            refine ⟨?_, rfl⟩
            first | (simp [spOnRoute, c1, c2, ht3, c4]; done) | grind [spOnRoute]
          · -- on 84
            refine g_aload_n hX 0 dX7_onRoute_84 rfl ?_
            refine g_iload_n hX 1 dX7_onRoute_85 rfl ?_
            refine g_iload_n hX 2 dX7_onRoute_86 rfl ?_
            refine g_st (st2 := [.int d, .int (nI (cn r)), .ref (G.2.2 0)]) (by rw [← (show r = nI (cn r) from hr.1)]) ?_
            refine g_cvE hX (As := [.int (nI (cn r)), .int d]) (rest := []) (c_X7_left l G z (q := (cn r)) (d := d) (hq := hr.2) (hI := (by assumption))) k_X7_onRoute_X7_left rc_Model rfl rfl (Nat.le_of_ble_eq_true rfl) dX7_onRoute_87 ?_
            refine g_top (leftP z r d) (by rw [← hr.1]) ?_
            refine g_goto hX 94 dX7_onRoute_90 (by decide) ?_
            refine ret _ _ _ _ dX7_onRoute_94 ?_
            refine ⟨?_, rfl⟩
            first | (simp [spOnRoute, c1, c2, ht3, c4]; done) | grind [spOnRoute]
        · -- case 4
          refine g_tabIn hX (off := 77) 95 dX7_onRoute_18 (by rw [ht3]; decide) (by rw [ht3]; decide) (by rw [ht3]; rfl) (by decide) ?_
          refine g_aload_n hX 0 dX7_onRoute_95 rfl ?_
          refine g_iload_n hX 1 dX7_onRoute_96 rfl ?_
          refine g_iload_n hX 2 dX7_onRoute_97 rfl ?_
          refine g_iconst hX 0 dX7_onRoute_98 (by decide) ?_
          refine g_cvE hX (As := [.int r, .int d, .int 0]) (rest := []) (c_X7_inState l G z (r := r) (d := d) (s := 0) (hI := (by assumption))) k_X7_onRoute_X7_inState rc_Model rfl rfl (Nat.le_of_ble_eq_true rfl) dX7_onRoute_99 ?_
          refine ret _ _ _ _ dX7_onRoute_102 ?_
          refine ⟨?_, rfl⟩
          first | (simp [spOnRoute, c1, c2, ht3]; done) | grind [spOnRoute]
        · -- case 5
          refine g_tabIn hX (off := 85) 103 dX7_onRoute_18 (by rw [ht3]; decide) (by rw [ht3]; decide) (by rw [ht3]; rfl) (by decide) ?_
          refine g_aload_n hX 0 dX7_onRoute_103 rfl ?_
          refine g_iload_n hX 1 dX7_onRoute_104 rfl ?_
          refine g_iload_n hX 2 dX7_onRoute_105 rfl ?_
          refine g_iconst hX 2 dX7_onRoute_106 (by decide) ?_
          refine g_cvE hX (As := [.int r, .int d, .int 2]) (rest := []) (c_X7_inState l G z (r := r) (d := d) (s := 2) (hI := (by assumption))) k_X7_onRoute_X7_inState rc_Model rfl rfl (Nat.le_of_ble_eq_true rfl) dX7_onRoute_107 ?_
          refine ret _ _ _ _ dX7_onRoute_110 ?_
          refine ⟨?_, rfl⟩
          first | (simp [spOnRoute, c1, c2, ht3]; done) | grind [spOnRoute]
        · -- default
          have ht3_0 : ¬ w = 0 := by intro e; rw [e] at ht3; revert ht3; decide
          have ht3_1 : ¬ w = 1 := by intro e; rw [e] at ht3; revert ht3; decide
          have ht3_2 : ¬ w = 2 := by intro e; rw [e] at ht3; revert ht3; decide
          have ht3_3 : ¬ w = 3 := by intro e; rw [e] at ht3; revert ht3; decide
          have ht3_4 : ¬ w = 4 := by intro e; rw [e] at ht3; revert ht3; decide
          have ht3_5 : ¬ w = 5 := by intro e; rw [e] at ht3; revert ht3; decide
          refine g_tabOut hX 111 dX7_onRoute_18 ht3 (by decide) ?_
          refine g_bipush hX (-2) dX7_onRoute_111 (by decide) ?_
          refine ret _ _ _ _ dX7_onRoute_113 ?_
          refine ⟨?_, rfl⟩
          first | (simp [spOnRoute, c1, c2, ht3_0, ht3_1, ht3_2, ht3_3, ht3_4, ht3_5]; done) | grind [spOnRoute]
      · -- on 15
        refine g_iconst hX (-1) dX7_onRoute_15 (by decide) ?_
        refine ret _ _ _ _ dX7_onRoute_16 ?_
        refine ⟨?_, rfl⟩
        first | (simp [spOnRoute, c1, c2]; done) | grind [spOnRoute]
def rm_X7_nextWaiting : Room := { frames := 4, cells := 0, slots := 0, locals := 93 }
theorem i_X7_nextWaiting_wsX70 : ∀ w ∈ wsX70, w ∈ wsX7_nextWaiting := fun w h => List.mem_cons_of_mem _ (List.mem_append_right _ h)
theorem k_X7_nextWaiting_X7_firstWaiting : CW rm_X7_nextWaiting wsX7_nextWaiting RX7 RX7 125 yX7_firstWaiting cX7_firstWaiting 8 (some .int) wsX7_firstWaiting rm_X7_firstWaiting 3 := ⟨gX7_nextWaiting_X7_firstWaiting, ⟨_, rfl⟩, rfl, rfl, ⟨rfl, by decide +kernel, by decide +kernel, by decide +kernel⟩, by decide, by decide⟩
theorem k_X7_nextWaiting_X7_isDay : CS rm_X7_nextWaiting wsX7_nextWaiting RX7 81 yX7_isDay cX7_isDay 1 (some .boolean) wsX7_isDay rm_X7_isDay 1 := ⟨gX7_nextWaiting_X7_isDay, ⟨_, rfl⟩, rfl, rfl, ⟨rfl, by decide +kernel, by decide +kernel, by decide +kernel⟩, by decide, by decide⟩
theorem k_X7_nextWaiting_X7_isRoute : CW rm_X7_nextWaiting wsX7_nextWaiting RX7 RX7 43 yX7_isRoute cX7_isRoute 2 (some .boolean) wsX7_isRoute rm_X7_isRoute 1 := ⟨gX7_nextWaiting_X7_isRoute, ⟨_, rfl⟩, rfl, rfl, ⟨rfl, by decide +kernel, by decide +kernel, by decide +kernel⟩, by decide, by decide⟩
theorem k_X7_nextWaiting_X7_left : CW rm_X7_nextWaiting wsX7_nextWaiting RX7 RX7 109 yX7_left cX7_left 3 (some .int) wsX7_left rm_X7_left 2 := ⟨gX7_nextWaiting_X7_left, ⟨_, rfl⟩, rfl, rfl, ⟨rfl, by decide +kernel, by decide +kernel, by decide +kernel⟩, by decide, by decide⟩
set_option maxHeartbeats 4000000 in
set_option maxRecDepth 100000 in
theorem c_X7_nextWaiting (l : Launch) (G : MG) (z : St) {r : Int32} {d : Int32} (hI : IO z) (hcl : ∀ d, d < 60 → z 7 d = 0 ∨ z 7 d = 1) (h87 : ∀ a, a < nA z → z 87 (cn (z 11 a)) = z 10 (cn (z 11 a))) : CIm l G yX7_nextWaiting wsX7_nextWaiting rm_X7_nextWaiting [.ref (G.2.2 0), .int r, .int d] z (fun ρ ζ => ρ = spNext z r d ∧ ζ = z) := by
  refine ci_of (own := RX7) (cc := cX7_nextWaiting) (maxL := 3) (ret := .int) (by decide +kernel) rfl rfl ?_ (Nat.le_of_ble_eq_true rfl) (KQ_mv (ExM_mv G)) ?_
  · intro v z' _; rfl
  · intro X hX ret
    refine g_lv (lv' := [(0, .ref (G.2.2 0)), (1, .int r), (2, .int d)]) rfl ?_
    refine g_aload_n hX 0 dX7_nextWaiting_0 rfl ?_
    refine g_iload_n hX 1 dX7_nextWaiting_1 rfl ?_
    refine g_cvE hX (As := [.int r]) (rest := []) (c_X7_isRoute l G z (x := r) (hI := (by assumption))) k_X7_nextWaiting_X7_isRoute rc_Model rfl rfl (Nat.le_of_ble_eq_true rfl) dX7_nextWaiting_2 ?_
    refine g_bi_eq hX 15 dX7_nextWaiting_5 (by decide) (fun c1 => ?_) (fun c1 => ?_)
    · -- jump 15
      refine g_iconst hX (-1) dX7_nextWaiting_15 (by decide) ?_
      refine ret _ _ _ _ dX7_nextWaiting_16 ?_
      refine ⟨?_, rfl⟩
      first | (simp [spNext, c1]; done) | grind [spNext]
    · -- on 8
      have hr := routeP_in hI c1
      refine g_iload_n hX 2 dX7_nextWaiting_8 rfl ?_
      refine g_csE hX (As := [.int d]) (rest := []) (c_X7_isDay l G z (x := d) ) k_X7_nextWaiting_X7_isDay rfl rfl (Nat.le_of_ble_eq_true rfl) dX7_nextWaiting_9 ?_
      refine g_bi_ne hX 17 dX7_nextWaiting_12 (by decide) (fun c2 => ?_) (fun c2 => ?_)
      · -- jump 17
        have hdd := dayP_in c2
        have hcc := cl_iff (hcl _ hdd.2)
        refine g_iload_n hX 2 dX7_nextWaiting_17 rfl ?_
        refine g_aload_n hX 0 dX7_nextWaiting_18 rfl ?_
        refine m_g_0 hX i_X7_nextWaiting_wsX70 (List.mem_of_getElem? (i := 1) rfl) dX7_nextWaiting_19 ?_
        refine g_iconst hX 0 dX7_nextWaiting_22 (by decide) ?_
        refine m_ld_at hX 0 rfl (by decide) dX7_nextWaiting_23 (v := (z 0 0)) rfl ?_
        refine g_ic_ge hX 32 dX7_nextWaiting_24 (by decide) (fun c3 => ?_) (fun c3 => ?_)
        · -- jump 32
          refine g_aload_n hX 0 dX7_nextWaiting_32 rfl ?_
          refine g_iload_n hX 1 dX7_nextWaiting_33 rfl ?_
          refine g_iload_n hX 2 dX7_nextWaiting_34 rfl ?_
          refine g_aload_n hX 0 dX7_nextWaiting_35 rfl ?_
          refine g_iload_n hX 1 dX7_nextWaiting_36 rfl ?_
          refine g_iload_n hX 2 dX7_nextWaiting_37 rfl ?_
          refine g_st (st2 := [.int d, .int (nI (cn r)), .ref (G.2.2 0), .int d, .int r, .ref (G.2.2 0)]) (by rw [← (show r = nI (cn r) from hr.1)]) ?_
          refine g_cvE hX (As := [.int (nI (cn r)), .int d]) (rest := [.int d, .int r, .ref (G.2.2 0)]) (c_X7_left l G z (q := (cn r)) (d := d) (hq := hr.2) (hI := (by assumption))) k_X7_nextWaiting_X7_left rc_Model rfl rfl (Nat.le_of_ble_eq_true rfl) dX7_nextWaiting_38 ?_
          refine g_top (leftP z r d) (by rw [← hr.1]) ?_
          refine g_iconst hX 1 dX7_nextWaiting_41 (by decide) ?_
          refine g_iadd hX dX7_nextWaiting_42 ?_
          refine g_st (st2 := [.int ((leftP z r d) + 1), .int (nI (cn d)), .int r, .ref (G.2.2 0)]) (by rw [← (show d = nI (cn d) from hdd.1)]) ?_
          refine g_cvE hX (As := [.int r, .int (nI (cn d)), .int ((leftP z r d) + 1)]) (rest := []) (c_X7_firstWaiting l G z (r := r) (e := (cn d)) (p := ((leftP z r d) + 1)) (he := hdd.2) (hI := (by assumption)) (h87 := (by assumption))) k_X7_nextWaiting_X7_firstWaiting rc_Model rfl rfl (Nat.le_of_ble_eq_true rfl) dX7_nextWaiting_43 ?_
          refine g_top ((if z 7 (cn d) = 1 then -6 else fw z r d (leftP z r d + 1))) (by rw [← hdd.1]) ?_
          refine ret _ _ _ _ dX7_nextWaiting_46 ?_
          refine ⟨?_, rfl⟩
          first | (simp [spNext, c1, c2, c3]; done) | grind [spNext]
        · -- on 27
          refine g_bipush hX (-6) dX7_nextWaiting_27 (by decide) ?_
          refine g_goto hX 46 dX7_nextWaiting_29 (by decide) ?_
          refine ret _ _ _ _ dX7_nextWaiting_46 ?_
          refine ⟨?_, rfl⟩
          first | (simp [spNext, c1, c2, c3]; done) | grind [spNext]
      · -- on 15
        refine g_iconst hX (-1) dX7_nextWaiting_15 (by decide) ?_
        refine ret _ _ _ _ dX7_nextWaiting_16 ?_
        refine ⟨?_, rfl⟩
        first | (simp [spNext, c1, c2]; done) | grind [spNext]
def rm_X7_show : Room := { frames := 2, cells := 0, slots := 0, locals := 43 }
theorem k_X7_show_X7_isApplication : CW rm_X7_show wsX7_show RX7 RX7 128 yX7_isApplication cX7_isApplication 2 (some .boolean) wsX7_isApplication rm_X7_isApplication 1 := ⟨gX7_show_X7_isApplication, ⟨_, rfl⟩, rfl, rfl, ⟨rfl, by decide +kernel, by decide +kernel, by decide +kernel⟩, by decide, by decide⟩
theorem k_X7_show_X7_isOfToday : CW rm_X7_show wsX7_show RX7 RX7 144 yX7_isOfToday cX7_isOfToday 2 (some .boolean) wsX7_isOfToday rm_X7_isOfToday 1 := ⟨gX7_show_X7_isOfToday, ⟨_, rfl⟩, rfl, rfl, ⟨rfl, by decide +kernel, by decide +kernel, by decide +kernel⟩, by decide, by decide⟩
theorem k_X7_show_X7_lay : CW rm_X7_show wsX7_show RX7 RX7 75 yX7_lay cX7_lay 4 none wsX7_lay rm_X7_lay 3 := ⟨gX7_show_X7_lay, ⟨_, rfl⟩, rfl, rfl, ⟨rfl, by decide +kernel, by decide +kernel, by decide +kernel⟩, by decide, by decide⟩
theorem k_X7_show_X7_of : CW rm_X7_show wsX7_show RX7 RX7 66 yX7_of cX7_of 3 (some .int) wsX7_of rm_X7_of 2 := ⟨gX7_show_X7_of, ⟨_, rfl⟩, rfl, rfl, ⟨rfl, by decide +kernel, by decide +kernel, by decide +kernel⟩, by decide, by decide⟩
set_option maxHeartbeats 4000000 in
set_option maxRecDepth 100000 in
theorem c_X7_show (l : Launch) (G : MG) (hA : Ap 9 G.2.2) (z : St) {x : Int32} (hI : IO z) (h18 : ∀ a, a < nA z → z 18 a = 0 ∨ z 18 a = 1) : CIm l G yX7_show wsX7_show rm_X7_show [.ref (G.2.2 0), .int x] z (fun ρ ζ => ρ = (spShow z x).1 ∧ ζ = (spShow z x).2) := by
  refine ci_of (own := RX7) (cc := cX7_show) (maxL := 2) (ret := .int) (by decide +kernel) rfl rfl ?_ (Nat.le_of_ble_eq_true rfl) (KQ_mv (ExM_mv G)) ?_
  · intro v z' _; rfl
  · intro X hX ret
    refine g_lv (lv' := [(0, .ref (G.2.2 0)), (1, .int x)]) rfl ?_
    refine g_aload_n hX 0 dX7_show_0 rfl ?_
    refine g_iload_n hX 1 dX7_show_1 rfl ?_
    refine g_cvE hX (As := [.int x]) (rest := []) (c_X7_isApplication l G z (x := x) (hI := (by assumption))) k_X7_show_X7_isApplication rc_Model rfl rfl (Nat.le_of_ble_eq_true rfl) dX7_show_2 ?_
    refine g_bi_ne hX 10 dX7_show_5 (by decide) (fun c1 => ?_) (fun c1 => ?_)
    · -- jump 10
      have ha := appP_in hI c1
      have h8 := h18 _ ha.2.1
      refine g_aload_n hX 0 dX7_show_10 rfl ?_
      refine g_iload_n hX 1 dX7_show_11 rfl ?_
      refine g_iconst hX 4 dX7_show_12 (by decide) ?_
      refine g_st (st2 := [.int 4, .int (nI (cn x)), .ref (G.2.2 0)]) (by rw [← (show x = nI (cn x) from ha.1)]) ?_
      refine g_cvE hX (As := [.int (nI (cn x)), .int 4]) (rest := []) (c_X7_of l G z (a := (cn x)) (w := 4) (ha := ha.2.2) (hw := (by decide))) k_X7_show_X7_of rc_Model rfl rfl (Nat.le_of_ble_eq_true rfl) dX7_show_13 ?_
      refine g_top (z 15 (cn x)) rfl ?_
      refine g_iconst hX 1 dX7_show_16 (by decide) ?_
      refine g_ic_ne hX 39 dX7_show_17 (by decide) (fun c2 => ?_) (fun c2 => ?_)
      · -- jump 39
        refine g_bipush hX (-5) dX7_show_39 (by decide) ?_
        refine ret _ _ _ _ dX7_show_41 ?_
        first | (simp [spShow, c1, c2]; done) | grind [spShow]
      · -- on 20
        refine g_aload_n hX 0 dX7_show_20 rfl ?_
        refine g_iload_n hX 1 dX7_show_21 rfl ?_
        refine g_st (st2 := [.int (nI (cn x)), .ref (G.2.2 0)]) (by rw [← (show x = nI (cn x) from ha.1)]) ?_
        refine g_cvE hX (As := [.int (nI (cn x))]) (rest := []) (c_X7_isOfToday l G z (a := (cn x)) (ha := ha.2.2)) k_X7_show_X7_isOfToday rc_Model rfl rfl (Nat.le_of_ble_eq_true rfl) dX7_show_22 ?_
        refine g_bi_eq hX 39 dX7_show_25 (by decide) (fun c3 => ?_) (fun c3 => ?_)
        · -- jump 39
          refine g_bipush hX (-5) dX7_show_39 (by decide) ?_
          refine ret _ _ _ _ dX7_show_41 ?_
          first | (simp [spShow, c1, c2, c3]; done) | grind [spShow]
        · -- on 28
          refine g_aload_n hX 0 dX7_show_28 rfl ?_
          refine g_iload_n hX 1 dX7_show_29 rfl ?_
          refine g_bipush hX 7 dX7_show_30 (by decide) ?_
          refine g_st (st2 := [.int 7, .int (nI (cn x)), .ref (G.2.2 0)]) (by rw [← (show x = nI (cn x) from ha.1)]) ?_
          refine g_cvE hX (As := [.int (nI (cn x)), .int 7]) (rest := []) (c_X7_of l G z (a := (cn x)) (w := 7) (ha := ha.2.2) (hw := (by decide))) k_X7_show_X7_of rc_Model rfl rfl (Nat.le_of_ble_eq_true rfl) dX7_show_32 ?_
          refine g_top (z 18 (cn x)) rfl ?_
          refine g_iconst hX 1 dX7_show_35 (by decide) ?_
          refine g_ic_ne hX 42 dX7_show_36 (by decide) (fun c4 => ?_) (fun c4 => ?_)
          · -- jump 42
            refine g_aload_n hX 0 dX7_show_42 rfl ?_
            refine g_iload_n hX 1 dX7_show_43 rfl ?_
            refine g_bipush hX 7 dX7_show_44 (by decide) ?_
            refine g_iconst hX 1 dX7_show_46 (by decide) ?_
            refine g_st (st2 := [.int 1, .int 7, .int (nI (cn x)), .ref (G.2.2 0)]) (by rw [← (show x = nI (cn x) from ha.1)]) ?_
            refine g_cvvE hX (As := [.int (nI (cn x)), .int 7, .int 1]) (rest := []) (c_X7_lay l G hA z (a := (cn x)) (w := 7) (v := 1) (ha := ha.2.2) (hw := (by decide))) k_X7_show_X7_lay rc_Model rfl rfl (Nat.le_of_ble_eq_true rfl) dX7_show_47 ?_
            refine g_z (z2 := u2 z 18 (cn x) 1) rfl ?_
            refine g_iconst hX 1 dX7_show_50 (by decide) ?_
            refine ret _ _ _ _ dX7_show_51 ?_
            first | (simp [spShow, c1, c2, c3, c4]; done) | grind [spShow]
          · -- on 39
            refine g_bipush hX (-5) dX7_show_39 (by decide) ?_
            refine ret _ _ _ _ dX7_show_41 ?_
            first | (simp [spShow, c1, c2, c3, c4]; done) | grind [spShow]
    · -- on 8
      refine g_iconst hX (-1) dX7_show_8 (by decide) ?_
      refine ret _ _ _ _ dX7_show_9 ?_
      first | (simp [spShow, c1]; done) | grind [spShow]
def rm_X7_standby : Room := { frames := 3, cells := 0, slots := 0, locals := 71 }
theorem i_X7_standby_wsX70 : ∀ w ∈ wsX70, w ∈ wsX7_standby := fun w h => List.mem_cons_of_mem _ (List.mem_append_right _ h)
theorem k_X7_standby_X7_isApplication : CW rm_X7_standby wsX7_standby RX7 RX7 128 yX7_isApplication cX7_isApplication 2 (some .boolean) wsX7_isApplication rm_X7_isApplication 1 := ⟨gX7_standby_X7_isApplication, ⟨_, rfl⟩, rfl, rfl, ⟨rfl, by decide +kernel, by decide +kernel, by decide +kernel⟩, by decide, by decide⟩
theorem k_X7_standby_X7_isBarred : CW rm_X7_standby wsX7_standby RX7 RX7 90 yX7_isBarred cX7_isBarred 3 (some .boolean) wsX7_isBarred rm_X7_isBarred 2 := ⟨gX7_standby_X7_isBarred, ⟨_, rfl⟩, rfl, rfl, ⟨rfl, by decide +kernel, by decide +kernel, by decide +kernel⟩, by decide, by decide⟩
theorem k_X7_standby_X7_isClosed : CW rm_X7_standby wsX7_standby RX7 RX7 84 yX7_isClosed cX7_isClosed 2 (some .boolean) wsX7_isClosed rm_X7_isClosed 1 := ⟨gX7_standby_X7_isClosed, ⟨_, rfl⟩, rfl, rfl, ⟨rfl, by decide +kernel, by decide +kernel, by decide +kernel⟩, by decide, by decide⟩
theorem k_X7_standby_X7_isOfToday : CW rm_X7_standby wsX7_standby RX7 RX7 144 yX7_isOfToday cX7_isOfToday 2 (some .boolean) wsX7_isOfToday rm_X7_isOfToday 1 := ⟨gX7_standby_X7_isOfToday, ⟨_, rfl⟩, rfl, rfl, ⟨rfl, by decide +kernel, by decide +kernel, by decide +kernel⟩, by decide, by decide⟩
theorem k_X7_standby_X7_limitOf : CW rm_X7_standby wsX7_standby RX7 RX7 47 yX7_limitOf cX7_limitOf 2 (some .int) wsX7_limitOf rm_X7_limitOf 1 := ⟨gX7_standby_X7_limitOf, ⟨_, rfl⟩, rfl, rfl, ⟨rfl, by decide +kernel, by decide +kernel, by decide +kernel⟩, by decide, by decide⟩
theorem k_X7_standby_X7_of : CW rm_X7_standby wsX7_standby RX7 RX7 66 yX7_of cX7_of 3 (some .int) wsX7_of rm_X7_of 2 := ⟨gX7_standby_X7_of, ⟨_, rfl⟩, rfl, rfl, ⟨rfl, by decide +kernel, by decide +kernel, by decide +kernel⟩, by decide, by decide⟩
theorem k_X7_standby_X7_permit : CW rm_X7_standby wsX7_standby RX7 RX7 112 yX7_permit cX7_permit 3 (some .int) wsX7_permit rm_X7_permit 1 := ⟨gX7_standby_X7_permit, ⟨_, rfl⟩, rfl, rfl, ⟨rfl, by decide +kernel, by decide +kernel, by decide +kernel⟩, by decide, by decide⟩
theorem k_X7_standby_X7_taken : CW rm_X7_standby wsX7_standby RX7 RX7 72 yX7_taken cX7_taken 7 (some .int) wsX7_taken rm_X7_taken 2 := ⟨gX7_standby_X7_taken, ⟨_, rfl⟩, rfl, rfl, ⟨rfl, by decide +kernel, by decide +kernel, by decide +kernel⟩, by decide, by decide⟩
set_option maxHeartbeats 4000000 in
set_option maxRecDepth 100000 in
theorem c_X7_standby (l : Launch) (G : MG) (hA : Ap 9 G.2.2) (z : St) {x : Int32} (hI : IO z) (hcl : ∀ d, d < 60 → z 7 d = 0 ∨ z 7 d = 1) (h87 : ∀ a, a < nA z → z 87 (cn (z 11 a)) = z 10 (cn (z 11 a))) (h16 : ∀ a, a < nA z → (z 15 a = 0 ∨ z 15 a = 2) → z 16 a = 0) : CIm l G yX7_standby wsX7_standby rm_X7_standby [.ref (G.2.2 0), .int x] z (fun ρ ζ => ρ = (spStandby z x).1 ∧ ζ = (spStandby z x).2) := by
  refine ci_of (own := RX7) (cc := cX7_standby) (maxL := 5) (ret := .int) (by decide +kernel) rfl rfl ?_ (Nat.le_of_ble_eq_true rfl) (KQ_mv (ExM_mv G)) ?_
  · intro v z' _; rfl
  · intro X hX ret
    refine g_lv (lv' := [(0, .ref (G.2.2 0)), (1, .int x)]) rfl ?_
    refine g_aload_n hX 0 dX7_standby_0 rfl ?_
    refine g_iload_n hX 1 dX7_standby_1 rfl ?_
    refine g_cvE hX (As := [.int x]) (rest := []) (c_X7_isApplication l G z (x := x) (hI := (by assumption))) k_X7_standby_X7_isApplication rc_Model rfl rfl (Nat.le_of_ble_eq_true rfl) dX7_standby_2 ?_
    refine g_bi_ne hX 10 dX7_standby_5 (by decide) (fun c1 => ?_) (fun c1 => ?_)
    · -- jump 10
      have ha := appP_in hI c1
      have hT := iT hI
      have hR := iR hI ha.2.1
      have hC := iC hI ha.2.1
      have h8 := h87 _ ha.2.1
      have h6 := h16 _ ha.2.1
      have hcc := cl_iff (hcl _ hT.2)
      have hop : openP z (z 0 0) ↔ z 7 (cn (z 0 0)) = 0 := by
        have a1 : (0 : Int32) ≤ z 0 0 := by rw [hT.1]; exact nI_pos' (by omega)
        have a2 : z 0 0 < 60 := by rw [hT.1]; exact (nI_ltI (b := 60) (by omega) (by decide)).mpr hT.2
        simp [openP, dayP, a1, a2]
      refine g_aload_n hX 0 dX7_standby_10 rfl ?_
      refine g_iload_n hX 1 dX7_standby_11 rfl ?_
      refine g_iconst hX 1 dX7_standby_12 (by decide) ?_
      refine g_st (st2 := [.int 1, .int (nI (cn x)), .ref (G.2.2 0)]) (by rw [← (show x = nI (cn x) from ha.1)]) ?_
      refine g_cvE hX (As := [.int (nI (cn x)), .int 1]) (rest := []) (c_X7_of l G z (a := (cn x)) (w := 1) (ha := ha.2.2) (hw := (by decide))) k_X7_standby_X7_of rc_Model rfl rfl (Nat.le_of_ble_eq_true rfl) dX7_standby_13 ?_
      refine g_top (z 12 (cn x)) rfl ?_
      refine g_istore_n hX [(2, .int (z 12 (cn x))), (0, .ref (G.2.2 0)), (1, .int x)] dX7_standby_16 (by decide) rfl ?_
      refine g_aload_n hX 1 dX7_standby_17 rfl ?_
      refine m_g_0 hX i_X7_standby_wsX70 (List.mem_of_getElem? (i := 1) rfl) dX7_standby_18 ?_
      refine g_iconst hX 0 dX7_standby_21 (by decide) ?_
      refine m_ld_at hX 0 rfl (by decide) dX7_standby_22 (v := (z 0 0)) rfl ?_
      refine g_istore_n hX [(3, .int (z 0 0)), (2, .int (z 12 (cn x))), (0, .ref (G.2.2 0)), (1, .int x)] dX7_standby_23 (by decide) rfl ?_
      refine g_aload_n hX 2 dX7_standby_24 rfl ?_
      refine g_iload_n hX 3 dX7_standby_25 rfl ?_
      refine g_iconst hX 4 dX7_standby_26 (by decide) ?_
      refine g_st (st2 := [.int 4, .int (nI (cn x)), .ref (G.2.2 0)]) (by rw [← (show x = nI (cn x) from ha.1)]) ?_
      refine g_cvE hX (As := [.int (nI (cn x)), .int 4]) (rest := []) (c_X7_of l G z (a := (cn x)) (w := 4) (ha := ha.2.2) (hw := (by decide))) k_X7_standby_X7_of rc_Model rfl rfl (Nat.le_of_ble_eq_true rfl) dX7_standby_27 ?_
      refine g_top (z 15 (cn x)) rfl ?_
      refine g_iconst hX 2 dX7_standby_30 (by decide) ?_
      refine g_ic_ne hX 68 dX7_standby_31 (by decide) (fun c2 => ?_) (fun c2 => ?_)
      · -- jump 68
        refine g_iconst hX 0 dX7_standby_68 (by decide) ?_
        refine g_istore hX [(4, .int 0), (3, .int (z 0 0)), (2, .int (z 12 (cn x))), (0, .ref (G.2.2 0)), (1, .int x)] dX7_standby_69 (by decide) rfl ?_
        refine g_iload hX 0 dX7_standby_71 rfl ?_
        refine g_if_eq hX 105 dX7_standby_73 (by decide) (fun c3 => ?_) (fun c3 => ?_)
        · -- jump 105
          refine g_bipush hX (-5) dX7_standby_105 (by decide) ?_
          refine ret _ _ _ _ dX7_standby_107 ?_
          first | (simp [spStandby, c1, c2, c3]; done) | grind [spStandby, freeP]
        · -- on 76
          exact absurd c3 (by decide)
      · -- on 34
        refine g_aload_n hX 2 dX7_standby_34 rfl ?_
        refine g_iload_n hX 3 dX7_standby_35 rfl ?_
        refine g_st (st2 := [.int (nI (cn x)), .ref (G.2.2 0)]) (by rw [← (show x = nI (cn x) from ha.1)]) ?_
        refine g_cvE hX (As := [.int (nI (cn x))]) (rest := []) (c_X7_isOfToday l G z (a := (cn x)) (ha := ha.2.2)) k_X7_standby_X7_isOfToday rc_Model rfl rfl (Nat.le_of_ble_eq_true rfl) dX7_standby_36 ?_
        refine g_bi_eq hX 68 dX7_standby_39 (by decide) (fun c4 => ?_) (fun c4 => ?_)
        · -- jump 68
          refine g_iconst hX 0 dX7_standby_68 (by decide) ?_
          refine g_istore hX [(4, .int 0), (3, .int (z 0 0)), (2, .int (z 12 (cn x))), (0, .ref (G.2.2 0)), (1, .int x)] dX7_standby_69 (by decide) rfl ?_
          refine g_iload hX 0 dX7_standby_71 rfl ?_
          refine g_if_eq hX 105 dX7_standby_73 (by decide) (fun c5 => ?_) (fun c5 => ?_)
          · -- jump 105
            refine g_bipush hX (-5) dX7_standby_105 (by decide) ?_
            refine ret _ _ _ _ dX7_standby_107 ?_
            first | (simp [spStandby, c1, c2, c4, c5]; done) | grind [spStandby, freeP]
          · -- on 76
            exact absurd c5 (by decide)
        · -- on 42
          refine g_aload_n hX 2 dX7_standby_42 rfl ?_
          refine g_iload_n hX 0 dX7_standby_43 rfl ?_
          refine g_st (st2 := [.int (nI (cn (z 0 0))), .ref (G.2.2 0)]) (by rw [← (show (z 0 0) = nI (cn (z 0 0)) from hT.1)]) ?_
          refine g_cvE hX (As := [.int (nI (cn (z 0 0)))]) (rest := []) (c_X7_isClosed l G z (d := (cn (z 0 0))) (hd := hT.2)) k_X7_standby_X7_isClosed rc_Model rfl rfl (Nat.le_of_ble_eq_true rfl) dX7_standby_44 ?_
          refine g_bi_ne hX 68 dX7_standby_47 (by decide) (fun c6 => ?_) (fun c6 => ?_)
          · -- jump 68
            refine g_iconst hX 0 dX7_standby_68 (by decide) ?_
            refine g_istore hX [(4, .int 0), (3, .int (z 0 0)), (2, .int (z 12 (cn x))), (0, .ref (G.2.2 0)), (1, .int x)] dX7_standby_69 (by decide) rfl ?_
            refine g_iload hX 0 dX7_standby_71 rfl ?_
            refine g_if_eq hX 105 dX7_standby_73 (by decide) (fun c7 => ?_) (fun c7 => ?_)
            · -- jump 105
              refine g_bipush hX (-5) dX7_standby_105 (by decide) ?_
              refine ret _ _ _ _ dX7_standby_107 ?_
              first | (simp [spStandby, c1, c2, c4, c6, c7]; done) | grind [spStandby, freeP]
            · -- on 76
              exact absurd c7 (by decide)
          · -- on 50
            refine g_aload_n hX 2 dX7_standby_50 rfl ?_
            refine g_aload_n hX 2 dX7_standby_51 rfl ?_
            refine g_iload_n hX 3 dX7_standby_52 rfl ?_
            refine g_iconst hX 0 dX7_standby_53 (by decide) ?_
            refine g_st (st2 := [.int 0, .int (nI (cn x)), .ref (G.2.2 0), .ref (G.2.2 0)]) (by rw [← (show x = nI (cn x) from ha.1)]) ?_
            refine g_cvE hX (As := [.int (nI (cn x)), .int 0]) (rest := [.ref (G.2.2 0)]) (c_X7_of l G z (a := (cn x)) (w := 0) (ha := ha.2.2) (hw := (by decide))) k_X7_standby_X7_of rc_Model rfl rfl (Nat.le_of_ble_eq_true rfl) dX7_standby_54 ?_
            refine g_top (z 11 (cn x)) rfl ?_
            refine g_iload_n hX 0 dX7_standby_57 rfl ?_
            refine g_st (st2 := [.int (z 0 0), .int (nI (cn (z 11 (cn x)))), .ref (G.2.2 0)]) (by rw [← (show (z 11 (cn x)) = nI (cn (z 11 (cn x))) from hC.1)]) ?_
            refine g_cvE hX (As := [.int (nI (cn (z 11 (cn x)))), .int (z 0 0)]) (rest := []) (c_X7_isBarred l G z (c := (cn (z 11 (cn x)))) (d := (z 0 0)) (hc := hC.2)) k_X7_standby_X7_isBarred rc_Model rfl rfl (Nat.le_of_ble_eq_true rfl) dX7_standby_58 ?_
            refine g_bi_ne hX 68 dX7_standby_61 (by decide) (fun c8 => ?_) (fun c8 => ?_)
            · -- jump 68
              refine g_iconst hX 0 dX7_standby_68 (by decide) ?_
              refine g_istore hX [(4, .int 0), (3, .int (z 0 0)), (2, .int (z 12 (cn x))), (0, .ref (G.2.2 0)), (1, .int x)] dX7_standby_69 (by decide) rfl ?_
              refine g_iload hX 0 dX7_standby_71 rfl ?_
              refine g_if_eq hX 105 dX7_standby_73 (by decide) (fun c9 => ?_) (fun c9 => ?_)
              · -- jump 105
                refine g_bipush hX (-5) dX7_standby_105 (by decide) ?_
                refine ret _ _ _ _ dX7_standby_107 ?_
                first | (simp [spStandby, c1, c2, c4, c6, c8, c9]; done) | grind [spStandby, freeP]
              · -- on 76
                exact absurd c9 (by decide)
            · -- on 64
              refine g_iconst hX 1 dX7_standby_64 (by decide) ?_
              refine g_goto hX 69 dX7_standby_65 (by decide) ?_
              refine g_istore hX [(4, .int 1), (3, .int (z 0 0)), (2, .int (z 12 (cn x))), (0, .ref (G.2.2 0)), (1, .int x)] dX7_standby_69 (by decide) rfl ?_
              refine g_iload hX 0 dX7_standby_71 rfl ?_
              refine g_if_eq hX 105 dX7_standby_73 (by decide) (fun c10 => ?_) (fun c10 => ?_)
              · -- jump 105
                exact absurd c10 (by decide)
              · -- on 76
                refine g_aload_n hX 3 dX7_standby_76 rfl ?_
                refine g_iload_n hX 4 dX7_standby_77 rfl ?_
                refine g_iconst hX 3 dX7_standby_78 (by decide) ?_
                refine g_st (st2 := [.int 3, .int (nI (cn x)), .ref (G.2.2 0)]) (by rw [← (show x = nI (cn x) from ha.1)]) ?_
                refine g_cvE hX (As := [.int (nI (cn x)), .int 3]) (rest := []) (c_X7_of l G z (a := (cn x)) (w := 3) (ha := ha.2.2) (hw := (by decide))) k_X7_standby_X7_of rc_Model rfl rfl (Nat.le_of_ble_eq_true rfl) dX7_standby_79 ?_
                refine g_top (z 14 (cn x)) rfl ?_
                refine g_aload_n hX 3 dX7_standby_82 rfl ?_
                refine g_iload_n hX 2 dX7_standby_83 rfl ?_
                refine g_st (st2 := [.int (nI (cn (z 12 (cn x)))), .ref (G.2.2 0), .int (z 14 (cn x))]) (by rw [← (show (z 12 (cn x)) = nI (cn (z 12 (cn x))) from hR.1)]) ?_
                refine g_cvE hX (As := [.int (nI (cn (z 12 (cn x))))]) (rest := [.int (z 14 (cn x))]) (c_X7_limitOf l G z (r := (cn (z 12 (cn x)))) (hr6 := hR.2)) k_X7_standby_X7_limitOf rc_Model rfl rfl (Nat.le_of_ble_eq_true rfl) dX7_standby_84 ?_
                refine g_aload_n hX 3 dX7_standby_87 rfl ?_
                refine g_iload_n hX 2 dX7_standby_88 rfl ?_
                refine g_iload_n hX 1 dX7_standby_89 rfl ?_
                refine g_cvE hX (As := [.int (z 12 (cn x)), .int (z 0 0)]) (rest := [.int (z 5 (cn (z 12 (cn x)))), .int (z 14 (cn x))]) (c_X7_taken l G z (r := (z 12 (cn x))) (d := (z 0 0)) (hI := (by assumption))) k_X7_standby_X7_taken rc_Model rfl rfl (Nat.le_of_ble_eq_true rfl) dX7_standby_90 ?_
                refine g_isub hX dX7_standby_93 ?_
                refine g_ic_gt hX 105 dX7_standby_94 (by decide) (fun c11 => ?_) (fun c11 => ?_)
                · -- jump 105
                  refine g_bipush hX (-5) dX7_standby_105 (by decide) ?_
                  refine ret _ _ _ _ dX7_standby_107 ?_
                  first | (simp [spStandby, c1, c2, c4, c6, c8, c10, c11]; done) | grind [spStandby, freeP]
                · -- on 97
                  refine g_aload_n hX 3 dX7_standby_97 rfl ?_
                  refine g_iload_n hX 4 dX7_standby_98 rfl ?_
                  refine g_st (st2 := [.int (nI (cn x)), .ref (G.2.2 0)]) (by rw [← (show x = nI (cn x) from ha.1)]) ?_
                  refine g_cvE hX (As := [.int (nI (cn x))]) (rest := []) (c_X7_permit l G hA z (a := (cn x)) (ha := ha.2.2) (hp := (h6 (Or.inr (Decidable.not_not.mp (by assumption)))))) k_X7_standby_X7_permit rc_Model rfl rfl (Nat.le_of_ble_eq_true rfl) dX7_standby_99 ?_
                  refine g_goto hX 107 dX7_standby_102 (by decide) ?_
                  refine ret _ _ _ _ dX7_standby_107 ?_
                  first | (simp [spStandby, c1, c2, c4, c6, c8, c10, c11]; done) | grind [spStandby, freeP]
    · -- on 8
      refine g_iconst hX (-1) dX7_standby_8 (by decide) ?_
      refine ret _ _ _ _ dX7_standby_9 ?_
      first | (simp [spStandby, c1]; done) | grind [spStandby, freeP]
def rm_X7_strike : Room := { frames := 1, cells := 0, slots := 0, locals := 23 }
theorem i_X7_strike_wsX70 : ∀ w ∈ wsX70, w ∈ wsX7_strike := fun w h => List.mem_cons_of_mem _ (List.mem_append_right _ h)
theorem k_X7_strike_X7_layClimber : CW rm_X7_strike wsX7_strike RX7 RX7 54 yX7_layClimber cX7_layClimber 4 none wsX7_layClimber rm_X7_layClimber 3 := ⟨gX7_strike_X7_layClimber, ⟨_, rfl⟩, rfl, rfl, ⟨rfl, by decide +kernel, by decide +kernel, by decide +kernel⟩, by decide, by decide⟩
theorem k_X7_strike_X7_ofClimber : CW rm_X7_strike wsX7_strike RX7 RX7 39 yX7_ofClimber cX7_ofClimber 3 (some .int) wsX7_ofClimber rm_X7_ofClimber 2 := ⟨gX7_strike_X7_ofClimber, ⟨_, rfl⟩, rfl, rfl, ⟨rfl, by decide +kernel, by decide +kernel, by decide +kernel⟩, by decide, by decide⟩
theorem k_X7_strike_X7_setting : CW rm_X7_strike wsX7_strike RX7 RX7 63 yX7_setting cX7_setting 2 (some .int) wsX7_setting rm_X7_setting 1 := ⟨gX7_strike_X7_setting, ⟨_, rfl⟩, rfl, rfl, ⟨rfl, by decide +kernel, by decide +kernel, by decide +kernel⟩, by decide, by decide⟩
set_option maxHeartbeats 4000000 in
set_option maxRecDepth 100000 in
theorem c_X7_strike (l : Launch) (G : MG) (hA : Ap 9 G.2.2) (z : St) {c : Nat} (hc : c < 12) : CVm l G yX7_strike wsX7_strike rm_X7_strike [.ref (G.2.2 0), .int (nI c)] z (fun ζ => ζ = strikeM z c (z 4 2) (z 0 0 + z 4 3)) := by
  refine cv_of (own := RX7) (cc := cX7_strike) (maxL := 4) (by decide +kernel) rfl rfl (Nat.le_of_ble_eq_true rfl) (KQ_mv (ExM_mv G)) ?_
  intro X hX ret
  refine g_lv (lv' := [(0, .ref (G.2.2 0)), (1, .int (nI c))]) rfl ?_
  refine g_aload_n hX 0 dX7_strike_0 rfl ?_
  refine g_iload_n hX 1 dX7_strike_1 rfl ?_
  refine g_iconst hX 1 dX7_strike_2 (by decide) ?_
  refine g_cvE hX (As := [.int (nI c), .int 1]) (rest := []) (c_X7_ofClimber l G z (c := c) (w := 1) (hc := (by omega)) (hw := (by decide))) k_X7_strike_X7_ofClimber rc_Model rfl rfl (Nat.le_of_ble_eq_true rfl) dX7_strike_3 ?_
  refine g_top (z 9 c) rfl ?_
  refine g_iconst hX 1 dX7_strike_6 (by decide) ?_
  refine g_iadd hX dX7_strike_7 ?_
  refine g_istore_n hX [(2, .int ((z 9 c) + 1)), (0, .ref (G.2.2 0)), (1, .int (nI c))] dX7_strike_8 (by decide) rfl ?_
  refine g_aload_n hX 1 dX7_strike_9 rfl ?_
  refine g_iload_n hX 2 dX7_strike_10 rfl ?_
  refine g_iconst hX 1 dX7_strike_11 (by decide) ?_
  refine g_iload_n hX 0 dX7_strike_12 rfl ?_
  refine g_cvvE hX (As := [.int (nI c), .int 1, .int ((z 9 c) + 1)]) (rest := []) (c_X7_layClimber l G hA z (c := c) (w := 1) (v := ((z 9 c) + 1)) (hc := (by omega)) (hw := (by decide))) k_X7_strike_X7_layClimber rc_Model rfl rfl (Nat.le_of_ble_eq_true rfl) dX7_strike_13 ?_
  refine g_z (z2 := u2 z 9 c ((z 9 c) + 1)) rfl ?_
  refine g_iload_n hX 0 dX7_strike_16 rfl ?_
  refine g_aload_n hX 1 dX7_strike_17 rfl ?_
  refine g_iconst hX 2 dX7_strike_18 (by decide) ?_
  refine g_cvE hX (As := [.int 2]) (rest := [.int ((z 9 c) + 1)]) (c_X7_setting l G (u2 z 9 c ((z 9 c) + 1)) (w := 2) (hw := (by decide))) k_X7_strike_X7_setting rc_Model rfl rfl (Nat.le_of_ble_eq_true rfl) dX7_strike_19 ?_
  refine g_top (z 4 2) (by simp [u2]) ?_
  refine g_ic_lt hX 71 dX7_strike_22 (by decide) (fun c1 => ?_) (fun c1 => ?_)
  · -- jump 71
    refine ret _ _ _ dX7_strike_71 ?_
    first | (simp [strikeM, c1]; done) | grind [strikeM]
  · -- on 25
    refine g_aload_n hX 1 dX7_strike_25 rfl ?_
    refine g_iload_n hX 2 dX7_strike_26 rfl ?_
    refine g_iconst hX 1 dX7_strike_27 (by decide) ?_
    refine g_iconst hX 0 dX7_strike_28 (by decide) ?_
    refine g_cvvE hX (As := [.int (nI c), .int 1, .int 0]) (rest := []) (c_X7_layClimber l G hA (u2 z 9 c ((z 9 c) + 1)) (c := c) (w := 1) (v := 0) (hc := (by omega)) (hw := (by decide))) k_X7_strike_X7_layClimber rc_Model rfl rfl (Nat.le_of_ble_eq_true rfl) dX7_strike_29 ?_
    refine g_z (z2 := u2 (u2 z 9 c ((z 9 c) + 1)) 9 c 0) rfl ?_
    refine g_aload_n hX 1 dX7_strike_32 rfl ?_
    refine m_g_0 hX i_X7_strike_wsX70 (List.mem_of_getElem? (i := 1) rfl) dX7_strike_33 ?_
    refine g_iconst hX 0 dX7_strike_36 (by decide) ?_
    refine m_ld_at hX 0 rfl (by decide) dX7_strike_37 (v := (z 0 0)) rfl ?_
    refine g_aload_n hX 1 dX7_strike_38 rfl ?_
    refine g_iconst hX 3 dX7_strike_39 (by decide) ?_
    refine g_cvE hX (As := [.int 3]) (rest := [.int (z 0 0)]) (c_X7_setting l G (u2 (u2 z 9 c ((z 9 c) + 1)) 9 c 0) (w := 3) (hw := (by decide))) k_X7_strike_X7_setting rc_Model rfl rfl (Nat.le_of_ble_eq_true rfl) dX7_strike_40 ?_
    refine g_top (z 4 3) (by simp [u2]) ?_
    refine g_iadd hX dX7_strike_43 ?_
    refine g_istore_n hX [(3, .int ((z 0 0) + (z 4 3))), (2, .int ((z 9 c) + 1)), (0, .ref (G.2.2 0)), (1, .int (nI c))] dX7_strike_44 (by decide) rfl ?_
    refine g_aload_n hX 2 dX7_strike_45 rfl ?_
    refine g_iload_n hX 3 dX7_strike_46 rfl ?_
    refine g_iconst hX 2 dX7_strike_47 (by decide) ?_
    refine g_iload_n hX 0 dX7_strike_48 rfl ?_
    refine g_aload_n hX 2 dX7_strike_49 rfl ?_
    refine g_iload_n hX 3 dX7_strike_50 rfl ?_
    refine g_iconst hX 2 dX7_strike_51 (by decide) ?_
    refine g_cvE hX (As := [.int (nI c), .int 2]) (rest := [.int ((z 0 0) + (z 4 3)), .int 2, .int (nI c), .ref (G.2.2 0)]) (c_X7_ofClimber l G (u2 (u2 z 9 c ((z 9 c) + 1)) 9 c 0) (c := c) (w := 2) (hc := (by omega)) (hw := (by decide))) k_X7_strike_X7_ofClimber rc_Model rfl rfl (Nat.le_of_ble_eq_true rfl) dX7_strike_52 ?_
    refine g_top ((u2 (u2 z 9 c ((z 9 c) + 1)) 9 c 0) 87 c) rfl ?_
    refine g_top (z 87 c) (by simp [u2]) ?_
    refine g_ic_le hX 62 dX7_strike_55 (by decide) (fun c2 => ?_) (fun c2 => ?_)
    · -- jump 62
      refine g_aload_n hX 2 dX7_strike_62 rfl ?_
      refine g_iload_n hX 3 dX7_strike_63 rfl ?_
      refine g_iconst hX 2 dX7_strike_64 (by decide) ?_
      refine g_cvE hX (As := [.int (nI c), .int 2]) (rest := [.int 2, .int (nI c), .ref (G.2.2 0)]) (c_X7_ofClimber l G (u2 (u2 z 9 c ((z 9 c) + 1)) 9 c 0) (c := c) (w := 2) (hc := (by omega)) (hw := (by decide))) k_X7_strike_X7_ofClimber rc_Model rfl rfl (Nat.le_of_ble_eq_true rfl) dX7_strike_65 ?_
      refine g_top ((u2 (u2 z 9 c ((z 9 c) + 1)) 9 c 0) 87 c) rfl ?_
      refine g_top (z 87 c) (by simp [u2]) ?_
      refine g_cvvE hX (As := [.int (nI c), .int 2, .int (z 87 c)]) (rest := []) (c_X7_layClimber l G hA (u2 (u2 z 9 c ((z 9 c) + 1)) 9 c 0) (c := c) (w := 2) (v := (z 87 c)) (hc := (by omega)) (hw := (by decide))) k_X7_strike_X7_layClimber rc_Model rfl rfl (Nat.le_of_ble_eq_true rfl) dX7_strike_68 ?_
      refine g_z (z2 := u2 (u2 (u2 z 9 c ((z 9 c) + 1)) 9 c 0) 87 c (z 87 c)) rfl ?_
      refine ret _ _ _ dX7_strike_71 ?_
      first | (simp [strikeM, c1, c2]; done) | grind [strikeM]
    · -- on 58
      refine g_iload_n hX 0 dX7_strike_58 rfl ?_
      refine g_goto hX 68 dX7_strike_59 (by decide) ?_
      refine g_cvvE hX (As := [.int (nI c), .int 2, .int ((z 0 0) + (z 4 3))]) (rest := []) (c_X7_layClimber l G hA (u2 (u2 z 9 c ((z 9 c) + 1)) 9 c 0) (c := c) (w := 2) (v := ((z 0 0) + (z 4 3))) (hc := (by omega)) (hw := (by decide))) k_X7_strike_X7_layClimber rc_Model rfl rfl (Nat.le_of_ble_eq_true rfl) dX7_strike_68 ?_
      refine g_z (z2 := u2 (u2 (u2 z 9 c ((z 9 c) + 1)) 9 c 0) 87 c ((z 0 0) + (z 4 3))) rfl ?_
      refine ret _ _ _ dX7_strike_71 ?_
      first | (simp [strikeM, c1, c2]; done) | grind [strikeM]
def rm_X7_goOn : Room := { frames := 4, cells := 0, slots := 0, locals := 93 }
theorem i_X7_goOn_wsX70 : ∀ w ∈ wsX70, w ∈ wsX7_goOn := fun w h => List.mem_cons_of_mem _ (List.mem_append_right _ h)
theorem k_X7_goOn_X7_firstWaiting : CW rm_X7_goOn wsX7_goOn RX7 RX7 125 yX7_firstWaiting cX7_firstWaiting 8 (some .int) wsX7_firstWaiting rm_X7_firstWaiting 3 := ⟨gX7_goOn_X7_firstWaiting, ⟨_, rfl⟩, rfl, rfl, ⟨rfl, by decide +kernel, by decide +kernel, by decide +kernel⟩, by decide, by decide⟩
theorem k_X7_goOn_X7_left : CW rm_X7_goOn wsX7_goOn RX7 RX7 109 yX7_left cX7_left 3 (some .int) wsX7_left rm_X7_left 2 := ⟨gX7_goOn_X7_left, ⟨_, rfl⟩, rfl, rfl, ⟨rfl, by decide +kernel, by decide +kernel, by decide +kernel⟩, by decide, by decide⟩
theorem k_X7_goOn_X7_of : CW rm_X7_goOn wsX7_goOn RX7 RX7 66 yX7_of cX7_of 3 (some .int) wsX7_of rm_X7_of 2 := ⟨gX7_goOn_X7_of, ⟨_, rfl⟩, rfl, rfl, ⟨rfl, by decide +kernel, by decide +kernel, by decide +kernel⟩, by decide, by decide⟩
theorem k_X7_goOn_X7_ofClimber : CW rm_X7_goOn wsX7_goOn RX7 RX7 39 yX7_ofClimber cX7_ofClimber 3 (some .int) wsX7_ofClimber rm_X7_ofClimber 2 := ⟨gX7_goOn_X7_ofClimber, ⟨_, rfl⟩, rfl, rfl, ⟨rfl, by decide +kernel, by decide +kernel, by decide +kernel⟩, by decide, by decide⟩
theorem k_X7_goOn_X7_permit : CW rm_X7_goOn wsX7_goOn RX7 RX7 112 yX7_permit cX7_permit 3 (some .int) wsX7_permit rm_X7_permit 1 := ⟨gX7_goOn_X7_permit, ⟨_, rfl⟩, rfl, rfl, ⟨rfl, by decide +kernel, by decide +kernel, by decide +kernel⟩, by decide, by decide⟩
set_option maxHeartbeats 4000000 in
set_option maxRecDepth 100000 in
theorem c_X7_goOn (l : Launch) (G : MG) (hA : Ap 9 G.2.2) (z : St) {q : Nat} {e : Nat} (hq : q < 6) (he : e < 60) (hI : IO z) (h87 : ∀ a, a < nA z → z 87 (cn (z 11 a)) = z 10 (cn (z 11 a))) (h16 : ∀ a, a < nA z → (z 15 a = 0 ∨ z 15 a = 2) → z 16 a = 0) (hpay : ∀ a, a < nA z → 0 < z 4 0 * z 14 a) : CVm l G yX7_goOn wsX7_goOn rm_X7_goOn [.ref (G.2.2 0), .int (nI q), .int (nI e)] z (fun ζ => ζ = (if z 7 e = 1 then z else serve (nI q) (nI e) (nA z) z)) := by
  refine cv_of (own := RX7) (cc := cX7_goOn) (maxL := 4) (by decide +kernel) rfl rfl (Nat.le_of_ble_eq_true rfl) (KQ_mv (ExM_mv G)) ?_
  intro X hX ret
  refine g_lv (lv' := [(0, .ref (G.2.2 0)), (1, .int (nI q)), (2, .int (nI e))]) rfl ?_
  have h40 := (iNa hI).2
  refine g_aload_n hX 0 dX7_goOn_0 rfl ?_
  refine g_iload_n hX 1 dX7_goOn_1 rfl ?_
  refine g_iload_n hX 2 dX7_goOn_2 rfl ?_
  refine g_aload_n hX 0 dX7_goOn_3 rfl ?_
  refine g_iload_n hX 1 dX7_goOn_4 rfl ?_
  refine g_iload_n hX 2 dX7_goOn_5 rfl ?_
  refine g_cvE hX (As := [.int (nI q), .int (nI e)]) (rest := [.int (nI e), .int (nI q), .ref (G.2.2 0)]) (c_X7_left l G z (q := q) (d := (nI e)) (hq := (by assumption)) (hI := hI)) k_X7_goOn_X7_left rc_Model rfl rfl (Nat.le_of_ble_eq_true rfl) dX7_goOn_6 ?_
  refine g_cvE hX (As := [.int (nI q), .int (nI e), .int (leftP z (nI q) (nI e))]) (rest := []) (c_X7_firstWaiting l G z (r := (nI q)) (e := e) (p := (leftP z (nI q) (nI e))) (he := (by assumption)) (hI := hI) (h87 := h87)) k_X7_goOn_X7_firstWaiting rc_Model rfl rfl (Nat.le_of_ble_eq_true rfl) dX7_goOn_9 ?_
  refine g_istore_n hX [(3, .int (if z 7 e = 1 then -6 else fw z (nI q) (nI e) (leftP z (nI q) (nI e)))), (0, .ref (G.2.2 0)), (1, .int (nI q)), (2, .int (nI e))] dX7_goOn_12 (by decide) rfl ?_
  have loop13 : ∀ (nf : Nat) (f : Nat) (y : St), (f < nf) → (IO y) → (nA y = nA z) → (y 7 = z 7) → (∀ a, a < nA y → y 87 (cn (y 11 a)) = y 10 (cn (y 11 a))) → (∀ a, a < nA y → (y 15 a = 0 ∨ y 15 a = 2) → y 16 a = 0) → (∀ a, a < nA y → 0 < y 4 0 * y 14 a) → (lostK y (nA y) ≤ f) → (z 7 e = 1 → y = z) → (serve (nI q) (nI e) f y = serve (nI q) (nI e) (nA z) z) → Go X (y) 13 [(0, .ref (G.2.2 0)), (1, .int (nI q)), (2, .int (nI e)), (3, .int (if y 7 e = 1 then -6 else fw y (nI q) (nI e) (leftP y (nI q) (nI e))))] [] := by
    intro nf
    induction nf with
    | zero =>
      intro f y hmu hIy hny h7 h8y h6y hpy hf hz hs
      exfalso; omega
    | succ nf ih =>
      intro f y hmu hIy hny h7 h8y h6y hpy hf hz hs
      refine g_iload_n hX 3 dX7_goOn_13 rfl ?_
      refine g_if_lt hX 77 dX7_goOn_14 (by decide) (fun c1 => ?_) (fun c1 => ?_)
      · -- jump 77
        refine ret _ _ _ dX7_goOn_77 ?_
        by_cases h71 : z 7 e = 1
        · rw [if_pos h71]; exact hz h71
        · rw [if_neg h71, ← hs, serve_stop]
          rw [← h7] at h71; rw [if_neg h71] at c1; exact c1
      · -- on 17
        have h71 : ¬ y 7 e = 1 := by
          intro h; rw [if_pos h] at c1; exact c1 (by decide)
        rw [if_neg h71] at c1
        obtain ⟨w1, w2, w3, w4⟩ := fw_in hIy c1
        have hC := iC hIy w2
        have hfw := c1
        have hls := serve1_lost w2 w3
        refine g_lv (lv' := [(0, .ref (G.2.2 0)), (1, .int (nI q)), (2, .int (nI e)), (3, .int (nI (cn (fw y (nI q) (nI e) (leftP y (nI q) (nI e))))))]) (by rw [← (show (if y 7 e = 1 then -6 else fw y (nI q) (nI e) (leftP y (nI q) (nI e))) = (nI (cn (fw y (nI q) (nI e) (leftP y (nI q) (nI e))))) from (by rw [if_neg h71]; exact w1))]) ?_
        refine g_aload_n hX 0 dX7_goOn_17 rfl ?_
        refine m_g_0 hX i_X7_goOn_wsX70 (List.mem_of_getElem? (i := 1) rfl) dX7_goOn_18 ?_
        refine g_bipush hX 82 dX7_goOn_21 (by decide) ?_
        refine g_iconst hX 3 dX7_goOn_23 (by decide) ?_
        refine g_aload_n hX 0 dX7_goOn_24 rfl ?_
        refine g_iload_n hX 3 dX7_goOn_25 rfl ?_
        refine g_iconst hX 0 dX7_goOn_26 (by decide) ?_
        refine g_cvE hX (As := [.int (nI (cn (fw y (nI q) (nI e) (leftP y (nI q) (nI e))))), .int 0]) (rest := [.int 3, .int 82, .ref (G.2.2 1)]) (c_X7_of l G y (a := (cn (fw y (nI q) (nI e) (leftP y (nI q) (nI e))))) (w := 0) (ha := (by omega)) (hw := (by decide))) k_X7_goOn_X7_of rc_Model rfl rfl (Nat.le_of_ble_eq_true rfl) dX7_goOn_27 ?_
        refine g_top (y 11 (cn (fw y (nI q) (nI e) (leftP y (nI q) (nI e))))) rfl ?_
        refine g_imul hX dX7_goOn_30 ?_
        refine g_iadd hX dX7_goOn_31 ?_
        refine g_iconst hX 0 dX7_goOn_32 (by decide) ?_
        refine g_iadd hX dX7_goOn_33 ?_
        refine g_dup2 hX dX7_goOn_34 rfl rfl ?_
        refine m_ld_at hX (82 + 3 * cn (y 11 (cn (fw y (nI q) (nI e) (leftP y (nI q) (nI e)))))) (ix_c0 hC.1) (by have := hC.2; omega) dX7_goOn_35 (v := y 8 (cn (y 11 (cn (fw y (nI q) (nI e) (leftP y (nI q) (nI e))))))) (at_c0 y hC.2) ?_
        refine g_aload_n hX 0 dX7_goOn_36 rfl ?_
        refine g_iload_n hX 3 dX7_goOn_37 rfl ?_
        refine g_cvE hX (As := [.int (nI (cn (fw y (nI q) (nI e) (leftP y (nI q) (nI e)))))]) (rest := [.int (y 8 (cn (y 11 (cn (fw y (nI q) (nI e) (leftP y (nI q) (nI e))))))), .int ((82 + (3 * (y 11 (cn (fw y (nI q) (nI e) (leftP y (nI q) (nI e))))))) + 0), .ref (G.2.2 1)]) (c_X7_permit l G hA y (a := (cn (fw y (nI q) (nI e) (leftP y (nI q) (nI e))))) (ha := (by omega)) (hp := (h6y _ w2 (Or.inr w3)))) k_X7_goOn_X7_permit rc_Model rfl rfl (Nat.le_of_ble_eq_true rfl) dX7_goOn_38 ?_
        refine g_if_le hX 58 dX7_goOn_41 (by decide) (fun c2 => ?_) (fun c2 => ?_)
        · -- jump 58
          exact absurd c2 (Int32.not_le.mpr (hpy _ w2))
        · -- on 44
          refine g_aload_n hX 0 dX7_goOn_44 rfl ?_
          refine g_aload_n hX 0 dX7_goOn_45 rfl ?_
          refine g_iload_n hX 3 dX7_goOn_46 rfl ?_
          refine g_iconst hX 0 dX7_goOn_47 (by decide) ?_
          refine g_cvE hX (As := [.int (nI (cn (fw y (nI q) (nI e) (leftP y (nI q) (nI e))))), .int 0]) (rest := [.ref (G.2.2 0), .int (y 8 (cn (y 11 (cn (fw y (nI q) (nI e) (leftP y (nI q) (nI e))))))), .int ((82 + (3 * (y 11 (cn (fw y (nI q) (nI e) (leftP y (nI q) (nI e))))))) + 0), .ref (G.2.2 1)]) (c_X7_of l G (permit y (cn (fw y (nI q) (nI e) (leftP y (nI q) (nI e))))) (a := (cn (fw y (nI q) (nI e) (leftP y (nI q) (nI e))))) (w := 0) (ha := (by omega)) (hw := (by decide))) k_X7_goOn_X7_of rc_Model rfl rfl (Nat.le_of_ble_eq_true rfl) dX7_goOn_48 ?_
          refine g_top ((permit y (cn (fw y (nI q) (nI e) (leftP y (nI q) (nI e))))) 11 (cn (fw y (nI q) (nI e) (leftP y (nI q) (nI e))))) rfl ?_
          refine g_iconst hX 0 dX7_goOn_51 (by decide) ?_
          refine g_st (st2 := [.int 0, .int (nI (cn (y 11 (cn (fw y (nI q) (nI e) (leftP y (nI q) (nI e))))))), .ref (G.2.2 0), .int (y 8 (cn (y 11 (cn (fw y (nI q) (nI e) (leftP y (nI q) (nI e))))))), .int ((82 + (3 * (y 11 (cn (fw y (nI q) (nI e) (leftP y (nI q) (nI e))))))) + 0), .ref (G.2.2 1)]) (by rw [← (show ((permit y (cn (fw y (nI q) (nI e) (leftP y (nI q) (nI e))))) 11 (cn (fw y (nI q) (nI e) (leftP y (nI q) (nI e))))) = nI (cn (y 11 (cn (fw y (nI q) (nI e) (leftP y (nI q) (nI e)))))) from hC.1)]) ?_
          refine g_cvE hX (As := [.int (nI (cn (y 11 (cn (fw y (nI q) (nI e) (leftP y (nI q) (nI e))))))), .int 0]) (rest := [.int (y 8 (cn (y 11 (cn (fw y (nI q) (nI e) (leftP y (nI q) (nI e))))))), .int ((82 + (3 * (y 11 (cn (fw y (nI q) (nI e) (leftP y (nI q) (nI e))))))) + 0), .ref (G.2.2 1)]) (c_X7_ofClimber l G (permit y (cn (fw y (nI q) (nI e) (leftP y (nI q) (nI e))))) (c := (cn (y 11 (cn (fw y (nI q) (nI e) (leftP y (nI q) (nI e))))))) (w := 0) (hc := hC.2) (hw := (by decide))) k_X7_goOn_X7_ofClimber rc_Model rfl rfl (Nat.le_of_ble_eq_true rfl) dX7_goOn_52 ?_
          refine g_top ((permit y (cn (fw y (nI q) (nI e) (leftP y (nI q) (nI e))))) 8 (cn (y 11 (cn (fw y (nI q) (nI e) (leftP y (nI q) (nI e))))))) rfl ?_
          refine g_goto hX 59 dX7_goOn_55 (by decide) ?_
          refine g_isub hX dX7_goOn_59 ?_
          refine m_st_at hX hA (82 + 3 * cn (y 11 (cn (fw y (nI q) (nI e) (leftP y (nI q) (nI e)))))) (ix_c0 hC.1) (by have := hC.2; omega) dX7_goOn_60 ?_
          refine g_z (z2 := u2 (permit y (cn (fw y (nI q) (nI e) (leftP y (nI q) (nI e))))) 8 (cn (y 11 (cn (fw y (nI q) (nI e) (leftP y (nI q) (nI e)))))) ((y 8 (cn (y 11 (cn (fw y (nI q) (nI e) (leftP y (nI q) (nI e))))))) - ((permit y (cn (fw y (nI q) (nI e) (leftP y (nI q) (nI e))))) 8 (cn (y 11 (cn (fw y (nI q) (nI e) (leftP y (nI q) (nI e))))))))) (by rw [(fO_c0 hC.2).1, (fO_c0 hC.2).2]) ?_
          refine g_z (z2 := serve1 y (cn (fw y (nI q) (nI e) (leftP y (nI q) (nI e))))) (by simp [serve1, permit, u2]) ?_
          refine g_aload_n hX 0 dX7_goOn_61 rfl ?_
          refine g_iload_n hX 1 dX7_goOn_62 rfl ?_
          refine g_iload_n hX 2 dX7_goOn_63 rfl ?_
          refine g_aload_n hX 0 dX7_goOn_64 rfl ?_
          refine g_iload_n hX 1 dX7_goOn_65 rfl ?_
          refine g_iload_n hX 2 dX7_goOn_66 rfl ?_
          refine g_cvE hX (As := [.int (nI q), .int (nI e)]) (rest := [.int (nI e), .int (nI q), .ref (G.2.2 0)]) (c_X7_left l G (serve1 y (cn (fw y (nI q) (nI e) (leftP y (nI q) (nI e))))) (q := q) (d := (nI e)) (hq := (by assumption)) (hI := (IO_serve1 hIy _))) k_X7_goOn_X7_left rc_Model rfl rfl (Nat.le_of_ble_eq_true rfl) dX7_goOn_67 ?_
          refine g_cvE hX (As := [.int (nI q), .int (nI e), .int (leftP (serve1 y (cn (fw y (nI q) (nI e) (leftP y (nI q) (nI e))))) (nI q) (nI e))]) (rest := []) (c_X7_firstWaiting l G (serve1 y (cn (fw y (nI q) (nI e) (leftP y (nI q) (nI e))))) (r := (nI q)) (e := e) (p := (leftP (serve1 y (cn (fw y (nI q) (nI e) (leftP y (nI q) (nI e))))) (nI q) (nI e))) (he := (by assumption)) (hI := (IO_serve1 hIy _)) (h87 := (by rw [nA_serve1]; rw [serve1_lo _ _ (by decide), serve1_lo _ _ (by decide), serve1_lo _ _ (by decide)]; exact h8y))) k_X7_goOn_X7_firstWaiting rc_Model rfl rfl (Nat.le_of_ble_eq_true rfl) dX7_goOn_70 ?_
          refine g_istore_n hX [(3, .int (if (serve1 y (cn (fw y (nI q) (nI e) (leftP y (nI q) (nI e))))) 7 e = 1 then -6 else fw (serve1 y (cn (fw y (nI q) (nI e) (leftP y (nI q) (nI e))))) (nI q) (nI e) (leftP (serve1 y (cn (fw y (nI q) (nI e) (leftP y (nI q) (nI e))))) (nI q) (nI e)))), (0, .ref (G.2.2 0)), (1, .int (nI q)), (2, .int (nI e))] dX7_goOn_73 (by decide) rfl ?_
          refine g_goto hX 13 dX7_goOn_74 (by decide) ?_
          -- back to 13
          refine g_sub [1, 2, 3, 0] [(0, .ref (G.2.2 0)), (1, .int (nI q)), (2, .int (nI e)), (3, .int (if (serve1 y (cn (fw y (nI q) (nI e) (leftP y (nI q) (nI e))))) 7 e = 1 then -6 else fw (serve1 y (cn (fw y (nI q) (nI e) (leftP y (nI q) (nI e))))) (nI q) (nI e) (leftP (serve1 y (cn (fw y (nI q) (nI e) (leftP y (nI q) (nI e))))) (nI q) (nI e))))] rfl ?_
          exact ih (f - 1) (serve1 y (cn (fw y (nI q) (nI e) (leftP y (nI q) (nI e))))) (by omega) (IO_serve1 hIy _) ((nA_serve1 _ _).trans hny) ((serve1_lo _ _ (by decide)).trans h7) (by rw [nA_serve1]; rw [serve1_lo _ _ (by decide), serve1_lo _ _ (by decide), serve1_lo _ _ (by decide)]; exact h8y) (serve1_16 h6y _) (by rw [nA_serve1]; rw [serve1_lo _ _ (by decide), serve1_lo _ _ (by decide)]; exact hpy) (by rw [nA_serve1]; have := serve1_lost w2 w3; omega) (fun h => absurd (by rw [h7]; exact h) h71) (by rw [← hs]; have := serve1_lost w2 w3; obtain ⟨m, rfl⟩ : ∃ m, f = m + 1 := ⟨f - 1, by omega⟩; rw [serve, if_neg hfw]; rfl)
  refine g_sub [1, 2, 3, 0] [(0, .ref (G.2.2 0)), (1, .int (nI q)), (2, .int (nI e)), (3, .int (if z 7 e = 1 then -6 else fw z (nI q) (nI e) (leftP z (nI q) (nI e))))] rfl ?_
  exact loop13 ((nA z) + 1) (nA z) z (by omega) hI rfl rfl h87 h16 hpay (lostK_le _ _) (fun _ => rfl) rfl
