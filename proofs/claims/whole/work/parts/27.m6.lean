def rm_X7_hold : Room := { frames := 4, cells := 0, slots := 0, locals := 93 }
theorem i_X7_hold_wsX70 : ∀ w ∈ wsX70, w ∈ wsX7_hold := fun w h => List.mem_cons_of_mem _ (List.mem_append_right _ h)
theorem k_X7_hold_X7_draw : CW rm_X7_hold wsX7_hold RX7 RX7 106 yX7_draw cX7_draw 6 (some .int) wsX7_draw rm_X7_draw 1 := ⟨gX7_hold_X7_draw, ⟨_, rfl⟩, rfl, rfl, ⟨rfl, by decide +kernel, by decide +kernel, by decide +kernel⟩, by decide, by decide⟩
theorem k_X7_hold_X7_enter : CW rm_X7_hold wsX7_hold RX7 RX7 98 yX7_enter cX7_enter 5 none wsX7_enter rm_X7_enter 2 := ⟨gX7_hold_X7_enter, ⟨_, rfl⟩, rfl, rfl, ⟨rfl, by decide +kernel, by decide +kernel, by decide +kernel⟩, by decide, by decide⟩
theorem k_X7_hold_X7_lay : CW rm_X7_hold wsX7_hold RX7 RX7 75 yX7_lay cX7_lay 4 none wsX7_lay rm_X7_lay 3 := ⟨gX7_hold_X7_lay, ⟨_, rfl⟩, rfl, rfl, ⟨rfl, by decide +kernel, by decide +kernel, by decide +kernel⟩, by decide, by decide⟩
theorem k_X7_hold_X7_left : CW rm_X7_hold wsX7_hold RX7 RX7 109 yX7_left cX7_left 3 (some .int) wsX7_left rm_X7_left 2 := ⟨gX7_hold_X7_left, ⟨_, rfl⟩, rfl, rfl, ⟨rfl, by decide +kernel, by decide +kernel, by decide +kernel⟩, by decide, by decide⟩
theorem k_X7_hold_X7_of : CW rm_X7_hold wsX7_hold RX7 RX7 66 yX7_of cX7_of 3 (some .int) wsX7_of rm_X7_of 2 := ⟨gX7_hold_X7_of, ⟨_, rfl⟩, rfl, rfl, ⟨rfl, by decide +kernel, by decide +kernel, by decide +kernel⟩, by decide, by decide⟩
theorem k_X7_hold_X7_permit : CW rm_X7_hold wsX7_hold RX7 RX7 112 yX7_permit cX7_permit 3 (some .int) wsX7_permit rm_X7_permit 1 := ⟨gX7_hold_X7_permit, ⟨_, rfl⟩, rfl, rfl, ⟨rfl, by decide +kernel, by decide +kernel, by decide +kernel⟩, by decide, by decide⟩
theorem k_X7_hold_X7_remember : CW rm_X7_hold wsX7_hold RX7 RX7 115 yX7_remember cX7_remember 5 none wsX7_remember rm_X7_remember 0 := ⟨gX7_hold_X7_remember, ⟨_, rfl⟩, rfl, rfl, ⟨rfl, by decide +kernel, by decide +kernel, by decide +kernel⟩, by decide, by decide⟩
theorem k_X7_hold_X7_ticketsLeft : CW rm_X7_hold wsX7_hold RX7 RX7 102 yX7_ticketsLeft cX7_ticketsLeft 3 (some .int) wsX7_ticketsLeft rm_X7_ticketsLeft 0 := ⟨gX7_hold_X7_ticketsLeft, ⟨_, rfl⟩, rfl, rfl, ⟨rfl, by decide +kernel, by decide +kernel, by decide +kernel⟩, by decide, by decide⟩
set_option maxHeartbeats 4000000 in
set_option maxRecDepth 100000 in
theorem c_X7_hold (l : Launch) (G : MG) (hA : Ap 9 G.2.2) (z : St) {q : Nat} {d : Int32} (hq : q < 6) (hI : IO z) (h16 : ∀ a, a < nA z → (z 15 a = 0 ∨ z 15 a = 2) → z 16 a = 0) (hpay : ∀ a, a < nA z → 0 < z 4 0 * z 14 a) (hsd : ∃ s, s < 65536 ∧ z 4 5 = nI s) : CIm l G yX7_hold wsX7_hold rm_X7_hold [.ref (G.2.2 0), .int (nI q), .int d] z (fun ρ ζ => ρ = (mHold z (nI q) d).1 ∧ ζ = (mHold z (nI q) d).2) := by
  refine ci_of (own := RX7) (cc := cX7_hold) (maxL := 7) (ret := .int) (by decide +kernel) rfl rfl ?_ (Nat.le_of_ble_eq_true rfl) (KQ_mv (ExM_mv G)) ?_
  · intro v z' _; rfl
  · intro X hX ret
    refine g_lv (lv' := [(0, .ref (G.2.2 0)), (1, .int (nI q)), (2, .int d)]) rfl ?_
    have h40 := (iNa hI).2
    refine g_aload_n hX 0 dX7_hold_0 rfl ?_
    refine g_iload_n hX 1 dX7_hold_1 rfl ?_
    refine g_iload_n hX 2 dX7_hold_2 rfl ?_
    refine g_cvvE hX (As := [.int (nI q), .int d]) (rest := []) (c_X7_enter l G hA z (r := (nI q)) (d := d) (hI := hI)) k_X7_hold_X7_enter rc_Model rfl rfl (Nat.le_of_ble_eq_true rfl) dX7_hold_3 ?_
    refine g_iconst hX 0 dX7_hold_6 (by decide) ?_
    refine g_istore_n hX [(3, .int 0), (0, .ref (G.2.2 0)), (1, .int (nI q)), (2, .int d)] dX7_hold_7 (by decide) rfl ?_
    refine g_aload_n hX 1 dX7_hold_8 rfl ?_
    refine g_cvE hX (As := []) (rest := []) (c_X7_ticketsLeft l G (enterM z (nI q) d (nA z))  (hI := (enterM_IO hI _ _ _))) k_X7_hold_X7_ticketsLeft rc_Model rfl rfl (Nat.le_of_ble_eq_true rfl) dX7_hold_9 ?_
    refine g_istore hX [(4, .int (tkS (enterM z (nI q) d (nA z)) (nA (enterM z (nI q) d (nA z))))), (3, .int 0), (0, .ref (G.2.2 0)), (1, .int (nI q)), (2, .int d)] dX7_hold_12 (by decide) rfl ?_
    have loop14 : ∀ (nf : Nat) (f : Nat) (y : St) (g : Int32), (f < nf) → (IO y) → (nA y = nA z) → (∃ s, s < 65536 ∧ y 4 5 = nI s) → (∀ a, a < nA y → ¬ y 81 a = 0 → y 16 a = 0) → (∀ a, a < nA y → 0 < y 4 0 * y 14 a) → (nzK y (nA y) ≤ f) → (drw (nI q) d f y g = drw (nI q) d (nA z) (enterM z (nI q) d (nA z)) 0) → Go X (y) 14 [(0, .ref (G.2.2 0)), (1, .int (nI q)), (2, .int d), (3, .int g), (4, .int (tkS y (nA y)))] [] := by
      intro nf
      induction nf with
      | zero =>
        intro f y g hmu hIy hny hsy h6y hpy hf hs
        exfalso; omega
      | succ nf ih =>
        intro f y g hmu hIy hny hsy h6y hpy hf hs
        refine g_iload hX 4 dX7_hold_14 rfl ?_
        refine g_if_le hX 98 dX7_hold_16 (by decide) (fun c1 => ?_) (fun c1 => ?_)
        · -- jump 98
          refine g_aload_n hX 0 dX7_hold_98 rfl ?_
          refine g_cvvE hX (As := []) (rest := []) (c_X7_remember l G hA y  (hI := hIy)) k_X7_hold_X7_remember rc_Model rfl rfl (Nat.le_of_ble_eq_true rfl) dX7_hold_99 ?_
          refine g_iload_n hX 3 dX7_hold_102 rfl ?_
          refine ret _ _ _ _ dX7_hold_103 ?_
          have e : drw (nI q) d (nA z) (enterM z (nI q) d (nA z)) 0 = (g, y) := by rw [← hs]; exact drw_stop c1 _ _ _ _
          rw [mHold, e]
          exact ⟨rfl, rfl⟩
        · -- on 19
          obtain ⟨w1, w2, w3, w4, w5, w6⟩ := draw_in hIy hsy c1
          have hall := c1
          have hfu := drw1_fuel w5 w6 (nI q) d hf
          refine g_aload_n hX 0 dX7_hold_19 rfl ?_
          refine g_iload hX 4 dX7_hold_20 rfl ?_
          refine g_cvE hX (As := [.int (tkS y (nA y))]) (rest := []) (c_X7_draw l G hA y (t := (tkS y (nA y))) (hI := hIy) (hn := w1) (hne := w2) (hpk := w3)) k_X7_hold_X7_draw rc_Model rfl rfl (Nat.le_of_ble_eq_true rfl) dX7_hold_22 ?_
          refine g_z (z2 := seedZ y) (rfl) ?_
          refine g_istore hX [(5, .int (pickM y (drX y (tkS y (nA y))) (nA y))), (0, .ref (G.2.2 0)), (1, .int (nI q)), (2, .int d), (3, .int g), (4, .int (tkS y (nA y)))] dX7_hold_25 (by decide) rfl ?_
          refine g_lv (lv' := [(5, .int (nI (dA y))), (0, .ref (G.2.2 0)), (1, .int (nI q)), (2, .int d), (3, .int g), (4, .int (tkS y (nA y)))]) (by rw [← (show (pickM y (drX y (tkS y (nA y))) (nA y)) = (nI (dA y)) from w4)]) ?_
          refine g_aload_n hX 1 dX7_hold_27 rfl ?_
          refine g_iload hX 0 dX7_hold_28 rfl ?_
          refine g_iconst hX 3 dX7_hold_30 (by decide) ?_
          refine g_cvE hX (As := [.int (nI (dA y)), .int 3]) (rest := []) (c_X7_of l G (seedZ y) (a := (dA y)) (w := 3) (ha := (by omega)) (hw := (by decide))) k_X7_hold_X7_of rc_Model rfl rfl (Nat.le_of_ble_eq_true rfl) dX7_hold_31 ?_
          refine g_top ((seedZ y) 14 (dA y)) rfl ?_
          refine g_top (y 14 (dA y)) (by simp [seedZ, u2]) ?_
          refine g_aload_n hX 1 dX7_hold_34 rfl ?_
          refine g_iload_n hX 2 dX7_hold_35 rfl ?_
          refine g_iload_n hX 3 dX7_hold_36 rfl ?_
          refine g_cvE hX (As := [.int (nI q), .int d]) (rest := [.int (y 14 (dA y))]) (c_X7_left l G (seedZ y) (q := q) (d := d) (hq := hq) (hI := (IO_u2 hIy (by decide)))) k_X7_hold_X7_left rc_Model rfl rfl (Nat.le_of_ble_eq_true rfl) dX7_hold_37 ?_
          refine g_ic_gt hX 67 dX7_hold_40 (by decide) (fun c2 => ?_) (fun c2 => ?_)
          · -- jump 67
            have hft : ¬ y 14 (dA y) ≤ leftP (seedZ y) (nI q) d := Int32.not_le.mpr c2
            refine g_aload_n hX 1 dX7_hold_67 rfl ?_
            refine g_iload hX 0 dX7_hold_68 rfl ?_
            refine g_iconst hX 4 dX7_hold_70 (by decide) ?_
            refine g_iconst hX 2 dX7_hold_71 (by decide) ?_
            refine g_cvvE hX (As := [.int (nI (dA y)), .int 4, .int 2]) (rest := []) (c_X7_lay l G hA (seedZ y) (a := (dA y)) (w := 4) (v := 2) (ha := (by omega)) (hw := (by decide))) k_X7_hold_X7_lay rc_Model rfl rfl (Nat.le_of_ble_eq_true rfl) dX7_hold_72 ?_
            refine g_z (z2 := u2 (seedZ y) 15 (dA y) 2) rfl ?_
            refine g_iload hX 5 dX7_hold_75 rfl ?_
            refine g_aload_n hX 1 dX7_hold_77 rfl ?_
            refine m_g_6 hX i_X7_hold_wsX70 (List.mem_of_getElem? (i := 1) rfl) dX7_hold_78 ?_
            refine g_iload hX 0 dX7_hold_81 rfl ?_
            refine m_ld_tickets hX (dA y) rfl (by omega) dX7_hold_83 ?_
            refine g_top ((seedZ y) 81 (dA y)) (by simp [u2]) ?_
            refine g_top (y 81 (dA y)) (by simp [permit, seedZ, u2]) ?_
            refine g_isub hX dX7_hold_84 ?_
            refine g_istore hX [(4, .int ((tkS y (nA y)) - (y 81 (dA y)))), (5, .int (nI (dA y))), (0, .ref (G.2.2 0)), (1, .int (nI q)), (2, .int d), (3, .int g)] dX7_hold_85 (by decide) rfl ?_
            refine g_aload_n hX 2 dX7_hold_87 rfl ?_
            refine m_g_6 hX i_X7_hold_wsX70 (List.mem_of_getElem? (i := 1) rfl) dX7_hold_88 ?_
            refine g_iload hX 1 dX7_hold_91 rfl ?_
            refine g_iconst hX 0 dX7_hold_93 (by decide) ?_
            refine m_st_tickets hX hA (dA y) rfl (by omega) dX7_hold_94 ?_
            refine g_z (z2 := drw1 y (nI q) d) (by rw [drw1, if_neg hft]) ?_
            refine g_goto hX 14 dX7_hold_95 (by decide) ?_
            -- back to 14
            refine g_sub [2, 3, 4, 5, 0] [(0, .ref (G.2.2 0)), (1, .int (nI q)), (2, .int d), (3, .int g), (4, .int ((tkS y (nA y)) - (y 81 (dA y))))] rfl ?_
            have e4 : ((tkS y (nA y)) - (y 81 (dA y)) : Int32) = tkS (drw1 y (nI q) d) (nA (drw1 y (nI q) d)) := by
              exact drw1_tk w5 _ _
            refine g_lv (lv' := [(0, .ref (G.2.2 0)), (1, .int (nI q)), (2, .int d), (3, .int g), (4, .int (tkS (drw1 y (nI q) d) (nA (drw1 y (nI q) d))))]) (by rw [e4]) ?_
            exact ih (f - 1) (drw1 y (nI q) d) g (by omega) (drw1_IO hIy _ _) ((nA_of (drw1_lo _ _ _ (by decide))).trans hny) (drw1_seed hsy _ _) (drw1_16 h6y _ _) (drw1_pay hpy _ _) hfu.2 ((drw_back hfu.1 hall (by rw [if_neg hft])).trans hs)
          · -- on 43
            have hft : y 14 (dA y) ≤ leftP (seedZ y) (nI q) d := Int32.not_lt.mp c2
            refine g_aload_n hX 1 dX7_hold_43 rfl ?_
            refine g_iload hX 0 dX7_hold_44 rfl ?_
            refine g_cvE hX (As := [.int (nI (dA y))]) (rest := []) (c_X7_permit l G hA (seedZ y) (a := (dA y)) (ha := (by omega)) (hp := (by have := h6y _ w5 w6; simpa [seedZ, u2] using this))) k_X7_hold_X7_permit rc_Model rfl rfl (Nat.le_of_ble_eq_true rfl) dX7_hold_46 ?_
            refine g_top (y 4 0 * y 14 (dA y)) (by simp [seedZ, u2]) ?_
            refine g_istore hX [(6, .int (y 4 0 * y 14 (dA y))), (5, .int (nI (dA y))), (0, .ref (G.2.2 0)), (1, .int (nI q)), (2, .int d), (3, .int g), (4, .int (tkS y (nA y)))] dX7_hold_49 (by decide) rfl ?_
            refine g_iload_n hX 5 dX7_hold_51 rfl ?_
            refine g_iload hX 0 dX7_hold_52 rfl ?_
            refine g_if_le hX 61 dX7_hold_54 (by decide) (fun c3 => ?_) (fun c3 => ?_)
            · -- jump 61
              exact absurd c3 (Int32.not_le.mpr (hpy _ w5))
            · -- on 57
              refine g_iconst hX 1 dX7_hold_57 (by decide) ?_
              refine g_goto hX 62 dX7_hold_58 (by decide) ?_
              refine g_iadd hX dX7_hold_62 ?_
              refine g_istore_n hX [(3, .int (g + 1)), (6, .int (y 4 0 * y 14 (dA y))), (5, .int (nI (dA y))), (0, .ref (G.2.2 0)), (1, .int (nI q)), (2, .int d), (4, .int (tkS y (nA y)))] dX7_hold_63 (by decide) rfl ?_
              refine g_goto hX 75 dX7_hold_64 (by decide) ?_
              refine g_iload hX 6 dX7_hold_75 rfl ?_
              refine g_aload_n hX 3 dX7_hold_77 rfl ?_
              refine m_g_6 hX i_X7_hold_wsX70 (List.mem_of_getElem? (i := 1) rfl) dX7_hold_78 ?_
              refine g_iload hX 2 dX7_hold_81 rfl ?_
              refine m_ld_tickets hX (dA y) rfl (by omega) dX7_hold_83 ?_
              refine g_top (y 81 (dA y)) (by simp [permit, seedZ, u2]) ?_
              refine g_isub hX dX7_hold_84 ?_
              refine g_istore hX [(4, .int ((tkS y (nA y)) - (y 81 (dA y)))), (3, .int (g + 1)), (6, .int (y 4 0 * y 14 (dA y))), (5, .int (nI (dA y))), (0, .ref (G.2.2 0)), (1, .int (nI q)), (2, .int d)] dX7_hold_85 (by decide) rfl ?_
              refine g_aload_n hX 4 dX7_hold_87 rfl ?_
              refine m_g_6 hX i_X7_hold_wsX70 (List.mem_of_getElem? (i := 1) rfl) dX7_hold_88 ?_
              refine g_iload hX 3 dX7_hold_91 rfl ?_
              refine g_iconst hX 0 dX7_hold_93 (by decide) ?_
              refine m_st_tickets hX hA (dA y) rfl (by omega) dX7_hold_94 ?_
              refine g_z (z2 := drw1 y (nI q) d) (by rw [drw1, if_pos hft]) ?_
              refine g_goto hX 14 dX7_hold_95 (by decide) ?_
              -- back to 14
              refine g_sub [4, 5, 6, 1, 0] [(0, .ref (G.2.2 0)), (1, .int (nI q)), (2, .int d), (3, .int (g + 1)), (4, .int ((tkS y (nA y)) - (y 81 (dA y))))] rfl ?_
              have e4 : ((tkS y (nA y)) - (y 81 (dA y)) : Int32) = tkS (drw1 y (nI q) d) (nA (drw1 y (nI q) d)) := by
                exact drw1_tk w5 _ _
              refine g_lv (lv' := [(0, .ref (G.2.2 0)), (1, .int (nI q)), (2, .int d), (3, .int (g + 1)), (4, .int (tkS (drw1 y (nI q) d) (nA (drw1 y (nI q) d))))]) (by rw [e4]) ?_
              exact ih (f - 1) (drw1 y (nI q) d) (g + 1) (by omega) (drw1_IO hIy _ _) ((nA_of (drw1_lo _ _ _ (by decide))).trans hny) (drw1_seed hsy _ _) (drw1_16 h6y _ _) (drw1_pay hpy _ _) hfu.2 ((drw_back hfu.1 hall (by rw [if_pos hft])).trans hs)
    refine g_sub [2, 3, 4, 1, 0] [(0, .ref (G.2.2 0)), (1, .int (nI q)), (2, .int d), (3, .int 0), (4, .int (tkS (enterM z (nI q) d (nA z)) (nA (enterM z (nI q) d (nA z)))))] rfl ?_
    exact loop14 ((nA z) + 1) (nA z) (enterM z (nI q) d (nA z)) 0 (by omega) (enterM_IO hI _ _ _) (enterM_nA _ _ _ _) (by rw [enterM_lo z _ _ _ (f := 4) (by decide)]; exact hsd) (enterM_h16 h16 _ _) (enterM_pay hpay _ _ _) (by rw [enterM_nA]; exact nzK_le _ _) rfl
def rm_X7_lottery : Room := { frames := 5, cells := 0, slots := 0, locals := 119 }
theorem i_X7_lottery_wsX70 : ∀ w ∈ wsX70, w ∈ wsX7_lottery := fun w h => List.mem_cons_of_mem _ (List.mem_append_right _ h)
theorem k_X7_lottery_X7_hold : CW rm_X7_lottery wsX7_lottery RX7 RX7 122 yX7_hold cX7_hold 7 (some .int) wsX7_hold rm_X7_hold 2 := ⟨gX7_lottery_X7_hold, ⟨_, rfl⟩, rfl, rfl, ⟨rfl, by decide +kernel, by decide +kernel, by decide +kernel⟩, by decide, by decide⟩
theorem k_X7_lottery_X7_inState : CW rm_X7_lottery wsX7_lottery RX7 RX7 118 yX7_inState cX7_inState 6 (some .int) wsX7_inState rm_X7_inState 3 := ⟨gX7_lottery_X7_inState, ⟨_, rfl⟩, rfl, rfl, ⟨rfl, by decide +kernel, by decide +kernel, by decide +kernel⟩, by decide, by decide⟩
theorem k_X7_lottery_X7_isClosed : CW rm_X7_lottery wsX7_lottery RX7 RX7 84 yX7_isClosed cX7_isClosed 2 (some .boolean) wsX7_isClosed rm_X7_isClosed 1 := ⟨gX7_lottery_X7_isClosed, ⟨_, rfl⟩, rfl, rfl, ⟨rfl, by decide +kernel, by decide +kernel, by decide +kernel⟩, by decide, by decide⟩
theorem k_X7_lottery_X7_isDay : CS rm_X7_lottery wsX7_lottery RX7 81 yX7_isDay cX7_isDay 1 (some .boolean) wsX7_isDay rm_X7_isDay 1 := ⟨gX7_lottery_X7_isDay, ⟨_, rfl⟩, rfl, rfl, ⟨rfl, by decide +kernel, by decide +kernel, by decide +kernel⟩, by decide, by decide⟩
theorem k_X7_lottery_X7_isRoute : CW rm_X7_lottery wsX7_lottery RX7 RX7 43 yX7_isRoute cX7_isRoute 2 (some .boolean) wsX7_isRoute rm_X7_isRoute 1 := ⟨gX7_lottery_X7_isRoute, ⟨_, rfl⟩, rfl, rfl, ⟨rfl, by decide +kernel, by decide +kernel, by decide +kernel⟩, by decide, by decide⟩
set_option maxHeartbeats 4000000 in
set_option maxRecDepth 100000 in
theorem c_X7_lottery (l : Launch) (G : MG) (hA : Ap 9 G.2.2) (z : St) {r : Int32} {d : Int32} (hI : IO z) (hcl : ∀ d, d < 60 → z 7 d = 0 ∨ z 7 d = 1) (h16 : ∀ a, a < nA z → (z 15 a = 0 ∨ z 15 a = 2) → z 16 a = 0) (hpay : ∀ a, a < nA z → 0 < z 4 0 * z 14 a) (hsd : ∃ s, s < 65536 ∧ z 4 5 = nI s) : CIm l G yX7_lottery wsX7_lottery rm_X7_lottery [.ref (G.2.2 0), .int r, .int d] z (fun ρ ζ => ρ = (mLottery z r d).1 ∧ ζ = (mLottery z r d).2) := by
  refine ci_of (own := RX7) (cc := cX7_lottery) (maxL := 3) (ret := .int) (by decide +kernel) rfl rfl ?_ (Nat.le_of_ble_eq_true rfl) (KQ_mv (ExM_mv G)) ?_
  · intro v z' _; rfl
  · intro X hX ret
    refine g_lv (lv' := [(0, .ref (G.2.2 0)), (1, .int r), (2, .int d)]) rfl ?_
    refine g_aload_n hX 0 dX7_lottery_0 rfl ?_
    refine g_iload_n hX 1 dX7_lottery_1 rfl ?_
    refine g_cvE hX (As := [.int r]) (rest := []) (c_X7_isRoute l G z (x := r) (hI := (by assumption))) k_X7_lottery_X7_isRoute rc_Model rfl rfl (Nat.le_of_ble_eq_true rfl) dX7_lottery_2 ?_
    refine g_bi_eq hX 15 dX7_lottery_5 (by decide) (fun c1 => ?_) (fun c1 => ?_)
    · -- jump 15
      refine g_iconst hX (-1) dX7_lottery_15 (by decide) ?_
      refine ret _ _ _ _ dX7_lottery_16 ?_
      first | (simp [mLottery, c1]; done) | grind [mLottery]
    · -- on 8
      have hr := routeP_in hI c1
      refine g_iload_n hX 2 dX7_lottery_8 rfl ?_
      refine g_csE hX (As := [.int d]) (rest := []) (c_X7_isDay l G z (x := d) ) k_X7_lottery_X7_isDay rfl rfl (Nat.le_of_ble_eq_true rfl) dX7_lottery_9 ?_
      refine g_bi_ne hX 17 dX7_lottery_12 (by decide) (fun c2 => ?_) (fun c2 => ?_)
      · -- jump 17
        have hdd := dayP_in c2
        have hcc := cl_iff (hcl _ hdd.2)
        refine g_iload_n hX 2 dX7_lottery_17 rfl ?_
        refine g_aload_n hX 0 dX7_lottery_18 rfl ?_
        refine m_g_0 hX i_X7_lottery_wsX70 (List.mem_of_getElem? (i := 1) rfl) dX7_lottery_19 ?_
        refine g_iconst hX 0 dX7_lottery_22 (by decide) ?_
        refine m_ld_at hX 0 rfl (by decide) dX7_lottery_23 (v := (z 0 0)) rfl ?_
        refine g_ic_lt hX 45 dX7_lottery_24 (by decide) (fun c3 => ?_) (fun c3 => ?_)
        · -- jump 45
          refine g_bipush hX (-5) dX7_lottery_45 (by decide) ?_
          refine ret _ _ _ _ dX7_lottery_47 ?_
          first | (simp [mLottery, c1, c2, c3]; done) | grind [mLottery]
        · -- on 27
          refine g_aload_n hX 0 dX7_lottery_27 rfl ?_
          refine g_iload_n hX 2 dX7_lottery_28 rfl ?_
          refine g_st (st2 := [.int (nI (cn d)), .ref (G.2.2 0)]) (by rw [← (show d = nI (cn d) from hdd.1)]) ?_
          refine g_cvE hX (As := [.int (nI (cn d))]) (rest := []) (c_X7_isClosed l G z (d := (cn d)) (hd := hdd.2)) k_X7_lottery_X7_isClosed rc_Model rfl rfl (Nat.le_of_ble_eq_true rfl) dX7_lottery_29 ?_
          refine g_bi_ne hX 45 dX7_lottery_32 (by decide) (fun c4 => ?_) (fun c4 => ?_)
          · -- jump 45
            refine g_bipush hX (-5) dX7_lottery_45 (by decide) ?_
            refine ret _ _ _ _ dX7_lottery_47 ?_
            first | (simp [mLottery, c1, c2, c3, c4]; done) | grind [mLottery]
          · -- on 35
            refine g_aload_n hX 0 dX7_lottery_35 rfl ?_
            refine g_iload_n hX 1 dX7_lottery_36 rfl ?_
            refine g_iload_n hX 2 dX7_lottery_37 rfl ?_
            refine g_iconst hX 0 dX7_lottery_38 (by decide) ?_
            refine g_cvE hX (As := [.int r, .int d, .int 0]) (rest := []) (c_X7_inState l G z (r := r) (d := d) (s := 0) (hI := (by assumption))) k_X7_lottery_X7_inState rc_Model rfl rfl (Nat.le_of_ble_eq_true rfl) dX7_lottery_39 ?_
            refine g_if_ne hX 48 dX7_lottery_42 (by decide) (fun c5 => ?_) (fun c5 => ?_)
            · -- jump 48
              refine g_aload_n hX 0 dX7_lottery_48 rfl ?_
              refine g_iload_n hX 1 dX7_lottery_49 rfl ?_
              refine g_iload_n hX 2 dX7_lottery_50 rfl ?_
              refine g_st (st2 := [.int d, .int (nI (cn r)), .ref (G.2.2 0)]) (by rw [← (show r = nI (cn r) from hr.1)]) ?_
              refine g_cvE hX (As := [.int (nI (cn r)), .int d]) (rest := []) (c_X7_hold l G hA z (q := (cn r)) (d := d) (hq := hr.2) (hI := (by assumption)) (h16 := (by assumption)) (hpay := (by assumption)) (hsd := (by assumption))) k_X7_lottery_X7_hold rc_Model rfl rfl (Nat.le_of_ble_eq_true rfl) dX7_lottery_51 ?_
              refine g_z (z2 := (mHold z r d).2) (by rw [← hr.1]) ?_
              refine g_top ((mHold z r d).1) (by rw [← hr.1]) ?_
              refine ret _ _ _ _ dX7_lottery_54 ?_
              first | (simp [mLottery, c1, c2, c3, c4, c5]; done) | grind [mLottery]
            · -- on 45
              refine g_bipush hX (-5) dX7_lottery_45 (by decide) ?_
              refine ret _ _ _ _ dX7_lottery_47 ?_
              first | (simp [mLottery, c1, c2, c3, c4, c5]; done) | grind [mLottery]
      · -- on 15
        refine g_iconst hX (-1) dX7_lottery_15 (by decide) ?_
        refine ret _ _ _ _ dX7_lottery_16 ?_
        first | (simp [mLottery, c1, c2]; done) | grind [mLottery]
