def rm_X6_lottery : Room := { frames := 4, cells := 0, slots := 0, locals := 90 }
theorem i_X6_lottery_wsX30 : ∀ w ∈ wsX30, w ∈ wsX6_lottery := fun w h => List.mem_cons_of_mem _ (List.mem_append_left _ (List.mem_append_left _ (List.mem_append_left _ (List.mem_append_left _ (List.mem_append_right _ h)))))
theorem i_X6_lottery_wsX60 : ∀ w ∈ wsX60, w ∈ wsX6_lottery := fun w h => List.mem_cons_of_mem _ (List.mem_append_left _ (List.mem_append_left _ (List.mem_append_left _ (List.mem_append_left _ (List.mem_append_left _ (List.mem_append_right _ h))))))
theorem k_X6_lottery_X2_enterAll : CW rm_X6_lottery wsX6_lottery RX6 RX2 116 yX2_enterAll cX2_enterAll 6 none wsX2_enterAll rm_X2_enterAll 3 := ⟨gX6_lottery_X2_enterAll, ⟨_, rfl⟩, rfl, rfl, ⟨rfl, by decide +kernel, by decide +kernel, by decide +kernel⟩, by decide, by decide⟩
theorem k_X6_lottery_X2_hold : CW rm_X6_lottery wsX6_lottery RX6 RX2 123 yX2_hold cX2_hold 8 (some .int) wsX2_hold rm_X2_hold 2 := ⟨gX6_lottery_X2_hold, ⟨_, rfl⟩, rfl, rfl, ⟨rfl, by decide +kernel, by decide +kernel, by decide +kernel⟩, by decide, by decide⟩
theorem k_X6_lottery_X2_settle : CW rm_X6_lottery wsX6_lottery RX6 RX2 130 yX2_settle cX2_settle 5 (some .int) wsX2_settle rm_X2_settle 1 := ⟨gX6_lottery_X2_settle, ⟨_, rfl⟩, rfl, rfl, ⟨rfl, by decide +kernel, by decide +kernel, by decide +kernel⟩, by decide, by decide⟩
theorem k_X6_lottery_X3_countOf : CW rm_X6_lottery wsX6_lottery RX6 RX3 112 yX3_countOf cX3_countOf 6 (some .int) wsX3_countOf rm_X3_countOf 3 := ⟨gX6_lottery_X3_countOf, ⟨_, rfl⟩, rfl, rfl, ⟨rfl, by decide +kernel, by decide +kernel, by decide +kernel⟩, by decide, by decide⟩
theorem k_X6_lottery_X3_hasRouteAndDay : CW rm_X6_lottery wsX6_lottery RX6 RX3 85 yX3_hasRouteAndDay cX3_hasRouteAndDay 3 (some .boolean) wsX3_hasRouteAndDay rm_X3_hasRouteAndDay 2 := ⟨gX6_lottery_X3_hasRouteAndDay, ⟨_, rfl⟩, rfl, rfl, ⟨rfl, by decide +kernel, by decide +kernel, by decide +kernel⟩, by decide, by decide⟩
theorem k_X6_lottery_X3_isOpen : CW rm_X6_lottery wsX6_lottery RX6 RX3 89 yX3_isOpen cX3_isOpen 2 (some .boolean) wsX3_isOpen rm_X3_isOpen 1 := ⟨gX6_lottery_X3_isOpen, ⟨_, rfl⟩, rfl, rfl, ⟨rfl, by decide +kernel, by decide +kernel, by decide +kernel⟩, by decide, by decide⟩
theorem k_X6_lottery_X3_loseApplied : CW rm_X6_lottery wsX6_lottery RX6 RX3 126 yX3_loseApplied cX3_loseApplied 4 none wsX3_loseApplied rm_X3_loseApplied 2 := ⟨gX6_lottery_X3_loseApplied, ⟨_, rfl⟩, rfl, rfl, ⟨rfl, by decide +kernel, by decide +kernel, by decide +kernel⟩, by decide, by decide⟩
theorem k_X6_lottery_X3_placesForLottery : CW rm_X6_lottery wsX6_lottery RX6 RX3 120 yX3_placesForLottery cX3_placesForLottery 3 (some .int) wsX3_placesForLottery rm_X3_placesForLottery 2 := ⟨gX6_lottery_X3_placesForLottery, ⟨_, rfl⟩, rfl, rfl, ⟨rfl, by decide +kernel, by decide +kernel, by decide +kernel⟩, by decide, by decide⟩
set_option maxHeartbeats 4000000 in
set_option maxRecDepth 100000 in
theorem c_X6_lottery (l : Launch) (G : MG) (hA : Ap 203 G.2.2) (z : St) {r : Int32} {d : Int32} (hI : IO z) : CIc l G yX6_lottery wsX6_lottery rm_X6_lottery [.ref (G.2.2 192), .int r, .int d] z (fun ρ ζ => ρ = (cLottery z r d).1 ∧ ζ = (cLottery z r d).2) := by
  refine ci_of (own := RX6) (cc := cX6_lottery) (maxL := 3) (ret := .int) (by decide +kernel) rfl rfl ?_ (Nat.le_of_ble_eq_true rfl) (KQ_mv (ExC_mv G)) ?_
  · intro v z' _; rfl
  · intro X hX ret
    refine g_lv (lv' := [(0, .ref (G.2.2 192)), (1, .int r), (2, .int d)]) rfl ?_
    refine g_aload_n hX 0 dX6_lottery_0 rfl ?_
    refine c_g_Main_0 hX i_X6_lottery_wsX60 (List.mem_of_getElem? (i := 1) rfl) dX6_lottery_1 ?_
    refine g_iload_n hX 1 dX6_lottery_4 rfl ?_
    refine g_iload_n hX 2 dX6_lottery_5 rfl ?_
    refine g_cvE hX (As := [.int r, .int d]) (rest := []) (c_X3_hasRouteAndDay l G z (x1 := r) (x2 := d) ) k_X6_lottery_X3_hasRouteAndDay rc_Office0 rfl rfl (Nat.le_of_ble_eq_true rfl) dX6_lottery_6 ?_
    refine g_bi_ne hX 14 dX6_lottery_9 (by decide) (fun c1 => ?_) (fun c1 => ?_)
    · -- jump 14
      have hr := routeP_in hI c1.1
      have hrm := not_m1 c1.1.1
      have hd := dayP_in c1.2
      refine g_aload_n hX 0 dX6_lottery_14 rfl ?_
      refine c_g_Main_0 hX i_X6_lottery_wsX60 (List.mem_of_getElem? (i := 1) rfl) dX6_lottery_15 ?_
      refine g_iload_n hX 2 dX6_lottery_18 rfl ?_
      refine g_cvE hX (As := [.int d]) (rest := []) (c_X3_isOpen l G z (x1 := d) ) k_X6_lottery_X3_isOpen rc_Office0 rfl rfl (Nat.le_of_ble_eq_true rfl) dX6_lottery_19 ?_
      refine g_bi_eq hX 38 dX6_lottery_22 (by decide) (fun c2 => ?_) (fun c2 => ?_)
      · -- jump 38
        refine g_bipush hX (-5) dX6_lottery_38 (by decide) ?_
        refine ret _ _ _ _ dX6_lottery_40 ?_
        first | (simp [cLottery, c1, c2]; done) | (simp only [cLottery]; rw [if_neg (not_not_intro c1), if_neg (by rintro (h | h); exact h c2; exact c3 h)]; exact ⟨rfl, rfl⟩) | (simp only [cLottery]; rw [if_neg (not_not_intro c1), if_pos (Or.inr (Decidable.not_not.mp c3))]; exact ⟨rfl, rfl⟩)
      · -- on 25
        refine g_aload_n hX 0 dX6_lottery_25 rfl ?_
        refine c_g_Main_0 hX i_X6_lottery_wsX60 (List.mem_of_getElem? (i := 1) rfl) dX6_lottery_26 ?_
        refine g_iload_n hX 1 dX6_lottery_29 rfl ?_
        refine g_iload_n hX 2 dX6_lottery_30 rfl ?_
        refine g_iconst hX 0 dX6_lottery_31 (by decide) ?_
        refine g_cvE hX (As := [.int r, .int d, .int 0]) (rest := []) (c_X3_countOf l G z (r := r) (d := d) (s := 0) (hr := hrm) (hI := (by assumption))) k_X6_lottery_X3_countOf rc_Office0 rfl rfl (Nat.le_of_ble_eq_true rfl) dX6_lottery_32 ?_
        refine g_if_ne hX 41 dX6_lottery_35 (by decide) (fun c3 => ?_) (fun c3 => ?_)
        · -- jump 41
          refine g_aload_n hX 0 dX6_lottery_41 rfl ?_
          refine c_g_Main_3 hX i_X6_lottery_wsX60 (List.mem_of_getElem? (i := 2) rfl) dX6_lottery_42 ?_
          refine g_aload_n hX 0 dX6_lottery_45 rfl ?_
          refine c_g_Main_0 hX i_X6_lottery_wsX60 (List.mem_of_getElem? (i := 1) rfl) dX6_lottery_46 ?_
          refine g_iload_n hX 1 dX6_lottery_49 rfl ?_
          refine g_iload_n hX 2 dX6_lottery_50 rfl ?_
          refine g_cvvE hX (As := [.ref (G.2.2 0), .int r, .int d]) (rest := []) (c_X2_enterAll l G hA z (r := r) (d := d) (hr := hrm) (hI := (by assumption))) k_X6_lottery_X2_enterAll rc_Draw rfl rfl (Nat.le_of_ble_eq_true rfl) dX6_lottery_51 ?_
          have h40 := (iNa hI).2
          have hyl : ∀ f, f < 61 → (enterK z r d (nA z)) f = z f := fun f hf => enterK_lo _ _ _ _ (by omega)
          have hyI : IO (enterK z r d (nA z)) := IO_of hI (fun f hf => hyl f (by omega))
          have hyn : nA (enterK z r d (nA z)) = nA z := nA_of (hyl 3 (by decide))
          have hyE : (enterK z r d (nA z)) 66 0 = nI (cn ((enterK z r d (nA z)) 66 0)) ∧ cn ((enterK z r d (nA z)) 66 0) ≤ 40 := by
            have h := enterK_E z r d (nA z) (by omega)
            exact ⟨h.1, by omega⟩
          refine g_aload_n hX 0 dX6_lottery_54 rfl ?_
          refine c_g_Main_0 hX i_X6_lottery_wsX60 (List.mem_of_getElem? (i := 1) rfl) dX6_lottery_55 ?_
          refine c_g_Office_8 hX i_X6_lottery_wsX30 (List.mem_of_getElem? (i := 3) rfl) dX6_lottery_58 ?_
          refine g_iconst hX 5 dX6_lottery_61 (by decide) ?_
          refine g_aload_n hX 0 dX6_lottery_62 rfl ?_
          refine c_g_Main_3 hX i_X6_lottery_wsX60 (List.mem_of_getElem? (i := 2) rfl) dX6_lottery_63 ?_
          refine g_aload_n hX 0 dX6_lottery_66 rfl ?_
          refine c_g_Main_0 hX i_X6_lottery_wsX60 (List.mem_of_getElem? (i := 1) rfl) dX6_lottery_67 ?_
          refine c_g_Office_8 hX i_X6_lottery_wsX30 (List.mem_of_getElem? (i := 3) rfl) dX6_lottery_70 ?_
          refine g_iconst hX 5 dX6_lottery_73 (by decide) ?_
          refine c_ld_settings hX 5 rfl (by decide) dX6_lottery_74 ?_
          refine g_aload_n hX 0 dX6_lottery_75 rfl ?_
          refine c_g_Main_0 hX i_X6_lottery_wsX60 (List.mem_of_getElem? (i := 1) rfl) dX6_lottery_76 ?_
          refine g_iload_n hX 1 dX6_lottery_79 rfl ?_
          refine g_iload_n hX 2 dX6_lottery_80 rfl ?_
          refine g_st (st2 := [.int d, .int (nI (cn r)), .ref (G.2.2 0), .int ((enterK z r d (nA z)) 4 5), .ref (G.2.2 195), .int 5, .ref (G.2.2 5)]) (by rw [← (show r = nI (cn r) from hr.1)]) ?_
          refine g_cvE hX (As := [.int (nI (cn r)), .int d]) (rest := [.int ((enterK z r d (nA z)) 4 5), .ref (G.2.2 195), .int 5, .ref (G.2.2 5)]) (c_X3_placesForLottery l G (enterK z r d (nA z)) (q := (cn r)) (d := d) (hq := hr.2) (hI := hyI)) k_X6_lottery_X3_placesForLottery rc_Office0 rfl rfl (Nat.le_of_ble_eq_true rfl) dX6_lottery_81 ?_
          refine g_top (leftP (enterK z r d (nA z)) r d) (by rw [← hr.1]) ?_
          refine g_cvE hX (As := [.int ((enterK z r d (nA z)) 4 5), .int (leftP (enterK z r d (nA z)) r d)]) (rest := [.int 5, .ref (G.2.2 5)]) (c_X2_hold l G hA (enterK z r d (nA z)) (s := ((enterK z r d (nA z)) 4 5)) (p := (leftP (enterK z r d (nA z)) r d)) (hE := hyE)) k_X6_lottery_X2_hold rc_Draw rfl rfl (Nat.le_of_ble_eq_true rfl) dX6_lottery_84 ?_
          refine c_st_settings hX hA 5 rfl (by decide) dX6_lottery_87 ?_
          refine g_aload_n hX 0 dX6_lottery_88 rfl ?_
          refine c_g_Main_0 hX i_X6_lottery_wsX60 (List.mem_of_getElem? (i := 1) rfl) dX6_lottery_89 ?_
          refine g_iload_n hX 1 dX6_lottery_92 rfl ?_
          refine g_iload_n hX 2 dX6_lottery_93 rfl ?_
          refine g_cvvE hX (As := [.int r, .int d]) (rest := []) (c_X3_loseApplied l G hA (u2 ((hq (enterK z r d (nA z)) ((enterK z r d (nA z)) 4 5) (leftP (enterK z r d (nA z)) r d) (cn ((enterK z r d (nA z)) 66 0))).1) 4 5 ((hq (enterK z r d (nA z)) ((enterK z r d (nA z)) 4 5) (leftP (enterK z r d (nA z)) r d) (cn ((enterK z r d (nA z)) 66 0))).2.1)) (r := r) (d := d) (hI := (IO_u2 (IO_of hyI (fun f hf => hq_lo _ _ _ _ (by omega))) (by decide)))) k_X6_lottery_X3_loseApplied rc_Office0 rfl rfl (Nat.le_of_ble_eq_true rfl) dX6_lottery_94 ?_
          have hlq : ∀ f, f ≠ 64 ∧ f ≠ 65 ∧ f ≠ 15 ∧ f ≠ 4 → (loseK (u2 ((hq (enterK z r d (nA z)) ((enterK z r d (nA z)) 4 5) (leftP (enterK z r d (nA z)) r d) (cn ((enterK z r d (nA z)) 66 0))).1) 4 5 ((hq (enterK z r d (nA z)) ((enterK z r d (nA z)) 4 5) (leftP (enterK z r d (nA z)) r d) (cn ((enterK z r d (nA z)) 66 0))).2.1)) r d (nA (u2 ((hq (enterK z r d (nA z)) ((enterK z r d (nA z)) 4 5) (leftP (enterK z r d (nA z)) r d) (cn ((enterK z r d (nA z)) 66 0))).1) 4 5 ((hq (enterK z r d (nA z)) ((enterK z r d (nA z)) 4 5) (leftP (enterK z r d (nA z)) r d) (cn ((enterK z r d (nA z)) 66 0))).2.1)))) f = (enterK z r d (nA z)) f := fun f hf => by
            funext i; rw [loseK_ne (by omega), u2_f (by omega), hq_lo _ _ _ _ (by omega)]
          have hnq : nA (u2 (hq (enterK z r d (nA z)) ((enterK z r d (nA z)) 4 5) (leftP (enterK z r d (nA z)) r d) (cn ((enterK z r d (nA z)) 66 0))).1 4 5 (hq (enterK z r d (nA z)) ((enterK z r d (nA z)) 4 5) (leftP (enterK z r d (nA z)) r d) (cn ((enterK z r d (nA z)) 66 0))).2.1) = nA z := by rw [nA_u2 (by decide), nA_of (hq_lo _ _ _ _ (by decide)), hyn]
          refine g_aload_n hX 0 dX6_lottery_97 rfl ?_
          refine c_g_Main_3 hX i_X6_lottery_wsX60 (List.mem_of_getElem? (i := 2) rfl) dX6_lottery_98 ?_
          refine g_aload_n hX 0 dX6_lottery_101 rfl ?_
          refine c_g_Main_0 hX i_X6_lottery_wsX60 (List.mem_of_getElem? (i := 1) rfl) dX6_lottery_102 ?_
          refine g_cvE hX (As := [.ref (G.2.2 0)]) (rest := []) (c_X2_settle l G hA (loseK (u2 ((hq (enterK z r d (nA z)) ((enterK z r d (nA z)) 4 5) (leftP (enterK z r d (nA z)) r d) (cn ((enterK z r d (nA z)) 66 0))).1) 4 5 ((hq (enterK z r d (nA z)) ((enterK z r d (nA z)) 4 5) (leftP (enterK z r d (nA z)) r d) (cn ((enterK z r d (nA z)) 66 0))).2.1)) r d (nA (u2 ((hq (enterK z r d (nA z)) ((enterK z r d (nA z)) 4 5) (leftP (enterK z r d (nA z)) r d) (cn ((enterK z r d (nA z)) 66 0))).1) 4 5 ((hq (enterK z r d (nA z)) ((enterK z r d (nA z)) 4 5) (leftP (enterK z r d (nA z)) r d) (cn ((enterK z r d (nA z)) 66 0))).2.1))))  (hE := (by rw [hlq 66 (by decide)]; exact hyE)) (hN := (by rw [hlq 66 (by decide), hlq 61 (by decide), nA_of (hlq 3 (by decide)), hyn]; intro e he; obtain ⟨a, h1, h2, -⟩ := enterK_61 z r d (nA z) (by omega) e he; exact ⟨a, h1, h2⟩)) (hI := (IO_of hyI (fun f hf => hlq f (by omega))))) k_X6_lottery_X2_settle rc_Draw rfl rfl (Nat.le_of_ble_eq_true rfl) dX6_lottery_105 ?_
          rw [hlq 66 (by decide), hnq]
          refine ret _ _ _ _ dX6_lottery_108 ?_
          first | (simp [cLottery, c1, c2, c3]; done) | (simp only [cLottery]; rw [if_neg (not_not_intro c1), if_neg (by rintro (h | h); exact h c2; exact c3 h)]; exact ⟨rfl, rfl⟩) | (simp only [cLottery]; rw [if_neg (not_not_intro c1), if_pos (Or.inr (Decidable.not_not.mp c3))]; exact ⟨rfl, rfl⟩)
        · -- on 38
          refine g_bipush hX (-5) dX6_lottery_38 (by decide) ?_
          refine ret _ _ _ _ dX6_lottery_40 ?_
          first | (simp [cLottery, c1, c2, c3]; done) | (simp only [cLottery]; rw [if_neg (not_not_intro c1), if_neg (by rintro (h | h); exact h c2; exact c3 h)]; exact ⟨rfl, rfl⟩) | (simp only [cLottery]; rw [if_neg (not_not_intro c1), if_pos (Or.inr (Decidable.not_not.mp c3))]; exact ⟨rfl, rfl⟩)
    · -- on 12
      refine g_iconst hX (-1) dX6_lottery_12 (by decide) ?_
      refine ret _ _ _ _ dX6_lottery_13 ?_
      first | (simp [cLottery, c1]; done) | (simp only [cLottery]; rw [if_neg (not_not_intro c1), if_neg (by rintro (h | h); exact h c2; exact c3 h)]; exact ⟨rfl, rfl⟩) | (simp only [cLottery]; rw [if_neg (not_not_intro c1), if_pos (Or.inr (Decidable.not_not.mp c3))]; exact ⟨rfl, rfl⟩)
def rm_X6_odds : Room := { frames := 3, cells := 0, slots := 0, locals := 67 }
theorem i_X6_odds_wsX00 : ∀ w ∈ wsX00, w ∈ wsX6_odds := fun w h => List.mem_cons_of_mem _ (List.mem_append_left _ (List.mem_append_left _ (List.mem_append_right _ h)))
theorem i_X6_odds_wsX20 : ∀ w ∈ wsX20, w ∈ wsX6_odds := fun w h => List.mem_cons_of_mem _ (List.mem_append_left _ (List.mem_append_right _ h))
theorem i_X6_odds_wsX30 : ∀ w ∈ wsX30, w ∈ wsX6_odds := fun w h => List.mem_cons_of_mem _ (List.mem_append_left _ (List.mem_append_left _ (List.mem_append_left _ (List.mem_append_right _ h))))
theorem i_X6_odds_wsX60 : ∀ w ∈ wsX60, w ∈ wsX6_odds := fun w h => List.mem_cons_of_mem _ (List.mem_append_left _ (List.mem_append_left _ (List.mem_append_left _ (List.mem_append_left _ (List.mem_append_right _ h)))))
theorem k_X6_odds_X2_enterAll : CW rm_X6_odds wsX6_odds RX6 RX2 116 yX2_enterAll cX2_enterAll 6 none wsX2_enterAll rm_X2_enterAll 3 := ⟨gX6_odds_X2_enterAll, ⟨_, rfl⟩, rfl, rfl, ⟨rfl, by decide +kernel, by decide +kernel, by decide +kernel⟩, by decide, by decide⟩
theorem k_X6_odds_X2_entryOf : CW rm_X6_odds wsX6_odds RX6 RX2 250 yX2_entryOf cX2_entryOf 3 (some .int) wsX2_entryOf rm_X2_entryOf 1 := ⟨gX6_odds_X2_entryOf, ⟨_, rfl⟩, rfl, rfl, ⟨rfl, by decide +kernel, by decide +kernel, by decide +kernel⟩, by decide, by decide⟩
theorem k_X6_odds_X3_hasApplication : CW rm_X6_odds wsX6_odds RX6 RX3 134 yX3_hasApplication cX3_hasApplication 2 (some .boolean) wsX3_hasApplication rm_X3_hasApplication 1 := ⟨gX6_odds_X3_hasApplication, ⟨_, rfl⟩, rfl, rfl, ⟨rfl, by decide +kernel, by decide +kernel, by decide +kernel⟩, by decide, by decide⟩
set_option maxHeartbeats 4000000 in
set_option maxRecDepth 100000 in
theorem c_X6_odds (l : Launch) (G : MG) (hA : Ap 203 G.2.2) (z : St) {a : Int32} (hI : IO z) : CIc l G yX6_odds wsX6_odds rm_X6_odds [.ref (G.2.2 192), .int a] z (fun ρ ζ => ρ = (cOdds z a).1 ∧ ζ = (cOdds z a).2) := by
  refine ci_of (own := RX6) (cc := cX6_odds) (maxL := 4) (ret := .int) (by decide +kernel) rfl rfl ?_ (Nat.le_of_ble_eq_true rfl) (KQ_mv (ExC_mv G)) ?_
  · intro v z' _; rfl
  · intro X hX ret
    refine g_lv (lv' := [(0, .ref (G.2.2 192)), (1, .int a)]) rfl ?_
    refine g_aload_n hX 0 dX6_odds_0 rfl ?_
    refine c_g_Main_0 hX i_X6_odds_wsX60 (List.mem_of_getElem? (i := 1) rfl) dX6_odds_1 ?_
    refine g_iload_n hX 1 dX6_odds_4 rfl ?_
    refine g_cvE hX (As := [.int a]) (rest := []) (c_X3_hasApplication l G z (x1 := a) ) k_X6_odds_X3_hasApplication rc_Office0 rfl rfl (Nat.le_of_ble_eq_true rfl) dX6_odds_5 ?_
    refine g_bi_ne hX 13 dX6_odds_8 (by decide) (fun c1 => ?_) (fun c1 => ?_)
    · -- jump 13
      have ha := appP_in hI c1
      refine g_aload_n hX 0 dX6_odds_13 rfl ?_
      refine c_g_Main_0 hX i_X6_odds_wsX60 (List.mem_of_getElem? (i := 1) rfl) dX6_odds_14 ?_
      refine c_g_Office_6 hX i_X6_odds_wsX30 (List.mem_of_getElem? (i := 2) rfl) dX6_odds_17 ?_
      refine g_iload_n hX 1 dX6_odds_20 rfl ?_
      refine c_ld_applications hX (cn a) ha.1 ha.2.2 dX6_odds_21 ?_
      refine g_astore_n hX [(2, .ref (G.2.2 (24 + (cn a)))), (0, .ref (G.2.2 192)), (1, .int a)] dX6_odds_22 (by decide) rfl ?_
      refine g_aload_n hX 1 dX6_odds_23 rfl ?_
      refine c_g_Main_3 hX i_X6_odds_wsX60 (List.mem_of_getElem? (i := 3) rfl) dX6_odds_24 ?_
      refine g_aload_n hX 1 dX6_odds_27 rfl ?_
      refine c_g_Main_0 hX i_X6_odds_wsX60 (List.mem_of_getElem? (i := 1) rfl) dX6_odds_28 ?_
      refine g_aload_n hX 0 dX6_odds_31 rfl ?_
      refine c_g_Application_1 hX ha.2.2 i_X6_odds_wsX00 (List.mem_of_getElem? (i := 4) rfl) dX6_odds_32 ?_
      refine g_aload_n hX 0 dX6_odds_35 rfl ?_
      refine c_g_Application_2 hX ha.2.2 i_X6_odds_wsX00 (List.mem_of_getElem? (i := 5) rfl) dX6_odds_36 ?_
      refine g_cvvE hX (As := [.ref (G.2.2 0), .int (z 12 (cn a)), .int (z 13 (cn a))]) (rest := []) (c_X2_enterAll l G hA z (r := (z 12 (cn a))) (d := (z 13 (cn a))) (hr := (by rw [(iR hI ha.2.1).1]; exact nI_m1 (by have := (iR hI ha.2.1).2; omega))) (hI := (by assumption))) k_X6_odds_X2_enterAll rc_Draw rfl rfl (Nat.le_of_ble_eq_true rfl) dX6_odds_39 ?_
      have h40 := (iNa hI).2
      have hyl : ∀ f, f < 61 → (enterK z (z 12 (cn a)) (z 13 (cn a)) (nA z)) f = z f := fun f hf => enterK_lo _ _ _ _ (by omega)
      have hyI : IO (enterK z (z 12 (cn a)) (z 13 (cn a)) (nA z)) := IO_of hI (fun f hf => hyl f (by omega))
      have hyn : nA (enterK z (z 12 (cn a)) (z 13 (cn a)) (nA z)) = nA z := nA_of (hyl 3 (by decide))
      have hyE : (enterK z (z 12 (cn a)) (z 13 (cn a)) (nA z)) 66 0 = nI (cn ((enterK z (z 12 (cn a)) (z 13 (cn a)) (nA z)) 66 0)) ∧ cn ((enterK z (z 12 (cn a)) (z 13 (cn a)) (nA z)) 66 0) ≤ 40 := by
        have h := enterK_E z (z 12 (cn a)) (z 13 (cn a)) (nA z) (by omega)
        exact ⟨h.1, by omega⟩
      refine g_aload_n hX 1 dX6_odds_42 rfl ?_
      refine c_g_Main_3 hX i_X6_odds_wsX60 (List.mem_of_getElem? (i := 3) rfl) dX6_odds_43 ?_
      refine g_iload_n hX 2 dX6_odds_46 rfl ?_
      refine g_cvE hX (As := [.int a]) (rest := []) (c_X2_entryOf l G (enterK z (z 12 (cn a)) (z 13 (cn a)) (nA z)) (x := a) (hE := hyE)) k_X6_odds_X2_entryOf rc_Draw rfl rfl (Nat.le_of_ble_eq_true rfl) dX6_odds_47 ?_
      refine g_istore_n hX [(3, .int (entOf (enterK z (z 12 (cn a)) (z 13 (cn a)) (nA z)) a)), (2, .ref (G.2.2 (24 + (cn a)))), (0, .ref (G.2.2 192)), (1, .int a)] dX6_odds_50 (by decide) rfl ?_
      refine g_iload_n hX 0 dX6_odds_51 rfl ?_
      refine g_if_lt hX 65 dX6_odds_52 (by decide) (fun c2 => ?_) (fun c2 => ?_)
      · -- jump 65
        refine g_bipush hX (-5) dX6_odds_65 (by decide) ?_
        refine ret _ _ _ _ dX6_odds_67 ?_
        first | (simp [cOdds, c1, c2]; done) | grind [cOdds]
      · -- on 55
        have hen := entOf_in c2 (by omega)
        refine g_aload_n hX 2 dX6_odds_55 rfl ?_
        refine c_g_Main_3 hX i_X6_odds_wsX60 (List.mem_of_getElem? (i := 3) rfl) dX6_odds_56 ?_
        refine c_g_Draw_6 hX i_X6_odds_wsX20 (List.mem_of_getElem? (i := 6) rfl) dX6_odds_59 ?_
        refine g_if_gt hX 68 dX6_odds_62 (by decide) (fun c3 => ?_) (fun c3 => ?_)
        · -- jump 68
          refine g_ldc2 hX 1000000 dX6_odds_68 (List.mem_of_getElem? (i := 7) rfl) ?_
          refine g_aload_n hX 2 dX6_odds_71 rfl ?_
          refine c_g_Main_3 hX i_X6_odds_wsX60 (List.mem_of_getElem? (i := 3) rfl) dX6_odds_72 ?_
          refine c_g_Draw_2 hX i_X6_odds_wsX20 (List.mem_of_getElem? (i := 8) rfl) dX6_odds_75 ?_
          refine g_iload_n hX 0 dX6_odds_78 rfl ?_
          refine c_ld_tickets hX (cn (entOf (enterK z (z 12 (cn a)) (z 13 (cn a)) (nA z)) a)) hen.1 (by omega) dX6_odds_79 ?_
          refine g_i2l hX dX6_odds_80 ?_
          refine g_lmul hX dX6_odds_81 ?_
          refine g_aload_n hX 2 dX6_odds_82 rfl ?_
          refine c_g_Main_3 hX i_X6_odds_wsX60 (List.mem_of_getElem? (i := 3) rfl) dX6_odds_83 ?_
          refine c_g_Draw_6 hX i_X6_odds_wsX20 (List.mem_of_getElem? (i := 6) rfl) dX6_odds_86 ?_
          refine g_i2l hX dX6_odds_89 ?_
          refine g_ldiv hX dX6_odds_90 (i64_ne c3) ?_
          refine g_l2i hX dX6_odds_91 ?_
          refine ret _ _ _ _ dX6_odds_92 ?_
          first | (simp [cOdds, c1, c2, c3]; done) | grind [cOdds]
        · -- on 65
          refine g_bipush hX (-5) dX6_odds_65 (by decide) ?_
          refine ret _ _ _ _ dX6_odds_67 ?_
          first | (simp [cOdds, c1, c2, c3]; done) | grind [cOdds]
    · -- on 11
      refine g_iconst hX (-1) dX6_odds_11 (by decide) ?_
      refine ret _ _ _ _ dX6_odds_12 ?_
      first | (simp [cOdds, c1]; done) | grind [cOdds]
def rm_X6_tries : Room := { frames := 4, cells := 0, slots := 0, locals := 90 }
theorem i_X6_tries_wsX00 : ∀ w ∈ wsX00, w ∈ wsX6_tries := fun w h => List.mem_cons_of_mem _ (List.mem_append_left _ (List.mem_append_left _ (List.mem_append_left _ (List.mem_append_right _ h))))
theorem i_X6_tries_wsX20 : ∀ w ∈ wsX20, w ∈ wsX6_tries := fun w h => List.mem_cons_of_mem _ (List.mem_append_left _ (List.mem_append_left _ (List.mem_append_right _ h)))
theorem i_X6_tries_wsX30 : ∀ w ∈ wsX30, w ∈ wsX6_tries := fun w h => List.mem_cons_of_mem _ (List.mem_append_left _ (List.mem_append_left _ (List.mem_append_left _ (List.mem_append_left _ (List.mem_append_right _ h)))))
theorem i_X6_tries_wsX60 : ∀ w ∈ wsX60, w ∈ wsX6_tries := fun w h => List.mem_cons_of_mem _ (List.mem_append_left _ (List.mem_append_left _ (List.mem_append_left _ (List.mem_append_left _ (List.mem_append_left _ (List.mem_append_right _ h))))))
theorem k_X6_tries_X2_enterAll : CW rm_X6_tries wsX6_tries RX6 RX2 116 yX2_enterAll cX2_enterAll 6 none wsX2_enterAll rm_X2_enterAll 3 := ⟨gX6_tries_X2_enterAll, ⟨_, rfl⟩, rfl, rfl, ⟨rfl, by decide +kernel, by decide +kernel, by decide +kernel⟩, by decide, by decide⟩
theorem k_X6_tries_X2_entryOf : CW rm_X6_tries wsX6_tries RX6 RX2 250 yX2_entryOf cX2_entryOf 3 (some .int) wsX2_entryOf rm_X2_entryOf 1 := ⟨gX6_tries_X2_entryOf, ⟨_, rfl⟩, rfl, rfl, ⟨rfl, by decide +kernel, by decide +kernel, by decide +kernel⟩, by decide, by decide⟩
theorem k_X6_tries_X2_hold : CW rm_X6_tries wsX6_tries RX6 RX2 123 yX2_hold cX2_hold 8 (some .int) wsX2_hold rm_X2_hold 2 := ⟨gX6_tries_X2_hold, ⟨_, rfl⟩, rfl, rfl, ⟨rfl, by decide +kernel, by decide +kernel, by decide +kernel⟩, by decide, by decide⟩
theorem k_X6_tries_X3_hasApplication : CW rm_X6_tries wsX6_tries RX6 RX3 134 yX3_hasApplication cX3_hasApplication 2 (some .boolean) wsX3_hasApplication rm_X3_hasApplication 1 := ⟨gX6_tries_X3_hasApplication, ⟨_, rfl⟩, rfl, rfl, ⟨rfl, by decide +kernel, by decide +kernel, by decide +kernel⟩, by decide, by decide⟩
theorem k_X6_tries_X3_isOpen : CW rm_X6_tries wsX6_tries RX6 RX3 89 yX3_isOpen cX3_isOpen 2 (some .boolean) wsX3_isOpen rm_X3_isOpen 1 := ⟨gX6_tries_X3_isOpen, ⟨_, rfl⟩, rfl, rfl, ⟨rfl, by decide +kernel, by decide +kernel, by decide +kernel⟩, by decide, by decide⟩
theorem k_X6_tries_X3_placesForLottery : CW rm_X6_tries wsX6_tries RX6 RX3 120 yX3_placesForLottery cX3_placesForLottery 3 (some .int) wsX3_placesForLottery rm_X3_placesForLottery 2 := ⟨gX6_tries_X3_placesForLottery, ⟨_, rfl⟩, rfl, rfl, ⟨rfl, by decide +kernel, by decide +kernel, by decide +kernel⟩, by decide, by decide⟩
set_option maxHeartbeats 4000000 in
set_option maxRecDepth 100000 in
theorem c_X6_tries (l : Launch) (G : MG) (hA : Ap 203 G.2.2) (z : St) {a : Int32} {t : Int32} (hI : IO z) : CIc l G yX6_tries wsX6_tries rm_X6_tries [.ref (G.2.2 192), .int a, .int t] z (fun ρ ζ => ρ = (cTries z a t).1 ∧ ζ = (cTries z a t).2) := by
  refine ci_of (own := RX6) (cc := cX6_tries) (maxL := 9) (ret := .int) (by decide +kernel) rfl rfl ?_ (Nat.le_of_ble_eq_true rfl) (KQ_mv (ExC_mv G)) ?_
  · intro v z' _; rfl
  · intro X hX ret
    refine g_lv (lv' := [(0, .ref (G.2.2 192)), (1, .int a), (2, .int t)]) rfl ?_
    refine g_aload_n hX 0 dX6_tries_0 rfl ?_
    refine c_g_Main_0 hX i_X6_tries_wsX60 (List.mem_of_getElem? (i := 1) rfl) dX6_tries_1 ?_
    refine g_iload_n hX 1 dX6_tries_4 rfl ?_
    refine g_cvE hX (As := [.int a]) (rest := []) (c_X3_hasApplication l G z (x1 := a) ) k_X6_tries_X3_hasApplication rc_Office0 rfl rfl (Nat.le_of_ble_eq_true rfl) dX6_tries_5 ?_
    refine g_bi_ne hX 13 dX6_tries_8 (by decide) (fun c1 => ?_) (fun c1 => ?_)
    · -- jump 13
      have ha := appP_in hI c1
      refine g_iload_n hX 2 dX6_tries_13 rfl ?_
      refine g_iconst hX 1 dX6_tries_14 (by decide) ?_
      refine g_ic_lt hX 25 dX6_tries_15 (by decide) (fun c2 => ?_) (fun c2 => ?_)
      · -- jump 25
        refine g_bipush hX (-2) dX6_tries_25 (by decide) ?_
        refine ret _ _ _ _ dX6_tries_27 ?_
        first | (simp [cTries, c1, c2]; done) | (simp only [cTries]; rw [if_neg (by simp [c1, c2]), if_neg (by simp [c1, c2]), if_neg (by simp [c1, c2]), if_neg (by simp [c1, c2, ← Int32.not_lt]), ← hke, he]; exact ⟨rfl, rfl⟩) | grind [cTries]
      · -- on 18
        refine g_iload_n hX 2 dX6_tries_18 rfl ?_
        refine g_sipush hX 200 dX6_tries_19 (by decide) ?_
        refine g_ic_le hX 28 dX6_tries_22 (by decide) (fun c3 => ?_) (fun c3 => ?_)
        · -- jump 28
          have ht := tms_in c2 c3
          refine g_aload_n hX 0 dX6_tries_28 rfl ?_
          refine c_g_Main_0 hX i_X6_tries_wsX60 (List.mem_of_getElem? (i := 1) rfl) dX6_tries_29 ?_
          refine c_g_Office_6 hX i_X6_tries_wsX30 (List.mem_of_getElem? (i := 2) rfl) dX6_tries_32 ?_
          refine g_iload_n hX 1 dX6_tries_35 rfl ?_
          refine c_ld_applications hX (cn a) ha.1 ha.2.2 dX6_tries_36 ?_
          refine g_astore_n hX [(3, .ref (G.2.2 (24 + (cn a)))), (0, .ref (G.2.2 192)), (1, .int a), (2, .int t)] dX6_tries_37 (by decide) rfl ?_
          refine g_aload_n hX 0 dX6_tries_38 rfl ?_
          refine c_g_Application_5 hX ha.2.2 i_X6_tries_wsX00 (List.mem_of_getElem? (i := 3) rfl) dX6_tries_39 ?_
          refine g_if_ne hX 59 dX6_tries_42 (by decide) (fun c4 => ?_) (fun c4 => ?_)
          · -- jump 59
            refine g_bipush hX (-5) dX6_tries_59 (by decide) ?_
            refine ret _ _ _ _ dX6_tries_61 ?_
            first | (simp [cTries, c1, c2, c3, c4]; done) | (simp only [cTries]; rw [if_neg (by simp [c1, c2, c3, c4]), if_neg (by simp [c1, c2, c3, c4]), if_neg (by simp [c1, c2, c3, c4]), if_neg (by simp [c1, c2, c3, c4, ← Int32.not_lt]), ← hke, he]; exact ⟨rfl, rfl⟩) | grind [cTries]
          · -- on 45
            refine g_aload_n hX 1 dX6_tries_45 rfl ?_
            refine c_g_Main_0 hX i_X6_tries_wsX60 (List.mem_of_getElem? (i := 1) rfl) dX6_tries_46 ?_
            refine g_aload_n hX 0 dX6_tries_49 rfl ?_
            refine c_g_Application_2 hX ha.2.2 i_X6_tries_wsX00 (List.mem_of_getElem? (i := 4) rfl) dX6_tries_50 ?_
            refine g_cvE hX (As := [.int (z 13 (cn a))]) (rest := []) (c_X3_isOpen l G z (x1 := (z 13 (cn a))) ) k_X6_tries_X3_isOpen rc_Office0 rfl rfl (Nat.le_of_ble_eq_true rfl) dX6_tries_53 ?_
            refine g_bi_ne hX 62 dX6_tries_56 (by decide) (fun c5 => ?_) (fun c5 => ?_)
            · -- jump 62
              refine g_aload_n hX 1 dX6_tries_62 rfl ?_
              refine c_g_Main_3 hX i_X6_tries_wsX60 (List.mem_of_getElem? (i := 5) rfl) dX6_tries_63 ?_
              refine g_aload_n hX 1 dX6_tries_66 rfl ?_
              refine c_g_Main_0 hX i_X6_tries_wsX60 (List.mem_of_getElem? (i := 1) rfl) dX6_tries_67 ?_
              refine g_aload_n hX 0 dX6_tries_70 rfl ?_
              refine c_g_Application_1 hX ha.2.2 i_X6_tries_wsX00 (List.mem_of_getElem? (i := 6) rfl) dX6_tries_71 ?_
              refine g_aload_n hX 0 dX6_tries_74 rfl ?_
              refine c_g_Application_2 hX ha.2.2 i_X6_tries_wsX00 (List.mem_of_getElem? (i := 4) rfl) dX6_tries_75 ?_
              refine g_cvvE hX (As := [.ref (G.2.2 0), .int (z 12 (cn a)), .int (z 13 (cn a))]) (rest := []) (c_X2_enterAll l G hA z (r := (z 12 (cn a))) (d := (z 13 (cn a))) (hr := (by rw [(iR hI ha.2.1).1]; exact nI_m1 (by have := (iR hI ha.2.1).2; omega))) (hI := (by assumption))) k_X6_tries_X2_enterAll rc_Draw rfl rfl (Nat.le_of_ble_eq_true rfl) dX6_tries_78 ?_
              have h40 := (iNa hI).2
              have hyl : ∀ f, f < 61 → (enterK z (z 12 (cn a)) (z 13 (cn a)) (nA z)) f = z f := fun f hf => enterK_lo _ _ _ _ (by omega)
              have hyI : IO (enterK z (z 12 (cn a)) (z 13 (cn a)) (nA z)) := IO_of hI (fun f hf => hyl f (by omega))
              have hyn : nA (enterK z (z 12 (cn a)) (z 13 (cn a)) (nA z)) = nA z := nA_of (hyl 3 (by decide))
              have hyE : (enterK z (z 12 (cn a)) (z 13 (cn a)) (nA z)) 66 0 = nI (cn ((enterK z (z 12 (cn a)) (z 13 (cn a)) (nA z)) 66 0)) ∧ cn ((enterK z (z 12 (cn a)) (z 13 (cn a)) (nA z)) 66 0) ≤ 40 := by
                have h := enterK_E z (z 12 (cn a)) (z 13 (cn a)) (nA z) (by omega)
                exact ⟨h.1, by omega⟩
              refine g_aload_n hX 1 dX6_tries_81 rfl ?_
              refine c_g_Main_3 hX i_X6_tries_wsX60 (List.mem_of_getElem? (i := 5) rfl) dX6_tries_82 ?_
              refine g_iload_n hX 2 dX6_tries_85 rfl ?_
              refine g_cvE hX (As := [.int a]) (rest := []) (c_X2_entryOf l G (enterK z (z 12 (cn a)) (z 13 (cn a)) (nA z)) (x := a) (hE := hyE)) k_X6_tries_X2_entryOf rc_Draw rfl rfl (Nat.le_of_ble_eq_true rfl) dX6_tries_86 ?_
              refine g_istore hX [(4, .int (entOf (enterK z (z 12 (cn a)) (z 13 (cn a)) (nA z)) a)), (3, .ref (G.2.2 (24 + (cn a)))), (0, .ref (G.2.2 192)), (1, .int a), (2, .int t)] dX6_tries_89 (by decide) rfl ?_
              refine g_iload hX 0 dX6_tries_91 rfl ?_
              refine g_if_ge hX 98 dX6_tries_93 (by decide) (fun c6 => ?_) (fun c6 => ?_)
              · -- jump 98
                have hen := entOf_in (show ¬ entOf (enterK z (z 12 (cn a)) (z 13 (cn a)) (nA z)) a < 0 from by simpa using c6) (by omega)
                refine g_aload_n hX 2 dX6_tries_98 rfl ?_
                refine c_g_Main_0 hX i_X6_tries_wsX60 (List.mem_of_getElem? (i := 1) rfl) dX6_tries_99 ?_
                refine g_aload_n hX 1 dX6_tries_102 rfl ?_
                refine c_g_Application_1 hX ha.2.2 i_X6_tries_wsX00 (List.mem_of_getElem? (i := 6) rfl) dX6_tries_103 ?_
                refine g_top (z 12 (cn a)) (by rw [hyl 12 (by decide)]) ?_
                refine g_aload_n hX 1 dX6_tries_106 rfl ?_
                refine c_g_Application_2 hX ha.2.2 i_X6_tries_wsX00 (List.mem_of_getElem? (i := 4) rfl) dX6_tries_107 ?_
                refine g_top (z 13 (cn a)) (by rw [hyl 13 (by decide)]) ?_
                refine g_st (st2 := [.int (z 13 (cn a)), .int (nI (cn (z 12 (cn a)))), .ref (G.2.2 0)]) (by rw [← (show (z 12 (cn a)) = nI (cn (z 12 (cn a))) from (iR hI ha.2.1).1)]) ?_
                refine g_cvE hX (As := [.int (nI (cn (z 12 (cn a)))), .int (z 13 (cn a))]) (rest := []) (c_X3_placesForLottery l G (enterK z (z 12 (cn a)) (z 13 (cn a)) (nA z)) (q := (cn (z 12 (cn a)))) (d := (z 13 (cn a))) (hq := (iR hI ha.2.1).2) (hI := hyI)) k_X6_tries_X3_placesForLottery rc_Office0 rfl rfl (Nat.le_of_ble_eq_true rfl) dX6_tries_110 ?_
                refine g_top (leftP (enterK z (z 12 (cn a)) (z 13 (cn a)) (nA z)) (z 12 (cn a)) (z 13 (cn a))) (by rw [← (iR hI ha.2.1).1]) ?_
                refine g_istore hX [(5, .int (leftP (enterK z (z 12 (cn a)) (z 13 (cn a)) (nA z)) (z 12 (cn a)) (z 13 (cn a)))), (4, .int (entOf (enterK z (z 12 (cn a)) (z 13 (cn a)) (nA z)) a)), (3, .ref (G.2.2 (24 + (cn a)))), (0, .ref (G.2.2 192)), (1, .int a), (2, .int t)] dX6_tries_113 (by decide) rfl ?_
                refine g_aload_n hX 3 dX6_tries_115 rfl ?_
                refine c_g_Main_0 hX i_X6_tries_wsX60 (List.mem_of_getElem? (i := 1) rfl) dX6_tries_116 ?_
                refine c_g_Office_8 hX i_X6_tries_wsX30 (List.mem_of_getElem? (i := 7) rfl) dX6_tries_119 ?_
                refine g_iconst hX 5 dX6_tries_122 (by decide) ?_
                refine c_ld_settings hX 5 rfl (by decide) dX6_tries_123 ?_
                refine g_istore hX [(6, .int ((enterK z (z 12 (cn a)) (z 13 (cn a)) (nA z)) 4 5)), (5, .int (leftP (enterK z (z 12 (cn a)) (z 13 (cn a)) (nA z)) (z 12 (cn a)) (z 13 (cn a)))), (4, .int (entOf (enterK z (z 12 (cn a)) (z 13 (cn a)) (nA z)) a)), (3, .ref (G.2.2 (24 + (cn a)))), (0, .ref (G.2.2 192)), (1, .int a), (2, .int t)] dX6_tries_124 (by decide) rfl ?_
                refine g_iconst hX 0 dX6_tries_126 (by decide) ?_
                refine g_istore hX [(7, .int 0), (6, .int ((enterK z (z 12 (cn a)) (z 13 (cn a)) (nA z)) 4 5)), (5, .int (leftP (enterK z (z 12 (cn a)) (z 13 (cn a)) (nA z)) (z 12 (cn a)) (z 13 (cn a)))), (4, .int (entOf (enterK z (z 12 (cn a)) (z 13 (cn a)) (nA z)) a)), (3, .ref (G.2.2 (24 + (cn a)))), (0, .ref (G.2.2 192)), (1, .int a), (2, .int t)] dX6_tries_127 (by decide) rfl ?_
                refine g_iconst hX 0 dX6_tries_129 (by decide) ?_
                refine g_istore hX [(8, .int 0), (7, .int 0), (6, .int ((enterK z (z 12 (cn a)) (z 13 (cn a)) (nA z)) 4 5)), (5, .int (leftP (enterK z (z 12 (cn a)) (z 13 (cn a)) (nA z)) (z 12 (cn a)) (z 13 (cn a)))), (4, .int (entOf (enterK z (z 12 (cn a)) (z 13 (cn a)) (nA z)) a)), (3, .ref (G.2.2 (24 + (cn a)))), (0, .ref (G.2.2 192)), (1, .int a), (2, .int t)] dX6_tries_130 (by decide) rfl ?_
                have loop132 : ∀ (nf : Nat) (k : Nat) (y : St) (sd : Int32) (wn : Int32), (cn t < k + nf) → (k ≤ cn t) → (trK (enterK z (z 12 (cn a)) (z 13 (cn a)) (nA z)) (cn (entOf (enterK z (z 12 (cn a)) (z 13 (cn a)) (nA z)) a)) (leftP (enterK z (z 12 (cn a)) (z 13 (cn a)) (nA z)) (z 12 (cn a)) (z 13 (cn a))) k = (y, sd, wn)) → Go X (y) 132 [(0, .ref (G.2.2 192)), (1, .int a), (2, .int t), (3, .ref (G.2.2 (24 + (cn a)))), (4, .int (entOf (enterK z (z 12 (cn a)) (z 13 (cn a)) (nA z)) a)), (5, .int (leftP (enterK z (z 12 (cn a)) (z 13 (cn a)) (nA z)) (z 12 (cn a)) (z 13 (cn a)))), (6, .int sd), (7, .int wn), (8, .int (nI k))] [] := by
                  intro nf
                  induction nf with
                  | zero =>
                    intro k y sd wn hmu hk he
                    exfalso; omega
                  | succ nf ih =>
                    intro k y sd wn hmu hk he
                    have hlo : ∀ f, f ≠ 64 ∧ f ≠ 65 → y f = (enterK z (z 12 (cn a)) (z 13 (cn a)) (nA z)) f := fun f hf => by have h := trK_lo (enterK z (z 12 (cn a)) (z 13 (cn a)) (nA z)) (cn (entOf (enterK z (z 12 (cn a)) (z 13 (cn a)) (nA z)) a)) (leftP (enterK z (z 12 (cn a)) (z 13 (cn a)) (nA z)) (z 12 (cn a)) (z 13 (cn a))) k hf; rw [he] at h; exact h
                    refine g_iload hX 8 dX6_tries_132 rfl ?_
                    refine g_iload_n hX 2 dX6_tries_134 rfl ?_
                    refine g_ic_ge hX 173 dX6_tries_135 (by decide) (fun c7 => ?_) (fun c7 => ?_)
                    · -- jump 173
                      have hke : k = cn t := by
                        rw [ht.1] at c7; have := (nI_leI (by omega) (by omega)).mp c7; omega
                      refine g_iload hX 7 dX6_tries_173 rfl ?_
                      refine ret _ _ _ _ dX6_tries_175 ?_
                      first | (simp [cTries, c1, c2, c3, c4, c5, c6, c7]; done) | (simp only [cTries]; rw [if_neg (by simp [c1, c2, c3, c4, c5, c6, c7]), if_neg (by simp [c1, c2, c3, c4, c5, c6, c7]), if_neg (by simp [c1, c2, c3, c4, c5, c6, c7]), if_neg (by simp [c1, c2, c3, c4, c5, c6, c7, ← Int32.not_lt]), ← hke, he]; exact ⟨rfl, rfl⟩) | grind [cTries]
                    · -- on 138
                      have hkn : k < cn t := by
                        rw [ht.1] at c7; exact Nat.lt_of_not_le (fun q => c7 (nI_le q (by omega)))
                      refine g_aload_n hX 0 dX6_tries_138 rfl ?_
                      refine c_g_Main_3 hX i_X6_tries_wsX60 (List.mem_of_getElem? (i := 5) rfl) dX6_tries_139 ?_
                      refine g_iload hX 6 dX6_tries_142 rfl ?_
                      refine g_iload hX 5 dX6_tries_144 rfl ?_
                      refine g_cvE hX (As := [.int sd, .int (leftP (enterK z (z 12 (cn a)) (z 13 (cn a)) (nA z)) (z 12 (cn a)) (z 13 (cn a)))]) (rest := []) (c_X2_hold l G hA y (s := sd) (p := (leftP (enterK z (z 12 (cn a)) (z 13 (cn a)) (nA z)) (z 12 (cn a)) (z 13 (cn a)))) (hE := (by rw [hlo 66 (by decide)]; exact hyE))) k_X6_tries_X2_hold rc_Draw rfl rfl (Nat.le_of_ble_eq_true rfl) dX6_tries_146 ?_
                      refine g_istore hX [(6, .int ((hq y sd (leftP (enterK z (z 12 (cn a)) (z 13 (cn a)) (nA z)) (z 12 (cn a)) (z 13 (cn a))) (cn (y 66 0))).2.1)), (0, .ref (G.2.2 192)), (1, .int a), (2, .int t), (3, .ref (G.2.2 (24 + (cn a)))), (4, .int (entOf (enterK z (z 12 (cn a)) (z 13 (cn a)) (nA z)) a)), (5, .int (leftP (enterK z (z 12 (cn a)) (z 13 (cn a)) (nA z)) (z 12 (cn a)) (z 13 (cn a)))), (7, .int wn), (8, .int (nI k))] dX6_tries_149 (by decide) rfl ?_
                      refine g_aload_n hX 1 dX6_tries_151 rfl ?_
                      refine c_g_Main_3 hX i_X6_tries_wsX60 (List.mem_of_getElem? (i := 5) rfl) dX6_tries_152 ?_
                      refine c_g_Draw_4 hX i_X6_tries_wsX20 (List.mem_of_getElem? (i := 8) rfl) dX6_tries_155 ?_
                      refine g_iload hX 5 dX6_tries_158 rfl ?_
                      refine c_ld_won hX (cn (entOf (enterK z (z 12 (cn a)) (z 13 (cn a)) (nA z)) a)) hen.1 (by omega) dX6_tries_160 ?_
                      refine g_if_eq hX 167 dX6_tries_161 (by decide) (fun c8 => ?_) (fun c8 => ?_)
                      · -- jump 167
                        refine g_iinc hX (nI (k + 1)) 8 [(8, .int (nI (k + 1))), (6, .int ((hq y sd (leftP (enterK z (z 12 (cn a)) (z 13 (cn a)) (nA z)) (z 12 (cn a)) (z 13 (cn a))) (cn (y 66 0))).2.1)), (0, .ref (G.2.2 192)), (1, .int a), (2, .int t), (3, .ref (G.2.2 (24 + (cn a)))), (4, .int (entOf (enterK z (z 12 (cn a)) (z 13 (cn a)) (nA z)) a)), (5, .int (leftP (enterK z (z 12 (cn a)) (z 13 (cn a)) (nA z)) (z 12 (cn a)) (z 13 (cn a)))), (7, .int wn)] dX6_tries_167 rfl (nI_1 k) (by decide) rfl ?_
                        refine g_goto hX 132 dX6_tries_170 (by decide) ?_
                        -- back to 132
                        refine g_sub [2, 3, 4, 5, 6, 7, 1, 8, 0] [(0, .ref (G.2.2 192)), (1, .int a), (2, .int t), (3, .ref (G.2.2 (24 + (cn a)))), (4, .int (entOf (enterK z (z 12 (cn a)) (z 13 (cn a)) (nA z)) a)), (5, .int (leftP (enterK z (z 12 (cn a)) (z 13 (cn a)) (nA z)) (z 12 (cn a)) (z 13 (cn a)))), (6, .int ((hq y sd (leftP (enterK z (z 12 (cn a)) (z 13 (cn a)) (nA z)) (z 12 (cn a)) (z 13 (cn a))) (cn (y 66 0))).2.1)), (7, .int wn), (8, .int (nI (k + 1)))] rfl ?_
                        exact ih (k + 1) ((hq y sd (leftP (enterK z (z 12 (cn a)) (z 13 (cn a)) (nA z)) (z 12 (cn a)) (z 13 (cn a))) (cn (y 66 0))).1) ((hq y sd (leftP (enterK z (z 12 (cn a)) (z 13 (cn a)) (nA z)) (z 12 (cn a)) (z 13 (cn a))) (cn (y 66 0))).2.1) wn (by omega) (by omega) (by unfold trK; rw [he]; simp [c1, c2, c3, c4, c5, c6, c7, c8])
                      · -- on 164
                        refine g_iinc hX (wn + 1) 7 [(7, .int (wn + 1)), (6, .int ((hq y sd (leftP (enterK z (z 12 (cn a)) (z 13 (cn a)) (nA z)) (z 12 (cn a)) (z 13 (cn a))) (cn (y 66 0))).2.1)), (0, .ref (G.2.2 192)), (1, .int a), (2, .int t), (3, .ref (G.2.2 (24 + (cn a)))), (4, .int (entOf (enterK z (z 12 (cn a)) (z 13 (cn a)) (nA z)) a)), (5, .int (leftP (enterK z (z 12 (cn a)) (z 13 (cn a)) (nA z)) (z 12 (cn a)) (z 13 (cn a)))), (8, .int (nI k))] dX6_tries_164 rfl rfl (by decide) rfl ?_
                        refine g_iinc hX (nI (k + 1)) 8 [(8, .int (nI (k + 1))), (7, .int (wn + 1)), (6, .int ((hq y sd (leftP (enterK z (z 12 (cn a)) (z 13 (cn a)) (nA z)) (z 12 (cn a)) (z 13 (cn a))) (cn (y 66 0))).2.1)), (0, .ref (G.2.2 192)), (1, .int a), (2, .int t), (3, .ref (G.2.2 (24 + (cn a)))), (4, .int (entOf (enterK z (z 12 (cn a)) (z 13 (cn a)) (nA z)) a)), (5, .int (leftP (enterK z (z 12 (cn a)) (z 13 (cn a)) (nA z)) (z 12 (cn a)) (z 13 (cn a))))] dX6_tries_167 rfl (nI_1 k) (by decide) rfl ?_
                        refine g_goto hX 132 dX6_tries_170 (by decide) ?_
                        -- back to 132
                        refine g_sub [3, 4, 5, 6, 7, 8, 2, 1, 0] [(0, .ref (G.2.2 192)), (1, .int a), (2, .int t), (3, .ref (G.2.2 (24 + (cn a)))), (4, .int (entOf (enterK z (z 12 (cn a)) (z 13 (cn a)) (nA z)) a)), (5, .int (leftP (enterK z (z 12 (cn a)) (z 13 (cn a)) (nA z)) (z 12 (cn a)) (z 13 (cn a)))), (6, .int ((hq y sd (leftP (enterK z (z 12 (cn a)) (z 13 (cn a)) (nA z)) (z 12 (cn a)) (z 13 (cn a))) (cn (y 66 0))).2.1)), (7, .int (wn + 1)), (8, .int (nI (k + 1)))] rfl ?_
                        exact ih (k + 1) ((hq y sd (leftP (enterK z (z 12 (cn a)) (z 13 (cn a)) (nA z)) (z 12 (cn a)) (z 13 (cn a))) (cn (y 66 0))).1) ((hq y sd (leftP (enterK z (z 12 (cn a)) (z 13 (cn a)) (nA z)) (z 12 (cn a)) (z 13 (cn a))) (cn (y 66 0))).2.1) (wn + 1) (by omega) (by omega) (by unfold trK; rw [he]; simp [c1, c2, c3, c4, c5, c6, c7, c8])
                refine g_sub [6, 7, 8, 5, 4, 3, 2, 1, 0] [(0, .ref (G.2.2 192)), (1, .int a), (2, .int t), (3, .ref (G.2.2 (24 + (cn a)))), (4, .int (entOf (enterK z (z 12 (cn a)) (z 13 (cn a)) (nA z)) a)), (5, .int (leftP (enterK z (z 12 (cn a)) (z 13 (cn a)) (nA z)) (z 12 (cn a)) (z 13 (cn a)))), (6, .int ((enterK z (z 12 (cn a)) (z 13 (cn a)) (nA z)) 4 5)), (7, .int 0), (8, .int 0)] rfl ?_
                exact loop132 (cn t + 1) 0 (enterK z (z 12 (cn a)) (z 13 (cn a)) (nA z)) ((enterK z (z 12 (cn a)) (z 13 (cn a)) (nA z)) 4 5) 0 (by omega) (Nat.zero_le _) rfl
              · -- on 96
                refine g_iconst hX 0 dX6_tries_96 (by decide) ?_
                refine ret _ _ _ _ dX6_tries_97 ?_
                first | (simp [cTries, c1, c2, c3, c4, c5, c6]; done) | (simp only [cTries]; rw [if_neg (by simp [c1, c2, c3, c4, c5, c6]), if_neg (by simp [c1, c2, c3, c4, c5, c6]), if_neg (by simp [c1, c2, c3, c4, c5, c6]), if_neg (by simp [c1, c2, c3, c4, c5, c6, ← Int32.not_lt]), ← hke, he]; exact ⟨rfl, rfl⟩) | grind [cTries]
            · -- on 59
              refine g_bipush hX (-5) dX6_tries_59 (by decide) ?_
              refine ret _ _ _ _ dX6_tries_61 ?_
              first | (simp [cTries, c1, c2, c3, c4, c5]; done) | (simp only [cTries]; rw [if_neg (by simp [c1, c2, c3, c4, c5]), if_neg (by simp [c1, c2, c3, c4, c5]), if_neg (by simp [c1, c2, c3, c4, c5]), if_neg (by simp [c1, c2, c3, c4, c5, ← Int32.not_lt]), ← hke, he]; exact ⟨rfl, rfl⟩) | grind [cTries]
        · -- on 25
          refine g_bipush hX (-2) dX6_tries_25 (by decide) ?_
          refine ret _ _ _ _ dX6_tries_27 ?_
          first | (simp [cTries, c1, c2, c3]; done) | (simp only [cTries]; rw [if_neg (by simp [c1, c2, c3]), if_neg (by simp [c1, c2, c3]), if_neg (by simp [c1, c2, c3]), if_neg (by simp [c1, c2, c3, ← Int32.not_lt]), ← hke, he]; exact ⟨rfl, rfl⟩) | grind [cTries]
    · -- on 11
      refine g_iconst hX (-1) dX6_tries_11 (by decide) ?_
      refine ret _ _ _ _ dX6_tries_12 ?_
      first | (simp [cTries, c1]; done) | (simp only [cTries]; rw [if_neg (by simp [c1]), if_neg (by simp [c1]), if_neg (by simp [c1]), if_neg (by simp [c1, ← Int32.not_lt]), ← hke, he]; exact ⟨rfl, rfl⟩) | grind [cTries]
