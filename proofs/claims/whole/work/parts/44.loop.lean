theorem kL_X6_route : CW room_1 wsL_law RL RX6 13 yX6_route cX6_route 3 (some .int) wsX6_route rm_X6_route 2 := ⟨gL_law_X6_route, ⟨_, rfl⟩, rfl, rfl, ⟨rfl, by decide +kernel, by decide +kernel, by decide +kernel⟩, by decide, by decide⟩
theorem kL_X7_route : CW room_1 wsL_law RL RX7 17 yX7_route cX7_route 3 (some .int) wsX7_route rm_X7_route 2 := ⟨gL_law_X7_route, ⟨_, rfl⟩, rfl, rfl, ⟨rfl, by decide +kernel, by decide +kernel, by decide +kernel⟩, by decide, by decide⟩
theorem kL_X6_buffer : CW room_1 wsL_law RL RX6 18 yX6_buffer cX6_buffer 5 (some .int) wsX6_buffer rm_X6_buffer 2 := ⟨gL_law_X6_buffer, ⟨_, rfl⟩, rfl, rfl, ⟨rfl, by decide +kernel, by decide +kernel, by decide +kernel⟩, by decide, by decide⟩
theorem kL_X7_buffer : CW room_1 wsL_law RL RX7 21 yX7_buffer cX7_buffer 4 (some .int) wsX7_buffer rm_X7_buffer 2 := ⟨gL_law_X7_buffer, ⟨_, rfl⟩, rfl, rfl, ⟨rfl, by decide +kernel, by decide +kernel, by decide +kernel⟩, by decide, by decide⟩
theorem kL_X6_join : CW room_1 wsL_law RL RX6 22 yX6_join cX6_join 1 (some .int) wsX6_join rm_X6_join 0 := ⟨gL_law_X6_join, ⟨_, rfl⟩, rfl, rfl, ⟨rfl, by decide +kernel, by decide +kernel, by decide +kernel⟩, by decide, by decide⟩
theorem kL_X7_join : CW room_1 wsL_law RL RX7 26 yX7_join cX7_join 2 (some .int) wsX7_join rm_X7_join 0 := ⟨gL_law_X7_join, ⟨_, rfl⟩, rfl, rfl, ⟨rfl, by decide +kernel, by decide +kernel, by decide +kernel⟩, by decide, by decide⟩
theorem kL_X6_set : CW room_1 wsL_law RL RX6 27 yX6_set cX6_set 4 (some .int) wsX6_set rm_X6_set 2 := ⟨gL_law_X6_set, ⟨_, rfl⟩, rfl, rfl, ⟨rfl, by decide +kernel, by decide +kernel, by decide +kernel⟩, by decide, by decide⟩
theorem kL_X7_set : CW room_1 wsL_law RL RX7 30 yX7_set cX7_set 4 (some .int) wsX7_set rm_X7_set 2 := ⟨gL_law_X7_set, ⟨_, rfl⟩, rfl, rfl, ⟨rfl, by decide +kernel, by decide +kernel, by decide +kernel⟩, by decide, by decide⟩
theorem kL_X6_apply : CW room_1 wsL_law RL RX6 31 yX6_apply cX6_apply 5 (some .int) wsX6_apply rm_X6_apply 4 := ⟨gL_law_X6_apply, ⟨_, rfl⟩, rfl, rfl, ⟨rfl, by decide +kernel, by decide +kernel, by decide +kernel⟩, by decide, by decide⟩
theorem kL_X7_apply : CW room_1 wsL_law RL RX7 35 yX7_apply cX7_apply 6 (some .int) wsX7_apply rm_X7_apply 4 := ⟨gL_law_X7_apply, ⟨_, rfl⟩, rfl, rfl, ⟨rfl, by decide +kernel, by decide +kernel, by decide +kernel⟩, by decide, by decide⟩
theorem kL_X6_lottery : CW room_1 wsL_law RL RX6 36 yX6_lottery cX6_lottery 3 (some .int) wsX6_lottery rm_X6_lottery 2 := ⟨gL_law_X6_lottery, ⟨_, rfl⟩, rfl, rfl, ⟨rfl, by decide +kernel, by decide +kernel, by decide +kernel⟩, by decide, by decide⟩
theorem kL_X7_lottery : CW room_1 wsL_law RL RX7 39 yX7_lottery cX7_lottery 3 (some .int) wsX7_lottery rm_X7_lottery 2 := ⟨gL_law_X7_lottery, ⟨_, rfl⟩, rfl, rfl, ⟨rfl, by decide +kernel, by decide +kernel, by decide +kernel⟩, by decide, by decide⟩
theorem kL_X6_cancel : CW room_1 wsL_law RL RX6 40 yX6_cancel cX6_cancel 4 (some .int) wsX6_cancel rm_X6_cancel 1 := ⟨gL_law_X6_cancel, ⟨_, rfl⟩, rfl, rfl, ⟨rfl, by decide +kernel, by decide +kernel, by decide +kernel⟩, by decide, by decide⟩
theorem kL_X7_cancel : CW room_1 wsL_law RL RX7 44 yX7_cancel cX7_cancel 5 (some .int) wsX7_cancel rm_X7_cancel 1 := ⟨gL_law_X7_cancel, ⟨_, rfl⟩, rfl, rfl, ⟨rfl, by decide +kernel, by decide +kernel, by decide +kernel⟩, by decide, by decide⟩
theorem kL_X6_close : CW room_1 wsL_law RL RX6 45 yX6_close cX6_close 3 (some .int) wsX6_close rm_X6_close 1 := ⟨gL_law_X6_close, ⟨_, rfl⟩, rfl, rfl, ⟨rfl, by decide +kernel, by decide +kernel, by decide +kernel⟩, by decide, by decide⟩
theorem kL_X7_close : CW room_1 wsL_law RL RX7 48 yX7_close cX7_close 5 (some .int) wsX7_close rm_X7_close 1 := ⟨gL_law_X7_close, ⟨_, rfl⟩, rfl, rfl, ⟨rfl, by decide +kernel, by decide +kernel, by decide +kernel⟩, by decide, by decide⟩
theorem kL_X6_standby : CW room_1 wsL_law RL RX6 49 yX6_standby cX6_standby 3 (some .int) wsX6_standby rm_X6_standby 1 := ⟨gL_law_X6_standby, ⟨_, rfl⟩, rfl, rfl, ⟨rfl, by decide +kernel, by decide +kernel, by decide +kernel⟩, by decide, by decide⟩
theorem kL_X7_standby : CW room_1 wsL_law RL RX7 52 yX7_standby cX7_standby 5 (some .int) wsX7_standby rm_X7_standby 1 := ⟨gL_law_X7_standby, ⟨_, rfl⟩, rfl, rfl, ⟨rfl, by decide +kernel, by decide +kernel, by decide +kernel⟩, by decide, by decide⟩
theorem kL_X6_show : CW room_1 wsL_law RL RX6 53 yX6_show cX6_show 3 (some .int) wsX6_show rm_X6_show 1 := ⟨gL_law_X6_show, ⟨_, rfl⟩, rfl, rfl, ⟨rfl, by decide +kernel, by decide +kernel, by decide +kernel⟩, by decide, by decide⟩
theorem kL_X7_show : CW room_1 wsL_law RL RX7 56 yX7_show cX7_show 2 (some .int) wsX7_show rm_X7_show 1 := ⟨gL_law_X7_show, ⟨_, rfl⟩, rfl, rfl, ⟨rfl, by decide +kernel, by decide +kernel, by decide +kernel⟩, by decide, by decide⟩
theorem kL_X6_end : CW room_1 wsL_law RL RX6 57 yX6_end cX6_end 2 (some .int) wsX6_end rm_X6_end 0 := ⟨gL_law_X6_end, ⟨_, rfl⟩, rfl, rfl, ⟨rfl, by decide +kernel, by decide +kernel, by decide +kernel⟩, by decide, by decide⟩
theorem kL_X7_end : CW room_1 wsL_law RL RX7 60 yX7_end cX7_end 4 (some .int) wsX7_end rm_X7_end 0 := ⟨gL_law_X7_end, ⟨_, rfl⟩, rfl, rfl, ⟨rfl, by decide +kernel, by decide +kernel, by decide +kernel⟩, by decide, by decide⟩
theorem kL_X6_onRoute : CW room_1 wsL_law RL RX6 61 yX6_onRoute cX6_onRoute 4 (some .int) wsX6_onRoute rm_X6_onRoute 3 := ⟨gL_law_X6_onRoute, ⟨_, rfl⟩, rfl, rfl, ⟨rfl, by decide +kernel, by decide +kernel, by decide +kernel⟩, by decide, by decide⟩
theorem kL_X7_onRoute : CW room_1 wsL_law RL RX7 65 yX7_onRoute cX7_onRoute 4 (some .int) wsX7_onRoute rm_X7_onRoute 3 := ⟨gL_law_X7_onRoute, ⟨_, rfl⟩, rfl, rfl, ⟨rfl, by decide +kernel, by decide +kernel, by decide +kernel⟩, by decide, by decide⟩
theorem kL_X6_climber : CW room_1 wsL_law RL RX6 66 yX6_climber cX6_climber 3 (some .int) wsX6_climber rm_X6_climber 2 := ⟨gL_law_X6_climber, ⟨_, rfl⟩, rfl, rfl, ⟨rfl, by decide +kernel, by decide +kernel, by decide +kernel⟩, by decide, by decide⟩
theorem kL_X7_climber : CW room_1 wsL_law RL RX7 69 yX7_climber cX7_climber 3 (some .int) wsX7_climber rm_X7_climber 2 := ⟨gL_law_X7_climber, ⟨_, rfl⟩, rfl, rfl, ⟨rfl, by decide +kernel, by decide +kernel, by decide +kernel⟩, by decide, by decide⟩
theorem kL_X6_application : CW room_1 wsL_law RL RX6 70 yX6_application cX6_application 4 (some .int) wsX6_application rm_X6_application 2 := ⟨gL_law_X6_application, ⟨_, rfl⟩, rfl, rfl, ⟨rfl, by decide +kernel, by decide +kernel, by decide +kernel⟩, by decide, by decide⟩
theorem kL_X7_application : CW room_1 wsL_law RL RX7 73 yX7_application cX7_application 3 (some .int) wsX7_application rm_X7_application 2 := ⟨gL_law_X7_application, ⟨_, rfl⟩, rfl, rfl, ⟨rfl, by decide +kernel, by decide +kernel, by decide +kernel⟩, by decide, by decide⟩
theorem kL_X6_count : CW room_1 wsL_law RL RX6 74 yX6_count cX6_count 2 (some .int) wsX6_count rm_X6_count 1 := ⟨gL_law_X6_count, ⟨_, rfl⟩, rfl, rfl, ⟨rfl, by decide +kernel, by decide +kernel, by decide +kernel⟩, by decide, by decide⟩
theorem kL_X7_count : CW room_1 wsL_law RL RX7 77 yX7_count cX7_count 2 (some .int) wsX7_count rm_X7_count 1 := ⟨gL_law_X7_count, ⟨_, rfl⟩, rfl, rfl, ⟨rfl, by decide +kernel, by decide +kernel, by decide +kernel⟩, by decide, by decide⟩
theorem kL_X6_nextWaiting : CW room_1 wsL_law RL RX6 78 yX6_nextWaiting cX6_nextWaiting 3 (some .int) wsX6_nextWaiting rm_X6_nextWaiting 2 := ⟨gL_law_X6_nextWaiting, ⟨_, rfl⟩, rfl, rfl, ⟨rfl, by decide +kernel, by decide +kernel, by decide +kernel⟩, by decide, by decide⟩
theorem kL_X7_nextWaiting : CW room_1 wsL_law RL RX7 81 yX7_nextWaiting cX7_nextWaiting 3 (some .int) wsX7_nextWaiting rm_X7_nextWaiting 2 := ⟨gL_law_X7_nextWaiting, ⟨_, rfl⟩, rfl, rfl, ⟨rfl, by decide +kernel, by decide +kernel, by decide +kernel⟩, by decide, by decide⟩
theorem kL_X6_odds : CW room_1 wsL_law RL RX6 82 yX6_odds cX6_odds 4 (some .int) wsX6_odds rm_X6_odds 1 := ⟨gL_law_X6_odds, ⟨_, rfl⟩, rfl, rfl, ⟨rfl, by decide +kernel, by decide +kernel, by decide +kernel⟩, by decide, by decide⟩
theorem kL_X7_odds : CW room_1 wsL_law RL RX7 85 yX7_odds cX7_odds 6 (some .int) wsX7_odds rm_X7_odds 1 := ⟨gL_law_X7_odds, ⟨_, rfl⟩, rfl, rfl, ⟨rfl, by decide +kernel, by decide +kernel, by decide +kernel⟩, by decide, by decide⟩
theorem kL_X6_tries : CW room_1 wsL_law RL RX6 86 yX6_tries cX6_tries 9 (some .int) wsX6_tries rm_X6_tries 2 := ⟨gL_law_X6_tries, ⟨_, rfl⟩, rfl, rfl, ⟨rfl, by decide +kernel, by decide +kernel, by decide +kernel⟩, by decide, by decide⟩
theorem kL_X7_tries : CW room_1 wsL_law RL RX7 89 yX7_tries cX7_tries 8 (some .int) wsX7_tries rm_X7_tries 2 := ⟨gL_law_X7_tries, ⟨_, rfl⟩, rfl, rfl, ⟨rfl, by decide +kernel, by decide +kernel, by decide +kernel⟩, by decide, by decide⟩
theorem kL_X6_put : CW room_1 wsL_law RL RX6 92 yX6_put cX6_put 4 (some .int) wsX6_put rm_X6_put 1 := ⟨gL_law_X6_put, ⟨_, rfl⟩, rfl, rfl, ⟨rfl, by decide +kernel, by decide +kernel, by decide +kernel⟩, by decide, by decide⟩
theorem kL_X7_put : CW room_1 wsL_law RL RX7 96 yX7_put cX7_put 7 (some .int) wsX7_put rm_X7_put 1 := ⟨gL_law_X7_put, ⟨_, rfl⟩, rfl, rfl, ⟨rfl, by decide +kernel, by decide +kernel, by decide +kernel⟩, by decide, by decide⟩
theorem kL_X6_wipe : CW room_1 wsL_law RL RX6 97 yX6_wipe cX6_wipe 2 (some .int) wsX6_wipe rm_X6_wipe 0 := ⟨gL_law_X6_wipe, ⟨_, rfl⟩, rfl, rfl, ⟨rfl, by decide +kernel, by decide +kernel, by decide +kernel⟩, by decide, by decide⟩
theorem kL_X7_wipe : CW room_1 wsL_law RL RX7 100 yX7_wipe cX7_wipe 2 (some .int) wsX7_wipe rm_X7_wipe 0 := ⟨gL_law_X7_wipe, ⟨_, rfl⟩, rfl, rfl, ⟨rfl, by decide +kernel, by decide +kernel, by decide +kernel⟩, by decide, by decide⟩
theorem kL_X6_fault : CW room_1 wsL_law RL RX6 101 yX6_fault cX6_fault 1 (some .int) wsX6_fault rm_X6_fault 0 := ⟨gL_law_X6_fault, ⟨_, rfl⟩, rfl, rfl, ⟨rfl, by decide +kernel, by decide +kernel, by decide +kernel⟩, by decide, by decide⟩
theorem kL_X7_fault : CW room_1 wsL_law RL RX7 104 yX7_fault cX7_fault 1 (some .int) wsX7_fault rm_X7_fault 0 := ⟨gL_law_X7_fault, ⟨_, rfl⟩, rfl, rfl, ⟨rfl, by decide +kernel, by decide +kernel, by decide +kernel⟩, by decide, by decide⟩
theorem kL_X6_load : CW room_1 wsL_law RL RX6 105 yX6_load cX6_load 4 (some .int) wsX6_load rm_X6_load 0 := ⟨gL_law_X6_load, ⟨_, rfl⟩, rfl, rfl, ⟨rfl, by decide +kernel, by decide +kernel, by decide +kernel⟩, by decide, by decide⟩
theorem kL_X7_load : CW room_1 wsL_law RL RX7 108 yX7_load cX7_load 3 (some .int) wsX7_load rm_X7_load 0 := ⟨gL_law_X7_load, ⟨_, rfl⟩, rfl, rfl, ⟨rfl, by decide +kernel, by decide +kernel, by decide +kernel⟩, by decide, by decide⟩
theorem kL_X6_save : CW room_1 wsL_law RL RX6 109 yX6_save cX6_save 2 (some .int) wsX6_save rm_X6_save 1 := ⟨gL_law_X6_save, ⟨_, rfl⟩, rfl, rfl, ⟨rfl, by decide +kernel, by decide +kernel, by decide +kernel⟩, by decide, by decide⟩
theorem kL_X7_save : CW room_1 wsL_law RL RX7 112 yX7_save cX7_save 3 (some .int) wsX7_save rm_X7_save 1 := ⟨gL_law_X7_save, ⟨_, rfl⟩, rfl, rfl, ⟨rfl, by decide +kernel, by decide +kernel, by decide +kernel⟩, by decide, by decide⟩
theorem kL_X6_restore : CW room_1 wsL_law RL RX6 113 yX6_restore cX6_restore 2 (some .int) wsX6_restore rm_X6_restore 1 := ⟨gL_law_X6_restore, ⟨_, rfl⟩, rfl, rfl, ⟨rfl, by decide +kernel, by decide +kernel, by decide +kernel⟩, by decide, by decide⟩
theorem kL_X7_restore : CW room_1 wsL_law RL RX7 116 yX7_restore cX7_restore 3 (some .int) wsX7_restore rm_X7_restore 1 := ⟨gL_law_X7_restore, ⟨_, rfl⟩, rfl, rfl, ⟨rfl, by decide +kernel, by decide +kernel, by decide +kernel⟩, by decide, by decide⟩
theorem PairOK.un {B : Nat} {F : Int32 × St} {r : Int32} {y : St} (h : PairOK B F (r, y)) : F.1 = r ∧ Inv (comb F.2 y) B ∧ ∀ f, Sh f → F.2 f = y f := h
theorem PairOK.un2 {B : Nat} {r q : Int32} {x y : St} (h : PairOK B (r, x) (q, y)) : r = q ∧ Inv (comb x y) B ∧ ∀ f, Sh f → x f = y f := h
set_option maxHeartbeats 8000000 in
set_option maxRecDepth 100000 in
theorem law_loop {X : GC} {l : Launch} {G Gm : MG} {A : Nat → Prop} {b L : Nat} {xs : Nat → Int32} (hX : HL X l cL_law 4 wsL_law RL G Gm A b L xs) (hA1 : Ap 203 G.2.2) (hA2 : Ap 9 Gm.2.2) (hL : L ≤ 2560) (ret : ∀ (z : St) (lv : List (Nat × Value)), decode cL_law 813 = .ok (.ireturn, 1) → GL X G Gm z z 813 lv [.int 1]) : ∀ (nf i : Nat) (z : St), L < i + nf → i ≤ L → Inv z (20 * i) → GL X G Gm z z 18 [(0, .ref b), (1, .ref (G.2.2 192)), (2, .ref (Gm.2.2 0)), (3, .int (nI i))] [] := by
  intro nf
  induction nf with
  | zero => intro i z h1 h2; omega
  | succ nf ih =>
    intro i z h1 h2 hV
    have hP := hV.1
    have hO := hV.2.1
    have h18 := hV.2.2.1
    have h7 := hV.2.2.2.1
    have hI := hO.io
    have hB : 20 * i ≤ 100000 := by omega
    refine l_iload_n hX 3 dL_law_18 rfl ?_
    refine l_aload_n hX 0 dL_law_19 rfl ?_
    refine l_slen hX dL_law_20 ?_
    refine l_iconst hX 5 dL_law_21 (by decide) ?_
    refine l_isub hX dL_law_22 ?_
    have eL : (nI L - 5).toInt = (L : Int) - 5 := pk_sub_toInt (a := L) (b := 5) (by omega) (by decide)
    have ei : (nI i).toInt = (i : Int) := nI_toInt (by omega)
    refine l_ic_gt hX 812 dL_law_23 (by decide) (fun c1 => ?_) (fun c1 => ?_)
    · refine l_iconst hX 1 dL_law_812 (by decide) ?_
      exact ret z _ dL_law_813
    · have hi5 : i + 5 ≤ L := by
        have := Int32.le_iff_toInt_le.mp (Int32.not_lt.mp c1)
        rw [eL, ei] at this
        omega
      refine l_aload_n hX 0 dL_law_26 rfl ?_
      refine l_iload_n hX 3 dL_law_27 rfl ?_
      refine l_sld hX i rfl (by omega) (by omega) dL_law_28 ?_
      refine l_bipush hX 31 dL_law_29 (by decide) ?_
      refine l_iand hX dL_law_31 ?_
      generalize xs i &&& 31 = w
      have hw : w = 0 ∨ w = 1 ∨ w = 2 ∨ w = 3 ∨ w = 4 ∨ w = 5 ∨ w = 6 ∨ w = 7 ∨ w = 8 ∨ w = 9 ∨ w = 10 ∨ w = 11 ∨ w = 12 ∨ w = 13 ∨ w = 14 ∨ w = 15 ∨ w = 16 ∨ w = 17 ∨ w = 18 ∨ w = 19 ∨ w = 20 ∨ w = 21 ∨ w = 22 ∨ w = 23 ∨ (w.toInt < 0 ∨ 23 < w.toInt) := by
        have e0 : (0 : Int32).toInt = 0 := by decide
        have e1 : (1 : Int32).toInt = 1 := by decide
        have e2 : (2 : Int32).toInt = 2 := by decide
        have e3 : (3 : Int32).toInt = 3 := by decide
        have e4 : (4 : Int32).toInt = 4 := by decide
        have e5 : (5 : Int32).toInt = 5 := by decide
        have e6 : (6 : Int32).toInt = 6 := by decide
        have e7 : (7 : Int32).toInt = 7 := by decide
        have e8 : (8 : Int32).toInt = 8 := by decide
        have e9 : (9 : Int32).toInt = 9 := by decide
        have e10 : (10 : Int32).toInt = 10 := by decide
        have e11 : (11 : Int32).toInt = 11 := by decide
        have e12 : (12 : Int32).toInt = 12 := by decide
        have e13 : (13 : Int32).toInt = 13 := by decide
        have e14 : (14 : Int32).toInt = 14 := by decide
        have e15 : (15 : Int32).toInt = 15 := by decide
        have e16 : (16 : Int32).toInt = 16 := by decide
        have e17 : (17 : Int32).toInt = 17 := by decide
        have e18 : (18 : Int32).toInt = 18 := by decide
        have e19 : (19 : Int32).toInt = 19 := by decide
        have e20 : (20 : Int32).toInt = 20 := by decide
        have e21 : (21 : Int32).toInt = 21 := by decide
        have e22 : (22 : Int32).toInt = 22 := by decide
        have e23 : (23 : Int32).toInt = 23 := by decide
        simp only [← Int32.toInt_inj]
        omega
      have fin : ∀ zc zm : St, (∀ f, Sh f → zc f = zm f) → Inv (comb zc zm) (20 * i + 100) → GL X G Gm zc zm 806 [(0, .ref b), (1, .ref (G.2.2 192)), (2, .ref (Gm.2.2 0)), (3, .int (nI i))] [] := by
        intro zc zm hS hV2
        refine l_comb hS ?_
        refine l_iinc hX (nI (i + 5)) 3 [(3, .int (nI (i + 5))), (0, .ref b), (1, .ref (G.2.2 192)), (2, .ref (Gm.2.2 0))] dL_law_806 rfl (nI_add i 5) (by decide) rfl ?_
        refine l_goto hX 18 dL_law_809 (by decide) ?_
        refine l_sub [1, 2, 3, 0] [(0, .ref b), (1, .ref (G.2.2 192)), (2, .ref (Gm.2.2 0)), (3, .int (nI (i + 5)))] rfl ?_
        exact ih (i + 5) _ (by omega) (by omega) (by rw [show 20 * (i + 5) = 20 * i + 100 from by omega]; exact hV2)
      rcases hw with rfl | rfl | rfl | rfl | rfl | rfl | rfl | rfl | rfl | rfl | rfl | rfl | rfl | rfl | rfl | rfl | rfl | rfl | rfl | rfl | rfl | rfl | rfl | rfl | hw
      · refine l_tabIn hX (off := 112) 144 dL_law_32 (by decide) (by decide) rfl (by decide) ?_
        -- route
        refine l_aload_n hX 1 dL_law_144 rfl ?_
        refine l_aload_n hX 0 dL_law_145 rfl ?_
        refine l_iload_n hX 3 dL_law_146 rfl ?_
        refine l_iconst hX 1 dL_law_147 (by decide) ?_
        refine l_iadd hX dL_law_148 ?_
        refine l_top (nI (i + 1)) (nI_add i 1) ?_
        refine l_sld hX (i + 1) rfl (by omega) (by omega) dL_law_149 ?_
        refine l_aload_n hX 0 dL_law_150 rfl ?_
        refine l_iload_n hX 3 dL_law_151 rfl ?_
        refine l_iconst hX 2 dL_law_152 (by decide) ?_
        refine l_iadd hX dL_law_153 ?_
        refine l_top (nI (i + 2)) (nI_add i 2) ?_
        refine l_sld hX (i + 2) rfl (by omega) (by omega) dL_law_154 ?_
        refine l_cc hX (As := [.int (xs (i + 1)), .int (xs (i + 2))]) (rest := []) (c_X6_route l G hA1 z (x := (xs (i + 1))) (y := (xs (i + 2))) (hI := hI)) kL_X6_route rfl rfl (Nat.le_of_ble_eq_true rfl) dL_law_155 ?_
        refine l_aload_n hX 2 dL_law_158 rfl ?_
        refine l_aload_n hX 0 dL_law_159 rfl ?_
        refine l_iload_n hX 3 dL_law_160 rfl ?_
        refine l_iconst hX 1 dL_law_161 (by decide) ?_
        refine l_iadd hX dL_law_162 ?_
        refine l_top (nI (i + 1)) (nI_add i 1) ?_
        refine l_sld hX (i + 1) rfl (by omega) (by omega) dL_law_163 ?_
        refine l_aload_n hX 0 dL_law_164 rfl ?_
        refine l_iload_n hX 3 dL_law_165 rfl ?_
        refine l_iconst hX 2 dL_law_166 (by decide) ?_
        refine l_iadd hX dL_law_167 ?_
        refine l_top (nI (i + 2)) (nI_add i 2) ?_
        refine l_sld hX (i + 2) rfl (by omega) (by omega) dL_law_168 ?_
        refine l_cm hX (As := [.int (xs (i + 1)), .int (xs (i + 2))]) (rest := [.int ((spRoute z (xs (i + 1)) (xs (i + 2))).1)]) (c_X7_route l Gm hA2 z (x := (xs (i + 1))) (y := (xs (i + 2))) (hI := hI)) kL_X7_route rfl rfl (Nat.le_of_ble_eq_true rfl) dL_law_169 ?_
        have hp := pair_route hV (xs (i + 1)) (xs (i + 2))
        refine l_ic_eq hX 806 dL_law_172 (by decide) (fun _ => ?_) (fun c => ?_)
        · exact fin _ _ hp.2.2 hp.2.1
        · exact absurd hp.1 c
      · refine l_tabIn hX (off := 145) 177 dL_law_32 (by decide) (by decide) rfl (by decide) ?_
        -- buffer
        refine l_aload_n hX 1 dL_law_177 rfl ?_
        refine l_aload_n hX 0 dL_law_178 rfl ?_
        refine l_iload_n hX 3 dL_law_179 rfl ?_
        refine l_iconst hX 1 dL_law_180 (by decide) ?_
        refine l_iadd hX dL_law_181 ?_
        refine l_top (nI (i + 1)) (nI_add i 1) ?_
        refine l_sld hX (i + 1) rfl (by omega) (by omega) dL_law_182 ?_
        refine l_aload_n hX 0 dL_law_183 rfl ?_
        refine l_iload_n hX 3 dL_law_184 rfl ?_
        refine l_iconst hX 2 dL_law_185 (by decide) ?_
        refine l_iadd hX dL_law_186 ?_
        refine l_top (nI (i + 2)) (nI_add i 2) ?_
        refine l_sld hX (i + 2) rfl (by omega) (by omega) dL_law_187 ?_
        refine l_cc hX (As := [.int (xs (i + 1)), .int (xs (i + 2))]) (rest := []) (c_X6_buffer l G hA1 z (x := (xs (i + 1))) (y := (xs (i + 2))) (hI := hI)) kL_X6_buffer rfl rfl (Nat.le_of_ble_eq_true rfl) dL_law_188 ?_
        refine l_aload_n hX 2 dL_law_191 rfl ?_
        refine l_aload_n hX 0 dL_law_192 rfl ?_
        refine l_iload_n hX 3 dL_law_193 rfl ?_
        refine l_iconst hX 1 dL_law_194 (by decide) ?_
        refine l_iadd hX dL_law_195 ?_
        refine l_top (nI (i + 1)) (nI_add i 1) ?_
        refine l_sld hX (i + 1) rfl (by omega) (by omega) dL_law_196 ?_
        refine l_aload_n hX 0 dL_law_197 rfl ?_
        refine l_iload_n hX 3 dL_law_198 rfl ?_
        refine l_iconst hX 2 dL_law_199 (by decide) ?_
        refine l_iadd hX dL_law_200 ?_
        refine l_top (nI (i + 2)) (nI_add i 2) ?_
        refine l_sld hX (i + 2) rfl (by omega) (by omega) dL_law_201 ?_
        refine l_cm hX (As := [.int (xs (i + 1)), .int (xs (i + 2))]) (rest := [.int ((spBuffer z (xs (i + 1)) (xs (i + 2))).1)]) (c_X7_buffer l Gm hA2 z (x := (xs (i + 1))) (y := (xs (i + 2))) (hI := hI)) kL_X7_buffer rfl rfl (Nat.le_of_ble_eq_true rfl) dL_law_202 ?_
        have hp := pair_buffer hV (xs (i + 1)) (xs (i + 2))
        refine l_ic_eq hX 806 dL_law_205 (by decide) (fun _ => ?_) (fun c => ?_)
        · exact fin _ _ hp.2.2 hp.2.1
        · exact absurd hp.1 c
      · refine l_tabIn hX (off := 178) 210 dL_law_32 (by decide) (by decide) rfl (by decide) ?_
        -- join
        refine l_aload_n hX 1 dL_law_210 rfl ?_
        refine l_cc hX (As := []) (rest := []) (c_X6_join l G hA1 z  (hI := hI)) kL_X6_join rfl rfl (Nat.le_of_ble_eq_true rfl) dL_law_211 ?_
        refine l_aload_n hX 2 dL_law_214 rfl ?_
        refine l_cm hX (As := []) (rest := [.int ((spJoin z).1)]) (c_X7_join l Gm hA2 z  (hI := hI)) kL_X7_join rfl rfl (Nat.le_of_ble_eq_true rfl) dL_law_215 ?_
        have hp := PairOK.un (pair_join hV )
        refine l_ic_eq hX 806 dL_law_218 (by decide) (fun _ => ?_) (fun c => ?_)
        · exact fin _ _ hp.2.2 hp.2.1
        · exact absurd hp.1 c
      · refine l_tabIn hX (off := 191) 223 dL_law_32 (by decide) (by decide) rfl (by decide) ?_
        -- set
        refine l_aload_n hX 1 dL_law_223 rfl ?_
        refine l_aload_n hX 0 dL_law_224 rfl ?_
        refine l_iload_n hX 3 dL_law_225 rfl ?_
        refine l_iconst hX 1 dL_law_226 (by decide) ?_
        refine l_iadd hX dL_law_227 ?_
        refine l_top (nI (i + 1)) (nI_add i 1) ?_
        refine l_sld hX (i + 1) rfl (by omega) (by omega) dL_law_228 ?_
        refine l_aload_n hX 0 dL_law_229 rfl ?_
        refine l_iload_n hX 3 dL_law_230 rfl ?_
        refine l_iconst hX 2 dL_law_231 (by decide) ?_
        refine l_iadd hX dL_law_232 ?_
        refine l_top (nI (i + 2)) (nI_add i 2) ?_
        refine l_sld hX (i + 2) rfl (by omega) (by omega) dL_law_233 ?_
        refine l_cc hX (As := [.int (xs (i + 1)), .int (xs (i + 2))]) (rest := []) (c_X6_set l G hA1 z (x := (xs (i + 1))) (y := (xs (i + 2))) ) kL_X6_set rfl rfl (Nat.le_of_ble_eq_true rfl) dL_law_234 ?_
        refine l_aload_n hX 2 dL_law_237 rfl ?_
        refine l_aload_n hX 0 dL_law_238 rfl ?_
        refine l_iload_n hX 3 dL_law_239 rfl ?_
        refine l_iconst hX 1 dL_law_240 (by decide) ?_
        refine l_iadd hX dL_law_241 ?_
        refine l_top (nI (i + 1)) (nI_add i 1) ?_
        refine l_sld hX (i + 1) rfl (by omega) (by omega) dL_law_242 ?_
        refine l_aload_n hX 0 dL_law_243 rfl ?_
        refine l_iload_n hX 3 dL_law_244 rfl ?_
        refine l_iconst hX 2 dL_law_245 (by decide) ?_
        refine l_iadd hX dL_law_246 ?_
        refine l_top (nI (i + 2)) (nI_add i 2) ?_
        refine l_sld hX (i + 2) rfl (by omega) (by omega) dL_law_247 ?_
        refine l_cm hX (As := [.int (xs (i + 1)), .int (xs (i + 2))]) (rest := [.int ((spSet z (xs (i + 1)) (xs (i + 2))).1)]) (c_X7_set l Gm hA2 z (x := (xs (i + 1))) (y := (xs (i + 2))) ) kL_X7_set rfl rfl (Nat.le_of_ble_eq_true rfl) dL_law_248 ?_
        have hp := pair_set hV (xs (i + 1)) (xs (i + 2))
        refine l_ic_eq hX 806 dL_law_251 (by decide) (fun _ => ?_) (fun c => ?_)
        · exact fin _ _ hp.2.2 hp.2.1
        · exact absurd hp.1 c
      · refine l_tabIn hX (off := 224) 256 dL_law_32 (by decide) (by decide) rfl (by decide) ?_
        -- apply
        refine l_aload_n hX 1 dL_law_256 rfl ?_
        refine l_aload_n hX 0 dL_law_257 rfl ?_
        refine l_iload_n hX 3 dL_law_258 rfl ?_
        refine l_iconst hX 1 dL_law_259 (by decide) ?_
        refine l_iadd hX dL_law_260 ?_
        refine l_top (nI (i + 1)) (nI_add i 1) ?_
        refine l_sld hX (i + 1) rfl (by omega) (by omega) dL_law_261 ?_
        refine l_aload_n hX 0 dL_law_262 rfl ?_
        refine l_iload_n hX 3 dL_law_263 rfl ?_
        refine l_iconst hX 2 dL_law_264 (by decide) ?_
        refine l_iadd hX dL_law_265 ?_
        refine l_top (nI (i + 2)) (nI_add i 2) ?_
        refine l_sld hX (i + 2) rfl (by omega) (by omega) dL_law_266 ?_
        refine l_aload_n hX 0 dL_law_267 rfl ?_
        refine l_iload_n hX 3 dL_law_268 rfl ?_
        refine l_iconst hX 3 dL_law_269 (by decide) ?_
        refine l_iadd hX dL_law_270 ?_
        refine l_top (nI (i + 3)) (nI_add i 3) ?_
        refine l_sld hX (i + 3) rfl (by omega) (by omega) dL_law_271 ?_
        refine l_aload_n hX 0 dL_law_272 rfl ?_
        refine l_iload_n hX 3 dL_law_273 rfl ?_
        refine l_iconst hX 4 dL_law_274 (by decide) ?_
        refine l_iadd hX dL_law_275 ?_
        refine l_top (nI (i + 4)) (nI_add i 4) ?_
        refine l_sld hX (i + 4) rfl (by omega) (by omega) dL_law_276 ?_
        refine l_cc hX (As := [.int (xs (i + 1)), .int (xs (i + 2)), .int (xs (i + 3)), .int (xs (i + 4))]) (rest := []) (c_X6_apply l G hA1 z (c := (xs (i + 1))) (r := (xs (i + 2))) (d := (xs (i + 3))) (p := (xs (i + 4))) (hI := hI)) kL_X6_apply rfl rfl (Nat.le_of_ble_eq_true rfl) dL_law_277 ?_
        refine l_aload_n hX 2 dL_law_280 rfl ?_
        refine l_aload_n hX 0 dL_law_281 rfl ?_
        refine l_iload_n hX 3 dL_law_282 rfl ?_
        refine l_iconst hX 1 dL_law_283 (by decide) ?_
        refine l_iadd hX dL_law_284 ?_
        refine l_top (nI (i + 1)) (nI_add i 1) ?_
        refine l_sld hX (i + 1) rfl (by omega) (by omega) dL_law_285 ?_
        refine l_aload_n hX 0 dL_law_286 rfl ?_
        refine l_iload_n hX 3 dL_law_287 rfl ?_
        refine l_iconst hX 2 dL_law_288 (by decide) ?_
        refine l_iadd hX dL_law_289 ?_
        refine l_top (nI (i + 2)) (nI_add i 2) ?_
        refine l_sld hX (i + 2) rfl (by omega) (by omega) dL_law_290 ?_
        refine l_aload_n hX 0 dL_law_291 rfl ?_
        refine l_iload_n hX 3 dL_law_292 rfl ?_
        refine l_iconst hX 3 dL_law_293 (by decide) ?_
        refine l_iadd hX dL_law_294 ?_
        refine l_top (nI (i + 3)) (nI_add i 3) ?_
        refine l_sld hX (i + 3) rfl (by omega) (by omega) dL_law_295 ?_
        refine l_aload_n hX 0 dL_law_296 rfl ?_
        refine l_iload_n hX 3 dL_law_297 rfl ?_
        refine l_iconst hX 4 dL_law_298 (by decide) ?_
        refine l_iadd hX dL_law_299 ?_
        refine l_top (nI (i + 4)) (nI_add i 4) ?_
        refine l_sld hX (i + 4) rfl (by omega) (by omega) dL_law_300 ?_
        refine l_cm hX (As := [.int (xs (i + 1)), .int (xs (i + 2)), .int (xs (i + 3)), .int (xs (i + 4))]) (rest := [.int ((spApply z (xs (i + 1)) (xs (i + 2)) (xs (i + 3)) (xs (i + 4))).1)]) (c_X7_apply l Gm hA2 z (c := (xs (i + 1))) (r := (xs (i + 2))) (d := (xs (i + 3))) (p := (xs (i + 4))) (hI := hI) (hcl := hO.cl) (h87c := hO.h87c) (hst := hO.st) (hfr := (fun q => hO.fra _ (Nat.le_refl _) q))) kL_X7_apply rfl rfl (Nat.le_of_ble_eq_true rfl) dL_law_301 ?_
        have hp := pair_apply hV (xs (i + 1)) (xs (i + 2)) (xs (i + 3)) (xs (i + 4))
        refine l_ic_eq hX 806 dL_law_304 (by decide) (fun _ => ?_) (fun c => ?_)
        · exact fin _ _ hp.2.2 hp.2.1
        · exact absurd hp.1 c
      · refine l_tabIn hX (off := 277) 309 dL_law_32 (by decide) (by decide) rfl (by decide) ?_
        -- lottery
        refine l_aload_n hX 1 dL_law_309 rfl ?_
        refine l_aload_n hX 0 dL_law_310 rfl ?_
        refine l_iload_n hX 3 dL_law_311 rfl ?_
        refine l_iconst hX 1 dL_law_312 (by decide) ?_
        refine l_iadd hX dL_law_313 ?_
        refine l_top (nI (i + 1)) (nI_add i 1) ?_
        refine l_sld hX (i + 1) rfl (by omega) (by omega) dL_law_314 ?_
        refine l_aload_n hX 0 dL_law_315 rfl ?_
        refine l_iload_n hX 3 dL_law_316 rfl ?_
        refine l_iconst hX 2 dL_law_317 (by decide) ?_
        refine l_iadd hX dL_law_318 ?_
        refine l_top (nI (i + 2)) (nI_add i 2) ?_
        refine l_sld hX (i + 2) rfl (by omega) (by omega) dL_law_319 ?_
        refine l_cc hX (As := [.int (xs (i + 1)), .int (xs (i + 2))]) (rest := []) (c_X6_lottery l G hA1 z (r := (xs (i + 1))) (d := (xs (i + 2))) (hI := hI)) kL_X6_lottery rfl rfl (Nat.le_of_ble_eq_true rfl) dL_law_320 ?_
        refine l_aload_n hX 2 dL_law_323 rfl ?_
        refine l_aload_n hX 0 dL_law_324 rfl ?_
        refine l_iload_n hX 3 dL_law_325 rfl ?_
        refine l_iconst hX 1 dL_law_326 (by decide) ?_
        refine l_iadd hX dL_law_327 ?_
        refine l_top (nI (i + 1)) (nI_add i 1) ?_
        refine l_sld hX (i + 1) rfl (by omega) (by omega) dL_law_328 ?_
        refine l_aload_n hX 0 dL_law_329 rfl ?_
        refine l_iload_n hX 3 dL_law_330 rfl ?_
        refine l_iconst hX 2 dL_law_331 (by decide) ?_
        refine l_iadd hX dL_law_332 ?_
        refine l_top (nI (i + 2)) (nI_add i 2) ?_
        refine l_sld hX (i + 2) rfl (by omega) (by omega) dL_law_333 ?_
        refine l_cm hX (As := [.int (xs (i + 1)), .int (xs (i + 2))]) (rest := [.int ((cLottery z (xs (i + 1)) (xs (i + 2))).1)]) (c_X7_lottery l Gm hA2 z (r := (xs (i + 1))) (d := (xs (i + 2))) (hI := hI) (hcl := hO.cl) (h16 := hO.h16) (hpay := hO.pay) (hsd := hO.sd)) kL_X7_lottery rfl rfl (Nat.le_of_ble_eq_true rfl) dL_law_334 ?_
        have hp := pair_lottery hV hB (xs (i + 1)) (xs (i + 2))
        refine l_ic_eq hX 806 dL_law_337 (by decide) (fun _ => ?_) (fun c => ?_)
        · exact fin _ _ hp.2.2 hp.2.1
        · exact absurd hp.1 c
      · refine l_tabIn hX (off := 310) 342 dL_law_32 (by decide) (by decide) rfl (by decide) ?_
        -- cancel
        refine l_aload_n hX 1 dL_law_342 rfl ?_
        refine l_aload_n hX 0 dL_law_343 rfl ?_
        refine l_iload_n hX 3 dL_law_344 rfl ?_
        refine l_iconst hX 1 dL_law_345 (by decide) ?_
        refine l_iadd hX dL_law_346 ?_
        refine l_top (nI (i + 1)) (nI_add i 1) ?_
        refine l_sld hX (i + 1) rfl (by omega) (by omega) dL_law_347 ?_
        refine l_cc hX (As := [.int (xs (i + 1))]) (rest := []) (c_X6_cancel l G hA1 z (a := (xs (i + 1))) (hI := hI) (hm := (hO.m0 hB)) (h17 := (fun b hb _ q => hO.h17 b hb q))) kL_X6_cancel rfl rfl (Nat.le_of_ble_eq_true rfl) dL_law_348 ?_
        refine l_aload_n hX 2 dL_law_351 rfl ?_
        refine l_aload_n hX 0 dL_law_352 rfl ?_
        refine l_iload_n hX 3 dL_law_353 rfl ?_
        refine l_iconst hX 1 dL_law_354 (by decide) ?_
        refine l_iadd hX dL_law_355 ?_
        refine l_top (nI (i + 1)) (nI_add i 1) ?_
        refine l_sld hX (i + 1) rfl (by omega) (by omega) dL_law_356 ?_
        refine l_cm hX (As := [.int (xs (i + 1))]) (rest := [.int ((spCancel z (xs (i + 1))).1)]) (c_X7_cancel l Gm hA2 z (x := (xs (i + 1))) (hI := hI) (hcl := hO.cl) (h87 := hO.h87) (hst := hO.st) (h16 := hO.h16) (h17 := hO.h17) (hpay := hO.pay) (ht := hO.ht)) kL_X7_cancel rfl rfl (Nat.le_of_ble_eq_true rfl) dL_law_357 ?_
        have hp := pair_cancel hV (xs (i + 1))
        refine l_ic_eq hX 806 dL_law_360 (by decide) (fun _ => ?_) (fun c => ?_)
        · exact fin _ _ hp.2.2 hp.2.1
        · exact absurd hp.1 c
      · refine l_tabIn hX (off := 333) 365 dL_law_32 (by decide) (by decide) rfl (by decide) ?_
        -- close
        refine l_aload_n hX 1 dL_law_365 rfl ?_
        refine l_aload_n hX 0 dL_law_366 rfl ?_
        refine l_iload_n hX 3 dL_law_367 rfl ?_
        refine l_iconst hX 1 dL_law_368 (by decide) ?_
        refine l_iadd hX dL_law_369 ?_
        refine l_top (nI (i + 1)) (nI_add i 1) ?_
        refine l_sld hX (i + 1) rfl (by omega) (by omega) dL_law_370 ?_
        refine l_cc hX (As := [.int (xs (i + 1))]) (rest := []) (c_X6_close l G hA1 z (d := (xs (i + 1))) (hI := hI) (hs := hO.sh)) kL_X6_close rfl rfl (Nat.le_of_ble_eq_true rfl) dL_law_371 ?_
        refine l_aload_n hX 2 dL_law_374 rfl ?_
        refine l_aload_n hX 0 dL_law_375 rfl ?_
        refine l_iload_n hX 3 dL_law_376 rfl ?_
        refine l_iconst hX 1 dL_law_377 (by decide) ?_
        refine l_iadd hX dL_law_378 ?_
        refine l_top (nI (i + 1)) (nI_add i 1) ?_
        refine l_sld hX (i + 1) rfl (by omega) (by omega) dL_law_379 ?_
        refine l_cm hX (As := [.int (xs (i + 1))]) (rest := [.int ((spClose z (xs (i + 1))).1)]) (c_X7_close l Gm hA2 z (d := (xs (i + 1))) (hI := hI) (hs := hO.sh) (hcl := hO.cl)) kL_X7_close rfl rfl (Nat.le_of_ble_eq_true rfl) dL_law_380 ?_
        have hp := pair_close hV (xs (i + 1))
        refine l_ic_eq hX 806 dL_law_383 (by decide) (fun _ => ?_) (fun c => ?_)
        · exact fin _ _ hp.2.2 hp.2.1
        · exact absurd hp.1 c
      · refine l_tabIn hX (off := 356) 388 dL_law_32 (by decide) (by decide) rfl (by decide) ?_
        -- standby
        refine l_aload_n hX 1 dL_law_388 rfl ?_
        refine l_aload_n hX 0 dL_law_389 rfl ?_
        refine l_iload_n hX 3 dL_law_390 rfl ?_
        refine l_iconst hX 1 dL_law_391 (by decide) ?_
        refine l_iadd hX dL_law_392 ?_
        refine l_top (nI (i + 1)) (nI_add i 1) ?_
        refine l_sld hX (i + 1) rfl (by omega) (by omega) dL_law_393 ?_
        refine l_cc hX (As := [.int (xs (i + 1))]) (rest := []) (c_X6_standby l G hA1 z (a := (xs (i + 1))) (hI := hI)) kL_X6_standby rfl rfl (Nat.le_of_ble_eq_true rfl) dL_law_394 ?_
        refine l_aload_n hX 2 dL_law_397 rfl ?_
        refine l_aload_n hX 0 dL_law_398 rfl ?_
        refine l_iload_n hX 3 dL_law_399 rfl ?_
        refine l_iconst hX 1 dL_law_400 (by decide) ?_
        refine l_iadd hX dL_law_401 ?_
        refine l_top (nI (i + 1)) (nI_add i 1) ?_
        refine l_sld hX (i + 1) rfl (by omega) (by omega) dL_law_402 ?_
        refine l_cm hX (As := [.int (xs (i + 1))]) (rest := [.int ((spStandby z (xs (i + 1))).1)]) (c_X7_standby l Gm hA2 z (x := (xs (i + 1))) (hI := hI) (hcl := hO.cl) (h87 := hO.h87) (h16 := hO.h16)) kL_X7_standby rfl rfl (Nat.le_of_ble_eq_true rfl) dL_law_403 ?_
        have hp := pair_standby hV (xs (i + 1))
        refine l_ic_eq hX 806 dL_law_406 (by decide) (fun _ => ?_) (fun c => ?_)
        · exact fin _ _ hp.2.2 hp.2.1
        · exact absurd hp.1 c
      · refine l_tabIn hX (off := 379) 411 dL_law_32 (by decide) (by decide) rfl (by decide) ?_
        -- show
        refine l_aload_n hX 1 dL_law_411 rfl ?_
        refine l_aload_n hX 0 dL_law_412 rfl ?_
        refine l_iload_n hX 3 dL_law_413 rfl ?_
        refine l_iconst hX 1 dL_law_414 (by decide) ?_
        refine l_iadd hX dL_law_415 ?_
        refine l_top (nI (i + 1)) (nI_add i 1) ?_
        refine l_sld hX (i + 1) rfl (by omega) (by omega) dL_law_416 ?_
        refine l_cc hX (As := [.int (xs (i + 1))]) (rest := []) (c_X6_show l G hA1 z (a := (xs (i + 1))) (hI := hI)) kL_X6_show rfl rfl (Nat.le_of_ble_eq_true rfl) dL_law_417 ?_
        refine l_aload_n hX 2 dL_law_420 rfl ?_
        refine l_aload_n hX 0 dL_law_421 rfl ?_
        refine l_iload_n hX 3 dL_law_422 rfl ?_
        refine l_iconst hX 1 dL_law_423 (by decide) ?_
        refine l_iadd hX dL_law_424 ?_
        refine l_top (nI (i + 1)) (nI_add i 1) ?_
        refine l_sld hX (i + 1) rfl (by omega) (by omega) dL_law_425 ?_
        refine l_cm hX (As := [.int (xs (i + 1))]) (rest := [.int ((spShow z (xs (i + 1))).1)]) (c_X7_show l Gm hA2 z (x := (xs (i + 1))) (hI := hI) (h18 := (fun a ha => hO.h18 a (by have := (iNa hI).2; omega)))) kL_X7_show rfl rfl (Nat.le_of_ble_eq_true rfl) dL_law_426 ?_
        have hp := pair_show hV (xs (i + 1))
        refine l_ic_eq hX 806 dL_law_429 (by decide) (fun _ => ?_) (fun c => ?_)
        · exact fin _ _ hp.2.2 hp.2.1
        · exact absurd hp.1 c
      · refine l_tabIn hX (off := 402) 434 dL_law_32 (by decide) (by decide) rfl (by decide) ?_
        -- end
        refine l_aload_n hX 1 dL_law_434 rfl ?_
        refine l_cc hX (As := []) (rest := []) (c_X6_end l G hA1 z  (hI := hI)) kL_X6_end rfl rfl (Nat.le_of_ble_eq_true rfl) dL_law_435 ?_
        refine l_aload_n hX 2 dL_law_438 rfl ?_
        refine l_cm hX (As := []) (rest := [.int ((spEnd z).1)]) (c_X7_end l Gm hA2 z  (hI := hI) (h18 := (fun a ha => hO.h18 a (by have := (iNa hI).2; omega)))) kL_X7_end rfl rfl (Nat.le_of_ble_eq_true rfl) dL_law_439 ?_
        have hp := pair_end hV 
        refine l_ic_eq hX 806 dL_law_442 (by decide) (fun _ => ?_) (fun c => ?_)
        · exact fin _ _ hp.2.2 hp.2.1
        · exact absurd hp.1 c
      · refine l_tabIn hX (off := 415) 447 dL_law_32 (by decide) (by decide) rfl (by decide) ?_
        -- onRoute
        refine l_aload_n hX 1 dL_law_447 rfl ?_
        refine l_aload_n hX 0 dL_law_448 rfl ?_
        refine l_iload_n hX 3 dL_law_449 rfl ?_
        refine l_iconst hX 1 dL_law_450 (by decide) ?_
        refine l_iadd hX dL_law_451 ?_
        refine l_top (nI (i + 1)) (nI_add i 1) ?_
        refine l_sld hX (i + 1) rfl (by omega) (by omega) dL_law_452 ?_
        refine l_aload_n hX 0 dL_law_453 rfl ?_
        refine l_iload_n hX 3 dL_law_454 rfl ?_
        refine l_iconst hX 2 dL_law_455 (by decide) ?_
        refine l_iadd hX dL_law_456 ?_
        refine l_top (nI (i + 2)) (nI_add i 2) ?_
        refine l_sld hX (i + 2) rfl (by omega) (by omega) dL_law_457 ?_
        refine l_aload_n hX 0 dL_law_458 rfl ?_
        refine l_iload_n hX 3 dL_law_459 rfl ?_
        refine l_iconst hX 3 dL_law_460 (by decide) ?_
        refine l_iadd hX dL_law_461 ?_
        refine l_top (nI (i + 3)) (nI_add i 3) ?_
        refine l_sld hX (i + 3) rfl (by omega) (by omega) dL_law_462 ?_
        refine l_cc hX (As := [.int (xs (i + 1)), .int (xs (i + 2)), .int (xs (i + 3))]) (rest := []) (c_X6_onRoute l G z (r := (xs (i + 1))) (d := (xs (i + 2))) (w := (xs (i + 3))) (hI := hI)) kL_X6_onRoute rfl rfl (Nat.le_of_ble_eq_true rfl) dL_law_463 ?_
        refine l_aload_n hX 2 dL_law_466 rfl ?_
        refine l_aload_n hX 0 dL_law_467 rfl ?_
        refine l_iload_n hX 3 dL_law_468 rfl ?_
        refine l_iconst hX 1 dL_law_469 (by decide) ?_
        refine l_iadd hX dL_law_470 ?_
        refine l_top (nI (i + 1)) (nI_add i 1) ?_
        refine l_sld hX (i + 1) rfl (by omega) (by omega) dL_law_471 ?_
        refine l_aload_n hX 0 dL_law_472 rfl ?_
        refine l_iload_n hX 3 dL_law_473 rfl ?_
        refine l_iconst hX 2 dL_law_474 (by decide) ?_
        refine l_iadd hX dL_law_475 ?_
        refine l_top (nI (i + 2)) (nI_add i 2) ?_
        refine l_sld hX (i + 2) rfl (by omega) (by omega) dL_law_476 ?_
        refine l_aload_n hX 0 dL_law_477 rfl ?_
        refine l_iload_n hX 3 dL_law_478 rfl ?_
        refine l_iconst hX 3 dL_law_479 (by decide) ?_
        refine l_iadd hX dL_law_480 ?_
        refine l_top (nI (i + 3)) (nI_add i 3) ?_
        refine l_sld hX (i + 3) rfl (by omega) (by omega) dL_law_481 ?_
        refine l_cm hX (As := [.int (xs (i + 1)), .int (xs (i + 2)), .int (xs (i + 3))]) (rest := [.int (spOnRoute z (xs (i + 1)) (xs (i + 2)) (xs (i + 3)))]) (c_X7_onRoute l Gm z (r := (xs (i + 1))) (d := (xs (i + 2))) (w := (xs (i + 3))) (hI := hI)) kL_X7_onRoute rfl rfl (Nat.le_of_ble_eq_true rfl) dL_law_482 ?_
        have hp := PairOK.un2 (pair_q hV (spOnRoute z (xs (i + 1)) (xs (i + 2)) (xs (i + 3))))
        refine l_ic_eq hX 806 dL_law_485 (by decide) (fun _ => ?_) (fun c => ?_)
        · exact fin _ _ hp.2.2 hp.2.1
        · exact absurd hp.1 c
      · refine l_tabIn hX (off := 458) 490 dL_law_32 (by decide) (by decide) rfl (by decide) ?_
        -- climber
        refine l_aload_n hX 1 dL_law_490 rfl ?_
        refine l_aload_n hX 0 dL_law_491 rfl ?_
        refine l_iload_n hX 3 dL_law_492 rfl ?_
        refine l_iconst hX 1 dL_law_493 (by decide) ?_
        refine l_iadd hX dL_law_494 ?_
        refine l_top (nI (i + 1)) (nI_add i 1) ?_
        refine l_sld hX (i + 1) rfl (by omega) (by omega) dL_law_495 ?_
        refine l_aload_n hX 0 dL_law_496 rfl ?_
        refine l_iload_n hX 3 dL_law_497 rfl ?_
        refine l_iconst hX 2 dL_law_498 (by decide) ?_
        refine l_iadd hX dL_law_499 ?_
        refine l_top (nI (i + 2)) (nI_add i 2) ?_
        refine l_sld hX (i + 2) rfl (by omega) (by omega) dL_law_500 ?_
        refine l_cc hX (As := [.int (xs (i + 1)), .int (xs (i + 2))]) (rest := []) (c_X6_climber l G z (c := (xs (i + 1))) (w := (xs (i + 2))) (hI := hI)) kL_X6_climber rfl rfl (Nat.le_of_ble_eq_true rfl) dL_law_501 ?_
        refine l_aload_n hX 2 dL_law_504 rfl ?_
        refine l_aload_n hX 0 dL_law_505 rfl ?_
        refine l_iload_n hX 3 dL_law_506 rfl ?_
        refine l_iconst hX 1 dL_law_507 (by decide) ?_
        refine l_iadd hX dL_law_508 ?_
        refine l_top (nI (i + 1)) (nI_add i 1) ?_
        refine l_sld hX (i + 1) rfl (by omega) (by omega) dL_law_509 ?_
        refine l_aload_n hX 0 dL_law_510 rfl ?_
        refine l_iload_n hX 3 dL_law_511 rfl ?_
        refine l_iconst hX 2 dL_law_512 (by decide) ?_
        refine l_iadd hX dL_law_513 ?_
        refine l_top (nI (i + 2)) (nI_add i 2) ?_
        refine l_sld hX (i + 2) rfl (by omega) (by omega) dL_law_514 ?_
        refine l_cm hX (As := [.int (xs (i + 1)), .int (xs (i + 2))]) (rest := [.int (spClimber z (xs (i + 1)) (xs (i + 2)))]) (c_X7_climber l Gm z (x := (xs (i + 1))) (w := (xs (i + 2))) (hI := hI) (h87c := hO.h87c)) kL_X7_climber rfl rfl (Nat.le_of_ble_eq_true rfl) dL_law_515 ?_
        have hp := PairOK.un2 (pair_q hV (spClimber z (xs (i + 1)) (xs (i + 2))))
        refine l_ic_eq hX 806 dL_law_518 (by decide) (fun _ => ?_) (fun c => ?_)
        · exact fin _ _ hp.2.2 hp.2.1
        · exact absurd hp.1 c
      · refine l_tabIn hX (off := 491) 523 dL_law_32 (by decide) (by decide) rfl (by decide) ?_
        -- application
        refine l_aload_n hX 1 dL_law_523 rfl ?_
        refine l_aload_n hX 0 dL_law_524 rfl ?_
        refine l_iload_n hX 3 dL_law_525 rfl ?_
        refine l_iconst hX 1 dL_law_526 (by decide) ?_
        refine l_iadd hX dL_law_527 ?_
        refine l_top (nI (i + 1)) (nI_add i 1) ?_
        refine l_sld hX (i + 1) rfl (by omega) (by omega) dL_law_528 ?_
        refine l_aload_n hX 0 dL_law_529 rfl ?_
        refine l_iload_n hX 3 dL_law_530 rfl ?_
        refine l_iconst hX 2 dL_law_531 (by decide) ?_
        refine l_iadd hX dL_law_532 ?_
        refine l_top (nI (i + 2)) (nI_add i 2) ?_
        refine l_sld hX (i + 2) rfl (by omega) (by omega) dL_law_533 ?_
        refine l_cc hX (As := [.int (xs (i + 1)), .int (xs (i + 2))]) (rest := []) (c_X6_application l G z (a := (xs (i + 1))) (w := (xs (i + 2))) (hI := hI)) kL_X6_application rfl rfl (Nat.le_of_ble_eq_true rfl) dL_law_534 ?_
        refine l_aload_n hX 2 dL_law_537 rfl ?_
        refine l_aload_n hX 0 dL_law_538 rfl ?_
        refine l_iload_n hX 3 dL_law_539 rfl ?_
        refine l_iconst hX 1 dL_law_540 (by decide) ?_
        refine l_iadd hX dL_law_541 ?_
        refine l_top (nI (i + 1)) (nI_add i 1) ?_
        refine l_sld hX (i + 1) rfl (by omega) (by omega) dL_law_542 ?_
        refine l_aload_n hX 0 dL_law_543 rfl ?_
        refine l_iload_n hX 3 dL_law_544 rfl ?_
        refine l_iconst hX 2 dL_law_545 (by decide) ?_
        refine l_iadd hX dL_law_546 ?_
        refine l_top (nI (i + 2)) (nI_add i 2) ?_
        refine l_sld hX (i + 2) rfl (by omega) (by omega) dL_law_547 ?_
        refine l_cm hX (As := [.int (xs (i + 1)), .int (xs (i + 2))]) (rest := [.int (spApp z (xs (i + 1)) (xs (i + 2)))]) (c_X7_application l Gm z (x := (xs (i + 1))) (w := (xs (i + 2))) (hI := hI) (h18 := (fun a ha => hO.h18 a (by have := (iNa hI).2; omega)))) kL_X7_application rfl rfl (Nat.le_of_ble_eq_true rfl) dL_law_548 ?_
        have hp := PairOK.un2 (pair_q hV (spApp z (xs (i + 1)) (xs (i + 2))))
        refine l_ic_eq hX 806 dL_law_551 (by decide) (fun _ => ?_) (fun c => ?_)
        · exact fin _ _ hp.2.2 hp.2.1
        · exact absurd hp.1 c
      · refine l_tabIn hX (off := 524) 556 dL_law_32 (by decide) (by decide) rfl (by decide) ?_
        -- count
        refine l_aload_n hX 1 dL_law_556 rfl ?_
        refine l_aload_n hX 0 dL_law_557 rfl ?_
        refine l_iload_n hX 3 dL_law_558 rfl ?_
        refine l_iconst hX 1 dL_law_559 (by decide) ?_
        refine l_iadd hX dL_law_560 ?_
        refine l_top (nI (i + 1)) (nI_add i 1) ?_
        refine l_sld hX (i + 1) rfl (by omega) (by omega) dL_law_561 ?_
        refine l_cc hX (As := [.int (xs (i + 1))]) (rest := []) (c_X6_count l G z (w := (xs (i + 1))) (hI := hI)) kL_X6_count rfl rfl (Nat.le_of_ble_eq_true rfl) dL_law_562 ?_
        refine l_aload_n hX 2 dL_law_565 rfl ?_
        refine l_aload_n hX 0 dL_law_566 rfl ?_
        refine l_iload_n hX 3 dL_law_567 rfl ?_
        refine l_iconst hX 1 dL_law_568 (by decide) ?_
        refine l_iadd hX dL_law_569 ?_
        refine l_top (nI (i + 1)) (nI_add i 1) ?_
        refine l_sld hX (i + 1) rfl (by omega) (by omega) dL_law_570 ?_
        refine l_cm hX (As := [.int (xs (i + 1))]) (rest := [.int (spCount z (xs (i + 1)))]) (c_X7_count l Gm z (w := (xs (i + 1))) (hI := hI) (hcl := hO.cl)) kL_X7_count rfl rfl (Nat.le_of_ble_eq_true rfl) dL_law_571 ?_
        have hp := PairOK.un2 (pair_q hV (spCount z (xs (i + 1))))
        refine l_ic_eq hX 806 dL_law_574 (by decide) (fun _ => ?_) (fun c => ?_)
        · exact fin _ _ hp.2.2 hp.2.1
        · exact absurd hp.1 c
      · refine l_tabIn hX (off := 547) 579 dL_law_32 (by decide) (by decide) rfl (by decide) ?_
        -- nextWaiting
        refine l_aload_n hX 1 dL_law_579 rfl ?_
        refine l_aload_n hX 0 dL_law_580 rfl ?_
        refine l_iload_n hX 3 dL_law_581 rfl ?_
        refine l_iconst hX 1 dL_law_582 (by decide) ?_
        refine l_iadd hX dL_law_583 ?_
        refine l_top (nI (i + 1)) (nI_add i 1) ?_
        refine l_sld hX (i + 1) rfl (by omega) (by omega) dL_law_584 ?_
        refine l_aload_n hX 0 dL_law_585 rfl ?_
        refine l_iload_n hX 3 dL_law_586 rfl ?_
        refine l_iconst hX 2 dL_law_587 (by decide) ?_
        refine l_iadd hX dL_law_588 ?_
        refine l_top (nI (i + 2)) (nI_add i 2) ?_
        refine l_sld hX (i + 2) rfl (by omega) (by omega) dL_law_589 ?_
        refine l_cc hX (As := [.int (xs (i + 1)), .int (xs (i + 2))]) (rest := []) (c_X6_nextWaiting l G z (r := (xs (i + 1))) (d := (xs (i + 2))) (hI := hI) (hm := (hO.m0 hB))) kL_X6_nextWaiting rfl rfl (Nat.le_of_ble_eq_true rfl) dL_law_590 ?_
        refine l_aload_n hX 2 dL_law_593 rfl ?_
        refine l_aload_n hX 0 dL_law_594 rfl ?_
        refine l_iload_n hX 3 dL_law_595 rfl ?_
        refine l_iconst hX 1 dL_law_596 (by decide) ?_
        refine l_iadd hX dL_law_597 ?_
        refine l_top (nI (i + 1)) (nI_add i 1) ?_
        refine l_sld hX (i + 1) rfl (by omega) (by omega) dL_law_598 ?_
        refine l_aload_n hX 0 dL_law_599 rfl ?_
        refine l_iload_n hX 3 dL_law_600 rfl ?_
        refine l_iconst hX 2 dL_law_601 (by decide) ?_
        refine l_iadd hX dL_law_602 ?_
        refine l_top (nI (i + 2)) (nI_add i 2) ?_
        refine l_sld hX (i + 2) rfl (by omega) (by omega) dL_law_603 ?_
        refine l_cm hX (As := [.int (xs (i + 1)), .int (xs (i + 2))]) (rest := [.int (spNext z (xs (i + 1)) (xs (i + 2)))]) (c_X7_nextWaiting l Gm z (r := (xs (i + 1))) (d := (xs (i + 2))) (hI := hI) (hcl := hO.cl) (h87 := hO.h87)) kL_X7_nextWaiting rfl rfl (Nat.le_of_ble_eq_true rfl) dL_law_604 ?_
        have hp := PairOK.un2 (pair_q hV (spNext z (xs (i + 1)) (xs (i + 2))))
        refine l_ic_eq hX 806 dL_law_607 (by decide) (fun _ => ?_) (fun c => ?_)
        · exact fin _ _ hp.2.2 hp.2.1
        · exact absurd hp.1 c
      · refine l_tabIn hX (off := 580) 612 dL_law_32 (by decide) (by decide) rfl (by decide) ?_
        -- odds
        refine l_aload_n hX 1 dL_law_612 rfl ?_
        refine l_aload_n hX 0 dL_law_613 rfl ?_
        refine l_iload_n hX 3 dL_law_614 rfl ?_
        refine l_iconst hX 1 dL_law_615 (by decide) ?_
        refine l_iadd hX dL_law_616 ?_
        refine l_top (nI (i + 1)) (nI_add i 1) ?_
        refine l_sld hX (i + 1) rfl (by omega) (by omega) dL_law_617 ?_
        refine l_cc hX (As := [.int (xs (i + 1))]) (rest := []) (c_X6_odds l G hA1 z (a := (xs (i + 1))) (hI := hI)) kL_X6_odds rfl rfl (Nat.le_of_ble_eq_true rfl) dL_law_618 ?_
        refine l_aload_n hX 2 dL_law_621 rfl ?_
        refine l_aload_n hX 0 dL_law_622 rfl ?_
        refine l_iload_n hX 3 dL_law_623 rfl ?_
        refine l_iconst hX 1 dL_law_624 (by decide) ?_
        refine l_iadd hX dL_law_625 ?_
        refine l_top (nI (i + 1)) (nI_add i 1) ?_
        refine l_sld hX (i + 1) rfl (by omega) (by omega) dL_law_626 ?_
        refine l_cm hX (As := [.int (xs (i + 1))]) (rest := [.int ((cOdds z (xs (i + 1))).1)]) (c_X7_odds l Gm z (x := (xs (i + 1))) (hI := hI) (hod := (hO.od hB))) kL_X7_odds rfl rfl (Nat.le_of_ble_eq_true rfl) dL_law_627 ?_
        have hp := PairOK.un (pair_odds hV hB (xs (i + 1)))
        refine l_ic_eq hX 806 dL_law_630 (by decide) (fun _ => ?_) (fun c => ?_)
        · exact fin _ _ hp.2.2 hp.2.1
        · exact absurd hp.1 c
      · refine l_tabIn hX (off := 603) 635 dL_law_32 (by decide) (by decide) rfl (by decide) ?_
        -- tries
        refine l_aload_n hX 1 dL_law_635 rfl ?_
        refine l_aload_n hX 0 dL_law_636 rfl ?_
        refine l_iload_n hX 3 dL_law_637 rfl ?_
        refine l_iconst hX 1 dL_law_638 (by decide) ?_
        refine l_iadd hX dL_law_639 ?_
        refine l_top (nI (i + 1)) (nI_add i 1) ?_
        refine l_sld hX (i + 1) rfl (by omega) (by omega) dL_law_640 ?_
        refine l_aload_n hX 0 dL_law_641 rfl ?_
        refine l_iload_n hX 3 dL_law_642 rfl ?_
        refine l_iconst hX 2 dL_law_643 (by decide) ?_
        refine l_iadd hX dL_law_644 ?_
        refine l_top (nI (i + 2)) (nI_add i 2) ?_
        refine l_sld hX (i + 2) rfl (by omega) (by omega) dL_law_645 ?_
        refine l_cc hX (As := [.int (xs (i + 1)), .int (xs (i + 2))]) (rest := []) (c_X6_tries l G hA1 z (a := (xs (i + 1))) (t := (xs (i + 2))) (hI := hI)) kL_X6_tries rfl rfl (Nat.le_of_ble_eq_true rfl) dL_law_646 ?_
        refine l_aload_n hX 2 dL_law_649 rfl ?_
        refine l_aload_n hX 0 dL_law_650 rfl ?_
        refine l_iload_n hX 3 dL_law_651 rfl ?_
        refine l_iconst hX 1 dL_law_652 (by decide) ?_
        refine l_iadd hX dL_law_653 ?_
        refine l_top (nI (i + 1)) (nI_add i 1) ?_
        refine l_sld hX (i + 1) rfl (by omega) (by omega) dL_law_654 ?_
        refine l_aload_n hX 0 dL_law_655 rfl ?_
        refine l_iload_n hX 3 dL_law_656 rfl ?_
        refine l_iconst hX 2 dL_law_657 (by decide) ?_
        refine l_iadd hX dL_law_658 ?_
        refine l_top (nI (i + 2)) (nI_add i 2) ?_
        refine l_sld hX (i + 2) rfl (by omega) (by omega) dL_law_659 ?_
        refine l_cm hX (As := [.int (xs (i + 1)), .int (xs (i + 2))]) (rest := [.int ((cTries z (xs (i + 1)) (xs (i + 2))).1)]) (c_X7_tries l Gm hA2 z (x := (xs (i + 1))) (t := (xs (i + 2))) (hI := hI) (hcl := hO.cl) (h16 := hO.h16) (hpay := hO.pay) (hsd := hO.sd)) kL_X7_tries rfl rfl (Nat.le_of_ble_eq_true rfl) dL_law_660 ?_
        have hp := pair_tries hV hB (xs (i + 1)) (xs (i + 2))
        refine l_ic_eq hX 806 dL_law_663 (by decide) (fun _ => ?_) (fun c => ?_)
        · exact fin _ _ hp.2.2 hp.2.1
        · exact absurd hp.1 c
      · refine l_tabIn hX (off := 636) 668 dL_law_32 (by decide) (by decide) rfl (by decide) ?_
        -- put
        refine l_aload_n hX 1 dL_law_668 rfl ?_
        refine l_aload_n hX 0 dL_law_669 rfl ?_
        refine l_iload_n hX 3 dL_law_670 rfl ?_
        refine l_iconst hX 1 dL_law_671 (by decide) ?_
        refine l_iadd hX dL_law_672 ?_
        refine l_top (nI (i + 1)) (nI_add i 1) ?_
        refine l_sld hX (i + 1) rfl (by omega) (by omega) dL_law_673 ?_
        refine l_i2l hX dL_law_674 ?_
        refine l_bipush hX 32 dL_law_675 (by decide) ?_
        refine l_lshl hX dL_law_677 ?_
        refine l_aload_n hX 0 dL_law_678 rfl ?_
        refine l_iload_n hX 3 dL_law_679 rfl ?_
        refine l_iconst hX 2 dL_law_680 (by decide) ?_
        refine l_iadd hX dL_law_681 ?_
        refine l_top (nI (i + 2)) (nI_add i 2) ?_
        refine l_sld hX (i + 2) rfl (by omega) (by omega) dL_law_682 ?_
        refine l_i2l hX dL_law_683 ?_
        refine l_ldc2 hX 4294967295 dL_law_684 (List.mem_of_getElem? (i := 6) rfl) ?_
        refine l_land hX dL_law_687 ?_
        refine l_lor hX dL_law_688 ?_
        refine l_cc hX (As := [.long (((xs (i + 1)).toInt64 <<< ((32 : Int32).toInt64 &&& 63)) ||| ((xs (i + 2)).toInt64 &&& 4294967295))]) (rest := []) (c_X6_put l G hA1 z (c := (((xs (i + 1)).toInt64 <<< ((32 : Int32).toInt64 &&& 63)) ||| ((xs (i + 2)).toInt64 &&& 4294967295))) (hP := hP)) kL_X6_put rfl rfl (Nat.le_of_ble_eq_true rfl) dL_law_689 ?_
        refine l_aload_n hX 2 dL_law_692 rfl ?_
        refine l_aload_n hX 0 dL_law_693 rfl ?_
        refine l_iload_n hX 3 dL_law_694 rfl ?_
        refine l_iconst hX 1 dL_law_695 (by decide) ?_
        refine l_iadd hX dL_law_696 ?_
        refine l_top (nI (i + 1)) (nI_add i 1) ?_
        refine l_sld hX (i + 1) rfl (by omega) (by omega) dL_law_697 ?_
        refine l_i2l hX dL_law_698 ?_
        refine l_bipush hX 32 dL_law_699 (by decide) ?_
        refine l_lshl hX dL_law_701 ?_
        refine l_aload_n hX 0 dL_law_702 rfl ?_
        refine l_iload_n hX 3 dL_law_703 rfl ?_
        refine l_iconst hX 2 dL_law_704 (by decide) ?_
        refine l_iadd hX dL_law_705 ?_
        refine l_top (nI (i + 2)) (nI_add i 2) ?_
        refine l_sld hX (i + 2) rfl (by omega) (by omega) dL_law_706 ?_
        refine l_i2l hX dL_law_707 ?_
        refine l_ldc2 hX 4294967295 dL_law_708 (List.mem_of_getElem? (i := 6) rfl) ?_
        refine l_land hX dL_law_711 ?_
        refine l_lor hX dL_law_712 ?_
        refine l_cm hX (As := [.long (((xs (i + 1)).toInt64 <<< ((32 : Int32).toInt64 &&& 63)) ||| ((xs (i + 2)).toInt64 &&& 4294967295))]) (rest := [.int ((spPut z (((xs (i + 1)).toInt64 <<< ((32 : Int32).toInt64 &&& 63)) ||| ((xs (i + 2)).toInt64 &&& 4294967295))).1)]) (c_X7_put l Gm hA2 z (c := (((xs (i + 1)).toInt64 <<< ((32 : Int32).toInt64 &&& 63)) ||| ((xs (i + 2)).toInt64 &&& 4294967295))) (hP := hP)) kL_X7_put rfl rfl (Nat.le_of_ble_eq_true rfl) dL_law_713 ?_
        have hp := pair_put hV (((xs (i + 1)).toInt64 <<< ((32 : Int32).toInt64 &&& 63)) ||| ((xs (i + 2)).toInt64 &&& 4294967295))
        refine l_ic_eq hX 806 dL_law_716 (by decide) (fun _ => ?_) (fun c => ?_)
        · exact fin _ _ hp.2.2 hp.2.1
        · exact absurd hp.1 c
      · refine l_tabIn hX (off := 689) 721 dL_law_32 (by decide) (by decide) rfl (by decide) ?_
        -- wipe
        refine l_aload_n hX 1 dL_law_721 rfl ?_
        refine l_cc hX (As := []) (rest := []) (c_X6_wipe l G hA1 z  ) kL_X6_wipe rfl rfl (Nat.le_of_ble_eq_true rfl) dL_law_722 ?_
        refine l_aload_n hX 2 dL_law_725 rfl ?_
        refine l_cm hX (As := []) (rest := [.int ((spWipe z).1)]) (c_X7_wipe l Gm hA2 z  ) kL_X7_wipe rfl rfl (Nat.le_of_ble_eq_true rfl) dL_law_726 ?_
        have hp := pair_wipe hV 
        refine l_ic_eq hX 806 dL_law_729 (by decide) (fun _ => ?_) (fun c => ?_)
        · exact fin _ _ hp.2.2 hp.2.1
        · exact absurd hp.1 c
      · refine l_tabIn hX (off := 702) 734 dL_law_32 (by decide) (by decide) rfl (by decide) ?_
        -- fault
        refine l_aload_n hX 1 dL_law_734 rfl ?_
        refine l_cc hX (As := []) (rest := []) (c_X6_fault l G hA1 z  (hP := hP)) kL_X6_fault rfl rfl (Nat.le_of_ble_eq_true rfl) dL_law_735 ?_
        refine l_aload_n hX 2 dL_law_738 rfl ?_
        refine l_cm hX (As := []) (rest := [.int ((spFault z).1)]) (c_X7_fault l Gm hA2 z  (hP := hP)) kL_X7_fault rfl rfl (Nat.le_of_ble_eq_true rfl) dL_law_739 ?_
        have hp := PairOK.un (pair_fault hV )
        refine l_ic_eq hX 806 dL_law_742 (by decide) (fun _ => ?_) (fun c => ?_)
        · exact fin _ _ hp.2.2 hp.2.1
        · exact absurd hp.1 c
      · refine l_tabIn hX (off := 715) 747 dL_law_32 (by decide) (by decide) rfl (by decide) ?_
        -- load
        refine l_aload_n hX 1 dL_law_747 rfl ?_
        refine l_cc hX (As := []) (rest := []) (c_X6_load l G hA1 z  (hI := hI) (hP := hP)) kL_X6_load rfl rfl (Nat.le_of_ble_eq_true rfl) dL_law_748 ?_
        refine l_aload_n hX 2 dL_law_751 rfl ?_
        refine l_cm hX (As := []) (rest := [.int ((spLoad z).1)]) (c_X7_load l Gm hA2 z  (hP := hP) (hA2 := hO.ai)) kL_X7_load rfl rfl (Nat.le_of_ble_eq_true rfl) dL_law_752 ?_
        have hp := pair_load hV 
        refine l_ic_eq hX 806 dL_law_755 (by decide) (fun _ => ?_) (fun c => ?_)
        · exact fin _ _ hp.2.2 hp.2.1
        · exact absurd hp.1 c
      · refine l_tabIn hX (off := 728) 760 dL_law_32 (by decide) (by decide) rfl (by decide) ?_
        -- save
        refine l_aload_n hX 1 dL_law_760 rfl ?_
        refine l_aload_n hX 0 dL_law_761 rfl ?_
        refine l_iload_n hX 3 dL_law_762 rfl ?_
        refine l_iconst hX 1 dL_law_763 (by decide) ?_
        refine l_iadd hX dL_law_764 ?_
        refine l_top (nI (i + 1)) (nI_add i 1) ?_
        refine l_sld hX (i + 1) rfl (by omega) (by omega) dL_law_765 ?_
        refine l_cc hX (As := [.int (xs (i + 1))]) (rest := []) (c_X6_save l G hA1 z (s := (xs (i + 1))) (hb := h18) (hcl := h7)) kL_X6_save rfl rfl (Nat.le_of_ble_eq_true rfl) dL_law_766 ?_
        refine l_aload_n hX 2 dL_law_769 rfl ?_
        refine l_aload_n hX 0 dL_law_770 rfl ?_
        refine l_iload_n hX 3 dL_law_771 rfl ?_
        refine l_iconst hX 1 dL_law_772 (by decide) ?_
        refine l_iadd hX dL_law_773 ?_
        refine l_top (nI (i + 1)) (nI_add i 1) ?_
        refine l_sld hX (i + 1) rfl (by omega) (by omega) dL_law_774 ?_
        refine l_cm hX (As := [.int (xs (i + 1))]) (rest := [.int ((spSave z (xs (i + 1))).1)]) (c_X7_save l Gm hA2 z (x := (xs (i + 1))) ) kL_X7_save rfl rfl (Nat.le_of_ble_eq_true rfl) dL_law_775 ?_
        have hp := pair_save hV (xs (i + 1))
        refine l_ic_eq hX 806 dL_law_778 (by decide) (fun _ => ?_) (fun c => ?_)
        · exact fin _ _ hp.2.2 hp.2.1
        · exact absurd hp.1 c
      · refine l_tabIn hX (off := 751) 783 dL_law_32 (by decide) (by decide) rfl (by decide) ?_
        -- restore
        refine l_aload_n hX 1 dL_law_783 rfl ?_
        refine l_aload_n hX 0 dL_law_784 rfl ?_
        refine l_iload_n hX 3 dL_law_785 rfl ?_
        refine l_iconst hX 1 dL_law_786 (by decide) ?_
        refine l_iadd hX dL_law_787 ?_
        refine l_top (nI (i + 1)) (nI_add i 1) ?_
        refine l_sld hX (i + 1) rfl (by omega) (by omega) dL_law_788 ?_
        refine l_cc hX (As := [.int (xs (i + 1))]) (rest := []) (c_X6_restore l G hA1 z (s := (xs (i + 1))) (hb := h18) (hcl := h7)) kL_X6_restore rfl rfl (Nat.le_of_ble_eq_true rfl) dL_law_789 ?_
        refine l_aload_n hX 2 dL_law_792 rfl ?_
        refine l_aload_n hX 0 dL_law_793 rfl ?_
        refine l_iload_n hX 3 dL_law_794 rfl ?_
        refine l_iconst hX 1 dL_law_795 (by decide) ?_
        refine l_iadd hX dL_law_796 ?_
        refine l_top (nI (i + 1)) (nI_add i 1) ?_
        refine l_sld hX (i + 1) rfl (by omega) (by omega) dL_law_797 ?_
        refine l_cm hX (As := [.int (xs (i + 1))]) (rest := [.int ((spRestore z (xs (i + 1))).1)]) (c_X7_restore l Gm hA2 z (x := (xs (i + 1))) ) kL_X7_restore rfl rfl (Nat.le_of_ble_eq_true rfl) dL_law_798 ?_
        have hp := pair_restore hV (xs (i + 1))
        refine l_ic_eq hX 806 dL_law_801 (by decide) (fun _ => ?_) (fun c => ?_)
        · exact fin _ _ hp.2.2 hp.2.1
        · exact absurd hp.1 c
      · refine l_tabOut hX 806 dL_law_32 hw (by decide) ?_
        exact fin z z (fun _ _ => rfl) (by rw [comb_self]; exact hV.mono (by omega))
