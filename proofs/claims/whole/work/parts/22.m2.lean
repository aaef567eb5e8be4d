def rm_X7_route : Room := { frames := 1, cells := 0, slots := 0, locals := 22 }
theorem i_X7_route_wsX70 : ∀ w ∈ wsX70, w ∈ wsX7_route := fun w h => List.mem_cons_of_mem _ (List.mem_append_right _ h)
theorem k_X7_route_X7_in : CS rm_X7_route wsX7_route RX7 35 yX7_in cX7_in 3 (some .boolean) wsX7_in rm_X7_in 3 := ⟨gX7_route_X7_in, ⟨_, rfl⟩, rfl, rfl, ⟨rfl, by decide +kernel, by decide +kernel, by decide +kernel⟩, by decide, by decide⟩
set_option maxHeartbeats 4000000 in
set_option maxRecDepth 100000 in
theorem c_X7_route (l : Launch) (G : MG) (hA : Ap 9 G.2.2) (z : St) {x : Int32} {y : Int32} (hI : IO z) : CIm l G yX7_route wsX7_route rm_X7_route [.ref (G.2.2 0), .int x, .int y] z (fun ρ ζ => ρ = (spRoute z x y).1 ∧ ζ = (spRoute z x y).2) := by
  refine ci_of (own := RX7) (cc := cX7_route) (maxL := 3) (ret := .int) (by decide +kernel) rfl rfl ?_ (Nat.le_of_ble_eq_true rfl) (KQ_mv (ExM_mv G)) ?_
  · intro v z' _; rfl
  · intro X hX ret
    refine g_lv (lv' := [(0, .ref (G.2.2 0)), (1, .int x), (2, .int y)]) rfl ?_
    have hf : z 1 0 = 6 ↔ ¬ z 1 0 < 6 := full_iff (n := 6) (by decide) hI.2.1
    refine g_iload_n hX 1 dX7_route_0 rfl ?_
    refine g_iconst hX 1 dX7_route_1 (by decide) ?_
    refine g_bipush hX 12 dX7_route_2 (by decide) ?_
    refine g_csE hX (As := [.int x, .int 1, .int 12]) (rest := []) (c_X7_in l G z (x := x) (lo := 1) (hi := 12) ) k_X7_route_X7_in rfl rfl (Nat.le_of_ble_eq_true rfl) dX7_route_4 ?_
    refine g_bi_eq hX 19 dX7_route_7 (by decide) (fun c1 => ?_) (fun c1 => ?_)
    · -- jump 19
      refine g_bipush hX (-2) dX7_route_19 (by decide) ?_
      refine ret _ _ _ _ dX7_route_21 ?_
      first | (simp [spRoute, c1]; done) | grind [spRoute]
    · -- on 10
      refine g_iload_n hX 2 dX7_route_10 rfl ?_
      refine g_iconst hX 0 dX7_route_11 (by decide) ?_
      refine g_iload_n hX 1 dX7_route_12 rfl ?_
      refine g_csE hX (As := [.int y, .int 0, .int x]) (rest := []) (c_X7_in l G z (x := y) (lo := 0) (hi := x) ) k_X7_route_X7_in rfl rfl (Nat.le_of_ble_eq_true rfl) dX7_route_13 ?_
      refine g_bi_ne hX 22 dX7_route_16 (by decide) (fun c2 => ?_) (fun c2 => ?_)
      · -- jump 22
        refine g_aload_n hX 0 dX7_route_22 rfl ?_
        refine m_g_0 hX i_X7_route_wsX70 (List.mem_of_getElem? (i := 1) rfl) dX7_route_23 ?_
        refine g_iconst hX 1 dX7_route_26 (by decide) ?_
        refine m_ld_at hX 1 rfl (by decide) dX7_route_27 (v := (z 1 0)) rfl ?_
        refine g_bipush hX 6 dX7_route_28 (by decide) ?_
        refine g_ic_ne hX 36 dX7_route_30 (by decide) (fun c3 => ?_) (fun c3 => ?_)
        · -- jump 36
          have h6 : cn (z 1 0) < 6 := by
            have h := (iNr hI).1; rw [h] at c3; have h2 := (iNr hI).2; have h3 : ¬ _ = 6 := fun e => c3 ((nI_eq (b := 6) (by omega) (by decide)).mpr e); omega
          refine g_aload_n hX 0 dX7_route_36 rfl ?_
          refine m_g_0 hX i_X7_route_wsX70 (List.mem_of_getElem? (i := 1) rfl) dX7_route_37 ?_
          refine g_bipush hX 10 dX7_route_40 (by decide) ?_
          refine g_iconst hX 2 dX7_route_42 (by decide) ?_
          refine g_aload_n hX 0 dX7_route_43 rfl ?_
          refine m_g_0 hX i_X7_route_wsX70 (List.mem_of_getElem? (i := 1) rfl) dX7_route_44 ?_
          refine g_iconst hX 1 dX7_route_47 (by decide) ?_
          refine m_ld_at hX 1 rfl (by decide) dX7_route_48 (v := (z 1 0)) rfl ?_
          refine g_imul hX dX7_route_49 ?_
          refine g_iadd hX dX7_route_50 ?_
          refine g_iload_n hX 1 dX7_route_51 rfl ?_
          refine m_st_at hX hA (10 + 2 * cn (z 1 0)) (ix_r2 (iNr hI).1) (by omega) dX7_route_52 ?_
          refine g_z (z2 := u2 z 5 (cn (z 1 0)) x) (by rw [(fO_r h6).1, (fO_r h6).2.1]; rfl) ?_
          refine g_aload_n hX 0 dX7_route_53 rfl ?_
          refine m_g_0 hX i_X7_route_wsX70 (List.mem_of_getElem? (i := 1) rfl) dX7_route_54 ?_
          refine g_bipush hX 10 dX7_route_57 (by decide) ?_
          refine g_iconst hX 2 dX7_route_59 (by decide) ?_
          refine g_aload_n hX 0 dX7_route_60 rfl ?_
          refine m_g_0 hX i_X7_route_wsX70 (List.mem_of_getElem? (i := 1) rfl) dX7_route_61 ?_
          refine g_iconst hX 1 dX7_route_64 (by decide) ?_
          refine m_ld_at hX 1 rfl (by decide) dX7_route_65 (v := (z 1 0)) rfl ?_
          refine g_imul hX dX7_route_66 ?_
          refine g_iadd hX dX7_route_67 ?_
          refine g_iconst hX 1 dX7_route_68 (by decide) ?_
          refine g_iadd hX dX7_route_69 ?_
          refine g_iload_n hX 2 dX7_route_70 rfl ?_
          refine m_st_at hX hA (11 + 2 * cn (z 1 0)) (ix_b2 (iNr hI).1) (by omega) dX7_route_71 ?_
          refine g_z (z2 := u2 (u2 z 5 (cn (z 1 0)) x) 6 (cn (z 1 0)) y) (by rw [(fO_r h6).2.2.1, (fO_r h6).2.2.2]; rfl) ?_
          refine g_aload_n hX 0 dX7_route_72 rfl ?_
          refine m_g_0 hX i_X7_route_wsX70 (List.mem_of_getElem? (i := 1) rfl) dX7_route_73 ?_
          refine g_iconst hX 1 dX7_route_76 (by decide) ?_
          refine g_dup2 hX dX7_route_77 rfl rfl ?_
          refine m_ld_at hX 1 rfl (by decide) dX7_route_78 (v := (z 1 0)) rfl ?_
          refine g_iconst hX 1 dX7_route_79 (by decide) ?_
          refine g_iadd hX dX7_route_80 ?_
          refine m_st_at hX hA 1 rfl (by decide) dX7_route_81 ?_
          refine g_z (z2 := u2 (u2 (u2 z 5 (cn (z 1 0)) x) 6 (cn (z 1 0)) y) 1 0 ((z 1 0) + 1)) (rfl) ?_
          refine g_aload_n hX 0 dX7_route_82 rfl ?_
          refine m_g_0 hX i_X7_route_wsX70 (List.mem_of_getElem? (i := 1) rfl) dX7_route_83 ?_
          refine g_iconst hX 1 dX7_route_86 (by decide) ?_
          refine m_ld_at hX 1 rfl (by decide) dX7_route_87 (v := ((z 1 0) + 1)) rfl ?_
          refine g_iconst hX 1 dX7_route_88 (by decide) ?_
          refine g_isub hX dX7_route_89 ?_
          refine ret _ _ _ _ dX7_route_90 ?_
          first | (simp [spRoute, c1, c2, c3]; done) | grind [spRoute]
        · -- on 33
          refine g_bipush hX (-4) dX7_route_33 (by decide) ?_
          refine ret _ _ _ _ dX7_route_35 ?_
          first | (simp [spRoute, c1, c2, c3]; done) | grind [spRoute]
      · -- on 19
        refine g_bipush hX (-2) dX7_route_19 (by decide) ?_
        refine ret _ _ _ _ dX7_route_21 ?_
        first | (simp [spRoute, c1, c2]; done) | grind [spRoute]
def rm_X7_buffer : Room := { frames := 2, cells := 0, slots := 0, locals := 43 }
theorem i_X7_buffer_wsX70 : ∀ w ∈ wsX70, w ∈ wsX7_buffer := fun w h => List.mem_cons_of_mem _ (List.mem_append_right _ h)
theorem k_X7_buffer_X7_bufferOf : CW rm_X7_buffer wsX7_buffer RX7 RX7 51 yX7_bufferOf cX7_bufferOf 2 (some .int) wsX7_bufferOf rm_X7_bufferOf 1 := ⟨gX7_buffer_X7_bufferOf, ⟨_, rfl⟩, rfl, rfl, ⟨rfl, by decide +kernel, by decide +kernel, by decide +kernel⟩, by decide, by decide⟩
theorem k_X7_buffer_X7_in : CS rm_X7_buffer wsX7_buffer RX7 35 yX7_in cX7_in 3 (some .boolean) wsX7_in rm_X7_in 3 := ⟨gX7_buffer_X7_in, ⟨_, rfl⟩, rfl, rfl, ⟨rfl, by decide +kernel, by decide +kernel, by decide +kernel⟩, by decide, by decide⟩
theorem k_X7_buffer_X7_isRoute : CW rm_X7_buffer wsX7_buffer RX7 RX7 43 yX7_isRoute cX7_isRoute 2 (some .boolean) wsX7_isRoute rm_X7_isRoute 1 := ⟨gX7_buffer_X7_isRoute, ⟨_, rfl⟩, rfl, rfl, ⟨rfl, by decide +kernel, by decide +kernel, by decide +kernel⟩, by decide, by decide⟩
theorem k_X7_buffer_X7_limitOf : CW rm_X7_buffer wsX7_buffer RX7 RX7 47 yX7_limitOf cX7_limitOf 2 (some .int) wsX7_limitOf rm_X7_limitOf 1 := ⟨gX7_buffer_X7_limitOf, ⟨_, rfl⟩, rfl, rfl, ⟨rfl, by decide +kernel, by decide +kernel, by decide +kernel⟩, by decide, by decide⟩
set_option maxHeartbeats 4000000 in
set_option maxRecDepth 100000 in
theorem c_X7_buffer (l : Launch) (G : MG) (hA : Ap 9 G.2.2) (z : St) {x : Int32} {y : Int32} (hI : IO z) : CIm l G yX7_buffer wsX7_buffer rm_X7_buffer [.ref (G.2.2 0), .int x, .int y] z (fun ρ ζ => ρ = (spBuffer z x y).1 ∧ ζ = (spBuffer z x y).2) := by
  refine ci_of (own := RX7) (cc := cX7_buffer) (maxL := 4) (ret := .int) (by decide +kernel) rfl rfl ?_ (Nat.le_of_ble_eq_true rfl) (KQ_mv (ExM_mv G)) ?_
  · intro v z' _; rfl
  · intro X hX ret
    refine g_lv (lv' := [(0, .ref (G.2.2 0)), (1, .int x), (2, .int y)]) rfl ?_
    refine g_aload_n hX 0 dX7_buffer_0 rfl ?_
    refine g_iload_n hX 1 dX7_buffer_1 rfl ?_
    refine g_cvE hX (As := [.int x]) (rest := []) (c_X7_isRoute l G z (x := x) (hI := (by assumption))) k_X7_buffer_X7_isRoute rc_Model rfl rfl (Nat.le_of_ble_eq_true rfl) dX7_buffer_2 ?_
    refine g_bi_ne hX 10 dX7_buffer_5 (by decide) (fun c1 => ?_) (fun c1 => ?_)
    · -- jump 10
      have hr := routeP_in hI c1
      refine g_lv (lv' := [(0, .ref (G.2.2 0)), (1, .int (nI (cn x))), (2, .int y)]) (by rw [← (show x = (nI (cn x)) from hr.1)]) ?_
      refine g_iload_n hX 2 dX7_buffer_10 rfl ?_
      refine g_iconst hX 0 dX7_buffer_11 (by decide) ?_
      refine g_aload_n hX 0 dX7_buffer_12 rfl ?_
      refine g_iload_n hX 1 dX7_buffer_13 rfl ?_
      refine g_cvE hX (As := [.int (nI (cn x))]) (rest := [.int 0, .int y]) (c_X7_limitOf l G z (r := (cn x)) (hr6 := (by omega))) k_X7_buffer_X7_limitOf rc_Model rfl rfl (Nat.le_of_ble_eq_true rfl) dX7_buffer_14 ?_
      refine g_csE hX (As := [.int y, .int 0, .int (z 5 (cn x))]) (rest := []) (c_X7_in l G z (x := y) (lo := 0) (hi := (z 5 (cn x))) ) k_X7_buffer_X7_in rfl rfl (Nat.le_of_ble_eq_true rfl) dX7_buffer_17 ?_
      refine g_bi_ne hX 26 dX7_buffer_20 (by decide) (fun c2 => ?_) (fun c2 => ?_)
      · -- jump 26
        refine g_aload_n hX 0 dX7_buffer_26 rfl ?_
        refine g_iload_n hX 1 dX7_buffer_27 rfl ?_
        refine g_cvE hX (As := [.int (nI (cn x))]) (rest := []) (c_X7_bufferOf l G z (r := (cn x)) (hr6 := (by omega))) k_X7_buffer_X7_bufferOf rc_Model rfl rfl (Nat.le_of_ble_eq_true rfl) dX7_buffer_28 ?_
        refine g_istore_n hX [(3, .int (z 6 (cn x))), (0, .ref (G.2.2 0)), (1, .int (nI (cn x))), (2, .int y)] dX7_buffer_31 (by decide) rfl ?_
        refine g_aload_n hX 1 dX7_buffer_32 rfl ?_
        refine m_g_0 hX i_X7_buffer_wsX70 (List.mem_of_getElem? (i := 1) rfl) dX7_buffer_33 ?_
        refine g_bipush hX 10 dX7_buffer_36 (by decide) ?_
        refine g_iconst hX 2 dX7_buffer_38 (by decide) ?_
        refine g_iload_n hX 2 dX7_buffer_39 rfl ?_
        refine g_imul hX dX7_buffer_40 ?_
        refine g_iadd hX dX7_buffer_41 ?_
        refine g_iconst hX 1 dX7_buffer_42 (by decide) ?_
        refine g_iadd hX dX7_buffer_43 ?_
        refine g_iload_n hX 3 dX7_buffer_44 rfl ?_
        refine m_st_at hX hA (11 + 2 * cn x) (ix_b _) (by omega) dX7_buffer_45 ?_
        refine g_z (z2 := u2 z 6 (cn x) y) (by rw [(fO_r hr.2).2.2.1, (fO_r hr.2).2.2.2]; rfl) ?_
        refine g_iload_n hX 0 dX7_buffer_46 rfl ?_
        refine ret _ _ _ _ dX7_buffer_47 ?_
        first | (simp [spBuffer, c1, c2]; done) | grind [spBuffer]
      · -- on 23
        refine g_bipush hX (-2) dX7_buffer_23 (by decide) ?_
        refine ret _ _ _ _ dX7_buffer_25 ?_
        first | (simp [spBuffer, c1, c2]; done) | grind [spBuffer]
    · -- on 8
      refine g_iconst hX (-1) dX7_buffer_8 (by decide) ?_
      refine ret _ _ _ _ dX7_buffer_9 ?_
      first | (simp [spBuffer, c1]; done) | grind [spBuffer]
def rm_X7_join : Room := { frames := 1, cells := 0, slots := 0, locals := 23 }
theorem i_X7_join_wsX70 : ∀ w ∈ wsX70, w ∈ wsX7_join := fun w h => List.mem_cons_of_mem _ (List.mem_append_right _ h)
theorem k_X7_join_X7_layClimber : CW rm_X7_join wsX7_join RX7 RX7 54 yX7_layClimber cX7_layClimber 4 none wsX7_layClimber rm_X7_layClimber 3 := ⟨gX7_join_X7_layClimber, ⟨_, rfl⟩, rfl, rfl, ⟨rfl, by decide +kernel, by decide +kernel, by decide +kernel⟩, by decide, by decide⟩
set_option maxHeartbeats 4000000 in
set_option maxRecDepth 100000 in
theorem c_X7_join (l : Launch) (G : MG) (hA : Ap 9 G.2.2) (z : St)  (hI : IO z) : CIm l G yX7_join wsX7_join rm_X7_join [.ref (G.2.2 0)] z (fun ρ ζ => ρ = (spJoin z).1 ∧ ζ = mJoin z) := by
  refine ci_of (own := RX7) (cc := cX7_join) (maxL := 2) (ret := .int) (by decide +kernel) rfl rfl ?_ (Nat.le_of_ble_eq_true rfl) (KQ_mv (ExM_mv G)) ?_
  · intro v z' _; rfl
  · intro X hX ret
    refine g_lv (lv' := [(0, .ref (G.2.2 0))]) rfl ?_
    have hf : z 2 0 = 12 ↔ ¬ z 2 0 < 12 := full_iff (n := 12) (by decide) hI.2.2.1
    refine g_aload_n hX 0 dX7_join_0 rfl ?_
    refine m_g_0 hX i_X7_join_wsX70 (List.mem_of_getElem? (i := 1) rfl) dX7_join_1 ?_
    refine g_iconst hX 2 dX7_join_4 (by decide) ?_
    refine m_ld_at hX 2 rfl (by decide) dX7_join_5 (v := (z 2 0)) rfl ?_
    refine g_bipush hX 12 dX7_join_6 (by decide) ?_
    refine g_ic_ne hX 14 dX7_join_8 (by decide) (fun c1 => ?_) (fun c1 => ?_)
    · -- jump 14
      have hc : z 2 0 = nI (cn (z 2 0)) ∧ cn (z 2 0) < 12 := by
        have h := (iNc hI).1; refine ⟨h, ?_⟩; rw [h] at c1; have h2 := (iNc hI).2; have h3 : ¬ _ = 12 := fun e => c1 ((nI_eq (b := 12) (by omega) (by decide)).mpr e); omega
      refine g_aload_n hX 0 dX7_join_14 rfl ?_
      refine m_g_0 hX i_X7_join_wsX70 (List.mem_of_getElem? (i := 1) rfl) dX7_join_15 ?_
      refine g_iconst hX 2 dX7_join_18 (by decide) ?_
      refine m_ld_at hX 2 rfl (by decide) dX7_join_19 (v := (z 2 0)) rfl ?_
      refine g_istore_n hX [(1, .int (z 2 0)), (0, .ref (G.2.2 0))] dX7_join_20 (by decide) rfl ?_
      refine g_aload_n hX 1 dX7_join_21 rfl ?_
      refine g_iload_n hX 0 dX7_join_22 rfl ?_
      refine g_iconst hX 0 dX7_join_23 (by decide) ?_
      refine g_iconst hX 0 dX7_join_24 (by decide) ?_
      refine g_st (st2 := [.int 0, .int 0, .int (nI (cn (z 2 0))), .ref (G.2.2 0)]) (by rw [← (show (z 2 0) = nI (cn (z 2 0)) from hc.1)]) ?_
      refine g_cvvE hX (As := [.int (nI (cn (z 2 0))), .int 0, .int 0]) (rest := []) (c_X7_layClimber l G hA z (c := (cn (z 2 0))) (w := 0) (v := 0) (hc := hc.2) (hw := (by decide))) k_X7_join_X7_layClimber rc_Model rfl rfl (Nat.le_of_ble_eq_true rfl) dX7_join_25 ?_
      refine g_z (z2 := u2 z 8 (cn (z 2 0)) 0) rfl ?_
      refine g_aload_n hX 1 dX7_join_28 rfl ?_
      refine g_iload_n hX 0 dX7_join_29 rfl ?_
      refine g_iconst hX 1 dX7_join_30 (by decide) ?_
      refine g_iconst hX 0 dX7_join_31 (by decide) ?_
      refine g_st (st2 := [.int 0, .int 1, .int (nI (cn (z 2 0))), .ref (G.2.2 0)]) (by rw [← (show (z 2 0) = nI (cn (z 2 0)) from hc.1)]) ?_
      refine g_cvvE hX (As := [.int (nI (cn (z 2 0))), .int 1, .int 0]) (rest := []) (c_X7_layClimber l G hA (u2 z 8 (cn (z 2 0)) 0) (c := (cn (z 2 0))) (w := 1) (v := 0) (hc := hc.2) (hw := (by decide))) k_X7_join_X7_layClimber rc_Model rfl rfl (Nat.le_of_ble_eq_true rfl) dX7_join_32 ?_
      refine g_z (z2 := u2 (u2 z 8 (cn (z 2 0)) 0) 9 (cn (z 2 0)) 0) rfl ?_
      refine g_aload_n hX 1 dX7_join_35 rfl ?_
      refine g_iload_n hX 0 dX7_join_36 rfl ?_
      refine g_iconst hX 2 dX7_join_37 (by decide) ?_
      refine g_bipush hX (-6) dX7_join_38 (by decide) ?_
      refine g_st (st2 := [.int (-6), .int 2, .int (nI (cn (z 2 0))), .ref (G.2.2 0)]) (by rw [← (show (z 2 0) = nI (cn (z 2 0)) from hc.1)]) ?_
      refine g_cvvE hX (As := [.int (nI (cn (z 2 0))), .int 2, .int (-6)]) (rest := []) (c_X7_layClimber l G hA (u2 (u2 z 8 (cn (z 2 0)) 0) 9 (cn (z 2 0)) 0) (c := (cn (z 2 0))) (w := 2) (v := (-6)) (hc := hc.2) (hw := (by decide))) k_X7_join_X7_layClimber rc_Model rfl rfl (Nat.le_of_ble_eq_true rfl) dX7_join_40 ?_
      refine g_z (z2 := u2 (u2 (u2 z 8 (cn (z 2 0)) 0) 9 (cn (z 2 0)) 0) 87 (cn (z 2 0)) (-6)) rfl ?_
      refine g_aload_n hX 1 dX7_join_43 rfl ?_
      refine m_g_0 hX i_X7_join_wsX70 (List.mem_of_getElem? (i := 1) rfl) dX7_join_44 ?_
      refine g_iconst hX 2 dX7_join_47 (by decide) ?_
      refine g_dup2 hX dX7_join_48 rfl rfl ?_
      refine m_ld_at hX 2 rfl (by decide) dX7_join_49 (v := (z 2 0)) rfl ?_
      refine g_iconst hX 1 dX7_join_50 (by decide) ?_
      refine g_iadd hX dX7_join_51 ?_
      refine m_st_at hX hA 2 rfl (by decide) dX7_join_52 ?_
      refine g_z (z2 := u2 (u2 (u2 (u2 z 8 (cn (z 2 0)) 0) 9 (cn (z 2 0)) 0) 87 (cn (z 2 0)) (-6)) 2 0 ((z 2 0) + 1)) (rfl) ?_
      refine g_iload_n hX 0 dX7_join_53 rfl ?_
      refine ret _ _ _ _ dX7_join_54 ?_
      first | (simp [spJoin, mJoin, c1]; done) | grind [spJoin, mJoin]
    · -- on 11
      refine g_bipush hX (-4) dX7_join_11 (by decide) ?_
      refine ret _ _ _ _ dX7_join_13 ?_
      first | (simp [spJoin, mJoin, c1]; done) | grind [spJoin, mJoin]
def rm_X7_takes : Room := { frames := 1, cells := 0, slots := 0, locals := 22 }
theorem k_X7_takes_X7_in : CS rm_X7_takes wsX7_takes RX7 35 yX7_in cX7_in 3 (some .boolean) wsX7_in rm_X7_in 3 := ⟨gX7_takes_X7_in, ⟨_, rfl⟩, rfl, rfl, ⟨rfl, by decide +kernel, by decide +kernel, by decide +kernel⟩, by decide, by decide⟩
set_option maxHeartbeats 4000000 in
set_option maxRecDepth 100000 in
theorem c_X7_takes (l : Launch) (G : MG) (z : St) {w : Int32} {v : Int32}  : CIm l G yX7_takes wsX7_takes rm_X7_takes [.int w, .int v] z (fun ρ ζ => ρ = bi (¬ (w < 0 ∨ 6 ≤ w ∨ v < fLOW (cn w) ∨ ¬ v ≤ fHIGH (cn w))) ∧ ζ = z) := by
  refine ci_of (own := RX7) (cc := cX7_takes) (maxL := 2) (ret := .boolean) (by decide +kernel) rfl rfl ?_ (Nat.le_of_ble_eq_true rfl) (KQ_mv (ExM_mv G)) ?_
  · rintro v z' ⟨rfl, -⟩; exact nz_bi _
  · intro X hX ret
    refine g_lv (lv' := [(0, .int w), (1, .int v)]) rfl ?_
    refine g_iload_n hX 0 dX7_takes_0 rfl ?_
    have ht1 : w = 0 ∨ w = 1 ∨ w = 2 ∨ w = 3 ∨ w = 4 ∨ (w.toInt < 0 ∨ 4 < w.toInt) := by
      have e0 : (0 : Int32).toInt = 0 := by decide
      have e1 : (1 : Int32).toInt = 1 := by decide
      have e2 : (2 : Int32).toInt = 2 := by decide
      have e3 : (3 : Int32).toInt = 3 := by decide
      have e4 : (4 : Int32).toInt = 4 := by decide
      simp only [← Int32.toInt_inj]
      omega
    rcases ht1 with ht1 | ht1 | ht1 | ht1 | ht1 | ht1
    · -- case 0
      refine g_tabIn hX (off := 35) 36 dX7_takes_1 (by rw [ht1]; decide) (by rw [ht1]; decide) (by rw [ht1]; rfl) (by decide) ?_
      refine g_iload_n hX 1 dX7_takes_36 rfl ?_
      refine g_iconst hX 1 dX7_takes_37 (by decide) ?_
      refine g_sipush hX 1000 dX7_takes_38 (by decide) ?_
      refine g_csE hX (As := [.int v, .int 1, .int 1000]) (rest := []) (c_X7_in l G z (x := v) (lo := 1) (hi := 1000) ) k_X7_takes_X7_in rfl rfl (Nat.le_of_ble_eq_true rfl) dX7_takes_41 ?_
      refine ret _ _ _ _ dX7_takes_44 ?_
      refine ⟨?_, rfl⟩
      rw [ht1]
      have e1 : fLOW (cn 0) = 1 := rfl
      have e2 : fHIGH (cn 0) = 1000 := rfl
      have e3 : ¬ (0 : Int32) < 0 := by decide
      have e4 : ¬ (6 : Int32) ≤ 0 := by decide
      simp only [bi, e1, e2, e3, e4, false_or, not_or, Int32.not_lt, Decidable.not_not]
    · -- case 1
      refine g_tabIn hX (off := 44) 45 dX7_takes_1 (by rw [ht1]; decide) (by rw [ht1]; decide) (by rw [ht1]; rfl) (by decide) ?_
      refine g_iload_n hX 1 dX7_takes_45 rfl ?_
      refine g_iconst hX 0 dX7_takes_46 (by decide) ?_
      refine g_bipush hX 9 dX7_takes_47 (by decide) ?_
      refine g_csE hX (As := [.int v, .int 0, .int 9]) (rest := []) (c_X7_in l G z (x := v) (lo := 0) (hi := 9) ) k_X7_takes_X7_in rfl rfl (Nat.le_of_ble_eq_true rfl) dX7_takes_49 ?_
      refine ret _ _ _ _ dX7_takes_52 ?_
      refine ⟨?_, rfl⟩
      rw [ht1]
      have e1 : fLOW (cn 1) = 0 := rfl
      have e2 : fHIGH (cn 1) = 9 := rfl
      have e3 : ¬ (1 : Int32) < 0 := by decide
      have e4 : ¬ (6 : Int32) ≤ 1 := by decide
      simp only [bi, e1, e2, e3, e4, false_or, not_or, Int32.not_lt, Decidable.not_not]
    · -- case 2
      refine g_tabIn hX (off := 52) 53 dX7_takes_1 (by rw [ht1]; decide) (by rw [ht1]; decide) (by rw [ht1]; rfl) (by decide) ?_
      refine g_iload_n hX 1 dX7_takes_53 rfl ?_
      refine g_iconst hX 1 dX7_takes_54 (by decide) ?_
      refine g_iconst hX 5 dX7_takes_55 (by decide) ?_
      refine g_csE hX (As := [.int v, .int 1, .int 5]) (rest := []) (c_X7_in l G z (x := v) (lo := 1) (hi := 5) ) k_X7_takes_X7_in rfl rfl (Nat.le_of_ble_eq_true rfl) dX7_takes_56 ?_
      refine ret _ _ _ _ dX7_takes_59 ?_
      refine ⟨?_, rfl⟩
      rw [ht1]
      have e1 : fLOW (cn 2) = 1 := rfl
      have e2 : fHIGH (cn 2) = 5 := rfl
      have e3 : ¬ (2 : Int32) < 0 := by decide
      have e4 : ¬ (6 : Int32) ≤ 2 := by decide
      simp only [bi, e1, e2, e3, e4, false_or, not_or, Int32.not_lt, Decidable.not_not]
    · -- case 3
      refine g_tabIn hX (off := 59) 60 dX7_takes_1 (by rw [ht1]; decide) (by rw [ht1]; decide) (by rw [ht1]; rfl) (by decide) ?_
      refine g_iload_n hX 1 dX7_takes_60 rfl ?_
      refine g_iconst hX 0 dX7_takes_61 (by decide) ?_
      refine g_bipush hX 30 dX7_takes_62 (by decide) ?_
      refine g_csE hX (As := [.int v, .int 0, .int 30]) (rest := []) (c_X7_in l G z (x := v) (lo := 0) (hi := 30) ) k_X7_takes_X7_in rfl rfl (Nat.le_of_ble_eq_true rfl) dX7_takes_64 ?_
      refine ret _ _ _ _ dX7_takes_67 ?_
      refine ⟨?_, rfl⟩
      rw [ht1]
      have e1 : fLOW (cn 3) = 0 := rfl
      have e2 : fHIGH (cn 3) = 30 := rfl
      have e3 : ¬ (3 : Int32) < 0 := by decide
      have e4 : ¬ (6 : Int32) ≤ 3 := by decide
      simp only [bi, e1, e2, e3, e4, false_or, not_or, Int32.not_lt, Decidable.not_not]
    · -- case 4
      refine g_tabIn hX (off := 67) 68 dX7_takes_1 (by rw [ht1]; decide) (by rw [ht1]; decide) (by rw [ht1]; rfl) (by decide) ?_
      refine g_iload_n hX 1 dX7_takes_68 rfl ?_
      refine g_iconst hX 0 dX7_takes_69 (by decide) ?_
      refine g_bipush hX 10 dX7_takes_70 (by decide) ?_
      refine g_csE hX (As := [.int v, .int 0, .int 10]) (rest := []) (c_X7_in l G z (x := v) (lo := 0) (hi := 10) ) k_X7_takes_X7_in rfl rfl (Nat.le_of_ble_eq_true rfl) dX7_takes_72 ?_
      refine ret _ _ _ _ dX7_takes_75 ?_
      refine ⟨?_, rfl⟩
      rw [ht1]
      have e1 : fLOW (cn 4) = 0 := rfl
      have e2 : fHIGH (cn 4) = 10 := rfl
      have e3 : ¬ (4 : Int32) < 0 := by decide
      have e4 : ¬ (6 : Int32) ≤ 4 := by decide
      simp only [bi, e1, e2, e3, e4, false_or, not_or, Int32.not_lt, Decidable.not_not]
    · -- default
      have ht1_0 : ¬ w = 0 := by intro e; rw [e] at ht1; revert ht1; decide
      have ht1_1 : ¬ w = 1 := by intro e; rw [e] at ht1; revert ht1; decide
      have ht1_2 : ¬ w = 2 := by intro e; rw [e] at ht1; revert ht1; decide
      have ht1_3 : ¬ w = 3 := by intro e; rw [e] at ht1; revert ht1; decide
      have ht1_4 : ¬ w = 4 := by intro e; rw [e] at ht1; revert ht1; decide
      refine g_tabOut hX 76 dX7_takes_1 ht1 (by decide) ?_
      refine g_iload_n hX 0 dX7_takes_76 rfl ?_
      refine g_iconst hX 5 dX7_takes_77 (by decide) ?_
      refine g_ic_ne hX 95 dX7_takes_78 (by decide) (fun c2 => ?_) (fun c2 => ?_)
      · -- jump 95
        refine g_iconst hX 0 dX7_takes_95 (by decide) ?_
        refine ret _ _ _ _ dX7_takes_96 ?_
        refine ⟨?_, rfl⟩
        by_cases h5 : w = 5
        · rw [h5]
          have e1 : fLOW (cn 5) = 0 := rfl
          have e2 : fHIGH (cn 5) = 65535 := rfl
          have e3 : ¬ (5 : Int32) < 0 := by decide
          have e4 : ¬ (6 : Int32) ≤ 5 := by decide
          simp only [bi, e1, e2, e3, e4, false_or, not_or, Int32.not_lt, Decidable.not_not]
          grind
        · have := set_out (w := w) (by assumption) h5
          grind [bi]
      · -- on 81
        refine g_iload_n hX 1 dX7_takes_81 rfl ?_
        refine g_iconst hX 0 dX7_takes_82 (by decide) ?_
        refine g_ldc hX 65535 dX7_takes_83 (List.mem_of_getElem? (i := 1) rfl) ?_
        refine g_csE hX (As := [.int v, .int 0, .int 65535]) (rest := []) (c_X7_in l G z (x := v) (lo := 0) (hi := 65535) ) k_X7_takes_X7_in rfl rfl (Nat.le_of_ble_eq_true rfl) dX7_takes_85 ?_
        refine g_bi_eq hX 95 dX7_takes_88 (by decide) (fun c3 => ?_) (fun c3 => ?_)
        · -- jump 95
          refine g_iconst hX 0 dX7_takes_95 (by decide) ?_
          refine ret _ _ _ _ dX7_takes_96 ?_
          refine ⟨?_, rfl⟩
          by_cases h5 : w = 5
          · rw [h5]
            have e1 : fLOW (cn 5) = 0 := rfl
            have e2 : fHIGH (cn 5) = 65535 := rfl
            have e3 : ¬ (5 : Int32) < 0 := by decide
            have e4 : ¬ (6 : Int32) ≤ 5 := by decide
            simp only [bi, e1, e2, e3, e4, false_or, not_or, Int32.not_lt, Decidable.not_not]
            grind
          · have := set_out (w := w) (by assumption) h5
            grind [bi]
        · -- on 91
          refine g_iconst hX 1 dX7_takes_91 (by decide) ?_
          refine g_goto hX 96 dX7_takes_92 (by decide) ?_
          refine ret _ _ _ _ dX7_takes_96 ?_
          refine ⟨?_, rfl⟩
          by_cases h5 : w = 5
          · rw [h5]
            have e1 : fLOW (cn 5) = 0 := rfl
            have e2 : fHIGH (cn 5) = 65535 := rfl
            have e3 : ¬ (5 : Int32) < 0 := by decide
            have e4 : ¬ (6 : Int32) ≤ 5 := by decide
            simp only [bi, e1, e2, e3, e4, false_or, not_or, Int32.not_lt, Decidable.not_not]
            grind
          · have := set_out (w := w) (by assumption) h5
            grind [bi]
def rm_X7_set : Room := { frames := 2, cells := 0, slots := 0, locals := 43 }
theorem i_X7_set_wsX70 : ∀ w ∈ wsX70, w ∈ wsX7_set := fun w h => List.mem_cons_of_mem _ (List.mem_append_right _ h)
theorem k_X7_set_X7_setting : CW rm_X7_set wsX7_set RX7 RX7 63 yX7_setting cX7_setting 2 (some .int) wsX7_setting rm_X7_setting 1 := ⟨gX7_set_X7_setting, ⟨_, rfl⟩, rfl, rfl, ⟨rfl, by decide +kernel, by decide +kernel, by decide +kernel⟩, by decide, by decide⟩
theorem k_X7_set_X7_takes : CS rm_X7_set wsX7_set RX7 59 yX7_takes cX7_takes 2 (some .boolean) wsX7_takes rm_X7_takes 2 := ⟨gX7_set_X7_takes, ⟨_, rfl⟩, rfl, rfl, ⟨rfl, by decide +kernel, by decide +kernel, by decide +kernel⟩, by decide, by decide⟩
set_option maxHeartbeats 4000000 in
set_option maxRecDepth 100000 in
theorem c_X7_set (l : Launch) (G : MG) (hA : Ap 9 G.2.2) (z : St) {x : Int32} {y : Int32}  : CIm l G yX7_set wsX7_set rm_X7_set [.ref (G.2.2 0), .int x, .int y] z (fun ρ ζ => ρ = (spSet z x y).1 ∧ ζ = (spSet z x y).2) := by
  refine ci_of (own := RX7) (cc := cX7_set) (maxL := 4) (ret := .int) (by decide +kernel) rfl rfl ?_ (Nat.le_of_ble_eq_true rfl) (KQ_mv (ExM_mv G)) ?_
  · intro v z' _; rfl
  · intro X hX ret
    refine g_lv (lv' := [(0, .ref (G.2.2 0)), (1, .int x), (2, .int y)]) rfl ?_
    refine g_iload_n hX 1 dX7_set_0 rfl ?_
    refine g_iload_n hX 2 dX7_set_1 rfl ?_
    refine g_csE hX (As := [.int x, .int y]) (rest := []) (c_X7_takes l G z (w := x) (v := y) ) k_X7_set_X7_takes rfl rfl (Nat.le_of_ble_eq_true rfl) dX7_set_2 ?_
    refine g_bi_ne hX 11 dX7_set_5 (by decide) (fun c1 => ?_) (fun c1 => ?_)
    · -- jump 11
      have hx := rng (x := x) (n := 6) (by decide) (fun h => c1 (Or.inl h)) (Int32.not_le.mp (fun h => c1 (Or.inr (Or.inl h))))
      refine g_lv (lv' := [(0, .ref (G.2.2 0)), (1, .int (nI (cn x))), (2, .int y)]) (by rw [← (show x = (nI (cn x)) from hx.1)]) ?_
      refine g_aload_n hX 0 dX7_set_11 rfl ?_
      refine g_iload_n hX 1 dX7_set_12 rfl ?_
      refine g_cvE hX (As := [.int (nI (cn x))]) (rest := []) (c_X7_setting l G z (w := (cn x)) (hw := hx.2)) k_X7_set_X7_setting rc_Model rfl rfl (Nat.le_of_ble_eq_true rfl) dX7_set_13 ?_
      refine g_istore_n hX [(3, .int (z 4 (cn x))), (0, .ref (G.2.2 0)), (1, .int (nI (cn x))), (2, .int y)] dX7_set_16 (by decide) rfl ?_
      refine g_aload_n hX 1 dX7_set_17 rfl ?_
      refine m_g_0 hX i_X7_set_wsX70 (List.mem_of_getElem? (i := 1) rfl) dX7_set_18 ?_
      refine g_iconst hX 4 dX7_set_21 (by decide) ?_
      refine g_iload_n hX 2 dX7_set_22 rfl ?_
      refine g_iadd hX dX7_set_23 ?_
      refine g_iload_n hX 3 dX7_set_24 rfl ?_
      refine m_st_at hX hA (4 + cn x) (nI_add 4 _) (by omega) dX7_set_25 ?_
      refine g_z (z2 := u2 z 4 (cn x) y) (by rw [(fO_s hx.2).1, (fO_s hx.2).2]; rfl) ?_
      refine g_iload_n hX 0 dX7_set_26 rfl ?_
      refine ret _ _ _ _ dX7_set_27 ?_
      first | (unfold spSet; rw [if_neg (by assumption)]; exact ⟨rfl, rfl⟩) | (unfold spSet; rw [if_pos (Decidable.not_not.mp (by assumption))]; exact ⟨rfl, rfl⟩)
    · -- on 8
      refine g_bipush hX (-2) dX7_set_8 (by decide) ?_
      refine ret _ _ _ _ dX7_set_10 ?_
      first | (unfold spSet; rw [if_neg (by assumption)]; exact ⟨rfl, rfl⟩) | (unfold spSet; rw [if_pos (Decidable.not_not.mp (by assumption))]; exact ⟨rfl, rfl⟩)
def rm_X7_apply : Room := { frames := 3, cells := 0, slots := 0, locals := 70 }
theorem i_X7_apply_wsX70 : ∀ w ∈ wsX70, w ∈ wsX7_apply := fun w h => List.mem_cons_of_mem _ (List.mem_append_right _ h)
theorem k_X7_apply_X7_hasOne : CW rm_X7_apply wsX7_apply RX7 RX7 87 yX7_hasOne cX7_hasOne 6 (some .boolean) wsX7_hasOne rm_X7_hasOne 3 := ⟨gX7_apply_X7_hasOne, ⟨_, rfl⟩, rfl, rfl, ⟨rfl, by decide +kernel, by decide +kernel, by decide +kernel⟩, by decide, by decide⟩
theorem k_X7_apply_X7_in : CS rm_X7_apply wsX7_apply RX7 35 yX7_in cX7_in 3 (some .boolean) wsX7_in rm_X7_in 3 := ⟨gX7_apply_X7_in, ⟨_, rfl⟩, rfl, rfl, ⟨rfl, by decide +kernel, by decide +kernel, by decide +kernel⟩, by decide, by decide⟩
theorem k_X7_apply_X7_isBarred : CW rm_X7_apply wsX7_apply RX7 RX7 90 yX7_isBarred cX7_isBarred 3 (some .boolean) wsX7_isBarred rm_X7_isBarred 2 := ⟨gX7_apply_X7_isBarred, ⟨_, rfl⟩, rfl, rfl, ⟨rfl, by decide +kernel, by decide +kernel, by decide +kernel⟩, by decide, by decide⟩
theorem k_X7_apply_X7_isClimber : CW rm_X7_apply wsX7_apply RX7 RX7 78 yX7_isClimber cX7_isClimber 2 (some .boolean) wsX7_isClimber rm_X7_isClimber 1 := ⟨gX7_apply_X7_isClimber, ⟨_, rfl⟩, rfl, rfl, ⟨rfl, by decide +kernel, by decide +kernel, by decide +kernel⟩, by decide, by decide⟩
theorem k_X7_apply_X7_isClosed : CW rm_X7_apply wsX7_apply RX7 RX7 84 yX7_isClosed cX7_isClosed 2 (some .boolean) wsX7_isClosed rm_X7_isClosed 1 := ⟨gX7_apply_X7_isClosed, ⟨_, rfl⟩, rfl, rfl, ⟨rfl, by decide +kernel, by decide +kernel, by decide +kernel⟩, by decide, by decide⟩
theorem k_X7_apply_X7_isDay : CS rm_X7_apply wsX7_apply RX7 81 yX7_isDay cX7_isDay 1 (some .boolean) wsX7_isDay rm_X7_isDay 1 := ⟨gX7_apply_X7_isDay, ⟨_, rfl⟩, rfl, rfl, ⟨rfl, by decide +kernel, by decide +kernel, by decide +kernel⟩, by decide, by decide⟩
theorem k_X7_apply_X7_isRoute : CW rm_X7_apply wsX7_apply RX7 RX7 43 yX7_isRoute cX7_isRoute 2 (some .boolean) wsX7_isRoute rm_X7_isRoute 1 := ⟨gX7_apply_X7_isRoute, ⟨_, rfl⟩, rfl, rfl, ⟨rfl, by decide +kernel, by decide +kernel, by decide +kernel⟩, by decide, by decide⟩
theorem k_X7_apply_X7_lay : CW rm_X7_apply wsX7_apply RX7 RX7 75 yX7_lay cX7_lay 4 none wsX7_lay rm_X7_lay 3 := ⟨gX7_apply_X7_lay, ⟨_, rfl⟩, rfl, rfl, ⟨rfl, by decide +kernel, by decide +kernel, by decide +kernel⟩, by decide, by decide⟩
set_option maxHeartbeats 4000000 in
set_option maxRecDepth 100000 in
theorem c_X7_apply (l : Launch) (G : MG) (hA : Ap 9 G.2.2) (z : St) {c : Int32} {r : Int32} {d : Int32} {p : Int32} (hI : IO z) (hcl : ∀ d, d < 60 → z 7 d = 0 ∨ z 7 d = 1) (h87c : ∀ c, c < cn (z 2 0) → z 87 c = z 10 c) (hst : ∀ a, a < nA z → ∃ s, s < 7 ∧ z 15 a = nI s) (hfr : nA z < 40 → z 15 (nA z) = 0 ∧ z 16 (nA z) = 0 ∧ z 17 (nA z) = 0 ∧ z 18 (nA z) = 0) : CIm l G yX7_apply wsX7_apply rm_X7_apply [.ref (G.2.2 0), .int c, .int r, .int d, .int p] z (fun ρ ζ => ρ = (spApply z c r d p).1 ∧ ζ = (spApply z c r d p).2) := by
  refine ci_of (own := RX7) (cc := cX7_apply) (maxL := 6) (ret := .int) (by decide +kernel) rfl rfl ?_ (Nat.le_of_ble_eq_true rfl) (KQ_mv (ExM_mv G)) ?_
  · intro v z' _; rfl
  · intro X hX ret
    refine g_lv (lv' := [(0, .ref (G.2.2 0)), (1, .int c), (2, .int r), (3, .int d), (4, .int p)]) rfl ?_
    have hf : z 3 0 = 40 ↔ ¬ z 3 0 < 40 := full_iff (n := 40) (by decide) hI.2.2.2.1
    refine g_aload_n hX 0 dX7_apply_0 rfl ?_
    refine g_iload_n hX 1 dX7_apply_1 rfl ?_
    refine g_cvE hX (As := [.int c]) (rest := []) (c_X7_isClimber l G z (x := c) (hI := (by assumption))) k_X7_apply_X7_isClimber rc_Model rfl rfl (Nat.le_of_ble_eq_true rfl) dX7_apply_2 ?_
    refine g_bi_eq hX 23 dX7_apply_5 (by decide) (fun c1 => ?_) (fun c1 => ?_)
    · -- jump 23
      refine g_iconst hX (-1) dX7_apply_23 (by decide) ?_
      refine ret _ _ _ _ dX7_apply_24 ?_
      first | (simp [spApply, c1]; done) | grind [spApply]
    · -- on 8
      have hc := climP_in hI c1
      refine g_aload_n hX 0 dX7_apply_8 rfl ?_
      refine g_iload_n hX 2 dX7_apply_9 rfl ?_
      refine g_cvE hX (As := [.int r]) (rest := []) (c_X7_isRoute l G z (x := r) (hI := (by assumption))) k_X7_apply_X7_isRoute rc_Model rfl rfl (Nat.le_of_ble_eq_true rfl) dX7_apply_10 ?_
      refine g_bi_eq hX 23 dX7_apply_13 (by decide) (fun c2 => ?_) (fun c2 => ?_)
      · -- jump 23
        refine g_iconst hX (-1) dX7_apply_23 (by decide) ?_
        refine ret _ _ _ _ dX7_apply_24 ?_
        first | (simp [spApply, c1, c2]; done) | grind [spApply]
      · -- on 16
        have hr := routeP_in hI c2
        refine g_iload_n hX 3 dX7_apply_16 rfl ?_
        refine g_csE hX (As := [.int d]) (rest := []) (c_X7_isDay l G z (x := d) ) k_X7_apply_X7_isDay rfl rfl (Nat.le_of_ble_eq_true rfl) dX7_apply_17 ?_
        refine g_bi_ne hX 25 dX7_apply_20 (by decide) (fun c3 => ?_) (fun c3 => ?_)
        · -- jump 25
          have hd := dayP_in c3
          have hc0 := cl_iff (hcl _ hd.2)
          refine g_iload hX 4 dX7_apply_25 rfl ?_
          refine g_iconst hX 1 dX7_apply_27 (by decide) ?_
          refine g_iconst hX 4 dX7_apply_28 (by decide) ?_
          refine g_csE hX (As := [.int p, .int 1, .int 4]) (rest := []) (c_X7_in l G z (x := p) (lo := 1) (hi := 4) ) k_X7_apply_X7_in rfl rfl (Nat.le_of_ble_eq_true rfl) dX7_apply_29 ?_
          refine g_bi_ne hX 38 dX7_apply_32 (by decide) (fun c4 => ?_) (fun c4 => ?_)
          · -- jump 38
            refine g_iload_n hX 3 dX7_apply_38 rfl ?_
            refine g_aload_n hX 0 dX7_apply_39 rfl ?_
            refine m_g_0 hX i_X7_apply_wsX70 (List.mem_of_getElem? (i := 1) rfl) dX7_apply_40 ?_
            refine g_iconst hX 0 dX7_apply_43 (by decide) ?_
            refine m_ld_at hX 0 rfl (by decide) dX7_apply_44 (v := (z 0 0)) rfl ?_
            refine g_ic_lt hX 75 dX7_apply_45 (by decide) (fun c5 => ?_) (fun c5 => ?_)
            · -- jump 75
              refine g_bipush hX (-5) dX7_apply_75 (by decide) ?_
              refine ret _ _ _ _ dX7_apply_77 ?_
              first | (simp [spApply, c1, c2, c3, c4, c5]; done) | grind [spApply]
            · -- on 48
              refine g_aload_n hX 0 dX7_apply_48 rfl ?_
              refine g_iload_n hX 3 dX7_apply_49 rfl ?_
              refine g_st (st2 := [.int (nI (cn d)), .ref (G.2.2 0)]) (by rw [← (show d = nI (cn d) from hd.1)]) ?_
              refine g_cvE hX (As := [.int (nI (cn d))]) (rest := []) (c_X7_isClosed l G z (d := (cn d)) (hd := hd.2)) k_X7_apply_X7_isClosed rc_Model rfl rfl (Nat.le_of_ble_eq_true rfl) dX7_apply_50 ?_
              refine g_bi_ne hX 75 dX7_apply_53 (by decide) (fun c6 => ?_) (fun c6 => ?_)
              · -- jump 75
                refine g_bipush hX (-5) dX7_apply_75 (by decide) ?_
                refine ret _ _ _ _ dX7_apply_77 ?_
                first | (simp [spApply, c1, c2, c3, c4, c5, c6]; done) | grind [spApply]
              · -- on 56
                refine g_aload_n hX 0 dX7_apply_56 rfl ?_
                refine g_iload_n hX 1 dX7_apply_57 rfl ?_
                refine g_iload_n hX 2 dX7_apply_58 rfl ?_
                refine g_iload_n hX 3 dX7_apply_59 rfl ?_
                refine g_cvE hX (As := [.int c, .int r, .int d]) (rest := []) (c_X7_hasOne l G z (c := c) (r := r) (d := d) (hI := (by assumption)) (hst := (by assumption))) k_X7_apply_X7_hasOne rc_Model rfl rfl (Nat.le_of_ble_eq_true rfl) dX7_apply_60 ?_
                refine g_bi_ne hX 75 dX7_apply_63 (by decide) (fun c7 => ?_) (fun c7 => ?_)
                · -- jump 75
                  refine g_bipush hX (-5) dX7_apply_75 (by decide) ?_
                  refine ret _ _ _ _ dX7_apply_77 ?_
                  first | (simp [spApply, c1, c2, c3, c4, c5, c6, c7]; done) | grind [spApply]
                · -- on 66
                  refine g_aload_n hX 0 dX7_apply_66 rfl ?_
                  refine g_iload_n hX 1 dX7_apply_67 rfl ?_
                  refine g_iload_n hX 3 dX7_apply_68 rfl ?_
                  refine g_st (st2 := [.int d, .int (nI (cn c)), .ref (G.2.2 0)]) (by rw [← (show c = nI (cn c) from hc.1)]) ?_
                  refine g_cvE hX (As := [.int (nI (cn c)), .int d]) (rest := []) (c_X7_isBarred l G z (c := (cn c)) (d := d) (hc := hc.2.2)) k_X7_apply_X7_isBarred rc_Model rfl rfl (Nat.le_of_ble_eq_true rfl) dX7_apply_69 ?_
                  refine g_top (bi (d ≤ z 10 (cn c))) (by simp only [h87c _ hc.2.1]) ?_
                  refine g_bi_eq hX 78 dX7_apply_72 (by decide) (fun c8 => ?_) (fun c8 => ?_)
                  · -- jump 78
                    refine g_aload_n hX 0 dX7_apply_78 rfl ?_
                    refine m_g_0 hX i_X7_apply_wsX70 (List.mem_of_getElem? (i := 1) rfl) dX7_apply_79 ?_
                    refine g_iconst hX 3 dX7_apply_82 (by decide) ?_
                    refine m_ld_at hX 3 rfl (by decide) dX7_apply_83 (v := (z 3 0)) rfl ?_
                    refine g_bipush hX 40 dX7_apply_84 (by decide) ?_
                    refine g_ic_ne hX 92 dX7_apply_86 (by decide) (fun c9 => ?_) (fun c9 => ?_)
                    · -- jump 92
                      have hn : nA z < 40 := by
                        have h := (iNa hI).1; rw [h] at c9; have h2 := (iNa hI).2; have h3 : ¬ _ = 40 := fun e => c9 ((nI_eq (b := 40) (by omega) (by decide)).mpr e); omega
                      refine g_aload_n hX 0 dX7_apply_92 rfl ?_
                      refine m_g_0 hX i_X7_apply_wsX70 (List.mem_of_getElem? (i := 1) rfl) dX7_apply_93 ?_
                      refine g_iconst hX 3 dX7_apply_96 (by decide) ?_
                      refine m_ld_at hX 3 rfl (by decide) dX7_apply_97 (v := (z 3 0)) rfl ?_
                      refine g_istore hX [(5, .int (z 3 0)), (0, .ref (G.2.2 0)), (1, .int c), (2, .int r), (3, .int d), (4, .int p)] dX7_apply_98 (by decide) rfl ?_
                      refine g_lv (lv' := [(5, .int (nI (nA z))), (0, .ref (G.2.2 0)), (1, .int c), (2, .int r), (3, .int d), (4, .int p)]) (by rw [← (show (z 3 0) = (nI (nA z)) from (iNa hI).1)]) ?_
                      refine g_aload_n hX 1 dX7_apply_100 rfl ?_
                      refine m_g_0 hX i_X7_apply_wsX70 (List.mem_of_getElem? (i := 1) rfl) dX7_apply_101 ?_
                      refine g_iconst hX 3 dX7_apply_104 (by decide) ?_
                      refine g_dup2 hX dX7_apply_105 rfl rfl ?_
                      refine m_ld_at hX 3 rfl (by decide) dX7_apply_106 (v := (z 3 0)) rfl ?_
                      refine g_iconst hX 1 dX7_apply_107 (by decide) ?_
                      refine g_iadd hX dX7_apply_108 ?_
                      refine m_st_at hX hA 3 rfl (by decide) dX7_apply_109 ?_
                      refine g_z (z2 := u2 z 3 0 ((z 3 0) + 1)) (rfl) ?_
                      refine g_aload_n hX 1 dX7_apply_110 rfl ?_
                      refine g_iload hX 0 dX7_apply_111 rfl ?_
                      refine g_iconst hX 0 dX7_apply_113 (by decide) ?_
                      refine g_iload_n hX 2 dX7_apply_114 rfl ?_
                      refine g_cvvE hX (As := [.int (nI (nA z)), .int 0, .int c]) (rest := []) (c_X7_lay l G hA (u2 z 3 0 ((z 3 0) + 1)) (a := (nA z)) (w := 0) (v := c) (ha := (by omega)) (hw := (by decide))) k_X7_apply_X7_lay rc_Model rfl rfl (Nat.le_of_ble_eq_true rfl) dX7_apply_115 ?_
                      refine g_z (z2 := u2 (u2 z 3 0 ((z 3 0) + 1)) 11 (nA z) c) rfl ?_
                      refine g_aload_n hX 1 dX7_apply_118 rfl ?_
                      refine g_iload hX 0 dX7_apply_119 rfl ?_
                      refine g_iconst hX 1 dX7_apply_121 (by decide) ?_
                      refine g_iload_n hX 3 dX7_apply_122 rfl ?_
                      refine g_cvvE hX (As := [.int (nI (nA z)), .int 1, .int r]) (rest := []) (c_X7_lay l G hA (u2 (u2 z 3 0 ((z 3 0) + 1)) 11 (nA z) c) (a := (nA z)) (w := 1) (v := r) (ha := (by omega)) (hw := (by decide))) k_X7_apply_X7_lay rc_Model rfl rfl (Nat.le_of_ble_eq_true rfl) dX7_apply_123 ?_
                      refine g_z (z2 := u2 (u2 (u2 z 3 0 ((z 3 0) + 1)) 11 (nA z) c) 12 (nA z) r) rfl ?_
                      refine g_aload_n hX 1 dX7_apply_126 rfl ?_
                      refine g_iload hX 0 dX7_apply_127 rfl ?_
                      refine g_iconst hX 2 dX7_apply_129 (by decide) ?_
                      refine g_iload_n hX 4 dX7_apply_130 rfl ?_
                      refine g_cvvE hX (As := [.int (nI (nA z)), .int 2, .int d]) (rest := []) (c_X7_lay l G hA (u2 (u2 (u2 z 3 0 ((z 3 0) + 1)) 11 (nA z) c) 12 (nA z) r) (a := (nA z)) (w := 2) (v := d) (ha := (by omega)) (hw := (by decide))) k_X7_apply_X7_lay rc_Model rfl rfl (Nat.le_of_ble_eq_true rfl) dX7_apply_131 ?_
                      refine g_z (z2 := u2 (u2 (u2 (u2 z 3 0 ((z 3 0) + 1)) 11 (nA z) c) 12 (nA z) r) 13 (nA z) d) rfl ?_
                      refine g_aload_n hX 1 dX7_apply_134 rfl ?_
                      refine g_iload hX 0 dX7_apply_135 rfl ?_
                      refine g_iconst hX 3 dX7_apply_137 (by decide) ?_
                      refine g_iload hX 5 dX7_apply_138 rfl ?_
                      refine g_cvvE hX (As := [.int (nI (nA z)), .int 3, .int p]) (rest := []) (c_X7_lay l G hA (u2 (u2 (u2 (u2 z 3 0 ((z 3 0) + 1)) 11 (nA z) c) 12 (nA z) r) 13 (nA z) d) (a := (nA z)) (w := 3) (v := p) (ha := (by omega)) (hw := (by decide))) k_X7_apply_X7_lay rc_Model rfl rfl (Nat.le_of_ble_eq_true rfl) dX7_apply_140 ?_
                      refine g_z (z2 := u2 (u2 (u2 (u2 (u2 z 3 0 ((z 3 0) + 1)) 11 (nA z) c) 12 (nA z) r) 13 (nA z) d) 14 (nA z) p) rfl ?_
                      refine g_aload_n hX 1 dX7_apply_143 rfl ?_
                      refine g_iload hX 0 dX7_apply_144 rfl ?_
                      refine g_iconst hX 4 dX7_apply_146 (by decide) ?_
                      refine g_iconst hX 0 dX7_apply_147 (by decide) ?_
                      refine g_cvvE hX (As := [.int (nI (nA z)), .int 4, .int 0]) (rest := []) (c_X7_lay l G hA (u2 (u2 (u2 (u2 (u2 z 3 0 ((z 3 0) + 1)) 11 (nA z) c) 12 (nA z) r) 13 (nA z) d) 14 (nA z) p) (a := (nA z)) (w := 4) (v := 0) (ha := (by omega)) (hw := (by decide))) k_X7_apply_X7_lay rc_Model rfl rfl (Nat.le_of_ble_eq_true rfl) dX7_apply_148 ?_
                      refine g_z (z2 := u2 (u2 (u2 (u2 (u2 (u2 z 3 0 ((z 3 0) + 1)) 11 (nA z) c) 12 (nA z) r) 13 (nA z) d) 14 (nA z) p) 15 (nA z) 0) rfl ?_
                      refine g_aload_n hX 1 dX7_apply_151 rfl ?_
                      refine g_iload hX 0 dX7_apply_152 rfl ?_
                      refine g_iconst hX 5 dX7_apply_154 (by decide) ?_
                      refine g_iconst hX 0 dX7_apply_155 (by decide) ?_
                      refine g_cvvE hX (As := [.int (nI (nA z)), .int 5, .int 0]) (rest := []) (c_X7_lay l G hA (u2 (u2 (u2 (u2 (u2 (u2 z 3 0 ((z 3 0) + 1)) 11 (nA z) c) 12 (nA z) r) 13 (nA z) d) 14 (nA z) p) 15 (nA z) 0) (a := (nA z)) (w := 5) (v := 0) (ha := (by omega)) (hw := (by decide))) k_X7_apply_X7_lay rc_Model rfl rfl (Nat.le_of_ble_eq_true rfl) dX7_apply_156 ?_
                      refine g_z (z2 := u2 (u2 (u2 (u2 (u2 (u2 (u2 z 3 0 ((z 3 0) + 1)) 11 (nA z) c) 12 (nA z) r) 13 (nA z) d) 14 (nA z) p) 15 (nA z) 0) 16 (nA z) 0) rfl ?_
                      refine g_aload_n hX 1 dX7_apply_159 rfl ?_
                      refine g_iload hX 0 dX7_apply_160 rfl ?_
                      refine g_bipush hX 6 dX7_apply_162 (by decide) ?_
                      refine g_iconst hX 0 dX7_apply_164 (by decide) ?_
                      refine g_cvvE hX (As := [.int (nI (nA z)), .int 6, .int 0]) (rest := []) (c_X7_lay l G hA (u2 (u2 (u2 (u2 (u2 (u2 (u2 z 3 0 ((z 3 0) + 1)) 11 (nA z) c) 12 (nA z) r) 13 (nA z) d) 14 (nA z) p) 15 (nA z) 0) 16 (nA z) 0) (a := (nA z)) (w := 6) (v := 0) (ha := (by omega)) (hw := (by decide))) k_X7_apply_X7_lay rc_Model rfl rfl (Nat.le_of_ble_eq_true rfl) dX7_apply_165 ?_
                      refine g_z (z2 := u2 (u2 (u2 (u2 (u2 (u2 (u2 (u2 z 3 0 ((z 3 0) + 1)) 11 (nA z) c) 12 (nA z) r) 13 (nA z) d) 14 (nA z) p) 15 (nA z) 0) 16 (nA z) 0) 17 (nA z) 0) rfl ?_
                      refine g_aload_n hX 1 dX7_apply_168 rfl ?_
                      refine g_iload hX 0 dX7_apply_169 rfl ?_
                      refine g_bipush hX 7 dX7_apply_171 (by decide) ?_
                      refine g_iconst hX 0 dX7_apply_173 (by decide) ?_
                      refine g_cvvE hX (As := [.int (nI (nA z)), .int 7, .int 0]) (rest := []) (c_X7_lay l G hA (u2 (u2 (u2 (u2 (u2 (u2 (u2 (u2 z 3 0 ((z 3 0) + 1)) 11 (nA z) c) 12 (nA z) r) 13 (nA z) d) 14 (nA z) p) 15 (nA z) 0) 16 (nA z) 0) 17 (nA z) 0) (a := (nA z)) (w := 7) (v := 0) (ha := (by omega)) (hw := (by decide))) k_X7_apply_X7_lay rc_Model rfl rfl (Nat.le_of_ble_eq_true rfl) dX7_apply_174 ?_
                      refine g_z (z2 := u2 (u2 (u2 (u2 (u2 (u2 (u2 (u2 (u2 z 3 0 ((z 3 0) + 1)) 11 (nA z) c) 12 (nA z) r) 13 (nA z) d) 14 (nA z) p) 15 (nA z) 0) 16 (nA z) 0) 17 (nA z) 0) 18 (nA z) 0) rfl ?_
                      refine g_aload_n hX 1 dX7_apply_177 rfl ?_
                      refine g_iload hX 0 dX7_apply_178 rfl ?_
                      refine g_bipush hX 8 dX7_apply_180 (by decide) ?_
                      refine g_iload_n hX 4 dX7_apply_182 rfl ?_
                      refine g_cvvE hX (As := [.int (nI (nA z)), .int 8, .int d]) (rest := []) (c_X7_lay l G hA (u2 (u2 (u2 (u2 (u2 (u2 (u2 (u2 (u2 z 3 0 ((z 3 0) + 1)) 11 (nA z) c) 12 (nA z) r) 13 (nA z) d) 14 (nA z) p) 15 (nA z) 0) 16 (nA z) 0) 17 (nA z) 0) 18 (nA z) 0) (a := (nA z)) (w := 8) (v := d) (ha := (by omega)) (hw := (by decide))) k_X7_apply_X7_lay rc_Model rfl rfl (Nat.le_of_ble_eq_true rfl) dX7_apply_183 ?_
                      refine g_z (z2 := u2 (u2 (u2 (u2 (u2 (u2 (u2 (u2 (u2 (u2 z 3 0 ((z 3 0) + 1)) 11 (nA z) c) 12 (nA z) r) 13 (nA z) d) 14 (nA z) p) 15 (nA z) 0) 16 (nA z) 0) 17 (nA z) 0) 18 (nA z) 0) 19 (nA z) d) rfl ?_
                      refine g_iload hX 0 dX7_apply_186 rfl ?_
                      refine ret _ _ _ _ dX7_apply_188 ?_
                      have e : spApply z c r d p = (z 3 0, newApp z c r d p) := by grind [spApply]
                      rw [e, ← newApp_m c r d p (hfr hn)]
                      exact ⟨(iNa hI).1.symm, rfl⟩
                    · -- on 89
                      refine g_bipush hX (-4) dX7_apply_89 (by decide) ?_
                      refine ret _ _ _ _ dX7_apply_91 ?_
                      first | (simp [spApply, c1, c2, c3, c4, c5, c6, c7, c8, c9]; done) | grind [spApply]
                  · -- on 75
                    refine g_bipush hX (-5) dX7_apply_75 (by decide) ?_
                    refine ret _ _ _ _ dX7_apply_77 ?_
                    first | (simp [spApply, c1, c2, c3, c4, c5, c6, c7, c8]; done) | grind [spApply]
          · -- on 35
            refine g_bipush hX (-2) dX7_apply_35 (by decide) ?_
            refine ret _ _ _ _ dX7_apply_37 ?_
            first | (simp [spApply, c1, c2, c3, c4]; done) | grind [spApply]
        · -- on 23
          refine g_iconst hX (-1) dX7_apply_23 (by decide) ?_
          refine ret _ _ _ _ dX7_apply_24 ?_
          first | (simp [spApply, c1, c2, c3]; done) | grind [spApply]
def rm_X7_ticketsOf : Room := { frames := 1, cells := 0, slots := 0, locals := 22 }
theorem k_X7_ticketsOf_X7_of : CW rm_X7_ticketsOf wsX7_ticketsOf RX7 RX7 66 yX7_of cX7_of 3 (some .int) wsX7_of rm_X7_of 2 := ⟨gX7_ticketsOf_X7_of, ⟨_, rfl⟩, rfl, rfl, ⟨rfl, by decide +kernel, by decide +kernel, by decide +kernel⟩, by decide, by decide⟩
theorem k_X7_ticketsOf_X7_ofClimber : CW rm_X7_ticketsOf wsX7_ticketsOf RX7 RX7 39 yX7_ofClimber cX7_ofClimber 3 (some .int) wsX7_ofClimber rm_X7_ofClimber 2 := ⟨gX7_ticketsOf_X7_ofClimber, ⟨_, rfl⟩, rfl, rfl, ⟨rfl, by decide +kernel, by decide +kernel, by decide +kernel⟩, by decide, by decide⟩
theorem k_X7_ticketsOf_X7_setting : CW rm_X7_ticketsOf wsX7_ticketsOf RX7 RX7 63 yX7_setting cX7_setting 2 (some .int) wsX7_setting rm_X7_setting 1 := ⟨gX7_ticketsOf_X7_setting, ⟨_, rfl⟩, rfl, rfl, ⟨rfl, by decide +kernel, by decide +kernel, by decide +kernel⟩, by decide, by decide⟩
set_option maxHeartbeats 4000000 in
set_option maxRecDepth 100000 in
theorem c_X7_ticketsOf (l : Launch) (G : MG) (z : St) {a : Nat} (ha : a < nA z) (hI : IO z) : CIm l G yX7_ticketsOf wsX7_ticketsOf rm_X7_ticketsOf [.ref (G.2.2 0), .int (nI a)] z (fun ρ ζ => ρ = tkt z a ∧ ζ = z) := by
  refine ci_of (own := RX7) (cc := cX7_ticketsOf) (maxL := 2) (ret := .int) (by decide +kernel) rfl rfl ?_ (Nat.le_of_ble_eq_true rfl) (KQ_mv (ExM_mv G)) ?_
  · intro v z' _; rfl
  · intro X hX ret
    refine g_lv (lv' := [(0, .ref (G.2.2 0)), (1, .int (nI a))]) rfl ?_
    have h40 := (iNa hI).2
    have hC := iC hI ha
    refine g_iconst hX 1 dX7_ticketsOf_0 (by decide) ?_
    refine g_aload_n hX 0 dX7_ticketsOf_1 rfl ?_
    refine g_iconst hX 1 dX7_ticketsOf_2 (by decide) ?_
    refine g_cvE hX (As := [.int 1]) (rest := [.int 1]) (c_X7_setting l G z (w := 1) (hw := (by decide))) k_X7_ticketsOf_X7_setting rc_Model rfl rfl (Nat.le_of_ble_eq_true rfl) dX7_ticketsOf_3 ?_
    refine g_aload_n hX 0 dX7_ticketsOf_6 rfl ?_
    refine g_aload_n hX 0 dX7_ticketsOf_7 rfl ?_
    refine g_iload_n hX 1 dX7_ticketsOf_8 rfl ?_
    refine g_iconst hX 0 dX7_ticketsOf_9 (by decide) ?_
    refine g_cvE hX (As := [.int (nI a), .int 0]) (rest := [.ref (G.2.2 0), .int (z 4 1), .int 1]) (c_X7_of l G z (a := a) (w := 0) (ha := (by omega)) (hw := (by decide))) k_X7_ticketsOf_X7_of rc_Model rfl rfl (Nat.le_of_ble_eq_true rfl) dX7_ticketsOf_10 ?_
    refine g_top (z 11 a) rfl ?_
    refine g_iconst hX 0 dX7_ticketsOf_13 (by decide) ?_
    refine g_st (st2 := [.int 0, .int (nI (cn (z 11 a))), .ref (G.2.2 0), .int (z 4 1), .int 1]) (by rw [← (show (z 11 a) = nI (cn (z 11 a)) from hC.1)]) ?_
    refine g_cvE hX (As := [.int (nI (cn (z 11 a))), .int 0]) (rest := [.int (z 4 1), .int 1]) (c_X7_ofClimber l G z (c := (cn (z 11 a))) (w := 0) (hc := hC.2) (hw := (by decide))) k_X7_ticketsOf_X7_ofClimber rc_Model rfl rfl (Nat.le_of_ble_eq_true rfl) dX7_ticketsOf_14 ?_
    refine g_top (z 8 (cn (z 11 a))) rfl ?_
    refine g_imul hX dX7_ticketsOf_17 ?_
    refine g_iadd hX dX7_ticketsOf_18 ?_
    refine ret _ _ _ _ dX7_ticketsOf_19 ?_
    exact ⟨rfl, rfl⟩
def rm_X7_laterDay : Room := { frames := 3, cells := 0, slots := 0, locals := 71 }
theorem k_X7_laterDay_X7_isClosed : CW rm_X7_laterDay wsX7_laterDay RX7 RX7 84 yX7_isClosed cX7_isClosed 2 (some .boolean) wsX7_isClosed rm_X7_isClosed 1 := ⟨gX7_laterDay_X7_isClosed, ⟨_, rfl⟩, rfl, rfl, ⟨rfl, by decide +kernel, by decide +kernel, by decide +kernel⟩, by decide, by decide⟩
theorem k_X7_laterDay_X7_limitOf : CW rm_X7_laterDay wsX7_laterDay RX7 RX7 47 yX7_limitOf cX7_limitOf 2 (some .int) wsX7_limitOf rm_X7_limitOf 1 := ⟨gX7_laterDay_X7_limitOf, ⟨_, rfl⟩, rfl, rfl, ⟨rfl, by decide +kernel, by decide +kernel, by decide +kernel⟩, by decide, by decide⟩
theorem k_X7_laterDay_X7_of : CW rm_X7_laterDay wsX7_laterDay RX7 RX7 66 yX7_of cX7_of 3 (some .int) wsX7_of rm_X7_of 2 := ⟨gX7_laterDay_X7_of, ⟨_, rfl⟩, rfl, rfl, ⟨rfl, by decide +kernel, by decide +kernel, by decide +kernel⟩, by decide, by decide⟩
theorem k_X7_laterDay_X7_setting : CW rm_X7_laterDay wsX7_laterDay RX7 RX7 63 yX7_setting cX7_setting 2 (some .int) wsX7_setting rm_X7_setting 1 := ⟨gX7_laterDay_X7_setting, ⟨_, rfl⟩, rfl, rfl, ⟨rfl, by decide +kernel, by decide +kernel, by decide +kernel⟩, by decide, by decide⟩
theorem k_X7_laterDay_X7_taken : CW rm_X7_laterDay wsX7_laterDay RX7 RX7 72 yX7_taken cX7_taken 7 (some .int) wsX7_taken rm_X7_taken 2 := ⟨gX7_laterDay_X7_taken, ⟨_, rfl⟩, rfl, rfl, ⟨rfl, by decide +kernel, by decide +kernel, by decide +kernel⟩, by decide, by decide⟩
set_option maxHeartbeats 4000000 in
set_option maxRecDepth 100000 in
theorem c_X7_laterDay (l : Launch) (G : MG) (z : St) {a : Nat} (ha : a < nA z) (hI : IO z) (hs : z 4 4 = nI (cn (z 4 4)) ∧ cn (z 4 4) ≤ 10) (hcl : ∀ d, d < 60 → z 7 d = 0 ∨ z 7 d = 1) (ht : z 0 0 ≤ z 13 a) : CIm l G yX7_laterDay wsX7_laterDay rm_X7_laterDay [.ref (G.2.2 0), .int (nI a)] z (fun ρ ζ => ρ = later z a ∧ ζ = z) := by
  refine ci_of (own := RX7) (cc := cX7_laterDay) (maxL := 6) (ret := .int) (by decide +kernel) rfl rfl ?_ (Nat.le_of_ble_eq_true rfl) (KQ_mv (ExM_mv G)) ?_
  · intro v z' _; rfl
  · intro X hX ret
    refine g_lv (lv' := [(0, .ref (G.2.2 0)), (1, .int (nI a))]) rfl ?_
    have h40 := (iNa hI).2
    have hD := iD hI ha
    have hR := iR hI ha
    have hL := laterM_last hD hs
    refine g_aload_n hX 0 dX7_laterDay_0 rfl ?_
    refine g_iload_n hX 1 dX7_laterDay_1 rfl ?_
    refine g_iconst hX 1 dX7_laterDay_2 (by decide) ?_
    refine g_cvE hX (As := [.int (nI a), .int 1]) (rest := []) (c_X7_of l G z (a := a) (w := 1) (ha := (by omega)) (hw := (by decide))) k_X7_laterDay_X7_of rc_Model rfl rfl (Nat.le_of_ble_eq_true rfl) dX7_laterDay_3 ?_
    refine g_top (z 12 a) rfl ?_
    refine g_istore_n hX [(2, .int (z 12 a)), (0, .ref (G.2.2 0)), (1, .int (nI a))] dX7_laterDay_6 (by decide) rfl ?_
    refine g_aload_n hX 1 dX7_laterDay_7 rfl ?_
    refine g_iload_n hX 2 dX7_laterDay_8 rfl ?_
    refine g_iconst hX 2 dX7_laterDay_9 (by decide) ?_
    refine g_cvE hX (As := [.int (nI a), .int 2]) (rest := []) (c_X7_of l G z (a := a) (w := 2) (ha := (by omega)) (hw := (by decide))) k_X7_laterDay_X7_of rc_Model rfl rfl (Nat.le_of_ble_eq_true rfl) dX7_laterDay_10 ?_
    refine g_top (z 13 a) rfl ?_
    refine g_istore_n hX [(3, .int (z 13 a)), (2, .int (z 12 a)), (0, .ref (G.2.2 0)), (1, .int (nI a))] dX7_laterDay_13 (by decide) rfl ?_
    refine g_iload_n hX 0 dX7_laterDay_14 rfl ?_
    refine g_aload_n hX 2 dX7_laterDay_15 rfl ?_
    refine g_iconst hX 4 dX7_laterDay_16 (by decide) ?_
    refine g_cvE hX (As := [.int 4]) (rest := [.int (z 13 a)]) (c_X7_setting l G z (w := 4) (hw := (by decide))) k_X7_laterDay_X7_setting rc_Model rfl rfl (Nat.le_of_ble_eq_true rfl) dX7_laterDay_17 ?_
    refine g_iadd hX dX7_laterDay_20 ?_
    refine g_bipush hX 60 dX7_laterDay_21 (by decide) ?_
    refine g_ic_ge hX 36 dX7_laterDay_23 (by decide) (fun c1 => ?_) (fun c1 => ?_)
    · -- jump 36
      have hll := hL.2 c1
      refine g_bipush hX 59 dX7_laterDay_36 (by decide) ?_
      refine g_istore hX [(4, .int 59), (3, .int (z 13 a)), (2, .int (z 12 a)), (0, .ref (G.2.2 0)), (1, .int (nI a))] dX7_laterDay_38 (by decide) rfl ?_
      refine g_iload_n hX 1 dX7_laterDay_40 rfl ?_
      refine g_iconst hX 1 dX7_laterDay_41 (by decide) ?_
      refine g_iadd hX dX7_laterDay_42 ?_
      refine g_istore hX [(5, .int ((z 13 a) + 1)), (4, .int 59), (3, .int (z 13 a)), (2, .int (z 12 a)), (0, .ref (G.2.2 0)), (1, .int (nI a))] dX7_laterDay_43 (by decide) rfl ?_
      have loop45 : ∀ (nf : Nat) (f : Nat) (d : Nat), (61 < d + nf) → (d ≤ 60) → (cn (z 13 a) < d) → (61 ≤ f + d) → (laterF z a (lastD z a) f d = later z a) → Go X (z) 45 [(0, .ref (G.2.2 0)), (1, .int (nI a)), (2, .int (z 12 a)), (3, .int (z 13 a)), (4, .int (lastD z a)), (5, .int (nI d))] [] := by
        intro nf
        induction nf with
        | zero =>
          intro f d hmu hd hgt hf hr
          exfalso; omega
        | succ nf ih =>
          intro f d hmu hd hgt hf hr
          refine g_iload hX 5 dX7_laterDay_45 rfl ?_
          refine g_iload hX 4 dX7_laterDay_47 rfl ?_
          refine g_ic_gt hX 92 dX7_laterDay_49 (by decide) (fun c2 => ?_) (fun c2 => ?_)
          · -- jump 92
            refine g_bipush hX (-6) dX7_laterDay_92 (by decide) ?_
            refine ret _ _ _ _ dX7_laterDay_94 ?_
            refine ⟨?_, rfl⟩
            obtain ⟨m, rfl⟩ : ∃ m, f = m + 1 := ⟨f - 1, by omega⟩
            rw [← hr, laterF, if_neg (Int32.not_le.mpr (by assumption))]
          · -- on 52
            have hle : nI d ≤ lastD z a := Int32.not_lt.mp c2
            have h59 := lastD_le (by omega) hle
            have hop : openP z (nI d) ↔ ¬ z 7 d = 1 := by
              rw [cl_iff (hcl d (by omega))]; unfold openP dayP; rw [cn_nI (by omega)]
              have a1 : z 0 0 ≤ nI d := Int32.le_trans ht (by rw [hD.1]; exact nI_le (by omega) (by omega))
              have a2 : (0 : Int32) ≤ nI d := nI_pos' (by omega)
              have a3 : nI d < 60 := (nI_ltI (b := 60) (by omega) (by decide)).mpr (by omega)
              simp [a1, a2, a3]
            refine g_aload_n hX 0 dX7_laterDay_52 rfl ?_
            refine g_iload hX 5 dX7_laterDay_53 rfl ?_
            refine g_cvE hX (As := [.int (nI d)]) (rest := []) (c_X7_isClosed l G z (d := d) (hd := (by omega))) k_X7_laterDay_X7_isClosed rc_Model rfl rfl (Nat.le_of_ble_eq_true rfl) dX7_laterDay_55 ?_
            refine g_bi_ne hX 86 dX7_laterDay_58 (by decide) (fun c3 => ?_) (fun c3 => ?_)
            · -- jump 86
              refine g_iinc hX (nI (d + 1)) 5 [(5, .int (nI (d + 1))), (0, .ref (G.2.2 0)), (1, .int (nI a)), (2, .int (z 12 a)), (3, .int (z 13 a)), (4, .int (lastD z a))] dX7_laterDay_86 rfl (nI_1 d) (by decide) rfl ?_
              refine g_goto hX 45 dX7_laterDay_89 (by decide) ?_
              -- back to 45
              refine g_sub [1, 2, 3, 4, 5, 0] [(0, .ref (G.2.2 0)), (1, .int (nI a)), (2, .int (z 12 a)), (3, .int (z 13 a)), (4, .int (lastD z a)), (5, .int (nI (d + 1)))] rfl ?_
              exact ih (f - 1) (d + 1) (by omega) (by omega) (by omega) (by omega) (by rw [← hr]; obtain ⟨m, rfl⟩ : ∃ m, f = m + 1 := ⟨f - 1, by omega⟩; rw [Nat.add_sub_cancel]; conv => rhs; rw [laterF, if_pos hle, if_neg (by grind)])
            · -- on 61
              refine g_aload_n hX 0 dX7_laterDay_61 rfl ?_
              refine g_iload_n hX 1 dX7_laterDay_62 rfl ?_
              refine g_iconst hX 3 dX7_laterDay_63 (by decide) ?_
              refine g_cvE hX (As := [.int (nI a), .int 3]) (rest := []) (c_X7_of l G z (a := a) (w := 3) (ha := (by omega)) (hw := (by decide))) k_X7_laterDay_X7_of rc_Model rfl rfl (Nat.le_of_ble_eq_true rfl) dX7_laterDay_64 ?_
              refine g_top (z 14 a) rfl ?_
              refine g_aload_n hX 0 dX7_laterDay_67 rfl ?_
              refine g_iload_n hX 2 dX7_laterDay_68 rfl ?_
              refine g_st (st2 := [.int (nI (cn (z 12 a))), .ref (G.2.2 0), .int (z 14 a)]) (by rw [← (show (z 12 a) = nI (cn (z 12 a)) from hR.1)]) ?_
              refine g_cvE hX (As := [.int (nI (cn (z 12 a)))]) (rest := [.int (z 14 a)]) (c_X7_limitOf l G z (r := (cn (z 12 a))) (hr6 := hR.2)) k_X7_laterDay_X7_limitOf rc_Model rfl rfl (Nat.le_of_ble_eq_true rfl) dX7_laterDay_69 ?_
              refine g_aload_n hX 0 dX7_laterDay_72 rfl ?_
              refine g_iload_n hX 2 dX7_laterDay_73 rfl ?_
              refine g_iload hX 5 dX7_laterDay_74 rfl ?_
              refine g_cvE hX (As := [.int (z 12 a), .int (nI d)]) (rest := [.int (z 5 (cn (z 12 a))), .int (z 14 a)]) (c_X7_taken l G z (r := (z 12 a)) (d := (nI d)) (hI := (by assumption))) k_X7_laterDay_X7_taken rc_Model rfl rfl (Nat.le_of_ble_eq_true rfl) dX7_laterDay_76 ?_
              refine g_isub hX dX7_laterDay_79 ?_
              refine g_ic_gt hX 86 dX7_laterDay_80 (by decide) (fun c4 => ?_) (fun c4 => ?_)
              · -- jump 86
                have hfp : ¬ z 14 a ≤ freeP z (z 12 a) (nI d) := Int32.not_le.mpr c4
                refine g_iinc hX (nI (d + 1)) 5 [(5, .int (nI (d + 1))), (0, .ref (G.2.2 0)), (1, .int (nI a)), (2, .int (z 12 a)), (3, .int (z 13 a)), (4, .int (lastD z a))] dX7_laterDay_86 rfl (nI_1 d) (by decide) rfl ?_
                refine g_goto hX 45 dX7_laterDay_89 (by decide) ?_
                -- back to 45
                refine g_sub [1, 2, 3, 4, 5, 0] [(0, .ref (G.2.2 0)), (1, .int (nI a)), (2, .int (z 12 a)), (3, .int (z 13 a)), (4, .int (lastD z a)), (5, .int (nI (d + 1)))] rfl ?_
                exact ih (f - 1) (d + 1) (by omega) (by omega) (by omega) (by omega) (by rw [← hr]; obtain ⟨m, rfl⟩ : ∃ m, f = m + 1 := ⟨f - 1, by omega⟩; rw [Nat.add_sub_cancel]; conv => rhs; rw [laterF, if_pos hle, if_neg (by grind)])
              · -- on 83
                have hfp : z 14 a ≤ freeP z (z 12 a) (nI d) := Int32.not_lt.mp c4
                refine g_iload hX 5 dX7_laterDay_83 rfl ?_
                refine ret _ _ _ _ dX7_laterDay_85 ?_
                refine ⟨?_, rfl⟩
                obtain ⟨m, rfl⟩ : ∃ m, f = m + 1 := ⟨f - 1, by omega⟩
                rw [← hr, laterF, if_pos hle, if_pos ⟨hop.mpr (by assumption), hfp⟩]
      refine g_sub [4, 5, 3, 2, 1, 0] [(0, .ref (G.2.2 0)), (1, .int (nI a)), (2, .int (z 12 a)), (3, .int (z 13 a)), (4, .int 59), (5, .int ((z 13 a) + 1))] rfl ?_
      have e4 : (59 : Int32) = lastD z a := by
        exact hll
      refine g_lv (lv' := [(0, .ref (G.2.2 0)), (1, .int (nI a)), (2, .int (z 12 a)), (3, .int (z 13 a)), (4, .int (lastD z a)), (5, .int ((z 13 a) + 1))]) (by rw [← e4]) ?_
      have e5 : ((z 13 a) + 1 : Int32) = nI (cn (z 13 a) + 1) := by
        conv => lhs; rw [hD.1]
        exact nI_1 _
      refine g_lv (lv' := [(0, .ref (G.2.2 0)), (1, .int (nI a)), (2, .int (z 12 a)), (3, .int (z 13 a)), (4, .int (lastD z a)), (5, .int (nI (cn (z 13 a) + 1)))]) (by rw [e5]) ?_
      exact loop45 (61 + 1) 61 (cn (z 13 a) + 1) (by omega) (by omega) (by omega) (by omega) rfl
    · -- on 26
      have hll := hL.1 c1
      refine g_iload_n hX 0 dX7_laterDay_26 rfl ?_
      refine g_aload_n hX 2 dX7_laterDay_27 rfl ?_
      refine g_iconst hX 4 dX7_laterDay_28 (by decide) ?_
      refine g_cvE hX (As := [.int 4]) (rest := [.int (z 13 a)]) (c_X7_setting l G z (w := 4) (hw := (by decide))) k_X7_laterDay_X7_setting rc_Model rfl rfl (Nat.le_of_ble_eq_true rfl) dX7_laterDay_29 ?_
      refine g_iadd hX dX7_laterDay_32 ?_
      refine g_goto hX 38 dX7_laterDay_33 (by decide) ?_
      refine g_istore hX [(4, .int ((z 13 a) + (z 4 4))), (3, .int (z 13 a)), (2, .int (z 12 a)), (0, .ref (G.2.2 0)), (1, .int (nI a))] dX7_laterDay_38 (by decide) rfl ?_
      refine g_iload_n hX 1 dX7_laterDay_40 rfl ?_
      refine g_iconst hX 1 dX7_laterDay_41 (by decide) ?_
      refine g_iadd hX dX7_laterDay_42 ?_
      refine g_istore hX [(5, .int ((z 13 a) + 1)), (4, .int ((z 13 a) + (z 4 4))), (3, .int (z 13 a)), (2, .int (z 12 a)), (0, .ref (G.2.2 0)), (1, .int (nI a))] dX7_laterDay_43 (by decide) rfl ?_
      have loop45 : ∀ (nf : Nat) (f : Nat) (d : Nat), (61 < d + nf) → (d ≤ 60) → (cn (z 13 a) < d) → (61 ≤ f + d) → (laterF z a (lastD z a) f d = later z a) → Go X (z) 45 [(0, .ref (G.2.2 0)), (1, .int (nI a)), (2, .int (z 12 a)), (3, .int (z 13 a)), (4, .int (lastD z a)), (5, .int (nI d))] [] := by
        intro nf
        induction nf with
        | zero =>
          intro f d hmu hd hgt hf hr
          exfalso; omega
        | succ nf ih =>
          intro f d hmu hd hgt hf hr
          refine g_iload hX 5 dX7_laterDay_45 rfl ?_
          refine g_iload hX 4 dX7_laterDay_47 rfl ?_
          refine g_ic_gt hX 92 dX7_laterDay_49 (by decide) (fun c5 => ?_) (fun c5 => ?_)
          · -- jump 92
            refine g_bipush hX (-6) dX7_laterDay_92 (by decide) ?_
            refine ret _ _ _ _ dX7_laterDay_94 ?_
            refine ⟨?_, rfl⟩
            obtain ⟨m, rfl⟩ : ∃ m, f = m + 1 := ⟨f - 1, by omega⟩
            rw [← hr, laterF, if_neg (Int32.not_le.mpr (by assumption))]
          · -- on 52
            have hle : nI d ≤ lastD z a := Int32.not_lt.mp c5
            have h59 := lastD_le (by omega) hle
            have hop : openP z (nI d) ↔ ¬ z 7 d = 1 := by
              rw [cl_iff (hcl d (by omega))]; unfold openP dayP; rw [cn_nI (by omega)]
              have a1 : z 0 0 ≤ nI d := Int32.le_trans ht (by rw [hD.1]; exact nI_le (by omega) (by omega))
              have a2 : (0 : Int32) ≤ nI d := nI_pos' (by omega)
              have a3 : nI d < 60 := (nI_ltI (b := 60) (by omega) (by decide)).mpr (by omega)
              simp [a1, a2, a3]
            refine g_aload_n hX 0 dX7_laterDay_52 rfl ?_
            refine g_iload hX 5 dX7_laterDay_53 rfl ?_
            refine g_cvE hX (As := [.int (nI d)]) (rest := []) (c_X7_isClosed l G z (d := d) (hd := (by omega))) k_X7_laterDay_X7_isClosed rc_Model rfl rfl (Nat.le_of_ble_eq_true rfl) dX7_laterDay_55 ?_
            refine g_bi_ne hX 86 dX7_laterDay_58 (by decide) (fun c6 => ?_) (fun c6 => ?_)
            · -- jump 86
              refine g_iinc hX (nI (d + 1)) 5 [(5, .int (nI (d + 1))), (0, .ref (G.2.2 0)), (1, .int (nI a)), (2, .int (z 12 a)), (3, .int (z 13 a)), (4, .int (lastD z a))] dX7_laterDay_86 rfl (nI_1 d) (by decide) rfl ?_
              refine g_goto hX 45 dX7_laterDay_89 (by decide) ?_
              -- back to 45
              refine g_sub [1, 2, 3, 4, 5, 0] [(0, .ref (G.2.2 0)), (1, .int (nI a)), (2, .int (z 12 a)), (3, .int (z 13 a)), (4, .int (lastD z a)), (5, .int (nI (d + 1)))] rfl ?_
              exact ih (f - 1) (d + 1) (by omega) (by omega) (by omega) (by omega) (by rw [← hr]; obtain ⟨m, rfl⟩ : ∃ m, f = m + 1 := ⟨f - 1, by omega⟩; rw [Nat.add_sub_cancel]; conv => rhs; rw [laterF, if_pos hle, if_neg (by grind)])
            · -- on 61
              refine g_aload_n hX 0 dX7_laterDay_61 rfl ?_
              refine g_iload_n hX 1 dX7_laterDay_62 rfl ?_
              refine g_iconst hX 3 dX7_laterDay_63 (by decide) ?_
              refine g_cvE hX (As := [.int (nI a), .int 3]) (rest := []) (c_X7_of l G z (a := a) (w := 3) (ha := (by omega)) (hw := (by decide))) k_X7_laterDay_X7_of rc_Model rfl rfl (Nat.le_of_ble_eq_true rfl) dX7_laterDay_64 ?_
              refine g_top (z 14 a) rfl ?_
              refine g_aload_n hX 0 dX7_laterDay_67 rfl ?_
              refine g_iload_n hX 2 dX7_laterDay_68 rfl ?_
              refine g_st (st2 := [.int (nI (cn (z 12 a))), .ref (G.2.2 0), .int (z 14 a)]) (by rw [← (show (z 12 a) = nI (cn (z 12 a)) from hR.1)]) ?_
              refine g_cvE hX (As := [.int (nI (cn (z 12 a)))]) (rest := [.int (z 14 a)]) (c_X7_limitOf l G z (r := (cn (z 12 a))) (hr6 := hR.2)) k_X7_laterDay_X7_limitOf rc_Model rfl rfl (Nat.le_of_ble_eq_true rfl) dX7_laterDay_69 ?_
              refine g_aload_n hX 0 dX7_laterDay_72 rfl ?_
              refine g_iload_n hX 2 dX7_laterDay_73 rfl ?_
              refine g_iload hX 5 dX7_laterDay_74 rfl ?_
              refine g_cvE hX (As := [.int (z 12 a), .int (nI d)]) (rest := [.int (z 5 (cn (z 12 a))), .int (z 14 a)]) (c_X7_taken l G z (r := (z 12 a)) (d := (nI d)) (hI := (by assumption))) k_X7_laterDay_X7_taken rc_Model rfl rfl (Nat.le_of_ble_eq_true rfl) dX7_laterDay_76 ?_
              refine g_isub hX dX7_laterDay_79 ?_
              refine g_ic_gt hX 86 dX7_laterDay_80 (by decide) (fun c7 => ?_) (fun c7 => ?_)
              · -- jump 86
                have hfp : ¬ z 14 a ≤ freeP z (z 12 a) (nI d) := Int32.not_le.mpr c7
                refine g_iinc hX (nI (d + 1)) 5 [(5, .int (nI (d + 1))), (0, .ref (G.2.2 0)), (1, .int (nI a)), (2, .int (z 12 a)), (3, .int (z 13 a)), (4, .int (lastD z a))] dX7_laterDay_86 rfl (nI_1 d) (by decide) rfl ?_
                refine g_goto hX 45 dX7_laterDay_89 (by decide) ?_
                -- back to 45
                refine g_sub [1, 2, 3, 4, 5, 0] [(0, .ref (G.2.2 0)), (1, .int (nI a)), (2, .int (z 12 a)), (3, .int (z 13 a)), (4, .int (lastD z a)), (5, .int (nI (d + 1)))] rfl ?_
                exact ih (f - 1) (d + 1) (by omega) (by omega) (by omega) (by omega) (by rw [← hr]; obtain ⟨m, rfl⟩ : ∃ m, f = m + 1 := ⟨f - 1, by omega⟩; rw [Nat.add_sub_cancel]; conv => rhs; rw [laterF, if_pos hle, if_neg (by grind)])
              · -- on 83
                have hfp : z 14 a ≤ freeP z (z 12 a) (nI d) := Int32.not_lt.mp c7
                refine g_iload hX 5 dX7_laterDay_83 rfl ?_
                refine ret _ _ _ _ dX7_laterDay_85 ?_
                refine ⟨?_, rfl⟩
                obtain ⟨m, rfl⟩ : ∃ m, f = m + 1 := ⟨f - 1, by omega⟩
                rw [← hr, laterF, if_pos hle, if_pos ⟨hop.mpr (by assumption), hfp⟩]
      refine g_sub [4, 5, 3, 2, 1, 0] [(0, .ref (G.2.2 0)), (1, .int (nI a)), (2, .int (z 12 a)), (3, .int (z 13 a)), (4, .int ((z 13 a) + (z 4 4))), (5, .int ((z 13 a) + 1))] rfl ?_
      have e4 : ((z 13 a) + (z 4 4) : Int32) = lastD z a := by
        exact hll
      refine g_lv (lv' := [(0, .ref (G.2.2 0)), (1, .int (nI a)), (2, .int (z 12 a)), (3, .int (z 13 a)), (4, .int (lastD z a)), (5, .int ((z 13 a) + 1))]) (by rw [e4]) ?_
      have e5 : ((z 13 a) + 1 : Int32) = nI (cn (z 13 a) + 1) := by
        conv => lhs; rw [hD.1]
        exact nI_1 _
      refine g_lv (lv' := [(0, .ref (G.2.2 0)), (1, .int (nI a)), (2, .int (z 12 a)), (3, .int (z 13 a)), (4, .int (lastD z a)), (5, .int (nI (cn (z 13 a) + 1)))]) (by rw [e5]) ?_
      exact loop45 (61 + 1) 61 (cn (z 13 a) + 1) (by omega) (by omega) (by omega) (by omega) rfl
def rm_X7_refund : Room := { frames := 1, cells := 0, slots := 0, locals := 23 }
theorem k_X7_refund_X7_lay : CW rm_X7_refund wsX7_refund RX7 RX7 75 yX7_lay cX7_lay 4 none wsX7_lay rm_X7_lay 3 := ⟨gX7_refund_X7_lay, ⟨_, rfl⟩, rfl, rfl, ⟨rfl, by decide +kernel, by decide +kernel, by decide +kernel⟩, by decide, by decide⟩
theorem k_X7_refund_X7_layClimber : CW rm_X7_refund wsX7_refund RX7 RX7 54 yX7_layClimber cX7_layClimber 4 none wsX7_layClimber rm_X7_layClimber 3 := ⟨gX7_refund_X7_layClimber, ⟨_, rfl⟩, rfl, rfl, ⟨rfl, by decide +kernel, by decide +kernel, by decide +kernel⟩, by decide, by decide⟩
theorem k_X7_refund_X7_of : CW rm_X7_refund wsX7_refund RX7 RX7 66 yX7_of cX7_of 3 (some .int) wsX7_of rm_X7_of 2 := ⟨gX7_refund_X7_of, ⟨_, rfl⟩, rfl, rfl, ⟨rfl, by decide +kernel, by decide +kernel, by decide +kernel⟩, by decide, by decide⟩
theorem k_X7_refund_X7_ofClimber : CW rm_X7_refund wsX7_refund RX7 RX7 39 yX7_ofClimber cX7_ofClimber 3 (some .int) wsX7_ofClimber rm_X7_ofClimber 2 := ⟨gX7_refund_X7_ofClimber, ⟨_, rfl⟩, rfl, rfl, ⟨rfl, by decide +kernel, by decide +kernel, by decide +kernel⟩, by decide, by decide⟩
set_option maxHeartbeats 4000000 in
set_option maxRecDepth 100000 in
theorem c_X7_refund (l : Launch) (G : MG) (hA : Ap 9 G.2.2) (z : St) {a : Nat} (ha : a < nA z) (hI : IO z) : CVm l G yX7_refund wsX7_refund rm_X7_refund [.ref (G.2.2 0), .int (nI a)] z (fun ζ => ζ = refundZ z a) := by
  refine cv_of (own := RX7) (cc := cX7_refund) (maxL := 3) (by decide +kernel) rfl rfl (Nat.le_of_ble_eq_true rfl) (KQ_mv (ExM_mv G)) ?_
  intro X hX ret
  refine g_lv (lv' := [(0, .ref (G.2.2 0)), (1, .int (nI a))]) rfl ?_
  have h40 := (iNa hI).2
  have hC := iC hI ha
  refine g_aload_n hX 0 dX7_refund_0 rfl ?_
  refine g_iload_n hX 1 dX7_refund_1 rfl ?_
  refine g_iconst hX 0 dX7_refund_2 (by decide) ?_
  refine g_cvE hX (As := [.int (nI a), .int 0]) (rest := []) (c_X7_of l G z (a := a) (w := 0) (ha := (by omega)) (hw := (by decide))) k_X7_refund_X7_of rc_Model rfl rfl (Nat.le_of_ble_eq_true rfl) dX7_refund_3 ?_
  refine g_top (z 11 a) rfl ?_
  refine g_istore_n hX [(2, .int (z 11 a)), (0, .ref (G.2.2 0)), (1, .int (nI a))] dX7_refund_6 (by decide) rfl ?_
  refine g_lv (lv' := [(2, .int (nI (cn (z 11 a)))), (0, .ref (G.2.2 0)), (1, .int (nI a))]) (by rw [← (show (z 11 a) = (nI (cn (z 11 a))) from hC.1)]) ?_
  refine g_aload_n hX 1 dX7_refund_7 rfl ?_
  refine g_iload_n hX 2 dX7_refund_8 rfl ?_
  refine g_iconst hX 4 dX7_refund_9 (by decide) ?_
  refine g_iconst hX 4 dX7_refund_10 (by decide) ?_
  refine g_cvvE hX (As := [.int (nI a), .int 4, .int 4]) (rest := []) (c_X7_lay l G hA z (a := a) (w := 4) (v := 4) (ha := (by omega)) (hw := (by decide))) k_X7_refund_X7_lay rc_Model rfl rfl (Nat.le_of_ble_eq_true rfl) dX7_refund_11 ?_
  refine g_z (z2 := u2 z 15 a 4) rfl ?_
  refine g_aload_n hX 1 dX7_refund_14 rfl ?_
  refine g_iload_n hX 2 dX7_refund_15 rfl ?_
  refine g_bipush hX 6 dX7_refund_16 (by decide) ?_
  refine g_aload_n hX 1 dX7_refund_18 rfl ?_
  refine g_iload_n hX 2 dX7_refund_19 rfl ?_
  refine g_iconst hX 5 dX7_refund_20 (by decide) ?_
  refine g_cvE hX (As := [.int (nI a), .int 5]) (rest := [.int 6, .int (nI a), .ref (G.2.2 0)]) (c_X7_of l G (u2 z 15 a 4) (a := a) (w := 5) (ha := (by omega)) (hw := (by decide))) k_X7_refund_X7_of rc_Model rfl rfl (Nat.le_of_ble_eq_true rfl) dX7_refund_21 ?_
  refine g_top ((u2 z 15 a 4) 16 a) rfl ?_
  refine g_top (z 16 a) (by simp [u2]) ?_
  refine g_cvvE hX (As := [.int (nI a), .int 6, .int (z 16 a)]) (rest := []) (c_X7_lay l G hA (u2 z 15 a 4) (a := a) (w := 6) (v := (z 16 a)) (ha := (by omega)) (hw := (by decide))) k_X7_refund_X7_lay rc_Model rfl rfl (Nat.le_of_ble_eq_true rfl) dX7_refund_24 ?_
  refine g_z (z2 := u2 (u2 z 15 a 4) 17 a (z 16 a)) rfl ?_
  refine g_aload_n hX 1 dX7_refund_27 rfl ?_
  refine g_iload_n hX 0 dX7_refund_28 rfl ?_
  refine g_iconst hX 0 dX7_refund_29 (by decide) ?_
  refine g_aload_n hX 1 dX7_refund_30 rfl ?_
  refine g_iload_n hX 0 dX7_refund_31 rfl ?_
  refine g_iconst hX 0 dX7_refund_32 (by decide) ?_
  refine g_cvE hX (As := [.int (nI (cn (z 11 a))), .int 0]) (rest := [.int 0, .int (nI (cn (z 11 a))), .ref (G.2.2 0)]) (c_X7_ofClimber l G (u2 (u2 z 15 a 4) 17 a (z 16 a)) (c := (cn (z 11 a))) (w := 0) (hc := hC.2) (hw := (by decide))) k_X7_refund_X7_ofClimber rc_Model rfl rfl (Nat.le_of_ble_eq_true rfl) dX7_refund_33 ?_
  refine g_top ((u2 (u2 z 15 a 4) 17 a (z 16 a)) 8 (cn (z 11 a))) rfl ?_
  refine g_top (z 8 (cn (z 11 a))) (by simp [u2]) ?_
  refine g_iconst hX 2 dX7_refund_36 (by decide) ?_
  refine g_iadd hX dX7_refund_37 ?_
  refine g_cvvE hX (As := [.int (nI (cn (z 11 a))), .int 0, .int ((z 8 (cn (z 11 a))) + 2)]) (rest := []) (c_X7_layClimber l G hA (u2 (u2 z 15 a 4) 17 a (z 16 a)) (c := (cn (z 11 a))) (w := 0) (v := ((z 8 (cn (z 11 a))) + 2)) (hc := hC.2) (hw := (by decide))) k_X7_refund_X7_layClimber rc_Model rfl rfl (Nat.le_of_ble_eq_true rfl) dX7_refund_38 ?_
  refine g_z (z2 := u2 (u2 (u2 z 15 a 4) 17 a (z 16 a)) 8 (cn (z 11 a)) ((z 8 (cn (z 11 a))) + 2)) rfl ?_
  refine ret _ _ _ dX7_refund_41 ?_
  rfl
def rm_X7_lose : Room := { frames := 1, cells := 0, slots := 0, locals := 23 }
theorem i_X7_lose_wsX70 : ∀ w ∈ wsX70, w ∈ wsX7_lose := fun w h => List.mem_cons_of_mem _ (List.mem_append_right _ h)
theorem k_X7_lose_X7_lay : CW rm_X7_lose wsX7_lose RX7 RX7 75 yX7_lay cX7_lay 4 none wsX7_lay rm_X7_lay 3 := ⟨gX7_lose_X7_lay, ⟨_, rfl⟩, rfl, rfl, ⟨rfl, by decide +kernel, by decide +kernel, by decide +kernel⟩, by decide, by decide⟩
theorem k_X7_lose_X7_of : CW rm_X7_lose wsX7_lose RX7 RX7 66 yX7_of cX7_of 3 (some .int) wsX7_of rm_X7_of 2 := ⟨gX7_lose_X7_of, ⟨_, rfl⟩, rfl, rfl, ⟨rfl, by decide +kernel, by decide +kernel, by decide +kernel⟩, by decide, by decide⟩
set_option maxHeartbeats 4000000 in
set_option maxRecDepth 100000 in
theorem c_X7_lose (l : Launch) (G : MG) (hA : Ap 9 G.2.2) (z : St) {d : Int32} (hI : IO z) : CVm l G yX7_lose wsX7_lose rm_X7_lose [.ref (G.2.2 0), .int d] z (fun ζ => ζ = loseK z (-1) d (nA z)) := by
  refine cv_of (own := RX7) (cc := cX7_lose) (maxL := 3) (by decide +kernel) rfl rfl (Nat.le_of_ble_eq_true rfl) (KQ_mv (ExM_mv G)) ?_
  intro X hX ret
  refine g_lv (lv' := [(0, .ref (G.2.2 0)), (1, .int d)]) rfl ?_
  obtain ⟨e3, h40⟩ := iNa hI
  refine g_iconst hX 0 dX7_lose_0 (by decide) ?_
  refine g_istore_n hX [(2, .int 0), (0, .ref (G.2.2 0)), (1, .int d)] dX7_lose_1 (by decide) rfl ?_
  have loop2 : ∀ (nf : Nat) (k : Nat) (y : St), (nA z < k + nf) → (k ≤ nA z) → (y = loseK z (-1) d k) → Go X (y) 2 [(0, .ref (G.2.2 0)), (1, .int d), (2, .int (nI k))] [] := by
    intro nf
    induction nf with
    | zero =>
      intro k y hmu hk hy
      exfalso; omega
    | succ nf ih =>
      intro k y hmu hk hy
      have y15 : y 15 k = z 15 k := by rw [hy]; exact loseK_ne (by omega)
      have y12 : y 12 k = z 12 k := by rw [hy]; exact loseK_ne (by omega)
      have y13 : y 13 k = z 13 k := by rw [hy]; exact loseK_ne (by omega)
      have y3 : y 3 0 = z 3 0 := by rw [hy]; exact loseK_ne (by omega)
      refine g_iload_n hX 2 dX7_lose_2 rfl ?_
      refine g_aload_n hX 0 dX7_lose_3 rfl ?_
      refine m_g_0 hX i_X7_lose_wsX70 (List.mem_of_getElem? (i := 1) rfl) dX7_lose_4 ?_
      refine g_iconst hX 3 dX7_lose_7 (by decide) ?_
      refine m_ld_at hX 3 rfl (by decide) dX7_lose_8 (v := (y 3 0)) rfl ?_
      refine g_ic_ge hX 44 dX7_lose_9 (by decide) (fun c1 => ?_) (fun c1 => ?_)
      · -- jump 44
        have hke : k = nA z := by
          rw [y3, e3] at c1; have := (nI_leI (by omega) (by omega)).mp c1; omega
        refine ret _ _ _ dX7_lose_44 ?_
        rw [hy, hke]
      · -- on 12
        have hkn : k < nA z := by
          rw [y3, e3] at c1; exact Nat.lt_of_not_le (fun q => c1 (nI_le q (by omega)))
        refine g_aload_n hX 0 dX7_lose_12 rfl ?_
        refine g_iload_n hX 2 dX7_lose_13 rfl ?_
        refine g_iconst hX 2 dX7_lose_14 (by decide) ?_
        refine g_cvE hX (As := [.int (nI k), .int 2]) (rest := []) (c_X7_of l G y (a := k) (w := 2) (ha := (by omega)) (hw := (by decide))) k_X7_lose_X7_of rc_Model rfl rfl (Nat.le_of_ble_eq_true rfl) dX7_lose_15 ?_
        refine g_top (y 13 k) rfl ?_
        refine g_iload_n hX 1 dX7_lose_18 rfl ?_
        refine g_ic_ne hX 38 dX7_lose_19 (by decide) (fun c2 => ?_) (fun c2 => ?_)
        · -- jump 38
          refine g_iinc hX (nI (k + 1)) 2 [(2, .int (nI (k + 1))), (0, .ref (G.2.2 0)), (1, .int d)] dX7_lose_38 rfl (nI_1 k) (by decide) rfl ?_
          refine g_goto hX 2 dX7_lose_41 (by decide) ?_
          -- back to 2
          refine g_sub [1, 2, 0] [(0, .ref (G.2.2 0)), (1, .int d), (2, .int (nI (k + 1)))] rfl ?_
          exact ih (k + 1) y (by omega) (by omega) (by rw [loseK, if_neg (by grind)]; exact hy)
        · -- on 22
          refine g_aload_n hX 0 dX7_lose_22 rfl ?_
          refine g_iload_n hX 2 dX7_lose_23 rfl ?_
          refine g_iconst hX 4 dX7_lose_24 (by decide) ?_
          refine g_cvE hX (As := [.int (nI k), .int 4]) (rest := []) (c_X7_of l G y (a := k) (w := 4) (ha := (by omega)) (hw := (by decide))) k_X7_lose_X7_of rc_Model rfl rfl (Nat.le_of_ble_eq_true rfl) dX7_lose_25 ?_
          refine g_top (y 15 k) rfl ?_
          refine g_if_ne hX 38 dX7_lose_28 (by decide) (fun c3 => ?_) (fun c3 => ?_)
          · -- jump 38
            refine g_iinc hX (nI (k + 1)) 2 [(2, .int (nI (k + 1))), (0, .ref (G.2.2 0)), (1, .int d)] dX7_lose_38 rfl (nI_1 k) (by decide) rfl ?_
            refine g_goto hX 2 dX7_lose_41 (by decide) ?_
            -- back to 2
            refine g_sub [1, 2, 0] [(0, .ref (G.2.2 0)), (1, .int d), (2, .int (nI (k + 1)))] rfl ?_
            exact ih (k + 1) y (by omega) (by omega) (by rw [loseK, if_neg (by grind)]; exact hy)
          · -- on 31
            refine g_aload_n hX 0 dX7_lose_31 rfl ?_
            refine g_iload_n hX 2 dX7_lose_32 rfl ?_
            refine g_iconst hX 4 dX7_lose_33 (by decide) ?_
            refine g_iconst hX 2 dX7_lose_34 (by decide) ?_
            refine g_cvvE hX (As := [.int (nI k), .int 4, .int 2]) (rest := []) (c_X7_lay l G hA y (a := k) (w := 4) (v := 2) (ha := (by omega)) (hw := (by decide))) k_X7_lose_X7_lay rc_Model rfl rfl (Nat.le_of_ble_eq_true rfl) dX7_lose_35 ?_
            refine g_z (z2 := u2 y 15 k 2) rfl ?_
            refine g_iinc hX (nI (k + 1)) 2 [(2, .int (nI (k + 1))), (0, .ref (G.2.2 0)), (1, .int d)] dX7_lose_38 rfl (nI_1 k) (by decide) rfl ?_
            refine g_goto hX 2 dX7_lose_41 (by decide) ?_
            -- back to 2
            refine g_sub [1, 2, 0] [(0, .ref (G.2.2 0)), (1, .int d), (2, .int (nI (k + 1)))] rfl ?_
            exact ih (k + 1) (u2 y 15 k 2) (by omega) (by omega) (by rw [loseK, if_pos (by grind), hy])
  refine g_sub [1, 2, 0] [(0, .ref (G.2.2 0)), (1, .int d), (2, .int 0)] rfl ?_
  exact loop2 (nA z + 1) 0 z (by omega) (Nat.zero_le _) rfl
