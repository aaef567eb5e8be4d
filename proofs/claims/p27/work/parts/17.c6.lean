def rm_X6_route : Room := { frames := 1, cells := 0, slots := 0, locals := 23 }
theorem i_X6_route_wsX30 : ∀ w ∈ wsX30, w ∈ wsX6_route := fun w h => List.mem_cons_of_mem _ (List.mem_append_left _ (List.mem_append_right _ h))
theorem i_X6_route_wsX60 : ∀ w ∈ wsX60, w ∈ wsX6_route := fun w h => List.mem_cons_of_mem _ (List.mem_append_left _ (List.mem_append_left _ (List.mem_append_right _ h)))
theorem k_X6_route_X3_addRoute : CW rm_X6_route wsX6_route RX6 RX3 42 yX3_addRoute cX3_addRoute 4 (some .int) wsX3_addRoute rm_X3_addRoute 2 := ⟨gX6_route_X3_addRoute, ⟨_, rfl⟩, rfl, rfl, ⟨rfl, by decide +kernel, by decide +kernel, by decide +kernel⟩, by decide, by decide⟩
set_option maxHeartbeats 4000000 in
set_option maxRecDepth 100000 in
theorem c_X6_route (l : Launch) (G : MG) (hA : Ap 203 G.2.2) (z : St) {x : Int32} {y : Int32} (hI : IO z) : CIc l G yX6_route wsX6_route rm_X6_route [.ref (G.2.2 192), .int x, .int y] z (fun ρ ζ => ρ = (spRoute z x y).1 ∧ ζ = (spRoute z x y).2) := by
  refine ci_of (own := RX6) (cc := cX6_route) (maxL := 3) (ret := .int) (by decide +kernel) rfl rfl ?_ (Nat.le_of_ble_eq_true rfl) (KQ_mv (ExC_mv G)) ?_
  · intro v z' _; rfl
  · intro X hX ret
    refine g_lv (lv' := [(0, .ref (G.2.2 192)), (1, .int x), (2, .int y)]) rfl ?_
    refine g_iload_n hX 1 dX6_route_0 rfl ?_
    refine g_iconst hX 1 dX6_route_1 (by decide) ?_
    refine g_ic_lt hX 20 dX6_route_2 (by decide) (fun c1 => ?_) (fun c1 => ?_)
    · -- jump 20
      refine g_bipush hX (-2) dX6_route_20 (by decide) ?_
      refine ret _ _ _ _ dX6_route_22 ?_
      first | (simp [spRoute, c1]; done) | grind [spRoute]
    · -- on 5
      refine g_iload_n hX 1 dX6_route_5 rfl ?_
      refine g_bipush hX 12 dX6_route_6 (by decide) ?_
      refine g_ic_gt hX 20 dX6_route_8 (by decide) (fun c2 => ?_) (fun c2 => ?_)
      · -- jump 20
        refine g_bipush hX (-2) dX6_route_20 (by decide) ?_
        refine ret _ _ _ _ dX6_route_22 ?_
        first | (simp [spRoute, c1, c2]; done) | grind [spRoute]
      · -- on 11
        refine g_iload_n hX 2 dX6_route_11 rfl ?_
        refine g_if_lt hX 20 dX6_route_12 (by decide) (fun c3 => ?_) (fun c3 => ?_)
        · -- jump 20
          refine g_bipush hX (-2) dX6_route_20 (by decide) ?_
          refine ret _ _ _ _ dX6_route_22 ?_
          first | (simp [spRoute, c1, c2, c3]; done) | grind [spRoute]
        · -- on 15
          refine g_iload_n hX 2 dX6_route_15 rfl ?_
          refine g_iload_n hX 1 dX6_route_16 rfl ?_
          refine g_ic_le hX 23 dX6_route_17 (by decide) (fun c4 => ?_) (fun c4 => ?_)
          · -- jump 23
            refine g_aload_n hX 0 dX6_route_23 rfl ?_
            refine c_g_Main_0 hX i_X6_route_wsX60 (List.mem_of_getElem? (i := 1) rfl) dX6_route_24 ?_
            refine c_g_Office_1 hX i_X6_route_wsX30 (List.mem_of_getElem? (i := 2) rfl) dX6_route_27 ?_
            refine g_bipush hX 6 dX6_route_30 (by decide) ?_
            refine g_ic_lt hX 38 dX6_route_32 (by decide) (fun c5 => ?_) (fun c5 => ?_)
            · -- jump 38
              refine g_aload_n hX 0 dX6_route_38 rfl ?_
              refine c_g_Main_0 hX i_X6_route_wsX60 (List.mem_of_getElem? (i := 1) rfl) dX6_route_39 ?_
              refine g_iload_n hX 1 dX6_route_42 rfl ?_
              refine g_iload_n hX 2 dX6_route_43 rfl ?_
              refine g_cvE hX (As := [.int x, .int y]) (rest := []) (c_X3_addRoute l G hA z (x1 := x) (x2 := y) (hn := (by have h := (iNr hI).1; rw [h] at c5; exact (nI_ltI (b := 6) (by have := (iNr hI).2; omega) (by decide)).mp c5)) (hI := (by assumption))) k_X6_route_X3_addRoute rc_Office0 rfl rfl (Nat.le_of_ble_eq_true rfl) dX6_route_44 ?_
              refine ret _ _ _ _ dX6_route_47 ?_
              first | (simp [spRoute, c1, c2, c3, c4, c5]; done) | grind [spRoute]
            · -- on 35
              refine g_bipush hX (-4) dX6_route_35 (by decide) ?_
              refine ret _ _ _ _ dX6_route_37 ?_
              first | (simp [spRoute, c1, c2, c3, c4, c5]; done) | grind [spRoute]
          · -- on 20
            refine g_bipush hX (-2) dX6_route_20 (by decide) ?_
            refine ret _ _ _ _ dX6_route_22 ?_
            first | (simp [spRoute, c1, c2, c3, c4]; done) | grind [spRoute]
def rm_X6_buffer : Room := { frames := 1, cells := 0, slots := 0, locals := 21 }
theorem i_X6_buffer_wsX30 : ∀ w ∈ wsX30, w ∈ wsX6_buffer := fun w h => List.mem_cons_of_mem _ (List.mem_append_left _ (List.mem_append_right _ h))
theorem i_X6_buffer_wsX50 : ∀ w ∈ wsX50, w ∈ wsX6_buffer := fun w h => List.mem_cons_of_mem _ (List.mem_append_right _ h)
theorem i_X6_buffer_wsX60 : ∀ w ∈ wsX60, w ∈ wsX6_buffer := fun w h => List.mem_cons_of_mem _ (List.mem_append_left _ (List.mem_append_left _ (List.mem_append_right _ h)))
theorem k_X6_buffer_X3_hasRoute : CW rm_X6_buffer wsX6_buffer RX6 RX3 46 yX3_hasRoute cX3_hasRoute 2 (some .boolean) wsX3_hasRoute rm_X3_hasRoute 1 := ⟨gX6_buffer_X3_hasRoute, ⟨_, rfl⟩, rfl, rfl, ⟨rfl, by decide +kernel, by decide +kernel, by decide +kernel⟩, by decide, by decide⟩
set_option maxHeartbeats 4000000 in
set_option maxRecDepth 100000 in
theorem c_X6_buffer (l : Launch) (G : MG) (hA : Ap 203 G.2.2) (z : St) {x : Int32} {y : Int32} (hI : IO z) : CIc l G yX6_buffer wsX6_buffer rm_X6_buffer [.ref (G.2.2 192), .int x, .int y] z (fun ρ ζ => ρ = (spBuffer z x y).1 ∧ ζ = (spBuffer z x y).2) := by
  refine ci_of (own := RX6) (cc := cX6_buffer) (maxL := 5) (ret := .int) (by decide +kernel) rfl rfl ?_ (Nat.le_of_ble_eq_true rfl) (KQ_mv (ExC_mv G)) ?_
  · intro v z' _; rfl
  · intro X hX ret
    refine g_lv (lv' := [(0, .ref (G.2.2 192)), (1, .int x), (2, .int y)]) rfl ?_
    refine g_aload_n hX 0 dX6_buffer_0 rfl ?_
    refine c_g_Main_0 hX i_X6_buffer_wsX60 (List.mem_of_getElem? (i := 1) rfl) dX6_buffer_1 ?_
    refine g_iload_n hX 1 dX6_buffer_4 rfl ?_
    refine g_cvE hX (As := [.int x]) (rest := []) (c_X3_hasRoute l G z (x1 := x) ) k_X6_buffer_X3_hasRoute rc_Office0 rfl rfl (Nat.le_of_ble_eq_true rfl) dX6_buffer_5 ?_
    refine g_bi_ne hX 13 dX6_buffer_8 (by decide) (fun c1 => ?_) (fun c1 => ?_)
    · -- jump 13
      have hr := routeP_in hI c1
      refine g_aload_n hX 0 dX6_buffer_13 rfl ?_
      refine c_g_Main_0 hX i_X6_buffer_wsX60 (List.mem_of_getElem? (i := 1) rfl) dX6_buffer_14 ?_
      refine c_g_Office_4 hX i_X6_buffer_wsX30 (List.mem_of_getElem? (i := 2) rfl) dX6_buffer_17 ?_
      refine g_iload_n hX 1 dX6_buffer_20 rfl ?_
      refine c_ld_routes hX (cn x) hr.1 hr.2 dX6_buffer_21 ?_
      refine g_astore_n hX [(3, .ref (G.2.2 (6 + (cn x)))), (0, .ref (G.2.2 192)), (1, .int x), (2, .int y)] dX6_buffer_22 (by decide) rfl ?_
      refine g_iload_n hX 3 dX6_buffer_23 rfl ?_
      refine g_if_lt hX 35 dX6_buffer_24 (by decide) (fun c2 => ?_) (fun c2 => ?_)
      · -- jump 35
        refine g_bipush hX (-2) dX6_buffer_35 (by decide) ?_
        refine ret _ _ _ _ dX6_buffer_37 ?_
        first | (simp [spBuffer, c1, c2]; done) | grind [spBuffer]
      · -- on 27
        refine g_iload_n hX 3 dX6_buffer_27 rfl ?_
        refine g_aload_n hX 0 dX6_buffer_28 rfl ?_
        refine c_g_Route_0 hX hr.2 i_X6_buffer_wsX50 (List.mem_of_getElem? (i := 3) rfl) dX6_buffer_29 ?_
        refine g_ic_le hX 38 dX6_buffer_32 (by decide) (fun c3 => ?_) (fun c3 => ?_)
        · -- jump 38
          refine g_aload_n hX 0 dX6_buffer_38 rfl ?_
          refine c_g_Route_1 hX hr.2 i_X6_buffer_wsX50 (List.mem_of_getElem? (i := 4) rfl) dX6_buffer_39 ?_
          refine g_istore hX [(4, .int (z 6 (cn x))), (3, .ref (G.2.2 (6 + (cn x)))), (0, .ref (G.2.2 192)), (1, .int x), (2, .int y)] dX6_buffer_42 (by decide) rfl ?_
          refine g_aload_n hX 1 dX6_buffer_44 rfl ?_
          refine g_iload_n hX 4 dX6_buffer_45 rfl ?_
          refine c_p_Route_1 hX hA hr.2 i_X6_buffer_wsX50 (List.mem_of_getElem? (i := 4) rfl) dX6_buffer_46 ?_
          refine g_iload hX 0 dX6_buffer_49 rfl ?_
          refine ret _ _ _ _ dX6_buffer_51 ?_
          first | (simp [spBuffer, c1, c2, c3]; done) | grind [spBuffer]
        · -- on 35
          refine g_bipush hX (-2) dX6_buffer_35 (by decide) ?_
          refine ret _ _ _ _ dX6_buffer_37 ?_
          first | (simp [spBuffer, c1, c2, c3]; done) | grind [spBuffer]
    · -- on 11
      refine g_iconst hX (-1) dX6_buffer_11 (by decide) ?_
      refine ret _ _ _ _ dX6_buffer_12 ?_
      first | (simp [spBuffer, c1]; done) | grind [spBuffer]
def rm_X6_join : Room := { frames := 1, cells := 0, slots := 0, locals := 20 }
theorem i_X6_join_wsX30 : ∀ w ∈ wsX30, w ∈ wsX6_join := fun w h => List.mem_cons_of_mem _ (List.mem_append_right _ h)
theorem i_X6_join_wsX60 : ∀ w ∈ wsX60, w ∈ wsX6_join := fun w h => List.mem_cons_of_mem _ (List.mem_append_left _ (List.mem_append_right _ h))
theorem k_X6_join_X3_addClimber : CW rm_X6_join wsX6_join RX6 RX3 65 yX3_addClimber cX3_addClimber 1 (some .int) wsX3_addClimber rm_X3_addClimber 0 := ⟨gX6_join_X3_addClimber, ⟨_, rfl⟩, rfl, rfl, ⟨rfl, by decide +kernel, by decide +kernel, by decide +kernel⟩, by decide, by decide⟩
set_option maxHeartbeats 4000000 in
set_option maxRecDepth 100000 in
theorem c_X6_join (l : Launch) (G : MG) (hA : Ap 203 G.2.2) (z : St)  (hI : IO z) : CIc l G yX6_join wsX6_join rm_X6_join [.ref (G.2.2 192)] z (fun ρ ζ => ρ = (spJoin z).1 ∧ ζ = (spJoin z).2) := by
  refine ci_of (own := RX6) (cc := cX6_join) (maxL := 1) (ret := .int) (by decide +kernel) rfl rfl ?_ (Nat.le_of_ble_eq_true rfl) (KQ_mv (ExC_mv G)) ?_
  · intro v z' _; rfl
  · intro X hX ret
    refine g_lv (lv' := [(0, .ref (G.2.2 192))]) rfl ?_
    refine g_aload_n hX 0 dX6_join_0 rfl ?_
    refine c_g_Main_0 hX i_X6_join_wsX60 (List.mem_of_getElem? (i := 1) rfl) dX6_join_1 ?_
    refine c_g_Office_2 hX i_X6_join_wsX30 (List.mem_of_getElem? (i := 2) rfl) dX6_join_4 ?_
    refine g_bipush hX 12 dX6_join_7 (by decide) ?_
    refine g_ic_lt hX 15 dX6_join_9 (by decide) (fun c1 => ?_) (fun c1 => ?_)
    · -- jump 15
      refine g_aload_n hX 0 dX6_join_15 rfl ?_
      refine c_g_Main_0 hX i_X6_join_wsX60 (List.mem_of_getElem? (i := 1) rfl) dX6_join_16 ?_
      refine g_cvE hX (As := []) (rest := []) (c_X3_addClimber l G hA z  ) k_X6_join_X3_addClimber rc_Office0 rfl rfl (Nat.le_of_ble_eq_true rfl) dX6_join_19 ?_
      refine ret _ _ _ _ dX6_join_22 ?_
      first | (simp [spJoin, c1]; done) | grind [spJoin]
    · -- on 12
      refine g_bipush hX (-4) dX6_join_12 (by decide) ?_
      refine ret _ _ _ _ dX6_join_14 ?_
      first | (simp [spJoin, c1]; done) | grind [spJoin]
def rm_X6_set : Room := { frames := 0, cells := 0, slots := 0, locals := 0 }
theorem i_X6_set_wsX30 : ∀ w ∈ wsX30, w ∈ wsX6_set := fun w h => List.mem_cons_of_mem _ (List.mem_append_right _ h)
theorem i_X6_set_wsX60 : ∀ w ∈ wsX60, w ∈ wsX6_set := fun w h => List.mem_cons_of_mem _ (List.mem_append_left _ (List.mem_append_right _ h))
set_option maxHeartbeats 4000000 in
set_option maxRecDepth 100000 in
theorem c_X6_set (l : Launch) (G : MG) (hA : Ap 203 G.2.2) (z : St) {x : Int32} {y : Int32}  : CIc l G yX6_set wsX6_set rm_X6_set [.ref (G.2.2 192), .int x, .int y] z (fun ρ ζ => ρ = (spSet z x y).1 ∧ ζ = (spSet z x y).2) := by
  refine ci_of (own := RX6) (cc := cX6_set) (maxL := 4) (ret := .int) (by decide +kernel) rfl rfl ?_ (Nat.le_of_ble_eq_true rfl) (KQ_mv (ExC_mv G)) ?_
  · intro v z' _; rfl
  · intro X hX ret
    refine g_lv (lv' := [(0, .ref (G.2.2 192)), (1, .int x), (2, .int y)]) rfl ?_
    obtain ⟨tFIRST, tLOWEST, tHIGHEST, sFIRST, sLOWEST, sHIGHEST⟩ := stR hX (fun U h => h.2.2)
    refine g_iload_n hX 1 dX6_set_0 rfl ?_
    refine g_if_lt hX 30 dX6_set_1 (by decide) (fun c1 => ?_) (fun c1 => ?_)
    · -- jump 30
      refine g_bipush hX (-2) dX6_set_30 (by decide) ?_
      refine ret _ _ _ _ dX6_set_32 ?_
      first | (simp [spSet, c1]; done) | grind [spSet]
    · -- on 4
      refine g_iload_n hX 1 dX6_set_4 rfl ?_
      refine sFIRST.1 _ _ _ _ _ dX6_set_5 (List.mem_of_getElem? (i := 1) rfl) ?_
      refine sFIRST.2.1 _ _ _ _ dX6_set_8 ?_
      refine g_ic_ge hX 30 dX6_set_9 (by decide) (fun c2 => ?_) (fun c2 => ?_)
      · -- jump 30
        refine g_bipush hX (-2) dX6_set_30 (by decide) ?_
        refine ret _ _ _ _ dX6_set_32 ?_
        first | (simp [spSet, c1, c2]; done) | grind [spSet]
      · -- on 12
        have hx := rng (n := 6) (by decide) c1 (Int32.not_le.mp c2)
        refine g_iload_n hX 2 dX6_set_12 rfl ?_
        refine sLOWEST.1 _ _ _ _ _ dX6_set_13 (List.mem_of_getElem? (i := 2) rfl) ?_
        refine g_iload_n hX 1 dX6_set_16 rfl ?_
        refine sLOWEST.2.2 _ _ _ _ _ (cn x) hx.1 hx.2 dX6_set_17 ?_
        refine g_ic_lt hX 30 dX6_set_18 (by decide) (fun c3 => ?_) (fun c3 => ?_)
        · -- jump 30
          refine g_bipush hX (-2) dX6_set_30 (by decide) ?_
          refine ret _ _ _ _ dX6_set_32 ?_
          first | (simp [spSet, c1, c2, c3]; done) | grind [spSet]
        · -- on 21
          refine g_iload_n hX 2 dX6_set_21 rfl ?_
          refine sHIGHEST.1 _ _ _ _ _ dX6_set_22 (List.mem_of_getElem? (i := 3) rfl) ?_
          refine g_iload_n hX 1 dX6_set_25 rfl ?_
          refine sHIGHEST.2.2 _ _ _ _ _ (cn x) hx.1 hx.2 dX6_set_26 ?_
          refine g_ic_le hX 33 dX6_set_27 (by decide) (fun c4 => ?_) (fun c4 => ?_)
          · -- jump 33
            refine g_aload_n hX 0 dX6_set_33 rfl ?_
            refine c_g_Main_0 hX i_X6_set_wsX60 (List.mem_of_getElem? (i := 4) rfl) dX6_set_34 ?_
            refine c_g_Office_8 hX i_X6_set_wsX30 (List.mem_of_getElem? (i := 5) rfl) dX6_set_37 ?_
            refine g_iload_n hX 1 dX6_set_40 rfl ?_
            refine c_ld_settings hX (cn x) hx.1 hx.2 dX6_set_41 ?_
            refine g_istore_n hX [(3, .int (z 4 (cn x))), (0, .ref (G.2.2 192)), (1, .int x), (2, .int y)] dX6_set_42 (by decide) rfl ?_
            refine g_aload_n hX 1 dX6_set_43 rfl ?_
            refine c_g_Main_0 hX i_X6_set_wsX60 (List.mem_of_getElem? (i := 4) rfl) dX6_set_44 ?_
            refine c_g_Office_8 hX i_X6_set_wsX30 (List.mem_of_getElem? (i := 5) rfl) dX6_set_47 ?_
            refine g_iload_n hX 2 dX6_set_50 rfl ?_
            refine g_iload_n hX 3 dX6_set_51 rfl ?_
            refine c_st_settings hX hA (cn x) hx.1 hx.2 dX6_set_52 ?_
            refine g_iload_n hX 0 dX6_set_53 rfl ?_
            refine ret _ _ _ _ dX6_set_54 ?_
            first | (simp [spSet, c1, c2, c3, c4]; done) | grind [spSet]
          · -- on 30
            refine g_bipush hX (-2) dX6_set_30 (by decide) ?_
            refine ret _ _ _ _ dX6_set_32 ?_
            first | (simp [spSet, c1, c2, c3, c4]; done) | grind [spSet]
def rm_X6_apply : Room := { frames := 2, cells := 0, slots := 0, locals := 47 }
theorem i_X6_apply_wsX30 : ∀ w ∈ wsX30, w ∈ wsX6_apply := fun w h => List.mem_cons_of_mem _ (List.mem_append_left _ (List.mem_append_left _ (List.mem_append_right _ h)))
theorem i_X6_apply_wsX60 : ∀ w ∈ wsX60, w ∈ wsX6_apply := fun w h => List.mem_cons_of_mem _ (List.mem_append_left _ (List.mem_append_left _ (List.mem_append_left _ (List.mem_append_right _ h))))
theorem k_X6_apply_X1_isBarredOn : CW rm_X6_apply wsX6_apply RX6 RX1 100 yX1_isBarredOn cX1_isBarredOn 2 (some .boolean) wsX1_isBarredOn rm_X1_isBarredOn 1 := ⟨gX6_apply_X1_isBarredOn, ⟨_, rfl⟩, rfl, rfl, ⟨rfl, by decide +kernel, by decide +kernel, by decide +kernel⟩, by decide, by decide⟩
theorem k_X6_apply_X3_addApplication : CW rm_X6_apply wsX6_apply RX6 RX3 108 yX3_addApplication cX3_addApplication 6 (some .int) wsX3_addApplication rm_X3_addApplication 4 := ⟨gX6_apply_X3_addApplication, ⟨_, rfl⟩, rfl, rfl, ⟨rfl, by decide +kernel, by decide +kernel, by decide +kernel⟩, by decide, by decide⟩
theorem k_X6_apply_X3_hasClimber : CW rm_X6_apply wsX6_apply RX6 RX3 82 yX3_hasClimber cX3_hasClimber 2 (some .boolean) wsX3_hasClimber rm_X3_hasClimber 1 := ⟨gX6_apply_X3_hasClimber, ⟨_, rfl⟩, rfl, rfl, ⟨rfl, by decide +kernel, by decide +kernel, by decide +kernel⟩, by decide, by decide⟩
theorem k_X6_apply_X3_hasRouteAndDay : CW rm_X6_apply wsX6_apply RX6 RX3 85 yX3_hasRouteAndDay cX3_hasRouteAndDay 3 (some .boolean) wsX3_hasRouteAndDay rm_X3_hasRouteAndDay 2 := ⟨gX6_apply_X3_hasRouteAndDay, ⟨_, rfl⟩, rfl, rfl, ⟨rfl, by decide +kernel, by decide +kernel, by decide +kernel⟩, by decide, by decide⟩
theorem k_X6_apply_X3_isOpen : CW rm_X6_apply wsX6_apply RX6 RX3 89 yX3_isOpen cX3_isOpen 2 (some .boolean) wsX3_isOpen rm_X3_isOpen 1 := ⟨gX6_apply_X3_isOpen, ⟨_, rfl⟩, rfl, rfl, ⟨rfl, by decide +kernel, by decide +kernel, by decide +kernel⟩, by decide, by decide⟩
theorem k_X6_apply_X3_stillHas : CW rm_X6_apply wsX6_apply RX6 RX3 92 yX3_stillHas cX3_stillHas 6 (some .boolean) wsX3_stillHas rm_X3_stillHas 3 := ⟨gX6_apply_X3_stillHas, ⟨_, rfl⟩, rfl, rfl, ⟨rfl, by decide +kernel, by decide +kernel, by decide +kernel⟩, by decide, by decide⟩
set_option maxHeartbeats 4000000 in
set_option maxRecDepth 100000 in
theorem c_X6_apply (l : Launch) (G : MG) (hA : Ap 203 G.2.2) (z : St) {c : Int32} {r : Int32} {d : Int32} {p : Int32} (hI : IO z) : CIc l G yX6_apply wsX6_apply rm_X6_apply [.ref (G.2.2 192), .int c, .int r, .int d, .int p] z (fun ρ ζ => ρ = (spApply z c r d p).1 ∧ ζ = (spApply z c r d p).2) := by
  refine ci_of (own := RX6) (cc := cX6_apply) (maxL := 5) (ret := .int) (by decide +kernel) rfl rfl ?_ (Nat.le_of_ble_eq_true rfl) (KQ_mv (ExC_mv G)) ?_
  · intro v z' _; rfl
  · intro X hX ret
    refine g_lv (lv' := [(0, .ref (G.2.2 192)), (1, .int c), (2, .int r), (3, .int d), (4, .int p)]) rfl ?_
    refine g_aload_n hX 0 dX6_apply_0 rfl ?_
    refine c_g_Main_0 hX i_X6_apply_wsX60 (List.mem_of_getElem? (i := 1) rfl) dX6_apply_1 ?_
    refine g_iload_n hX 1 dX6_apply_4 rfl ?_
    refine g_cvE hX (As := [.int c]) (rest := []) (c_X3_hasClimber l G z (x1 := c) ) k_X6_apply_X3_hasClimber rc_Office0 rfl rfl (Nat.le_of_ble_eq_true rfl) dX6_apply_5 ?_
    refine g_bi_eq hX 23 dX6_apply_8 (by decide) (fun c1 => ?_) (fun c1 => ?_)
    · -- jump 23
      refine g_iconst hX (-1) dX6_apply_23 (by decide) ?_
      refine ret _ _ _ _ dX6_apply_24 ?_
      first | (simp [spApply, newApp, c1]; done) | grind [spApply, newApp]
    · -- on 11
      have hc := climP_in hI c1
      have hcm := not_m1 c1.1
      refine g_aload_n hX 0 dX6_apply_11 rfl ?_
      refine c_g_Main_0 hX i_X6_apply_wsX60 (List.mem_of_getElem? (i := 1) rfl) dX6_apply_12 ?_
      refine g_iload_n hX 2 dX6_apply_15 rfl ?_
      refine g_iload_n hX 3 dX6_apply_16 rfl ?_
      refine g_cvE hX (As := [.int r, .int d]) (rest := []) (c_X3_hasRouteAndDay l G z (x1 := r) (x2 := d) ) k_X6_apply_X3_hasRouteAndDay rc_Office0 rfl rfl (Nat.le_of_ble_eq_true rfl) dX6_apply_17 ?_
      refine g_bi_ne hX 25 dX6_apply_20 (by decide) (fun c2 => ?_) (fun c2 => ?_)
      · -- jump 25
        have hr := routeP_in hI c2.1
        have hrm := not_m1 c2.1.1
        have hd := dayP_in c2.2
        refine g_iload hX 4 dX6_apply_25 rfl ?_
        refine g_iconst hX 1 dX6_apply_27 (by decide) ?_
        refine g_ic_lt hX 37 dX6_apply_28 (by decide) (fun c3 => ?_) (fun c3 => ?_)
        · -- jump 37
          refine g_bipush hX (-2) dX6_apply_37 (by decide) ?_
          refine ret _ _ _ _ dX6_apply_39 ?_
          first | (simp [spApply, newApp, c1, c2, c3]; done) | grind [spApply, newApp]
        · -- on 31
          refine g_iload hX 4 dX6_apply_31 rfl ?_
          refine g_iconst hX 4 dX6_apply_33 (by decide) ?_
          refine g_ic_le hX 40 dX6_apply_34 (by decide) (fun c4 => ?_) (fun c4 => ?_)
          · -- jump 40
            refine g_aload_n hX 0 dX6_apply_40 rfl ?_
            refine c_g_Main_0 hX i_X6_apply_wsX60 (List.mem_of_getElem? (i := 1) rfl) dX6_apply_41 ?_
            refine g_iload_n hX 3 dX6_apply_44 rfl ?_
            refine g_cvE hX (As := [.int d]) (rest := []) (c_X3_isOpen l G z (x1 := d) ) k_X6_apply_X3_isOpen rc_Office0 rfl rfl (Nat.le_of_ble_eq_true rfl) dX6_apply_45 ?_
            refine g_bi_eq hX 80 dX6_apply_48 (by decide) (fun c5 => ?_) (fun c5 => ?_)
            · -- jump 80
              refine g_bipush hX (-5) dX6_apply_80 (by decide) ?_
              refine ret _ _ _ _ dX6_apply_82 ?_
              first | (simp [spApply, newApp, c1, c2, c3, c4, c5]; done) | grind [spApply, newApp]
            · -- on 51
              refine g_aload_n hX 0 dX6_apply_51 rfl ?_
              refine c_g_Main_0 hX i_X6_apply_wsX60 (List.mem_of_getElem? (i := 1) rfl) dX6_apply_52 ?_
              refine g_iload_n hX 1 dX6_apply_55 rfl ?_
              refine g_iload_n hX 2 dX6_apply_56 rfl ?_
              refine g_iload_n hX 3 dX6_apply_57 rfl ?_
              refine g_cvE hX (As := [.int c, .int r, .int d]) (rest := []) (c_X3_stillHas l G z (c := c) (r := r) (d := d) (hr := hrm) (hc := hcm) (hI := (by assumption))) k_X6_apply_X3_stillHas rc_Office0 rfl rfl (Nat.le_of_ble_eq_true rfl) dX6_apply_58 ?_
              refine g_bi_ne hX 80 dX6_apply_61 (by decide) (fun c6 => ?_) (fun c6 => ?_)
              · -- jump 80
                refine g_bipush hX (-5) dX6_apply_80 (by decide) ?_
                refine ret _ _ _ _ dX6_apply_82 ?_
                first | (simp [spApply, newApp, c1, c2, c3, c4, c5, c6]; done) | grind [spApply, newApp]
              · -- on 64
                refine g_aload_n hX 0 dX6_apply_64 rfl ?_
                refine c_g_Main_0 hX i_X6_apply_wsX60 (List.mem_of_getElem? (i := 1) rfl) dX6_apply_65 ?_
                refine c_g_Office_5 hX i_X6_apply_wsX30 (List.mem_of_getElem? (i := 2) rfl) dX6_apply_68 ?_
                refine g_iload_n hX 1 dX6_apply_71 rfl ?_
                refine c_ld_climbers hX (cn c) hc.1 hc.2.2 dX6_apply_72 ?_
                refine g_iload_n hX 3 dX6_apply_73 rfl ?_
                refine g_cvE hX (As := [.int d]) (rest := []) (c_X1_isBarredOn l G z (i := (cn c)) (x1 := d) (hi := hc.2.2)) k_X6_apply_X1_isBarredOn (rc_Climber0 hc.2.2) rfl rfl (Nat.le_of_ble_eq_true rfl) dX6_apply_74 ?_
                refine g_bi_eq hX 83 dX6_apply_77 (by decide) (fun c7 => ?_) (fun c7 => ?_)
                · -- jump 83
                  refine g_aload_n hX 0 dX6_apply_83 rfl ?_
                  refine c_g_Main_0 hX i_X6_apply_wsX60 (List.mem_of_getElem? (i := 1) rfl) dX6_apply_84 ?_
                  refine c_g_Office_3 hX i_X6_apply_wsX30 (List.mem_of_getElem? (i := 3) rfl) dX6_apply_87 ?_
                  refine g_bipush hX 40 dX6_apply_90 (by decide) ?_
                  refine g_ic_lt hX 98 dX6_apply_92 (by decide) (fun c8 => ?_) (fun c8 => ?_)
                  · -- jump 98
                    refine g_aload_n hX 0 dX6_apply_98 rfl ?_
                    refine c_g_Main_0 hX i_X6_apply_wsX60 (List.mem_of_getElem? (i := 1) rfl) dX6_apply_99 ?_
                    refine g_iload_n hX 1 dX6_apply_102 rfl ?_
                    refine g_iload_n hX 2 dX6_apply_103 rfl ?_
                    refine g_iload_n hX 3 dX6_apply_104 rfl ?_
                    refine g_iload hX 4 dX6_apply_105 rfl ?_
                    refine g_cvE hX (As := [.int c, .int r, .int d, .int p]) (rest := []) (c_X3_addApplication l G hA z (c := c) (r := r) (d := d) (p := p) (hn := (by have h := (iNa hI).1; rw [h] at c8; exact (nI_ltI (b := 40) (by have := (iNa hI).2; omega) (by decide)).mp c8)) (hI := (by assumption))) k_X6_apply_X3_addApplication rc_Office0 rfl rfl (Nat.le_of_ble_eq_true rfl) dX6_apply_107 ?_
                    refine ret _ _ _ _ dX6_apply_110 ?_
                    first | (simp [spApply, newApp, c1, c2, c3, c4, c5, c6, c7, c8]; done) | grind [spApply, newApp]
                  · -- on 95
                    refine g_bipush hX (-4) dX6_apply_95 (by decide) ?_
                    refine ret _ _ _ _ dX6_apply_97 ?_
                    first | (simp [spApply, newApp, c1, c2, c3, c4, c5, c6, c7, c8]; done) | grind [spApply, newApp]
                · -- on 80
                  refine g_bipush hX (-5) dX6_apply_80 (by decide) ?_
                  refine ret _ _ _ _ dX6_apply_82 ?_
                  first | (simp [spApply, newApp, c1, c2, c3, c4, c5, c6, c7]; done) | grind [spApply, newApp]
          · -- on 37
            refine g_bipush hX (-2) dX6_apply_37 (by decide) ?_
            refine ret _ _ _ _ dX6_apply_39 ?_
            first | (simp [spApply, newApp, c1, c2, c3, c4]; done) | grind [spApply, newApp]
      · -- on 23
        refine g_iconst hX (-1) dX6_apply_23 (by decide) ?_
        refine ret _ _ _ _ dX6_apply_24 ?_
        first | (simp [spApply, newApp, c1, c2]; done) | grind [spApply, newApp]
def rm_X6_cancel : Room := { frames := 5, cells := 0, slots := 0, locals := 114 }
theorem i_X6_cancel_wsX00 : ∀ w ∈ wsX00, w ∈ wsX6_cancel := fun w h => List.mem_cons_of_mem _ (List.mem_append_left _ (List.mem_append_left _ (List.mem_append_right _ h)))
theorem i_X6_cancel_wsX30 : ∀ w ∈ wsX30, w ∈ wsX6_cancel := fun w h => List.mem_cons_of_mem _ (List.mem_append_left _ (List.mem_append_left _ (List.mem_append_left _ (List.mem_append_right _ h))))
theorem i_X6_cancel_wsX60 : ∀ w ∈ wsX60, w ∈ wsX6_cancel := fun w h => List.mem_cons_of_mem _ (List.mem_append_left _ (List.mem_append_left _ (List.mem_append_left _ (List.mem_append_left _ (List.mem_append_right _ h)))))
theorem k_X6_cancel_X0_isAlive : CW rm_X6_cancel wsX6_cancel RX6 RX0 141 yX0_isAlive cX0_isAlive 1 (some .boolean) wsX0_isAlive rm_X0_isAlive 0 := ⟨gX6_cancel_X0_isAlive, ⟨_, rfl⟩, rfl, rfl, ⟨rfl, by decide +kernel, by decide +kernel, by decide +kernel⟩, by decide, by decide⟩
theorem k_X6_cancel_X3_hasApplication : CW rm_X6_cancel wsX6_cancel RX6 RX3 134 yX3_hasApplication cX3_hasApplication 2 (some .boolean) wsX3_hasApplication rm_X3_hasApplication 1 := ⟨gX6_cancel_X3_hasApplication, ⟨_, rfl⟩, rfl, rfl, ⟨rfl, by decide +kernel, by decide +kernel, by decide +kernel⟩, by decide, by decide⟩
theorem k_X6_cancel_X3_refundNow : CW rm_X6_cancel wsX6_cancel RX6 RX3 150 yX3_refundNow cX3_refundNow 3 (some .int) wsX3_refundNow rm_X3_refundNow 1 := ⟨gX6_cancel_X3_refundNow, ⟨_, rfl⟩, rfl, rfl, ⟨rfl, by decide +kernel, by decide +kernel, by decide +kernel⟩, by decide, by decide⟩
theorem k_X6_cancel_X3_serveWaiting : CW rm_X6_cancel wsX6_cancel RX6 RX3 163 yX3_serveWaiting cX3_serveWaiting 5 none wsX3_serveWaiting rm_X3_serveWaiting 2 := ⟨gX6_cancel_X3_serveWaiting, ⟨_, rfl⟩, rfl, rfl, ⟨rfl, by decide +kernel, by decide +kernel, by decide +kernel⟩, by decide, by decide⟩
set_option maxHeartbeats 4000000 in
set_option maxRecDepth 100000 in
theorem c_X6_cancel (l : Launch) (G : MG) (hA : Ap 203 G.2.2) (z : St) {a : Int32} (hI : IO z) (hm : ∀ c, c < 12 → 0 ≤ z 8 c) (h17 : ∀ b, b < nA z → ¬ z 15 b = 1 → aliveP z b → z 17 b = 0) : CIc l G yX6_cancel wsX6_cancel rm_X6_cancel [.ref (G.2.2 192), .int a] z (fun ρ ζ => ρ = (spCancel z a).1 ∧ ζ = (spCancel z a).2) := by
  refine ci_of (own := RX6) (cc := cX6_cancel) (maxL := 4) (ret := .int) (by decide +kernel) rfl rfl ?_ (Nat.le_of_ble_eq_true rfl) (KQ_mv (ExC_mv G)) ?_
  · intro v z' _; rfl
  · intro X hX ret
    refine g_lv (lv' := [(0, .ref (G.2.2 192)), (1, .int a)]) rfl ?_
    refine g_aload_n hX 0 dX6_cancel_0 rfl ?_
    refine c_g_Main_0 hX i_X6_cancel_wsX60 (List.mem_of_getElem? (i := 1) rfl) dX6_cancel_1 ?_
    refine g_iload_n hX 1 dX6_cancel_4 rfl ?_
    refine g_cvE hX (As := [.int a]) (rest := []) (c_X3_hasApplication l G z (x1 := a) ) k_X6_cancel_X3_hasApplication rc_Office0 rfl rfl (Nat.le_of_ble_eq_true rfl) dX6_cancel_5 ?_
    refine g_bi_ne hX 13 dX6_cancel_8 (by decide) (fun c1 => ?_) (fun c1 => ?_)
    · -- jump 13
      have ha := appP_in hI c1
      refine g_aload_n hX 0 dX6_cancel_13 rfl ?_
      refine c_g_Main_0 hX i_X6_cancel_wsX60 (List.mem_of_getElem? (i := 1) rfl) dX6_cancel_14 ?_
      refine c_g_Office_6 hX i_X6_cancel_wsX30 (List.mem_of_getElem? (i := 2) rfl) dX6_cancel_17 ?_
      refine g_iload_n hX 1 dX6_cancel_20 rfl ?_
      refine c_ld_applications hX (cn a) ha.1 ha.2.2 dX6_cancel_21 ?_
      refine g_astore_n hX [(2, .ref (G.2.2 (24 + (cn a)))), (0, .ref (G.2.2 192)), (1, .int a)] dX6_cancel_22 (by decide) rfl ?_
      refine g_aload_n hX 0 dX6_cancel_23 rfl ?_
      refine g_cvE hX (As := []) (rest := []) (c_X0_isAlive l G z (a := (cn a)) (ha := (by omega))) k_X6_cancel_X0_isAlive (rc_App0 ha.2.2) rfl rfl (Nat.le_of_ble_eq_true rfl) dX6_cancel_24 ?_
      refine g_bi_ne hX 33 dX6_cancel_27 (by decide) (fun c2 => ?_) (fun c2 => ?_)
      · -- jump 33
        refine g_aload_n hX 0 dX6_cancel_33 rfl ?_
        refine c_g_Application_5 hX ha.2.2 i_X6_cancel_wsX00 (List.mem_of_getElem? (i := 3) rfl) dX6_cancel_34 ?_
        refine g_iconst hX 1 dX6_cancel_37 (by decide) ?_
        refine g_ic_ne hX 45 dX6_cancel_38 (by decide) (fun c3 => ?_) (fun c3 => ?_)
        · -- jump 45
          refine g_iconst hX 0 dX6_cancel_45 (by decide) ?_
          refine g_istore_n hX [(3, .int 0), (2, .ref (G.2.2 (24 + (cn a)))), (0, .ref (G.2.2 192)), (1, .int a)] dX6_cancel_46 (by decide) rfl ?_
          refine g_aload_n hX 1 dX6_cancel_47 rfl ?_
          refine g_iconst hX 3 dX6_cancel_48 (by decide) ?_
          refine c_p_Application_5 hX hA ha.2.2 i_X6_cancel_wsX00 (List.mem_of_getElem? (i := 3) rfl) dX6_cancel_49 ?_
          refine g_iload_n hX 0 dX6_cancel_52 rfl ?_
          refine g_if_eq hX 83 dX6_cancel_53 (by decide) (fun c4 => ?_) (fun c4 => ?_)
          · -- jump 83
            refine g_aload_n hX 1 dX6_cancel_83 rfl ?_
            refine c_g_Application_7 hX ha.2.2 i_X6_cancel_wsX00 (List.mem_of_getElem? (i := 4) rfl) dX6_cancel_84 ?_
            refine g_top (z 17 (cn a)) (by simp [u2]) ?_
            refine ret _ _ _ _ dX6_cancel_87 ?_
            first | (simp [spCancel, c1, c2, c3, c4]; done) | (have e := h17 (cn a) ha.2.1 c3 c2; simp [spCancel, c1, c2, c3, c4, e]; done)
          · -- on 56
            exact absurd c4 (by decide)
        · -- on 41
          refine g_iconst hX 1 dX6_cancel_41 (by decide) ?_
          refine g_goto hX 46 dX6_cancel_42 (by decide) ?_
          refine g_istore_n hX [(3, .int 1), (2, .ref (G.2.2 (24 + (cn a)))), (0, .ref (G.2.2 192)), (1, .int a)] dX6_cancel_46 (by decide) rfl ?_
          refine g_aload_n hX 1 dX6_cancel_47 rfl ?_
          refine g_iconst hX 3 dX6_cancel_48 (by decide) ?_
          refine c_p_Application_5 hX hA ha.2.2 i_X6_cancel_wsX00 (List.mem_of_getElem? (i := 3) rfl) dX6_cancel_49 ?_
          refine g_iload_n hX 0 dX6_cancel_52 rfl ?_
          refine g_if_eq hX 83 dX6_cancel_53 (by decide) (fun c5 => ?_) (fun c5 => ?_)
          · -- jump 83
            exact absurd c5 (by decide)
          · -- on 56
            refine g_aload_n hX 1 dX6_cancel_56 rfl ?_
            refine g_aload_n hX 2 dX6_cancel_57 rfl ?_
            refine c_g_Main_0 hX i_X6_cancel_wsX60 (List.mem_of_getElem? (i := 1) rfl) dX6_cancel_58 ?_
            refine g_aload_n hX 1 dX6_cancel_61 rfl ?_
            refine g_cvE hX (As := [.ref (G.2.2 (24 + (cn a)))]) (rest := [.ref (G.2.2 (24 + (cn a)))]) (c_X3_refundNow l G (u2 z 15 (cn a) 3) (a := (cn a)) (ha := ha.2.2)) k_X6_cancel_X3_refundNow rc_Office0 rfl rfl (Nat.le_of_ble_eq_true rfl) dX6_cancel_62 ?_
            refine g_top (backNow z (cn a)) (by simp [backNow, u2]) ?_
            refine c_p_Application_7 hX hA ha.2.2 i_X6_cancel_wsX00 (List.mem_of_getElem? (i := 4) rfl) dX6_cancel_65 ?_
            refine g_aload_n hX 2 dX6_cancel_68 rfl ?_
            refine c_g_Main_0 hX i_X6_cancel_wsX60 (List.mem_of_getElem? (i := 1) rfl) dX6_cancel_69 ?_
            refine g_aload_n hX 1 dX6_cancel_72 rfl ?_
            refine c_g_Application_1 hX ha.2.2 i_X6_cancel_wsX00 (List.mem_of_getElem? (i := 5) rfl) dX6_cancel_73 ?_
            refine g_top (z 12 (cn a)) (by simp [u2]) ?_
            refine g_aload_n hX 1 dX6_cancel_76 rfl ?_
            refine c_g_Application_2 hX ha.2.2 i_X6_cancel_wsX00 (List.mem_of_getElem? (i := 6) rfl) dX6_cancel_77 ?_
            refine g_top (z 13 (cn a)) (by simp [u2]) ?_
            refine g_st (st2 := [.int (z 13 (cn a)), .int (nI (cn (z 12 (cn a)))), .ref (G.2.2 0)]) (by rw [← (show (z 12 (cn a)) = nI (cn (z 12 (cn a))) from (iR hI ha.2.1).1)]) ?_
            refine g_cvvE hX (As := [.int (nI (cn (z 12 (cn a)))), .int (z 13 (cn a))]) (rest := []) (c_X3_serveWaiting l G hA (u2 (u2 z 15 (cn a) 3) 17 (cn a) (backNow z (cn a))) (q := (cn (z 12 (cn a)))) (d := (z 13 (cn a))) (hq := (iR hI ha.2.1).2) (hI := (IO_u2 (IO_u2 hI (by decide)) (by decide))) (hm := hm)) k_X6_cancel_X3_serveWaiting rc_Office0 rfl rfl (Nat.le_of_ble_eq_true rfl) dX6_cancel_80 ?_
            refine g_aload_n hX 1 dX6_cancel_83 rfl ?_
            refine c_g_Application_7 hX ha.2.2 i_X6_cancel_wsX00 (List.mem_of_getElem? (i := 4) rfl) dX6_cancel_84 ?_
            refine ret _ _ _ _ dX6_cancel_87 ?_
            have e := cancel_won c1 c2 (Decidable.not_not.mp c3) (iR hI ha.2.1).1
            rw [e]
            refine ⟨?_, rfl⟩
            split
            · rw [serve_lo _ _ _ _ (show 17 ≠ 8 ∧ 17 ≠ 15 ∧ 17 ≠ 16 by decide), u2_s]
            · rw [u2_s]
      · -- on 30
        refine g_bipush hX (-5) dX6_cancel_30 (by decide) ?_
        refine ret _ _ _ _ dX6_cancel_32 ?_
        first | (simp [spCancel, c1, c2]; done) | (have e := h17 (cn a) ha.2.1 c3 c2; simp [spCancel, c1, c2, e]; done)
    · -- on 11
      refine g_iconst hX (-1) dX6_cancel_11 (by decide) ?_
      refine ret _ _ _ _ dX6_cancel_12 ?_
      first | (simp [spCancel, c1]; done) | (have e := h17 (cn a) ha.2.1 c3 c2; simp [spCancel, c1, e]; done)
def rm_X6_close : Room := { frames := 5, cells := 0, slots := 0, locals := 116 }
theorem i_X6_close_wsX30 : ∀ w ∈ wsX30, w ∈ wsX6_close := fun w h => List.mem_cons_of_mem _ (List.mem_append_left _ (List.mem_append_left _ (List.mem_append_left _ (List.mem_append_right _ h))))
theorem i_X6_close_wsX60 : ∀ w ∈ wsX60, w ∈ wsX6_close := fun w h => List.mem_cons_of_mem _ (List.mem_append_left _ (List.mem_append_left _ (List.mem_append_left _ (List.mem_append_left _ (List.mem_append_right _ h)))))
theorem k_X6_close_X3_isOpen : CW rm_X6_close wsX6_close RX6 RX3 89 yX3_isOpen cX3_isOpen 2 (some .boolean) wsX3_isOpen rm_X3_isOpen 1 := ⟨gX6_close_X3_isOpen, ⟨_, rfl⟩, rfl, rfl, ⟨rfl, by decide +kernel, by decide +kernel, by decide +kernel⟩, by decide, by decide⟩
theorem k_X6_close_X3_loseApplied : CW rm_X6_close wsX6_close RX6 RX3 126 yX3_loseApplied cX3_loseApplied 4 none wsX3_loseApplied rm_X3_loseApplied 2 := ⟨gX6_close_X3_loseApplied, ⟨_, rfl⟩, rfl, rfl, ⟨rfl, by decide +kernel, by decide +kernel, by decide +kernel⟩, by decide, by decide⟩
theorem k_X6_close_X3_movePermits : CW rm_X6_close wsX6_close RX6 RX3 172 yX3_movePermits cX3_movePermits 6 (some .int) wsX3_movePermits rm_X3_movePermits 1 := ⟨gX6_close_X3_movePermits, ⟨_, rfl⟩, rfl, rfl, ⟨rfl, by decide +kernel, by decide +kernel, by decide +kernel⟩, by decide, by decide⟩
theorem k_X6_close_X6_isDay : CS rm_X6_close wsX6_close RX6 166 yX6_isDay cX6_isDay 1 (some .boolean) wsX6_isDay rm_X6_isDay 1 := ⟨gX6_close_X6_isDay, ⟨_, rfl⟩, rfl, rfl, ⟨rfl, by decide +kernel, by decide +kernel, by decide +kernel⟩, by decide, by decide⟩
set_option maxHeartbeats 4000000 in
set_option maxRecDepth 100000 in
theorem c_X6_close (l : Launch) (G : MG) (hA : Ap 203 G.2.2) (z : St) {d : Int32} (hI : IO z) (hs : z 4 4 = nI (cn (z 4 4)) ∧ cn (z 4 4) ≤ 10) : CIc l G yX6_close wsX6_close rm_X6_close [.ref (G.2.2 192), .int d] z (fun ρ ζ => ρ = (spClose z d).1 ∧ ζ = (spClose z d).2) := by
  refine ci_of (own := RX6) (cc := cX6_close) (maxL := 3) (ret := .int) (by decide +kernel) rfl rfl ?_ (Nat.le_of_ble_eq_true rfl) (KQ_mv (ExC_mv G)) ?_
  · intro v z' _; rfl
  · intro X hX ret
    refine g_lv (lv' := [(0, .ref (G.2.2 192)), (1, .int d)]) rfl ?_
    refine g_iload_n hX 1 dX6_close_0 rfl ?_
    refine g_csE hX (As := [.int d]) (rest := []) (c_X6_isDay l G z (x1 := d) ) k_X6_close_X6_isDay rfl rfl (Nat.le_of_ble_eq_true rfl) dX6_close_1 ?_
    refine g_bi_ne hX 9 dX6_close_4 (by decide) (fun c1 => ?_) (fun c1 => ?_)
    · -- jump 9
      have hd := dayP_in c1
      refine g_aload_n hX 0 dX6_close_9 rfl ?_
      refine c_g_Main_0 hX i_X6_close_wsX60 (List.mem_of_getElem? (i := 1) rfl) dX6_close_10 ?_
      refine g_iload_n hX 1 dX6_close_13 rfl ?_
      refine g_cvE hX (As := [.int d]) (rest := []) (c_X3_isOpen l G z (x1 := d) ) k_X6_close_X3_isOpen rc_Office0 rfl rfl (Nat.le_of_ble_eq_true rfl) dX6_close_14 ?_
      refine g_bi_ne hX 23 dX6_close_17 (by decide) (fun c2 => ?_) (fun c2 => ?_)
      · -- jump 23
        refine g_aload_n hX 0 dX6_close_23 rfl ?_
        refine c_g_Main_0 hX i_X6_close_wsX60 (List.mem_of_getElem? (i := 1) rfl) dX6_close_24 ?_
        refine c_g_Office_7 hX i_X6_close_wsX30 (List.mem_of_getElem? (i := 2) rfl) dX6_close_27 ?_
        refine g_iload_n hX 1 dX6_close_30 rfl ?_
        refine g_iconst hX 1 dX6_close_31 (by decide) ?_
        refine c_st_closed hX hA (cn d) hd.1 hd.2 (Or.inr rfl) dX6_close_32 ?_
        refine g_aload_n hX 0 dX6_close_33 rfl ?_
        refine c_g_Main_0 hX i_X6_close_wsX60 (List.mem_of_getElem? (i := 1) rfl) dX6_close_34 ?_
        refine g_iload_n hX 1 dX6_close_37 rfl ?_
        refine g_cvE hX (As := [.int d]) (rest := []) (c_X3_movePermits l G hA (u2 z 7 (cn d) 1) (d := d) (hI := (IO_u2 hI (by decide)))) k_X6_close_X3_movePermits rc_Office0 rfl rfl (Nat.le_of_ble_eq_true rfl) dX6_close_38 ?_
        refine g_istore_n hX [(2, .int (movedK (u2 z 7 (cn d) 1) d (nA (u2 z 7 (cn d) 1)))), (0, .ref (G.2.2 192)), (1, .int d)] dX6_close_41 (by decide) rfl ?_
        refine g_aload_n hX 1 dX6_close_42 rfl ?_
        refine c_g_Main_0 hX i_X6_close_wsX60 (List.mem_of_getElem? (i := 1) rfl) dX6_close_43 ?_
        refine g_iconst hX (-1) dX6_close_46 (by decide) ?_
        refine g_iload_n hX 2 dX6_close_47 rfl ?_
        refine g_cvvE hX (As := [.int (-1), .int d]) (rest := []) (c_X3_loseApplied l G hA (moveK (u2 z 7 (cn d) 1) d (nA (u2 z 7 (cn d) 1))) (r := (-1)) (d := d) (hI := (IO_moveK (IO_u2 hI (by decide)) d _))) k_X6_close_X3_loseApplied rc_Office0 rfl rfl (Nat.le_of_ble_eq_true rfl) dX6_close_48 ?_
        refine g_iload_n hX 0 dX6_close_51 rfl ?_
        refine ret _ _ _ _ dX6_close_52 ?_
        simp only [spClose]
        rw [if_neg (not_not_intro c1), if_neg (not_not_intro c2)]
        exact ⟨rfl, by rw [nA_of (moveK_lo _ _ _ (by decide))]; rfl⟩
      · -- on 20
        refine g_bipush hX (-5) dX6_close_20 (by decide) ?_
        refine ret _ _ _ _ dX6_close_22 ?_
        simp [spClose, c1, c2]
    · -- on 7
      refine g_iconst hX (-1) dX6_close_7 (by decide) ?_
      refine ret _ _ _ _ dX6_close_8 ?_
      simp [spClose, c1]
def rm_X6_standby : Room := { frames := 3, cells := 0, slots := 0, locals := 68 }
theorem i_X6_standby_wsX00 : ∀ w ∈ wsX00, w ∈ wsX6_standby := fun w h => List.mem_cons_of_mem _ (List.mem_append_left _ (List.mem_append_left _ (List.mem_append_right _ h)))
theorem i_X6_standby_wsX30 : ∀ w ∈ wsX30, w ∈ wsX6_standby := fun w h => List.mem_cons_of_mem _ (List.mem_append_left _ (List.mem_append_left _ (List.mem_append_left _ (List.mem_append_right _ h))))
theorem i_X6_standby_wsX60 : ∀ w ∈ wsX60, w ∈ wsX6_standby := fun w h => List.mem_cons_of_mem _ (List.mem_append_left _ (List.mem_append_left _ (List.mem_append_left _ (List.mem_append_left _ (List.mem_append_right _ h)))))
theorem k_X6_standby_X3_givePermit : CW rm_X6_standby wsX6_standby RX6 RX3 189 yX3_givePermit cX3_givePermit 2 none wsX3_givePermit rm_X3_givePermit 1 := ⟨gX6_standby_X3_givePermit, ⟨_, rfl⟩, rfl, rfl, ⟨rfl, by decide +kernel, by decide +kernel, by decide +kernel⟩, by decide, by decide⟩
theorem k_X6_standby_X3_hasApplication : CW rm_X6_standby wsX6_standby RX6 RX3 134 yX3_hasApplication cX3_hasApplication 2 (some .boolean) wsX3_hasApplication rm_X3_hasApplication 1 := ⟨gX6_standby_X3_hasApplication, ⟨_, rfl⟩, rfl, rfl, ⟨rfl, by decide +kernel, by decide +kernel, by decide +kernel⟩, by decide, by decide⟩
theorem k_X6_standby_X3_isBarred : CW rm_X6_standby wsX6_standby RX6 RX3 179 yX3_isBarred cX3_isBarred 2 (some .boolean) wsX3_isBarred rm_X3_isBarred 1 := ⟨gX6_standby_X3_isBarred, ⟨_, rfl⟩, rfl, rfl, ⟨rfl, by decide +kernel, by decide +kernel, by decide +kernel⟩, by decide, by decide⟩
theorem k_X6_standby_X3_isOpen : CW rm_X6_standby wsX6_standby RX6 RX3 89 yX3_isOpen cX3_isOpen 2 (some .boolean) wsX3_isOpen rm_X3_isOpen 1 := ⟨gX6_standby_X3_isOpen, ⟨_, rfl⟩, rfl, rfl, ⟨rfl, by decide +kernel, by decide +kernel, by decide +kernel⟩, by decide, by decide⟩
theorem k_X6_standby_X3_placesFree : CW rm_X6_standby wsX6_standby RX6 RX3 186 yX3_placesFree cX3_placesFree 3 (some .int) wsX3_placesFree rm_X3_placesFree 2 := ⟨gX6_standby_X3_placesFree, ⟨_, rfl⟩, rfl, rfl, ⟨rfl, by decide +kernel, by decide +kernel, by decide +kernel⟩, by decide, by decide⟩
set_option maxHeartbeats 4000000 in
set_option maxRecDepth 100000 in
theorem c_X6_standby (l : Launch) (G : MG) (hA : Ap 203 G.2.2) (z : St) {a : Int32} (hI : IO z) : CIc l G yX6_standby wsX6_standby rm_X6_standby [.ref (G.2.2 192), .int a] z (fun ρ ζ => ρ = (spStandby z a).1 ∧ ζ = (spStandby z a).2) := by
  refine ci_of (own := RX6) (cc := cX6_standby) (maxL := 3) (ret := .int) (by decide +kernel) rfl rfl ?_ (Nat.le_of_ble_eq_true rfl) (KQ_mv (ExC_mv G)) ?_
  · intro v z' _; rfl
  · intro X hX ret
    refine g_lv (lv' := [(0, .ref (G.2.2 192)), (1, .int a)]) rfl ?_
    refine g_aload_n hX 0 dX6_standby_0 rfl ?_
    refine c_g_Main_0 hX i_X6_standby_wsX60 (List.mem_of_getElem? (i := 1) rfl) dX6_standby_1 ?_
    refine g_iload_n hX 1 dX6_standby_4 rfl ?_
    refine g_cvE hX (As := [.int a]) (rest := []) (c_X3_hasApplication l G z (x1 := a) ) k_X6_standby_X3_hasApplication rc_Office0 rfl rfl (Nat.le_of_ble_eq_true rfl) dX6_standby_5 ?_
    refine g_bi_ne hX 13 dX6_standby_8 (by decide) (fun c1 => ?_) (fun c1 => ?_)
    · -- jump 13
      have ha := appP_in hI c1
      refine g_aload_n hX 0 dX6_standby_13 rfl ?_
      refine c_g_Main_0 hX i_X6_standby_wsX60 (List.mem_of_getElem? (i := 1) rfl) dX6_standby_14 ?_
      refine c_g_Office_6 hX i_X6_standby_wsX30 (List.mem_of_getElem? (i := 2) rfl) dX6_standby_17 ?_
      refine g_iload_n hX 1 dX6_standby_20 rfl ?_
      refine c_ld_applications hX (cn a) ha.1 ha.2.2 dX6_standby_21 ?_
      refine g_astore_n hX [(2, .ref (G.2.2 (24 + (cn a)))), (0, .ref (G.2.2 192)), (1, .int a)] dX6_standby_22 (by decide) rfl ?_
      refine g_aload_n hX 0 dX6_standby_23 rfl ?_
      refine c_g_Application_5 hX ha.2.2 i_X6_standby_wsX00 (List.mem_of_getElem? (i := 3) rfl) dX6_standby_24 ?_
      refine g_iconst hX 2 dX6_standby_27 (by decide) ?_
      refine g_ic_ne hX 92 dX6_standby_28 (by decide) (fun c2 => ?_) (fun c2 => ?_)
      · -- jump 92
        refine g_bipush hX (-5) dX6_standby_92 (by decide) ?_
        refine ret _ _ _ _ dX6_standby_94 ?_
        first | (simp [spStandby, c1, c2]; done) | (simp [spStandby, c1, c2, permit, u2]; done) | grind [spStandby]
      · -- on 31
        refine g_aload_n hX 0 dX6_standby_31 rfl ?_
        refine c_g_Application_2 hX ha.2.2 i_X6_standby_wsX00 (List.mem_of_getElem? (i := 4) rfl) dX6_standby_32 ?_
        refine g_aload_n hX 1 dX6_standby_35 rfl ?_
        refine c_g_Main_0 hX i_X6_standby_wsX60 (List.mem_of_getElem? (i := 1) rfl) dX6_standby_36 ?_
        refine c_g_Office_0 hX i_X6_standby_wsX30 (List.mem_of_getElem? (i := 5) rfl) dX6_standby_39 ?_
        refine g_ic_ne hX 92 dX6_standby_42 (by decide) (fun c3 => ?_) (fun c3 => ?_)
        · -- jump 92
          refine g_bipush hX (-5) dX6_standby_92 (by decide) ?_
          refine ret _ _ _ _ dX6_standby_94 ?_
          first | (simp [spStandby, c1, c2, c3]; done) | (simp [spStandby, c1, c2, c3, permit, u2]; done) | grind [spStandby]
        · -- on 45
          refine g_aload_n hX 1 dX6_standby_45 rfl ?_
          refine c_g_Main_0 hX i_X6_standby_wsX60 (List.mem_of_getElem? (i := 1) rfl) dX6_standby_46 ?_
          refine g_aload_n hX 0 dX6_standby_49 rfl ?_
          refine c_g_Application_2 hX ha.2.2 i_X6_standby_wsX00 (List.mem_of_getElem? (i := 4) rfl) dX6_standby_50 ?_
          refine g_cvE hX (As := [.int (z 13 (cn a))]) (rest := []) (c_X3_isOpen l G z (x1 := (z 13 (cn a))) ) k_X6_standby_X3_isOpen rc_Office0 rfl rfl (Nat.le_of_ble_eq_true rfl) dX6_standby_53 ?_
          refine g_bi_eq hX 92 dX6_standby_56 (by decide) (fun c4 => ?_) (fun c4 => ?_)
          · -- jump 92
            refine g_bipush hX (-5) dX6_standby_92 (by decide) ?_
            refine ret _ _ _ _ dX6_standby_94 ?_
            first | (simp [spStandby, c1, c2, c3, c4]; done) | (simp [spStandby, c1, c2, c3, c4, permit, u2]; done) | grind [spStandby]
          · -- on 59
            refine g_aload_n hX 1 dX6_standby_59 rfl ?_
            refine c_g_Main_0 hX i_X6_standby_wsX60 (List.mem_of_getElem? (i := 1) rfl) dX6_standby_60 ?_
            refine g_aload_n hX 0 dX6_standby_63 rfl ?_
            refine g_cvE hX (As := [.ref (G.2.2 (24 + (cn a)))]) (rest := []) (c_X3_isBarred l G z (a := (cn a)) (ha := ha.2.1) (hI := (by assumption))) k_X6_standby_X3_isBarred rc_Office0 rfl rfl (Nat.le_of_ble_eq_true rfl) dX6_standby_64 ?_
            refine g_bi_ne hX 92 dX6_standby_67 (by decide) (fun c5 => ?_) (fun c5 => ?_)
            · -- jump 92
              refine g_bipush hX (-5) dX6_standby_92 (by decide) ?_
              refine ret _ _ _ _ dX6_standby_94 ?_
              first | (simp [spStandby, c1, c2, c3, c4, c5]; done) | (simp [spStandby, c1, c2, c3, c4, c5, permit, u2]; done) | grind [spStandby]
            · -- on 70
              refine g_aload_n hX 0 dX6_standby_70 rfl ?_
              refine c_g_Application_4 hX ha.2.2 i_X6_standby_wsX00 (List.mem_of_getElem? (i := 6) rfl) dX6_standby_71 ?_
              refine g_aload_n hX 1 dX6_standby_74 rfl ?_
              refine c_g_Main_0 hX i_X6_standby_wsX60 (List.mem_of_getElem? (i := 1) rfl) dX6_standby_75 ?_
              refine g_aload_n hX 0 dX6_standby_78 rfl ?_
              refine c_g_Application_1 hX ha.2.2 i_X6_standby_wsX00 (List.mem_of_getElem? (i := 7) rfl) dX6_standby_79 ?_
              refine g_aload_n hX 0 dX6_standby_82 rfl ?_
              refine c_g_Application_2 hX ha.2.2 i_X6_standby_wsX00 (List.mem_of_getElem? (i := 4) rfl) dX6_standby_83 ?_
              refine g_st (st2 := [.int (z 13 (cn a)), .int (nI (cn (z 12 (cn a)))), .ref (G.2.2 0), .int (z 14 (cn a))]) (by rw [← (show (z 12 (cn a)) = nI (cn (z 12 (cn a))) from (iR hI ha.2.1).1)]) ?_
              refine g_cvE hX (As := [.int (nI (cn (z 12 (cn a)))), .int (z 13 (cn a))]) (rest := [.int (z 14 (cn a))]) (c_X3_placesFree l G z (q := (cn (z 12 (cn a)))) (d := (z 13 (cn a))) (hq := (iR hI ha.2.1).2) (hI := (by assumption))) k_X6_standby_X3_placesFree rc_Office0 rfl rfl (Nat.le_of_ble_eq_true rfl) dX6_standby_86 ?_
              refine g_top (freeP z (z 12 (cn a)) (z 13 (cn a))) (by rw [← (iR hI ha.2.1).1]) ?_
              refine g_ic_le hX 95 dX6_standby_89 (by decide) (fun c6 => ?_) (fun c6 => ?_)
              · -- jump 95
                refine g_aload_n hX 1 dX6_standby_95 rfl ?_
                refine c_g_Main_0 hX i_X6_standby_wsX60 (List.mem_of_getElem? (i := 1) rfl) dX6_standby_96 ?_
                refine g_aload_n hX 0 dX6_standby_99 rfl ?_
                refine g_cvvE hX (As := [.ref (G.2.2 (24 + (cn a)))]) (rest := []) (c_X3_givePermit l G hA z (a := (cn a)) (ha := ha.2.2)) k_X6_standby_X3_givePermit rc_Office0 rfl rfl (Nat.le_of_ble_eq_true rfl) dX6_standby_100 ?_
                refine g_aload_n hX 0 dX6_standby_103 rfl ?_
                refine c_g_Application_6 hX ha.2.2 i_X6_standby_wsX00 (List.mem_of_getElem? (i := 8) rfl) dX6_standby_104 ?_
                refine ret _ _ _ _ dX6_standby_107 ?_
                first | (simp [spStandby, c1, c2, c3, c4, c5, c6]; done) | (simp [spStandby, c1, c2, c3, c4, c5, c6, permit, u2]; done) | grind [spStandby]
              · -- on 92
                refine g_bipush hX (-5) dX6_standby_92 (by decide) ?_
                refine ret _ _ _ _ dX6_standby_94 ?_
                first | (simp [spStandby, c1, c2, c3, c4, c5, c6]; done) | (simp [spStandby, c1, c2, c3, c4, c5, c6, permit, u2]; done) | grind [spStandby]
    · -- on 11
      refine g_iconst hX (-1) dX6_standby_11 (by decide) ?_
      refine ret _ _ _ _ dX6_standby_12 ?_
      first | (simp [spStandby, c1]; done) | (simp [spStandby, c1, permit, u2]; done) | grind [spStandby]
def rm_X6_show : Room := { frames := 1, cells := 0, slots := 0, locals := 21 }
theorem i_X6_show_wsX00 : ∀ w ∈ wsX00, w ∈ wsX6_show := fun w h => List.mem_cons_of_mem _ (List.mem_append_right _ h)
theorem i_X6_show_wsX30 : ∀ w ∈ wsX30, w ∈ wsX6_show := fun w h => List.mem_cons_of_mem _ (List.mem_append_left _ (List.mem_append_right _ h))
theorem i_X6_show_wsX60 : ∀ w ∈ wsX60, w ∈ wsX6_show := fun w h => List.mem_cons_of_mem _ (List.mem_append_left _ (List.mem_append_left _ (List.mem_append_right _ h)))
theorem k_X6_show_X3_hasApplication : CW rm_X6_show wsX6_show RX6 RX3 134 yX3_hasApplication cX3_hasApplication 2 (some .boolean) wsX3_hasApplication rm_X3_hasApplication 1 := ⟨gX6_show_X3_hasApplication, ⟨_, rfl⟩, rfl, rfl, ⟨rfl, by decide +kernel, by decide +kernel, by decide +kernel⟩, by decide, by decide⟩
set_option maxHeartbeats 4000000 in
set_option maxRecDepth 100000 in
theorem c_X6_show (l : Launch) (G : MG) (hA : Ap 203 G.2.2) (z : St) {a : Int32} (hI : IO z) : CIc l G yX6_show wsX6_show rm_X6_show [.ref (G.2.2 192), .int a] z (fun ρ ζ => ρ = (spShow z a).1 ∧ ζ = (spShow z a).2) := by
  refine ci_of (own := RX6) (cc := cX6_show) (maxL := 3) (ret := .int) (by decide +kernel) rfl rfl ?_ (Nat.le_of_ble_eq_true rfl) (KQ_mv (ExC_mv G)) ?_
  · intro v z' _; rfl
  · intro X hX ret
    refine g_lv (lv' := [(0, .ref (G.2.2 192)), (1, .int a)]) rfl ?_
    refine g_aload_n hX 0 dX6_show_0 rfl ?_
    refine c_g_Main_0 hX i_X6_show_wsX60 (List.mem_of_getElem? (i := 1) rfl) dX6_show_1 ?_
    refine g_iload_n hX 1 dX6_show_4 rfl ?_
    refine g_cvE hX (As := [.int a]) (rest := []) (c_X3_hasApplication l G z (x1 := a) ) k_X6_show_X3_hasApplication rc_Office0 rfl rfl (Nat.le_of_ble_eq_true rfl) dX6_show_5 ?_
    refine g_bi_ne hX 13 dX6_show_8 (by decide) (fun c1 => ?_) (fun c1 => ?_)
    · -- jump 13
      have ha := appP_in hI c1
      refine g_aload_n hX 0 dX6_show_13 rfl ?_
      refine c_g_Main_0 hX i_X6_show_wsX60 (List.mem_of_getElem? (i := 1) rfl) dX6_show_14 ?_
      refine c_g_Office_6 hX i_X6_show_wsX30 (List.mem_of_getElem? (i := 2) rfl) dX6_show_17 ?_
      refine g_iload_n hX 1 dX6_show_20 rfl ?_
      refine c_ld_applications hX (cn a) ha.1 ha.2.2 dX6_show_21 ?_
      refine g_astore_n hX [(2, .ref (G.2.2 (24 + (cn a)))), (0, .ref (G.2.2 192)), (1, .int a)] dX6_show_22 (by decide) rfl ?_
      refine g_aload_n hX 0 dX6_show_23 rfl ?_
      refine c_g_Application_5 hX ha.2.2 i_X6_show_wsX00 (List.mem_of_getElem? (i := 3) rfl) dX6_show_24 ?_
      refine g_iconst hX 1 dX6_show_27 (by decide) ?_
      refine g_ic_ne hX 52 dX6_show_28 (by decide) (fun c2 => ?_) (fun c2 => ?_)
      · -- jump 52
        refine g_bipush hX (-5) dX6_show_52 (by decide) ?_
        refine ret _ _ _ _ dX6_show_54 ?_
        first | (simp [spShow, c1, c2]; done) | grind [spShow]
      · -- on 31
        refine g_aload_n hX 0 dX6_show_31 rfl ?_
        refine c_g_Application_2 hX ha.2.2 i_X6_show_wsX00 (List.mem_of_getElem? (i := 4) rfl) dX6_show_32 ?_
        refine g_aload_n hX 1 dX6_show_35 rfl ?_
        refine c_g_Main_0 hX i_X6_show_wsX60 (List.mem_of_getElem? (i := 1) rfl) dX6_show_36 ?_
        refine c_g_Office_0 hX i_X6_show_wsX30 (List.mem_of_getElem? (i := 5) rfl) dX6_show_39 ?_
        refine g_ic_ne hX 52 dX6_show_42 (by decide) (fun c3 => ?_) (fun c3 => ?_)
        · -- jump 52
          refine g_bipush hX (-5) dX6_show_52 (by decide) ?_
          refine ret _ _ _ _ dX6_show_54 ?_
          first | (simp [spShow, c1, c2, c3]; done) | grind [spShow]
        · -- on 45
          refine g_aload_n hX 0 dX6_show_45 rfl ?_
          refine c_g_Application_8 hX ha.2.2 i_X6_show_wsX00 (List.mem_of_getElem? (i := 6) rfl) dX6_show_46 ?_
          refine g_if_eq hX 55 dX6_show_49 (by decide) (fun c4 => ?_) (fun c4 => ?_)
          · -- jump 55
            refine g_aload_n hX 0 dX6_show_55 rfl ?_
            refine g_iconst hX 1 dX6_show_56 (by decide) ?_
            refine c_p_Application_8 hX hA ha.2.2 (Or.inr rfl) i_X6_show_wsX00 (List.mem_of_getElem? (i := 6) rfl) dX6_show_57 ?_
            refine g_iconst hX 1 dX6_show_60 (by decide) ?_
            refine ret _ _ _ _ dX6_show_61 ?_
            first | (simp [spShow, c1, c2, c3, c4]; done) | grind [spShow]
          · -- on 52
            refine g_bipush hX (-5) dX6_show_52 (by decide) ?_
            refine ret _ _ _ _ dX6_show_54 ?_
            first | (simp [spShow, c1, c2, c3, c4]; done) | grind [spShow]
    · -- on 11
      refine g_iconst hX (-1) dX6_show_11 (by decide) ?_
      refine ret _ _ _ _ dX6_show_12 ?_
      first | (simp [spShow, c1]; done) | grind [spShow]
def rm_X6_end : Room := { frames := 3, cells := 0, slots := 0, locals := 69 }
theorem i_X6_end_wsX30 : ∀ w ∈ wsX30, w ∈ wsX6_end := fun w h => List.mem_cons_of_mem _ (List.mem_append_left _ (List.mem_append_left _ (List.mem_append_right _ h)))
theorem i_X6_end_wsX60 : ∀ w ∈ wsX60, w ∈ wsX6_end := fun w h => List.mem_cons_of_mem _ (List.mem_append_left _ (List.mem_append_left _ (List.mem_append_left _ (List.mem_append_right _ h))))
theorem k_X6_end_X3_judgePermits : CW rm_X6_end wsX6_end RX6 RX3 200 yX3_judgePermits cX3_judgePermits 4 (some .int) wsX3_judgePermits rm_X3_judgePermits 0 := ⟨gX6_end_X3_judgePermits, ⟨_, rfl⟩, rfl, rfl, ⟨rfl, by decide +kernel, by decide +kernel, by decide +kernel⟩, by decide, by decide⟩
theorem k_X6_end_X3_loseApplied : CW rm_X6_end wsX6_end RX6 RX3 126 yX3_loseApplied cX3_loseApplied 4 none wsX3_loseApplied rm_X3_loseApplied 2 := ⟨gX6_end_X3_loseApplied, ⟨_, rfl⟩, rfl, rfl, ⟨rfl, by decide +kernel, by decide +kernel, by decide +kernel⟩, by decide, by decide⟩
set_option maxHeartbeats 4000000 in
set_option maxRecDepth 100000 in
theorem c_X6_end (l : Launch) (G : MG) (hA : Ap 203 G.2.2) (z : St)  (hI : IO z) : CIc l G yX6_end wsX6_end rm_X6_end [.ref (G.2.2 192)] z (fun ρ ζ => ρ = (spEnd z).1 ∧ ζ = (spEnd z).2) := by
  refine ci_of (own := RX6) (cc := cX6_end) (maxL := 2) (ret := .int) (by decide +kernel) rfl rfl ?_ (Nat.le_of_ble_eq_true rfl) (KQ_mv (ExC_mv G)) ?_
  · intro v z' _; rfl
  · intro X hX ret
    refine g_lv (lv' := [(0, .ref (G.2.2 192))]) rfl ?_
    refine g_aload_n hX 0 dX6_end_0 rfl ?_
    refine c_g_Main_0 hX i_X6_end_wsX60 (List.mem_of_getElem? (i := 1) rfl) dX6_end_1 ?_
    refine c_g_Office_0 hX i_X6_end_wsX30 (List.mem_of_getElem? (i := 2) rfl) dX6_end_4 ?_
    refine g_bipush hX 59 dX6_end_7 (by decide) ?_
    refine g_ic_lt hX 15 dX6_end_9 (by decide) (fun c1 => ?_) (fun c1 => ?_)
    · -- jump 15
      refine g_aload_n hX 0 dX6_end_15 rfl ?_
      refine c_g_Main_0 hX i_X6_end_wsX60 (List.mem_of_getElem? (i := 1) rfl) dX6_end_16 ?_
      refine g_cvE hX (As := []) (rest := []) (c_X3_judgePermits l G hA z  (hI := (by assumption))) k_X6_end_X3_judgePermits rc_Office0 rfl rfl (Nat.le_of_ble_eq_true rfl) dX6_end_19 ?_
      refine g_istore_n hX [(1, .int (missedK z (nA z))), (0, .ref (G.2.2 192))] dX6_end_22 (by decide) rfl ?_
      refine g_aload_n hX 1 dX6_end_23 rfl ?_
      refine c_g_Main_0 hX i_X6_end_wsX60 (List.mem_of_getElem? (i := 1) rfl) dX6_end_24 ?_
      refine g_iconst hX (-1) dX6_end_27 (by decide) ?_
      refine g_aload_n hX 1 dX6_end_28 rfl ?_
      refine c_g_Main_0 hX i_X6_end_wsX60 (List.mem_of_getElem? (i := 1) rfl) dX6_end_29 ?_
      refine c_g_Office_0 hX i_X6_end_wsX30 (List.mem_of_getElem? (i := 2) rfl) dX6_end_32 ?_
      refine g_cvvE hX (As := [.int (-1), .int ((judgeK z (nA z)) 0 0)]) (rest := []) (c_X3_loseApplied l G hA (judgeK z (nA z)) (r := (-1)) (d := ((judgeK z (nA z)) 0 0)) (hI := (IO_judgeK hI _))) k_X6_end_X3_loseApplied rc_Office0 rfl rfl (Nat.le_of_ble_eq_true rfl) dX6_end_35 ?_
      refine g_aload_n hX 1 dX6_end_38 rfl ?_
      refine c_g_Main_0 hX i_X6_end_wsX60 (List.mem_of_getElem? (i := 1) rfl) dX6_end_39 ?_
      refine g_dup hX dX6_end_42 rfl ?_
      refine c_g_Office_0 hX i_X6_end_wsX30 (List.mem_of_getElem? (i := 2) rfl) dX6_end_43 ?_
      refine g_iconst hX 1 dX6_end_46 (by decide) ?_
      refine g_iadd hX dX6_end_47 ?_
      refine c_p_Office_0 hX hA i_X6_end_wsX30 (List.mem_of_getElem? (i := 2) rfl) dX6_end_48 ?_
      refine g_iload_n hX 0 dX6_end_51 rfl ?_
      refine ret _ _ _ _ dX6_end_52 ?_
      simp only [spEnd]
      rw [if_neg (not_not_intro c1), nA_of (judgeK_lo z (nA z) (f := 3) (by decide)), loseK_ne (Or.inl (by decide)), judgeK_lo z (nA z) (f := 0) (by decide)]
      exact ⟨rfl, rfl⟩
    · -- on 12
      refine g_bipush hX (-5) dX6_end_12 (by decide) ?_
      refine ret _ _ _ _ dX6_end_14 ?_
      simp [spEnd, c1]
def rm_X6_onRoute : Room := { frames := 4, cells := 0, slots := 0, locals := 90 }
theorem i_X6_onRoute_wsX30 : ∀ w ∈ wsX30, w ∈ wsX6_onRoute := fun w h => List.mem_cons_of_mem _ (List.mem_append_left _ (List.mem_append_left _ (List.mem_append_right _ h)))
theorem i_X6_onRoute_wsX50 : ∀ w ∈ wsX50, w ∈ wsX6_onRoute := fun w h => List.mem_cons_of_mem _ (List.mem_append_left _ (List.mem_append_right _ h))
theorem i_X6_onRoute_wsX60 : ∀ w ∈ wsX60, w ∈ wsX6_onRoute := fun w h => List.mem_cons_of_mem _ (List.mem_append_left _ (List.mem_append_left _ (List.mem_append_left _ (List.mem_append_right _ h))))
theorem k_X6_onRoute_X3_countOf : CW rm_X6_onRoute wsX6_onRoute RX6 RX3 112 yX3_countOf cX3_countOf 6 (some .int) wsX3_countOf rm_X3_countOf 3 := ⟨gX6_onRoute_X3_countOf, ⟨_, rfl⟩, rfl, rfl, ⟨rfl, by decide +kernel, by decide +kernel, by decide +kernel⟩, by decide, by decide⟩
theorem k_X6_onRoute_X3_hasRouteAndDay : CW rm_X6_onRoute wsX6_onRoute RX6 RX3 85 yX3_hasRouteAndDay cX3_hasRouteAndDay 3 (some .boolean) wsX3_hasRouteAndDay rm_X3_hasRouteAndDay 2 := ⟨gX6_onRoute_X3_hasRouteAndDay, ⟨_, rfl⟩, rfl, rfl, ⟨rfl, by decide +kernel, by decide +kernel, by decide +kernel⟩, by decide, by decide⟩
theorem k_X6_onRoute_X3_placesForLottery : CW rm_X6_onRoute wsX6_onRoute RX6 RX3 120 yX3_placesForLottery cX3_placesForLottery 3 (some .int) wsX3_placesForLottery rm_X3_placesForLottery 2 := ⟨gX6_onRoute_X3_placesForLottery, ⟨_, rfl⟩, rfl, rfl, ⟨rfl, by decide +kernel, by decide +kernel, by decide +kernel⟩, by decide, by decide⟩
theorem k_X6_onRoute_X3_placesTaken : CW rm_X6_onRoute wsX6_onRoute RX6 RX3 203 yX3_placesTaken cX3_placesTaken 5 (some .int) wsX3_placesTaken rm_X3_placesTaken 2 := ⟨gX6_onRoute_X3_placesTaken, ⟨_, rfl⟩, rfl, rfl, ⟨rfl, by decide +kernel, by decide +kernel, by decide +kernel⟩, by decide, by decide⟩
set_option maxHeartbeats 4000000 in
set_option maxRecDepth 100000 in
theorem c_X6_onRoute (l : Launch) (G : MG) (z : St) {r : Int32} {d : Int32} {w : Int32} (hI : IO z) : CIc l G yX6_onRoute wsX6_onRoute rm_X6_onRoute [.ref (G.2.2 192), .int r, .int d, .int w] z (fun ρ ζ => ρ = spOnRoute z r d w ∧ ζ = z) := by
  refine ci_of (own := RX6) (cc := cX6_onRoute) (maxL := 4) (ret := .int) (by decide +kernel) rfl rfl ?_ (Nat.le_of_ble_eq_true rfl) (KQ_mv (ExC_mv G)) ?_
  · intro v z' _; rfl
  · intro X hX ret
    refine g_lv (lv' := [(0, .ref (G.2.2 192)), (1, .int r), (2, .int d), (3, .int w)]) rfl ?_
    refine g_aload_n hX 0 dX6_onRoute_0 rfl ?_
    refine c_g_Main_0 hX i_X6_onRoute_wsX60 (List.mem_of_getElem? (i := 1) rfl) dX6_onRoute_1 ?_
    refine g_iload_n hX 1 dX6_onRoute_4 rfl ?_
    refine g_iload_n hX 2 dX6_onRoute_5 rfl ?_
    refine g_cvE hX (As := [.int r, .int d]) (rest := []) (c_X3_hasRouteAndDay l G z (x1 := r) (x2 := d) ) k_X6_onRoute_X3_hasRouteAndDay rc_Office0 rfl rfl (Nat.le_of_ble_eq_true rfl) dX6_onRoute_6 ?_
    refine g_bi_ne hX 14 dX6_onRoute_9 (by decide) (fun c1 => ?_) (fun c1 => ?_)
    · -- jump 14
      have hr := routeP_in hI c1.1
      have hrm := not_m1 c1.1.1
      have hd := dayP_in c1.2
      refine g_iload_n hX 3 dX6_onRoute_14 rfl ?_
      have ht2 : w = 0 ∨ w = 1 ∨ w = 2 ∨ w = 3 ∨ w = 4 ∨ w = 5 ∨ (w.toInt < 0 ∨ 5 < w.toInt) := by
        have e0 : (0 : Int32).toInt = 0 := by decide
        have e1 : (1 : Int32).toInt = 1 := by decide
        have e2 : (2 : Int32).toInt = 2 := by decide
        have e3 : (3 : Int32).toInt = 3 := by decide
        have e4 : (4 : Int32).toInt = 4 := by decide
        have e5 : (5 : Int32).toInt = 5 := by decide
        simp only [← Int32.toInt_inj]
        omega
      rcases ht2 with ht2 | ht2 | ht2 | ht2 | ht2 | ht2 | ht2
      · -- case 0
        refine g_tabIn hX (off := 37) 52 dX6_onRoute_15 (by rw [ht2]; decide) (by rw [ht2]; decide) (by rw [ht2]; rfl) (by decide) ?_
        refine g_aload_n hX 0 dX6_onRoute_52 rfl ?_
        refine c_g_Main_0 hX i_X6_onRoute_wsX60 (List.mem_of_getElem? (i := 1) rfl) dX6_onRoute_53 ?_
        refine c_g_Office_4 hX i_X6_onRoute_wsX30 (List.mem_of_getElem? (i := 2) rfl) dX6_onRoute_56 ?_
        refine g_iload_n hX 1 dX6_onRoute_59 rfl ?_
        refine c_ld_routes hX (cn r) hr.1 hr.2 dX6_onRoute_60 ?_
        refine c_g_Route_0 hX hr.2 i_X6_onRoute_wsX50 (List.mem_of_getElem? (i := 3) rfl) dX6_onRoute_61 ?_
        refine ret _ _ _ _ dX6_onRoute_64 ?_
        first | (simp [spOnRoute, c1, ht2]; done) | grind [spOnRoute]
      · -- case 1
        refine g_tabIn hX (off := 50) 65 dX6_onRoute_15 (by rw [ht2]; decide) (by rw [ht2]; decide) (by rw [ht2]; rfl) (by decide) ?_
        refine g_aload_n hX 0 dX6_onRoute_65 rfl ?_
        refine c_g_Main_0 hX i_X6_onRoute_wsX60 (List.mem_of_getElem? (i := 1) rfl) dX6_onRoute_66 ?_
        refine c_g_Office_4 hX i_X6_onRoute_wsX30 (List.mem_of_getElem? (i := 2) rfl) dX6_onRoute_69 ?_
        refine g_iload_n hX 1 dX6_onRoute_72 rfl ?_
        refine c_ld_routes hX (cn r) hr.1 hr.2 dX6_onRoute_73 ?_
        refine c_g_Route_1 hX hr.2 i_X6_onRoute_wsX50 (List.mem_of_getElem? (i := 4) rfl) dX6_onRoute_74 ?_
        refine ret _ _ _ _ dX6_onRoute_77 ?_
        first | (simp [spOnRoute, c1, ht2]; done) | grind [spOnRoute]
      · -- case 2
        refine g_tabIn hX (off := 63) 78 dX6_onRoute_15 (by rw [ht2]; decide) (by rw [ht2]; decide) (by rw [ht2]; rfl) (by decide) ?_
        refine g_aload_n hX 0 dX6_onRoute_78 rfl ?_
        refine c_g_Main_0 hX i_X6_onRoute_wsX60 (List.mem_of_getElem? (i := 1) rfl) dX6_onRoute_79 ?_
        refine g_iload_n hX 1 dX6_onRoute_82 rfl ?_
        refine g_iload_n hX 2 dX6_onRoute_83 rfl ?_
        refine g_cvE hX (As := [.int r, .int d]) (rest := []) (c_X3_placesTaken l G z (r := r) (d := d) (hr := hrm) (hI := (by assumption))) k_X6_onRoute_X3_placesTaken rc_Office0 rfl rfl (Nat.le_of_ble_eq_true rfl) dX6_onRoute_84 ?_
        refine ret _ _ _ _ dX6_onRoute_87 ?_
        first | (simp [spOnRoute, c1, ht2]; done) | grind [spOnRoute]
      · -- case 3
        refine g_tabIn hX (off := 73) 88 dX6_onRoute_15 (by rw [ht2]; decide) (by rw [ht2]; decide) (by rw [ht2]; rfl) (by decide) ?_
        refine g_iconst hX 0 dX6_onRoute_88 (by decide) ?_
        refine g_aload_n hX 0 dX6_onRoute_89 rfl ?_
        refine c_g_Main_0 hX i_X6_onRoute_wsX60 (List.mem_of_getElem? (i := 1) rfl) dX6_onRoute_90 ?_
        refine g_iload_n hX 1 dX6_onRoute_93 rfl ?_
        refine g_iload_n hX 2 dX6_onRoute_94 rfl ?_
        refine g_st (st2 := [.int d, .int (nI (cn r)), .ref (G.2.2 0), .int 0]) (by rw [← (show r = nI (cn r) from hr.1)]) ?_
        refine g_cvE hX (As := [.int (nI (cn r)), .int d]) (rest := [.int 0]) (c_X3_placesForLottery l G z (q := (cn r)) (d := d) (hq := hr.2) (hI := (by assumption))) k_X6_onRoute_X3_placesForLottery rc_Office0 rfl rfl (Nat.le_of_ble_eq_true rfl) dX6_onRoute_95 ?_
        refine g_top (leftP z r d) (by rw [← hr.1]) ?_
        refine g_max hX dX6_onRoute_98 (List.mem_of_getElem? (i := 5) rfl) (List.mem_of_getElem? (i := 6) rfl) (List.mem_of_getElem? (i := 7) rfl) (List.mem_of_getElem? (i := 8) rfl) (by decide) (Nat.le_of_ble_eq_true rfl) ?_
        refine ret _ _ _ _ dX6_onRoute_101 ?_
        first | (simp [spOnRoute, c1, ht2]; done) | grind [spOnRoute]
      · -- case 4
        refine g_tabIn hX (off := 87) 102 dX6_onRoute_15 (by rw [ht2]; decide) (by rw [ht2]; decide) (by rw [ht2]; rfl) (by decide) ?_
        refine g_aload_n hX 0 dX6_onRoute_102 rfl ?_
        refine c_g_Main_0 hX i_X6_onRoute_wsX60 (List.mem_of_getElem? (i := 1) rfl) dX6_onRoute_103 ?_
        refine g_iload_n hX 1 dX6_onRoute_106 rfl ?_
        refine g_iload_n hX 2 dX6_onRoute_107 rfl ?_
        refine g_iconst hX 0 dX6_onRoute_108 (by decide) ?_
        refine g_cvE hX (As := [.int r, .int d, .int 0]) (rest := []) (c_X3_countOf l G z (r := r) (d := d) (s := 0) (hr := hrm) (hI := (by assumption))) k_X6_onRoute_X3_countOf rc_Office0 rfl rfl (Nat.le_of_ble_eq_true rfl) dX6_onRoute_109 ?_
        refine ret _ _ _ _ dX6_onRoute_112 ?_
        first | (simp [spOnRoute, c1, ht2]; done) | grind [spOnRoute]
      · -- case 5
        refine g_tabIn hX (off := 98) 113 dX6_onRoute_15 (by rw [ht2]; decide) (by rw [ht2]; decide) (by rw [ht2]; rfl) (by decide) ?_
        refine g_aload_n hX 0 dX6_onRoute_113 rfl ?_
        refine c_g_Main_0 hX i_X6_onRoute_wsX60 (List.mem_of_getElem? (i := 1) rfl) dX6_onRoute_114 ?_
        refine g_iload_n hX 1 dX6_onRoute_117 rfl ?_
        refine g_iload_n hX 2 dX6_onRoute_118 rfl ?_
        refine g_iconst hX 2 dX6_onRoute_119 (by decide) ?_
        refine g_cvE hX (As := [.int r, .int d, .int 2]) (rest := []) (c_X3_countOf l G z (r := r) (d := d) (s := 2) (hr := hrm) (hI := (by assumption))) k_X6_onRoute_X3_countOf rc_Office0 rfl rfl (Nat.le_of_ble_eq_true rfl) dX6_onRoute_120 ?_
        refine ret _ _ _ _ dX6_onRoute_123 ?_
        first | (simp [spOnRoute, c1, ht2]; done) | grind [spOnRoute]
      · -- default
        have ht2_0 : ¬ w = 0 := by intro e; rw [e] at ht2; revert ht2; decide
        have ht2_1 : ¬ w = 1 := by intro e; rw [e] at ht2; revert ht2; decide
        have ht2_2 : ¬ w = 2 := by intro e; rw [e] at ht2; revert ht2; decide
        have ht2_3 : ¬ w = 3 := by intro e; rw [e] at ht2; revert ht2; decide
        have ht2_4 : ¬ w = 4 := by intro e; rw [e] at ht2; revert ht2; decide
        have ht2_5 : ¬ w = 5 := by intro e; rw [e] at ht2; revert ht2; decide
        refine g_tabOut hX 124 dX6_onRoute_15 ht2 (by decide) ?_
        refine g_bipush hX (-2) dX6_onRoute_124 (by decide) ?_
        refine ret _ _ _ _ dX6_onRoute_126 ?_
        first | (simp [spOnRoute, c1, ht2_0, ht2_1, ht2_2, ht2_3, ht2_4, ht2_5]; done) | grind [spOnRoute]
    · -- on 12
      refine g_iconst hX (-1) dX6_onRoute_12 (by decide) ?_
      refine ret _ _ _ _ dX6_onRoute_13 ?_
      first | (simp [spOnRoute, c1]; done) | grind [spOnRoute]
def rm_X6_climber : Room := { frames := 2, cells := 0, slots := 0, locals := 45 }
theorem i_X6_climber_wsX10 : ∀ w ∈ wsX10, w ∈ wsX6_climber := fun w h => List.mem_cons_of_mem _ (List.mem_append_left _ (List.mem_append_right _ h))
theorem i_X6_climber_wsX30 : ∀ w ∈ wsX30, w ∈ wsX6_climber := fun w h => List.mem_cons_of_mem _ (List.mem_append_left _ (List.mem_append_left _ (List.mem_append_right _ h)))
theorem i_X6_climber_wsX60 : ∀ w ∈ wsX60, w ∈ wsX6_climber := fun w h => List.mem_cons_of_mem _ (List.mem_append_left _ (List.mem_append_left _ (List.mem_append_left _ (List.mem_append_right _ h))))
theorem k_X6_climber_X3_countBy : CW rm_X6_climber wsX6_climber RX6 RX3 229 yX3_countBy cX3_countBy 4 (some .int) wsX3_countBy rm_X3_countBy 1 := ⟨gX6_climber_X3_countBy, ⟨_, rfl⟩, rfl, rfl, ⟨rfl, by decide +kernel, by decide +kernel, by decide +kernel⟩, by decide, by decide⟩
theorem k_X6_climber_X3_countIn : CW rm_X6_climber wsX6_climber RX6 RX3 220 yX3_countIn cX3_countIn 5 (some .int) wsX3_countIn rm_X3_countIn 2 := ⟨gX6_climber_X3_countIn, ⟨_, rfl⟩, rfl, rfl, ⟨rfl, by decide +kernel, by decide +kernel, by decide +kernel⟩, by decide, by decide⟩
theorem k_X6_climber_X3_hasClimber : CW rm_X6_climber wsX6_climber RX6 RX3 82 yX3_hasClimber cX3_hasClimber 2 (some .boolean) wsX3_hasClimber rm_X3_hasClimber 1 := ⟨gX6_climber_X3_hasClimber, ⟨_, rfl⟩, rfl, rfl, ⟨rfl, by decide +kernel, by decide +kernel, by decide +kernel⟩, by decide, by decide⟩
theorem k_X6_climber_X3_paidBy : CW rm_X6_climber wsX6_climber RX6 RX3 223 yX3_paidBy cX3_paidBy 4 (some .int) wsX3_paidBy rm_X3_paidBy 1 := ⟨gX6_climber_X3_paidBy, ⟨_, rfl⟩, rfl, rfl, ⟨rfl, by decide +kernel, by decide +kernel, by decide +kernel⟩, by decide, by decide⟩
theorem k_X6_climber_X3_refundedTo : CW rm_X6_climber wsX6_climber RX6 RX3 226 yX3_refundedTo cX3_refundedTo 4 (some .int) wsX3_refundedTo rm_X3_refundedTo 1 := ⟨gX6_climber_X3_refundedTo, ⟨_, rfl⟩, rfl, rfl, ⟨rfl, by decide +kernel, by decide +kernel, by decide +kernel⟩, by decide, by decide⟩
set_option maxHeartbeats 4000000 in
set_option maxRecDepth 100000 in
theorem c_X6_climber (l : Launch) (G : MG) (z : St) {c : Int32} {w : Int32} (hI : IO z) : CIc l G yX6_climber wsX6_climber rm_X6_climber [.ref (G.2.2 192), .int c, .int w] z (fun ρ ζ => ρ = spClimber z c w ∧ ζ = z) := by
  refine ci_of (own := RX6) (cc := cX6_climber) (maxL := 3) (ret := .int) (by decide +kernel) rfl rfl ?_ (Nat.le_of_ble_eq_true rfl) (KQ_mv (ExC_mv G)) ?_
  · intro v z' _; rfl
  · intro X hX ret
    refine g_lv (lv' := [(0, .ref (G.2.2 192)), (1, .int c), (2, .int w)]) rfl ?_
    refine g_aload_n hX 0 dX6_climber_0 rfl ?_
    refine c_g_Main_0 hX i_X6_climber_wsX60 (List.mem_of_getElem? (i := 1) rfl) dX6_climber_1 ?_
    refine g_iload_n hX 1 dX6_climber_4 rfl ?_
    refine g_cvE hX (As := [.int c]) (rest := []) (c_X3_hasClimber l G z (x1 := c) ) k_X6_climber_X3_hasClimber rc_Office0 rfl rfl (Nat.le_of_ble_eq_true rfl) dX6_climber_5 ?_
    refine g_bi_ne hX 13 dX6_climber_8 (by decide) (fun c1 => ?_) (fun c1 => ?_)
    · -- jump 13
      have hc := climP_in hI c1
      refine g_iload_n hX 2 dX6_climber_13 rfl ?_
      have ht2 : w = 0 ∨ w = 1 ∨ w = 2 ∨ w = 3 ∨ w = 4 ∨ w = 5 ∨ w = 6 ∨ (w.toInt < 0 ∨ 6 < w.toInt) := by
        have e0 : (0 : Int32).toInt = 0 := by decide
        have e1 : (1 : Int32).toInt = 1 := by decide
        have e2 : (2 : Int32).toInt = 2 := by decide
        have e3 : (3 : Int32).toInt = 3 := by decide
        have e4 : (4 : Int32).toInt = 4 := by decide
        have e5 : (5 : Int32).toInt = 5 := by decide
        have e6 : (6 : Int32).toInt = 6 := by decide
        simp only [← Int32.toInt_inj]
        omega
      rcases ht2 with ht2 | ht2 | ht2 | ht2 | ht2 | ht2 | ht2 | ht2
      · -- case 0
        refine g_tabIn hX (off := 42) 56 dX6_climber_14 (by rw [ht2]; decide) (by rw [ht2]; decide) (by rw [ht2]; rfl) (by decide) ?_
        refine g_aload_n hX 0 dX6_climber_56 rfl ?_
        refine c_g_Main_0 hX i_X6_climber_wsX60 (List.mem_of_getElem? (i := 1) rfl) dX6_climber_57 ?_
        refine c_g_Office_5 hX i_X6_climber_wsX30 (List.mem_of_getElem? (i := 2) rfl) dX6_climber_60 ?_
        refine g_iload_n hX 1 dX6_climber_63 rfl ?_
        refine c_ld_climbers hX (cn c) hc.1 hc.2.2 dX6_climber_64 ?_
        refine c_g_Climber_0 hX hc.2.2 i_X6_climber_wsX10 (List.mem_of_getElem? (i := 3) rfl) dX6_climber_65 ?_
        refine ret _ _ _ _ dX6_climber_68 ?_
        first | (simp [spClimber, c1, ht2]; done) | grind [spClimber]
      · -- case 1
        refine g_tabIn hX (off := 55) 69 dX6_climber_14 (by rw [ht2]; decide) (by rw [ht2]; decide) (by rw [ht2]; rfl) (by decide) ?_
        refine g_aload_n hX 0 dX6_climber_69 rfl ?_
        refine c_g_Main_0 hX i_X6_climber_wsX60 (List.mem_of_getElem? (i := 1) rfl) dX6_climber_70 ?_
        refine c_g_Office_5 hX i_X6_climber_wsX30 (List.mem_of_getElem? (i := 2) rfl) dX6_climber_73 ?_
        refine g_iload_n hX 1 dX6_climber_76 rfl ?_
        refine c_ld_climbers hX (cn c) hc.1 hc.2.2 dX6_climber_77 ?_
        refine c_g_Climber_1 hX hc.2.2 i_X6_climber_wsX10 (List.mem_of_getElem? (i := 4) rfl) dX6_climber_78 ?_
        refine ret _ _ _ _ dX6_climber_81 ?_
        first | (simp [spClimber, c1, ht2]; done) | grind [spClimber]
      · -- case 2
        refine g_tabIn hX (off := 68) 82 dX6_climber_14 (by rw [ht2]; decide) (by rw [ht2]; decide) (by rw [ht2]; rfl) (by decide) ?_
        refine g_aload_n hX 0 dX6_climber_82 rfl ?_
        refine c_g_Main_0 hX i_X6_climber_wsX60 (List.mem_of_getElem? (i := 1) rfl) dX6_climber_83 ?_
        refine c_g_Office_5 hX i_X6_climber_wsX30 (List.mem_of_getElem? (i := 2) rfl) dX6_climber_86 ?_
        refine g_iload_n hX 1 dX6_climber_89 rfl ?_
        refine c_ld_climbers hX (cn c) hc.1 hc.2.2 dX6_climber_90 ?_
        refine c_g_Climber_2 hX hc.2.2 i_X6_climber_wsX10 (List.mem_of_getElem? (i := 5) rfl) dX6_climber_91 ?_
        refine ret _ _ _ _ dX6_climber_94 ?_
        first | (simp [spClimber, c1, ht2]; done) | grind [spClimber]
      · -- case 3
        refine g_tabIn hX (off := 81) 95 dX6_climber_14 (by rw [ht2]; decide) (by rw [ht2]; decide) (by rw [ht2]; rfl) (by decide) ?_
        refine g_aload_n hX 0 dX6_climber_95 rfl ?_
        refine c_g_Main_0 hX i_X6_climber_wsX60 (List.mem_of_getElem? (i := 1) rfl) dX6_climber_96 ?_
        refine g_iload_n hX 1 dX6_climber_99 rfl ?_
        refine g_iconst hX 1 dX6_climber_100 (by decide) ?_
        refine g_cvE hX (As := [.int c, .int 1]) (rest := []) (c_X3_countIn l G z (c := c) (s := 1) (hI := (by assumption))) k_X6_climber_X3_countIn rc_Office0 rfl rfl (Nat.le_of_ble_eq_true rfl) dX6_climber_101 ?_
        refine ret _ _ _ _ dX6_climber_104 ?_
        first | (simp [spClimber, c1, ht2]; done) | grind [spClimber]
      · -- case 4
        refine g_tabIn hX (off := 91) 105 dX6_climber_14 (by rw [ht2]; decide) (by rw [ht2]; decide) (by rw [ht2]; rfl) (by decide) ?_
        refine g_aload_n hX 0 dX6_climber_105 rfl ?_
        refine c_g_Main_0 hX i_X6_climber_wsX60 (List.mem_of_getElem? (i := 1) rfl) dX6_climber_106 ?_
        refine g_iload_n hX 1 dX6_climber_109 rfl ?_
        refine g_cvE hX (As := [.int c]) (rest := []) (c_X3_paidBy l G z (c := c) (hI := (by assumption))) k_X6_climber_X3_paidBy rc_Office0 rfl rfl (Nat.le_of_ble_eq_true rfl) dX6_climber_110 ?_
        refine ret _ _ _ _ dX6_climber_113 ?_
        first | (simp [spClimber, c1, ht2]; done) | grind [spClimber]
      · -- case 5
        refine g_tabIn hX (off := 100) 114 dX6_climber_14 (by rw [ht2]; decide) (by rw [ht2]; decide) (by rw [ht2]; rfl) (by decide) ?_
        refine g_aload_n hX 0 dX6_climber_114 rfl ?_
        refine c_g_Main_0 hX i_X6_climber_wsX60 (List.mem_of_getElem? (i := 1) rfl) dX6_climber_115 ?_
        refine g_iload_n hX 1 dX6_climber_118 rfl ?_
        refine g_cvE hX (As := [.int c]) (rest := []) (c_X3_refundedTo l G z (c := c) (hI := (by assumption))) k_X6_climber_X3_refundedTo rc_Office0 rfl rfl (Nat.le_of_ble_eq_true rfl) dX6_climber_119 ?_
        refine ret _ _ _ _ dX6_climber_122 ?_
        first | (simp [spClimber, c1, ht2]; done) | grind [spClimber]
      · -- case 6
        refine g_tabIn hX (off := 109) 123 dX6_climber_14 (by rw [ht2]; decide) (by rw [ht2]; decide) (by rw [ht2]; rfl) (by decide) ?_
        refine g_aload_n hX 0 dX6_climber_123 rfl ?_
        refine c_g_Main_0 hX i_X6_climber_wsX60 (List.mem_of_getElem? (i := 1) rfl) dX6_climber_124 ?_
        refine g_iload_n hX 1 dX6_climber_127 rfl ?_
        refine g_cvE hX (As := [.int c]) (rest := []) (c_X3_countBy l G z (c := c) (hI := (by assumption))) k_X6_climber_X3_countBy rc_Office0 rfl rfl (Nat.le_of_ble_eq_true rfl) dX6_climber_128 ?_
        refine ret _ _ _ _ dX6_climber_131 ?_
        first | (simp [spClimber, c1, ht2]; done) | grind [spClimber]
      · -- default
        have ht2_0 : ¬ w = 0 := by intro e; rw [e] at ht2; revert ht2; decide
        have ht2_1 : ¬ w = 1 := by intro e; rw [e] at ht2; revert ht2; decide
        have ht2_2 : ¬ w = 2 := by intro e; rw [e] at ht2; revert ht2; decide
        have ht2_3 : ¬ w = 3 := by intro e; rw [e] at ht2; revert ht2; decide
        have ht2_4 : ¬ w = 4 := by intro e; rw [e] at ht2; revert ht2; decide
        have ht2_5 : ¬ w = 5 := by intro e; rw [e] at ht2; revert ht2; decide
        have ht2_6 : ¬ w = 6 := by intro e; rw [e] at ht2; revert ht2; decide
        refine g_tabOut hX 132 dX6_climber_14 ht2 (by decide) ?_
        refine g_bipush hX (-2) dX6_climber_132 (by decide) ?_
        refine ret _ _ _ _ dX6_climber_134 ?_
        first | (simp [spClimber, c1, ht2_0, ht2_1, ht2_2, ht2_3, ht2_4, ht2_5, ht2_6]; done) | grind [spClimber]
    · -- on 11
      refine g_iconst hX (-1) dX6_climber_11 (by decide) ?_
      refine ret _ _ _ _ dX6_climber_12 ?_
      first | (simp [spClimber, c1]; done) | grind [spClimber]
def rm_X6_application : Room := { frames := 1, cells := 0, slots := 0, locals := 21 }
theorem i_X6_application_wsX00 : ∀ w ∈ wsX00, w ∈ wsX6_application := fun w h => List.mem_cons_of_mem _ (List.mem_append_left _ (List.mem_append_right _ h))
theorem i_X6_application_wsX30 : ∀ w ∈ wsX30, w ∈ wsX6_application := fun w h => List.mem_cons_of_mem _ (List.mem_append_left _ (List.mem_append_left _ (List.mem_append_right _ h)))
theorem i_X6_application_wsX60 : ∀ w ∈ wsX60, w ∈ wsX6_application := fun w h => List.mem_cons_of_mem _ (List.mem_append_left _ (List.mem_append_left _ (List.mem_append_left _ (List.mem_append_right _ h))))
theorem k_X6_application_X3_hasApplication : CW rm_X6_application wsX6_application RX6 RX3 134 yX3_hasApplication cX3_hasApplication 2 (some .boolean) wsX3_hasApplication rm_X3_hasApplication 1 := ⟨gX6_application_X3_hasApplication, ⟨_, rfl⟩, rfl, rfl, ⟨rfl, by decide +kernel, by decide +kernel, by decide +kernel⟩, by decide, by decide⟩
theorem k_X6_application_X3_ticketsOf : CW rm_X6_application wsX6_application RX6 RX3 238 yX3_ticketsOf cX3_ticketsOf 2 (some .int) wsX3_ticketsOf rm_X3_ticketsOf 1 := ⟨gX6_application_X3_ticketsOf, ⟨_, rfl⟩, rfl, rfl, ⟨rfl, by decide +kernel, by decide +kernel, by decide +kernel⟩, by decide, by decide⟩
set_option maxHeartbeats 4000000 in
set_option maxRecDepth 100000 in
theorem c_X6_application (l : Launch) (G : MG) (z : St) {a : Int32} {w : Int32} (hI : IO z) : CIc l G yX6_application wsX6_application rm_X6_application [.ref (G.2.2 192), .int a, .int w] z (fun ρ ζ => ρ = spApp z a w ∧ ζ = z) := by
  refine ci_of (own := RX6) (cc := cX6_application) (maxL := 4) (ret := .int) (by decide +kernel) rfl rfl ?_ (Nat.le_of_ble_eq_true rfl) (KQ_mv (ExC_mv G)) ?_
  · intro v z' _; rfl
  · intro X hX ret
    refine g_lv (lv' := [(0, .ref (G.2.2 192)), (1, .int a), (2, .int w)]) rfl ?_
    refine g_aload_n hX 0 dX6_application_0 rfl ?_
    refine c_g_Main_0 hX i_X6_application_wsX60 (List.mem_of_getElem? (i := 1) rfl) dX6_application_1 ?_
    refine g_iload_n hX 1 dX6_application_4 rfl ?_
    refine g_cvE hX (As := [.int a]) (rest := []) (c_X3_hasApplication l G z (x1 := a) ) k_X6_application_X3_hasApplication rc_Office0 rfl rfl (Nat.le_of_ble_eq_true rfl) dX6_application_5 ?_
    refine g_bi_ne hX 13 dX6_application_8 (by decide) (fun c1 => ?_) (fun c1 => ?_)
    · -- jump 13
      have ha := appP_in hI c1
      refine g_aload_n hX 0 dX6_application_13 rfl ?_
      refine c_g_Main_0 hX i_X6_application_wsX60 (List.mem_of_getElem? (i := 1) rfl) dX6_application_14 ?_
      refine c_g_Office_6 hX i_X6_application_wsX30 (List.mem_of_getElem? (i := 2) rfl) dX6_application_17 ?_
      refine g_iload_n hX 1 dX6_application_20 rfl ?_
      refine c_ld_applications hX (cn a) ha.1 ha.2.2 dX6_application_21 ?_
      refine g_astore_n hX [(3, .ref (G.2.2 (24 + (cn a)))), (0, .ref (G.2.2 192)), (1, .int a), (2, .int w)] dX6_application_22 (by decide) rfl ?_
      refine g_iload_n hX 3 dX6_application_23 rfl ?_
      have ht2 : w = 0 ∨ w = 1 ∨ w = 2 ∨ w = 3 ∨ w = 4 ∨ w = 5 ∨ w = 6 ∨ w = 7 ∨ w = 8 ∨ w = 9 ∨ (w.toInt < 0 ∨ 9 < w.toInt) := by
        have e0 : (0 : Int32).toInt = 0 := by decide
        have e1 : (1 : Int32).toInt = 1 := by decide
        have e2 : (2 : Int32).toInt = 2 := by decide
        have e3 : (3 : Int32).toInt = 3 := by decide
        have e4 : (4 : Int32).toInt = 4 := by decide
        have e5 : (5 : Int32).toInt = 5 := by decide
        have e6 : (6 : Int32).toInt = 6 := by decide
        have e7 : (7 : Int32).toInt = 7 := by decide
        have e8 : (8 : Int32).toInt = 8 := by decide
        have e9 : (9 : Int32).toInt = 9 := by decide
        simp only [← Int32.toInt_inj]
        omega
      rcases ht2 with ht2 | ht2 | ht2 | ht2 | ht2 | ht2 | ht2 | ht2 | ht2 | ht2 | ht2
      · -- case 0
        refine g_tabIn hX (off := 56) 80 dX6_application_24 (by rw [ht2]; decide) (by rw [ht2]; decide) (by rw [ht2]; rfl) (by decide) ?_
        refine g_aload_n hX 0 dX6_application_80 rfl ?_
        refine c_g_Application_0 hX ha.2.2 i_X6_application_wsX00 (List.mem_of_getElem? (i := 3) rfl) dX6_application_81 ?_
        refine ret _ _ _ _ dX6_application_84 ?_
        first | (simp [spApp, c1, ht2]; done) | grind [spApp]
      · -- case 1
        refine g_tabIn hX (off := 61) 85 dX6_application_24 (by rw [ht2]; decide) (by rw [ht2]; decide) (by rw [ht2]; rfl) (by decide) ?_
        refine g_aload_n hX 0 dX6_application_85 rfl ?_
        refine c_g_Application_1 hX ha.2.2 i_X6_application_wsX00 (List.mem_of_getElem? (i := 4) rfl) dX6_application_86 ?_
        refine ret _ _ _ _ dX6_application_89 ?_
        first | (simp [spApp, c1, ht2]; done) | grind [spApp]
      · -- case 2
        refine g_tabIn hX (off := 66) 90 dX6_application_24 (by rw [ht2]; decide) (by rw [ht2]; decide) (by rw [ht2]; rfl) (by decide) ?_
        refine g_aload_n hX 0 dX6_application_90 rfl ?_
        refine c_g_Application_2 hX ha.2.2 i_X6_application_wsX00 (List.mem_of_getElem? (i := 5) rfl) dX6_application_91 ?_
        refine ret _ _ _ _ dX6_application_94 ?_
        first | (simp [spApp, c1, ht2]; done) | grind [spApp]
      · -- case 3
        refine g_tabIn hX (off := 71) 95 dX6_application_24 (by rw [ht2]; decide) (by rw [ht2]; decide) (by rw [ht2]; rfl) (by decide) ?_
        refine g_aload_n hX 0 dX6_application_95 rfl ?_
        refine c_g_Application_4 hX ha.2.2 i_X6_application_wsX00 (List.mem_of_getElem? (i := 6) rfl) dX6_application_96 ?_
        refine ret _ _ _ _ dX6_application_99 ?_
        first | (simp [spApp, c1, ht2]; done) | grind [spApp]
      · -- case 4
        refine g_tabIn hX (off := 76) 100 dX6_application_24 (by rw [ht2]; decide) (by rw [ht2]; decide) (by rw [ht2]; rfl) (by decide) ?_
        refine g_aload_n hX 0 dX6_application_100 rfl ?_
        refine c_g_Application_5 hX ha.2.2 i_X6_application_wsX00 (List.mem_of_getElem? (i := 7) rfl) dX6_application_101 ?_
        refine ret _ _ _ _ dX6_application_104 ?_
        first | (simp [spApp, c1, ht2]; done) | grind [spApp]
      · -- case 5
        refine g_tabIn hX (off := 81) 105 dX6_application_24 (by rw [ht2]; decide) (by rw [ht2]; decide) (by rw [ht2]; rfl) (by decide) ?_
        refine g_aload_n hX 0 dX6_application_105 rfl ?_
        refine c_g_Application_6 hX ha.2.2 i_X6_application_wsX00 (List.mem_of_getElem? (i := 8) rfl) dX6_application_106 ?_
        refine ret _ _ _ _ dX6_application_109 ?_
        first | (simp [spApp, c1, ht2]; done) | grind [spApp]
      · -- case 6
        refine g_tabIn hX (off := 86) 110 dX6_application_24 (by rw [ht2]; decide) (by rw [ht2]; decide) (by rw [ht2]; rfl) (by decide) ?_
        refine g_aload_n hX 0 dX6_application_110 rfl ?_
        refine c_g_Application_7 hX ha.2.2 i_X6_application_wsX00 (List.mem_of_getElem? (i := 9) rfl) dX6_application_111 ?_
        refine ret _ _ _ _ dX6_application_114 ?_
        first | (simp [spApp, c1, ht2]; done) | grind [spApp]
      · -- case 7
        refine g_tabIn hX (off := 91) 115 dX6_application_24 (by rw [ht2]; decide) (by rw [ht2]; decide) (by rw [ht2]; rfl) (by decide) ?_
        refine g_aload_n hX 0 dX6_application_115 rfl ?_
        refine c_g_Application_8 hX ha.2.2 i_X6_application_wsX00 (List.mem_of_getElem? (i := 10) rfl) dX6_application_116 ?_
        refine g_if_eq hX 126 dX6_application_119 (by decide) (fun c3 => ?_) (fun c3 => ?_)
        · -- jump 126
          refine g_iconst hX 0 dX6_application_126 (by decide) ?_
          refine ret _ _ _ _ dX6_application_127 ?_
          first | (simp [spApp, c1, ht2, c3]; done) | grind [spApp]
        · -- on 122
          refine g_iconst hX 1 dX6_application_122 (by decide) ?_
          refine g_goto hX 127 dX6_application_123 (by decide) ?_
          refine ret _ _ _ _ dX6_application_127 ?_
          first | (simp [spApp, c1, ht2, c3]; done) | grind [spApp]
      · -- case 8
        refine g_tabIn hX (off := 104) 128 dX6_application_24 (by rw [ht2]; decide) (by rw [ht2]; decide) (by rw [ht2]; rfl) (by decide) ?_
        refine g_aload_n hX 0 dX6_application_128 rfl ?_
        refine c_g_Application_3 hX ha.2.2 i_X6_application_wsX00 (List.mem_of_getElem? (i := 11) rfl) dX6_application_129 ?_
        refine ret _ _ _ _ dX6_application_132 ?_
        first | (simp [spApp, c1, ht2]; done) | grind [spApp]
      · -- case 9
        refine g_tabIn hX (off := 109) 133 dX6_application_24 (by rw [ht2]; decide) (by rw [ht2]; decide) (by rw [ht2]; rfl) (by decide) ?_
        refine g_aload_n hX 1 dX6_application_133 rfl ?_
        refine c_g_Main_0 hX i_X6_application_wsX60 (List.mem_of_getElem? (i := 1) rfl) dX6_application_134 ?_
        refine g_aload_n hX 0 dX6_application_137 rfl ?_
        refine g_cvE hX (As := [.ref (G.2.2 (24 + (cn a)))]) (rest := []) (c_X3_ticketsOf l G z (a := (cn a)) (ha := ha.2.1) (hI := (by assumption))) k_X6_application_X3_ticketsOf rc_Office0 rfl rfl (Nat.le_of_ble_eq_true rfl) dX6_application_138 ?_
        refine ret _ _ _ _ dX6_application_141 ?_
        first | (simp [spApp, c1, ht2]; done) | grind [spApp]
      · -- default
        have ht2_0 : ¬ w = 0 := by intro e; rw [e] at ht2; revert ht2; decide
        have ht2_1 : ¬ w = 1 := by intro e; rw [e] at ht2; revert ht2; decide
        have ht2_2 : ¬ w = 2 := by intro e; rw [e] at ht2; revert ht2; decide
        have ht2_3 : ¬ w = 3 := by intro e; rw [e] at ht2; revert ht2; decide
        have ht2_4 : ¬ w = 4 := by intro e; rw [e] at ht2; revert ht2; decide
        have ht2_5 : ¬ w = 5 := by intro e; rw [e] at ht2; revert ht2; decide
        have ht2_6 : ¬ w = 6 := by intro e; rw [e] at ht2; revert ht2; decide
        have ht2_7 : ¬ w = 7 := by intro e; rw [e] at ht2; revert ht2; decide
        have ht2_8 : ¬ w = 8 := by intro e; rw [e] at ht2; revert ht2; decide
        have ht2_9 : ¬ w = 9 := by intro e; rw [e] at ht2; revert ht2; decide
        refine g_tabOut hX 142 dX6_application_24 ht2 (by decide) ?_
        refine g_bipush hX (-2) dX6_application_142 (by decide) ?_
        refine ret _ _ _ _ dX6_application_144 ?_
        first | (simp [spApp, c1, ht2_0, ht2_1, ht2_2, ht2_3, ht2_4, ht2_5, ht2_6, ht2_7, ht2_8, ht2_9]; done) | grind [spApp]
    · -- on 11
      refine g_iconst hX (-1) dX6_application_11 (by decide) ?_
      refine ret _ _ _ _ dX6_application_12 ?_
      first | (simp [spApp, c1]; done) | grind [spApp]
def rm_X6_count : Room := { frames := 2, cells := 0, slots := 0, locals := 45 }
theorem i_X6_count_wsX30 : ∀ w ∈ wsX30, w ∈ wsX6_count := fun w h => List.mem_cons_of_mem _ (List.mem_append_left _ (List.mem_append_left _ (List.mem_append_right _ h)))
theorem i_X6_count_wsX40 : ∀ w ∈ wsX40, w ∈ wsX6_count := fun w h => List.mem_cons_of_mem _ (List.mem_append_left _ (List.mem_append_right _ h))
theorem i_X6_count_wsX60 : ∀ w ∈ wsX60, w ∈ wsX6_count := fun w h => List.mem_cons_of_mem _ (List.mem_append_left _ (List.mem_append_left _ (List.mem_append_left _ (List.mem_append_right _ h))))
theorem k_X6_count_X3_closedDays : CW rm_X6_count wsX6_count RX6 RX3 241 yX3_closedDays cX3_closedDays 3 (some .int) wsX3_closedDays rm_X3_closedDays 0 := ⟨gX6_count_X3_closedDays, ⟨_, rfl⟩, rfl, rfl, ⟨rfl, by decide +kernel, by decide +kernel, by decide +kernel⟩, by decide, by decide⟩
theorem k_X6_count_X3_countIn : CW rm_X6_count wsX6_count RX6 RX3 220 yX3_countIn cX3_countIn 5 (some .int) wsX3_countIn rm_X3_countIn 2 := ⟨gX6_count_X3_countIn, ⟨_, rfl⟩, rfl, rfl, ⟨rfl, by decide +kernel, by decide +kernel, by decide +kernel⟩, by decide, by decide⟩
theorem k_X6_count_X3_paidBy : CW rm_X6_count wsX6_count RX6 RX3 223 yX3_paidBy cX3_paidBy 4 (some .int) wsX3_paidBy rm_X3_paidBy 1 := ⟨gX6_count_X3_paidBy, ⟨_, rfl⟩, rfl, rfl, ⟨rfl, by decide +kernel, by decide +kernel, by decide +kernel⟩, by decide, by decide⟩
theorem k_X6_count_X3_refundedTo : CW rm_X6_count wsX6_count RX6 RX3 226 yX3_refundedTo cX3_refundedTo 4 (some .int) wsX3_refundedTo rm_X3_refundedTo 1 := ⟨gX6_count_X3_refundedTo, ⟨_, rfl⟩, rfl, rfl, ⟨rfl, by decide +kernel, by decide +kernel, by decide +kernel⟩, by decide, by decide⟩
set_option maxHeartbeats 4000000 in
set_option maxRecDepth 100000 in
theorem c_X6_count (l : Launch) (G : MG) (z : St) {w : Int32} (hI : IO z) : CIc l G yX6_count wsX6_count rm_X6_count [.ref (G.2.2 192), .int w] z (fun ρ ζ => ρ = spCount z w ∧ ζ = z) := by
  refine ci_of (own := RX6) (cc := cX6_count) (maxL := 2) (ret := .int) (by decide +kernel) rfl rfl ?_ (Nat.le_of_ble_eq_true rfl) (KQ_mv (ExC_mv G)) ?_
  · intro v z' _; rfl
  · intro X hX ret
    refine g_lv (lv' := [(0, .ref (G.2.2 192)), (1, .int w)]) rfl ?_
    refine g_iload_n hX 1 dX6_count_0 rfl ?_
    refine g_iconst hX 4 dX6_count_1 (by decide) ?_
    refine g_ic_lt hX 25 dX6_count_2 (by decide) (fun c1 => ?_) (fun c1 => ?_)
    · -- jump 25
      refine g_iload_n hX 1 dX6_count_25 rfl ?_
      refine g_bipush hX 15 dX6_count_26 (by decide) ?_
      refine g_ic_lt hX 52 dX6_count_28 (by decide) (fun c2 => ?_) (fun c2 => ?_)
      · -- jump 52
        refine g_iload_n hX 1 dX6_count_52 rfl ?_
        have ht3 : w = 0 ∨ w = 1 ∨ w = 2 ∨ w = 3 ∨ w = 4 ∨ w = 5 ∨ w = 6 ∨ w = 7 ∨ w = 8 ∨ w = 9 ∨ w = 10 ∨ w = 11 ∨ w = 12 ∨ w = 13 ∨ w = 14 ∨ (w.toInt < 0 ∨ 14 < w.toInt) := by
          have e0 : (0 : Int32).toInt = 0 := by decide
          have e1 : (1 : Int32).toInt = 1 := by decide
          have e2 : (2 : Int32).toInt = 2 := by decide
          have e3 : (3 : Int32).toInt = 3 := by decide
          have e4 : (4 : Int32).toInt = 4 := by decide
          have e5 : (5 : Int32).toInt = 5 := by decide
          have e6 : (6 : Int32).toInt = 6 := by decide
          have e7 : (7 : Int32).toInt = 7 := by decide
          have e8 : (8 : Int32).toInt = 8 := by decide
          have e9 : (9 : Int32).toInt = 9 := by decide
          have e10 : (10 : Int32).toInt = 10 := by decide
          have e11 : (11 : Int32).toInt = 11 := by decide
          have e12 : (12 : Int32).toInt = 12 := by decide
          have e13 : (13 : Int32).toInt = 13 := by decide
          have e14 : (14 : Int32).toInt = 14 := by decide
          simp only [← Int32.toInt_inj]
          omega
        rcases ht3 with ht3 | ht3 | ht3 | ht3 | ht3 | ht3 | ht3 | ht3 | ht3 | ht3 | ht3 | ht3 | ht3 | ht3 | ht3 | ht3
        · -- case 0
          refine g_tabIn hX (off := 75) 128 dX6_count_53 (by rw [ht3]; decide) (by rw [ht3]; decide) (by rw [ht3]; rfl) (by decide) ?_
          refine g_aload_n hX 0 dX6_count_128 rfl ?_
          refine c_g_Main_0 hX i_X6_count_wsX60 (List.mem_of_getElem? (i := 1) rfl) dX6_count_129 ?_
          refine c_g_Office_0 hX i_X6_count_wsX30 (List.mem_of_getElem? (i := 3) rfl) dX6_count_132 ?_
          refine ret _ _ _ _ dX6_count_135 ?_
          first | (simp [spCount, c1, c2, ht3]; done) | grind [spCount]
        · -- case 1
          refine g_tabIn hX (off := 83) 136 dX6_count_53 (by rw [ht3]; decide) (by rw [ht3]; decide) (by rw [ht3]; rfl) (by decide) ?_
          refine g_aload_n hX 0 dX6_count_136 rfl ?_
          refine c_g_Main_0 hX i_X6_count_wsX60 (List.mem_of_getElem? (i := 1) rfl) dX6_count_137 ?_
          refine c_g_Office_1 hX i_X6_count_wsX30 (List.mem_of_getElem? (i := 4) rfl) dX6_count_140 ?_
          refine ret _ _ _ _ dX6_count_143 ?_
          first | (simp [spCount, c1, c2, ht3]; done) | grind [spCount]
        · -- case 2
          refine g_tabIn hX (off := 91) 144 dX6_count_53 (by rw [ht3]; decide) (by rw [ht3]; decide) (by rw [ht3]; rfl) (by decide) ?_
          refine g_aload_n hX 0 dX6_count_144 rfl ?_
          refine c_g_Main_0 hX i_X6_count_wsX60 (List.mem_of_getElem? (i := 1) rfl) dX6_count_145 ?_
          refine c_g_Office_2 hX i_X6_count_wsX30 (List.mem_of_getElem? (i := 5) rfl) dX6_count_148 ?_
          refine ret _ _ _ _ dX6_count_151 ?_
          first | (simp [spCount, c1, c2, ht3]; done) | grind [spCount]
        · -- case 3
          refine g_tabIn hX (off := 99) 152 dX6_count_53 (by rw [ht3]; decide) (by rw [ht3]; decide) (by rw [ht3]; rfl) (by decide) ?_
          refine g_aload_n hX 0 dX6_count_152 rfl ?_
          refine c_g_Main_0 hX i_X6_count_wsX60 (List.mem_of_getElem? (i := 1) rfl) dX6_count_153 ?_
          refine c_g_Office_3 hX i_X6_count_wsX30 (List.mem_of_getElem? (i := 6) rfl) dX6_count_156 ?_
          refine ret _ _ _ _ dX6_count_159 ?_
          first | (simp [spCount, c1, c2, ht3]; done) | grind [spCount]
        · -- case 4
          refine g_tabIn hX (off := 141) 194 dX6_count_53 (by rw [ht3]; decide) (by rw [ht3]; decide) (by rw [ht3]; rfl) (by decide) ?_
          refine g_bipush hX (-2) dX6_count_194 (by decide) ?_
          refine ret _ _ _ _ dX6_count_196 ?_
          first | (simp [spCount, c1, c2, ht3]; done) | grind [spCount]
        · -- case 5
          refine g_tabIn hX (off := 141) 194 dX6_count_53 (by rw [ht3]; decide) (by rw [ht3]; decide) (by rw [ht3]; rfl) (by decide) ?_
          refine g_bipush hX (-2) dX6_count_194 (by decide) ?_
          refine ret _ _ _ _ dX6_count_196 ?_
          first | (simp [spCount, c1, c2, ht3]; done) | grind [spCount]
        · -- case 6
          refine g_tabIn hX (off := 141) 194 dX6_count_53 (by rw [ht3]; decide) (by rw [ht3]; decide) (by rw [ht3]; rfl) (by decide) ?_
          refine g_bipush hX (-2) dX6_count_194 (by decide) ?_
          refine ret _ _ _ _ dX6_count_196 ?_
          first | (simp [spCount, c1, c2, ht3]; done) | grind [spCount]
        · -- case 7
          refine g_tabIn hX (off := 141) 194 dX6_count_53 (by rw [ht3]; decide) (by rw [ht3]; decide) (by rw [ht3]; rfl) (by decide) ?_
          refine g_bipush hX (-2) dX6_count_194 (by decide) ?_
          refine ret _ _ _ _ dX6_count_196 ?_
          first | (simp [spCount, c1, c2, ht3]; done) | grind [spCount]
        · -- case 8
          refine g_tabIn hX (off := 141) 194 dX6_count_53 (by rw [ht3]; decide) (by rw [ht3]; decide) (by rw [ht3]; rfl) (by decide) ?_
          refine g_bipush hX (-2) dX6_count_194 (by decide) ?_
          refine ret _ _ _ _ dX6_count_196 ?_
          first | (simp [spCount, c1, c2, ht3]; done) | grind [spCount]
        · -- case 9
          refine g_tabIn hX (off := 141) 194 dX6_count_53 (by rw [ht3]; decide) (by rw [ht3]; decide) (by rw [ht3]; rfl) (by decide) ?_
          refine g_bipush hX (-2) dX6_count_194 (by decide) ?_
          refine ret _ _ _ _ dX6_count_196 ?_
          first | (simp [spCount, c1, c2, ht3]; done) | grind [spCount]
        · -- case 10
          refine g_tabIn hX (off := 141) 194 dX6_count_53 (by rw [ht3]; decide) (by rw [ht3]; decide) (by rw [ht3]; rfl) (by decide) ?_
          refine g_bipush hX (-2) dX6_count_194 (by decide) ?_
          refine ret _ _ _ _ dX6_count_196 ?_
          first | (simp [spCount, c1, c2, ht3]; done) | grind [spCount]
        · -- case 11
          refine g_tabIn hX (off := 107) 160 dX6_count_53 (by rw [ht3]; decide) (by rw [ht3]; decide) (by rw [ht3]; rfl) (by decide) ?_
          refine g_aload_n hX 0 dX6_count_160 rfl ?_
          refine c_g_Main_0 hX i_X6_count_wsX60 (List.mem_of_getElem? (i := 1) rfl) dX6_count_161 ?_
          refine g_iconst hX (-1) dX6_count_164 (by decide) ?_
          refine g_cvE hX (As := [.int (-1)]) (rest := []) (c_X3_paidBy l G z (c := (-1)) (hI := (by assumption))) k_X6_count_X3_paidBy rc_Office0 rfl rfl (Nat.le_of_ble_eq_true rfl) dX6_count_165 ?_
          refine ret _ _ _ _ dX6_count_168 ?_
          first | (simp [spCount, c1, c2, ht3]; done) | grind [spCount]
        · -- case 12
          refine g_tabIn hX (off := 116) 169 dX6_count_53 (by rw [ht3]; decide) (by rw [ht3]; decide) (by rw [ht3]; rfl) (by decide) ?_
          refine g_aload_n hX 0 dX6_count_169 rfl ?_
          refine c_g_Main_0 hX i_X6_count_wsX60 (List.mem_of_getElem? (i := 1) rfl) dX6_count_170 ?_
          refine g_iconst hX (-1) dX6_count_173 (by decide) ?_
          refine g_cvE hX (As := [.int (-1)]) (rest := []) (c_X3_refundedTo l G z (c := (-1)) (hI := (by assumption))) k_X6_count_X3_refundedTo rc_Office0 rfl rfl (Nat.le_of_ble_eq_true rfl) dX6_count_174 ?_
          refine ret _ _ _ _ dX6_count_177 ?_
          first | (simp [spCount, c1, c2, ht3]; done) | grind [spCount]
        · -- case 13
          refine g_tabIn hX (off := 125) 178 dX6_count_53 (by rw [ht3]; decide) (by rw [ht3]; decide) (by rw [ht3]; rfl) (by decide) ?_
          refine g_aload_n hX 0 dX6_count_178 rfl ?_
          refine c_g_Main_0 hX i_X6_count_wsX60 (List.mem_of_getElem? (i := 1) rfl) dX6_count_179 ?_
          refine g_cvE hX (As := []) (rest := []) (c_X3_closedDays l G z  ) k_X6_count_X3_closedDays rc_Office0 rfl rfl (Nat.le_of_ble_eq_true rfl) dX6_count_182 ?_
          refine ret _ _ _ _ dX6_count_185 ?_
          first | (simp [spCount, c1, c2, ht3]; done) | grind [spCount]
        · -- case 14
          refine g_tabIn hX (off := 133) 186 dX6_count_53 (by rw [ht3]; decide) (by rw [ht3]; decide) (by rw [ht3]; rfl) (by decide) ?_
          refine g_aload_n hX 0 dX6_count_186 rfl ?_
          refine c_g_Main_4 hX i_X6_count_wsX60 (List.mem_of_getElem? (i := 7) rfl) dX6_count_187 ?_
          refine c_g_Pad_1 hX i_X6_count_wsX40 (List.mem_of_getElem? (i := 8) rfl) dX6_count_190 ?_
          refine ret _ _ _ _ dX6_count_193 ?_
          first | (simp [spCount, c1, c2, ht3]; done) | grind [spCount]
        · -- default
          have ht3_0 : ¬ w = 0 := by intro e; rw [e] at ht3; revert ht3; decide
          have ht3_1 : ¬ w = 1 := by intro e; rw [e] at ht3; revert ht3; decide
          have ht3_2 : ¬ w = 2 := by intro e; rw [e] at ht3; revert ht3; decide
          have ht3_3 : ¬ w = 3 := by intro e; rw [e] at ht3; revert ht3; decide
          have ht3_4 : ¬ w = 4 := by intro e; rw [e] at ht3; revert ht3; decide
          have ht3_5 : ¬ w = 5 := by intro e; rw [e] at ht3; revert ht3; decide
          have ht3_6 : ¬ w = 6 := by intro e; rw [e] at ht3; revert ht3; decide
          have ht3_7 : ¬ w = 7 := by intro e; rw [e] at ht3; revert ht3; decide
          have ht3_8 : ¬ w = 8 := by intro e; rw [e] at ht3; revert ht3; decide
          have ht3_9 : ¬ w = 9 := by intro e; rw [e] at ht3; revert ht3; decide
          have ht3_10 : ¬ w = 10 := by intro e; rw [e] at ht3; revert ht3; decide
          have ht3_11 : ¬ w = 11 := by intro e; rw [e] at ht3; revert ht3; decide
          have ht3_12 : ¬ w = 12 := by intro e; rw [e] at ht3; revert ht3; decide
          have ht3_13 : ¬ w = 13 := by intro e; rw [e] at ht3; revert ht3; decide
          have ht3_14 : ¬ w = 14 := by intro e; rw [e] at ht3; revert ht3; decide
          refine g_tabOut hX 194 dX6_count_53 ht3 (by decide) ?_
          refine g_bipush hX (-2) dX6_count_194 (by decide) ?_
          refine ret _ _ _ _ dX6_count_196 ?_
          first | (simp [spCount, c1, c2, ht3_0, ht3_1, ht3_2, ht3_3, ht3_4, ht3_5, ht3_6, ht3_7, ht3_8, ht3_9, ht3_10, ht3_11, ht3_12, ht3_13, ht3_14]; done) | grind [spCount]
      · -- on 31
        refine g_iload_n hX 1 dX6_count_31 rfl ?_
        refine g_bipush hX 20 dX6_count_32 (by decide) ?_
        refine g_ic_gt hX 52 dX6_count_34 (by decide) (fun c4 => ?_) (fun c4 => ?_)
        · -- jump 52
          refine g_iload_n hX 1 dX6_count_52 rfl ?_
          have ht5 : w = 0 ∨ w = 1 ∨ w = 2 ∨ w = 3 ∨ w = 4 ∨ w = 5 ∨ w = 6 ∨ w = 7 ∨ w = 8 ∨ w = 9 ∨ w = 10 ∨ w = 11 ∨ w = 12 ∨ w = 13 ∨ w = 14 ∨ (w.toInt < 0 ∨ 14 < w.toInt) := by
            have e0 : (0 : Int32).toInt = 0 := by decide
            have e1 : (1 : Int32).toInt = 1 := by decide
            have e2 : (2 : Int32).toInt = 2 := by decide
            have e3 : (3 : Int32).toInt = 3 := by decide
            have e4 : (4 : Int32).toInt = 4 := by decide
            have e5 : (5 : Int32).toInt = 5 := by decide
            have e6 : (6 : Int32).toInt = 6 := by decide
            have e7 : (7 : Int32).toInt = 7 := by decide
            have e8 : (8 : Int32).toInt = 8 := by decide
            have e9 : (9 : Int32).toInt = 9 := by decide
            have e10 : (10 : Int32).toInt = 10 := by decide
            have e11 : (11 : Int32).toInt = 11 := by decide
            have e12 : (12 : Int32).toInt = 12 := by decide
            have e13 : (13 : Int32).toInt = 13 := by decide
            have e14 : (14 : Int32).toInt = 14 := by decide
            simp only [← Int32.toInt_inj]
            omega
          rcases ht5 with ht5 | ht5 | ht5 | ht5 | ht5 | ht5 | ht5 | ht5 | ht5 | ht5 | ht5 | ht5 | ht5 | ht5 | ht5 | ht5
          · -- case 0
            refine g_tabIn hX (off := 75) 128 dX6_count_53 (by rw [ht5]; decide) (by rw [ht5]; decide) (by rw [ht5]; rfl) (by decide) ?_
            refine g_aload_n hX 0 dX6_count_128 rfl ?_
            refine c_g_Main_0 hX i_X6_count_wsX60 (List.mem_of_getElem? (i := 1) rfl) dX6_count_129 ?_
            refine c_g_Office_0 hX i_X6_count_wsX30 (List.mem_of_getElem? (i := 3) rfl) dX6_count_132 ?_
            refine ret _ _ _ _ dX6_count_135 ?_
            first | (simp [spCount, c1, c2, c4, ht5]; done) | grind [spCount]
          · -- case 1
            refine g_tabIn hX (off := 83) 136 dX6_count_53 (by rw [ht5]; decide) (by rw [ht5]; decide) (by rw [ht5]; rfl) (by decide) ?_
            refine g_aload_n hX 0 dX6_count_136 rfl ?_
            refine c_g_Main_0 hX i_X6_count_wsX60 (List.mem_of_getElem? (i := 1) rfl) dX6_count_137 ?_
            refine c_g_Office_1 hX i_X6_count_wsX30 (List.mem_of_getElem? (i := 4) rfl) dX6_count_140 ?_
            refine ret _ _ _ _ dX6_count_143 ?_
            first | (simp [spCount, c1, c2, c4, ht5]; done) | grind [spCount]
          · -- case 2
            refine g_tabIn hX (off := 91) 144 dX6_count_53 (by rw [ht5]; decide) (by rw [ht5]; decide) (by rw [ht5]; rfl) (by decide) ?_
            refine g_aload_n hX 0 dX6_count_144 rfl ?_
            refine c_g_Main_0 hX i_X6_count_wsX60 (List.mem_of_getElem? (i := 1) rfl) dX6_count_145 ?_
            refine c_g_Office_2 hX i_X6_count_wsX30 (List.mem_of_getElem? (i := 5) rfl) dX6_count_148 ?_
            refine ret _ _ _ _ dX6_count_151 ?_
            first | (simp [spCount, c1, c2, c4, ht5]; done) | grind [spCount]
          · -- case 3
            refine g_tabIn hX (off := 99) 152 dX6_count_53 (by rw [ht5]; decide) (by rw [ht5]; decide) (by rw [ht5]; rfl) (by decide) ?_
            refine g_aload_n hX 0 dX6_count_152 rfl ?_
            refine c_g_Main_0 hX i_X6_count_wsX60 (List.mem_of_getElem? (i := 1) rfl) dX6_count_153 ?_
            refine c_g_Office_3 hX i_X6_count_wsX30 (List.mem_of_getElem? (i := 6) rfl) dX6_count_156 ?_
            refine ret _ _ _ _ dX6_count_159 ?_
            first | (simp [spCount, c1, c2, c4, ht5]; done) | grind [spCount]
          · -- case 4
            refine g_tabIn hX (off := 141) 194 dX6_count_53 (by rw [ht5]; decide) (by rw [ht5]; decide) (by rw [ht5]; rfl) (by decide) ?_
            refine g_bipush hX (-2) dX6_count_194 (by decide) ?_
            refine ret _ _ _ _ dX6_count_196 ?_
            first | (simp [spCount, c1, c2, c4, ht5]; done) | grind [spCount]
          · -- case 5
            refine g_tabIn hX (off := 141) 194 dX6_count_53 (by rw [ht5]; decide) (by rw [ht5]; decide) (by rw [ht5]; rfl) (by decide) ?_
            refine g_bipush hX (-2) dX6_count_194 (by decide) ?_
            refine ret _ _ _ _ dX6_count_196 ?_
            first | (simp [spCount, c1, c2, c4, ht5]; done) | grind [spCount]
          · -- case 6
            refine g_tabIn hX (off := 141) 194 dX6_count_53 (by rw [ht5]; decide) (by rw [ht5]; decide) (by rw [ht5]; rfl) (by decide) ?_
            refine g_bipush hX (-2) dX6_count_194 (by decide) ?_
            refine ret _ _ _ _ dX6_count_196 ?_
            first | (simp [spCount, c1, c2, c4, ht5]; done) | grind [spCount]
          · -- case 7
            refine g_tabIn hX (off := 141) 194 dX6_count_53 (by rw [ht5]; decide) (by rw [ht5]; decide) (by rw [ht5]; rfl) (by decide) ?_
            refine g_bipush hX (-2) dX6_count_194 (by decide) ?_
            refine ret _ _ _ _ dX6_count_196 ?_
            first | (simp [spCount, c1, c2, c4, ht5]; done) | grind [spCount]
          · -- case 8
            refine g_tabIn hX (off := 141) 194 dX6_count_53 (by rw [ht5]; decide) (by rw [ht5]; decide) (by rw [ht5]; rfl) (by decide) ?_
            refine g_bipush hX (-2) dX6_count_194 (by decide) ?_
            refine ret _ _ _ _ dX6_count_196 ?_
            first | (simp [spCount, c1, c2, c4, ht5]; done) | grind [spCount]
          · -- case 9
            refine g_tabIn hX (off := 141) 194 dX6_count_53 (by rw [ht5]; decide) (by rw [ht5]; decide) (by rw [ht5]; rfl) (by decide) ?_
            refine g_bipush hX (-2) dX6_count_194 (by decide) ?_
            refine ret _ _ _ _ dX6_count_196 ?_
            first | (simp [spCount, c1, c2, c4, ht5]; done) | grind [spCount]
          · -- case 10
            refine g_tabIn hX (off := 141) 194 dX6_count_53 (by rw [ht5]; decide) (by rw [ht5]; decide) (by rw [ht5]; rfl) (by decide) ?_
            refine g_bipush hX (-2) dX6_count_194 (by decide) ?_
            refine ret _ _ _ _ dX6_count_196 ?_
            first | (simp [spCount, c1, c2, c4, ht5]; done) | grind [spCount]
          · -- case 11
            refine g_tabIn hX (off := 107) 160 dX6_count_53 (by rw [ht5]; decide) (by rw [ht5]; decide) (by rw [ht5]; rfl) (by decide) ?_
            refine g_aload_n hX 0 dX6_count_160 rfl ?_
            refine c_g_Main_0 hX i_X6_count_wsX60 (List.mem_of_getElem? (i := 1) rfl) dX6_count_161 ?_
            refine g_iconst hX (-1) dX6_count_164 (by decide) ?_
            refine g_cvE hX (As := [.int (-1)]) (rest := []) (c_X3_paidBy l G z (c := (-1)) (hI := (by assumption))) k_X6_count_X3_paidBy rc_Office0 rfl rfl (Nat.le_of_ble_eq_true rfl) dX6_count_165 ?_
            refine ret _ _ _ _ dX6_count_168 ?_
            first | (simp [spCount, c1, c2, c4, ht5]; done) | grind [spCount]
          · -- case 12
            refine g_tabIn hX (off := 116) 169 dX6_count_53 (by rw [ht5]; decide) (by rw [ht5]; decide) (by rw [ht5]; rfl) (by decide) ?_
            refine g_aload_n hX 0 dX6_count_169 rfl ?_
            refine c_g_Main_0 hX i_X6_count_wsX60 (List.mem_of_getElem? (i := 1) rfl) dX6_count_170 ?_
            refine g_iconst hX (-1) dX6_count_173 (by decide) ?_
            refine g_cvE hX (As := [.int (-1)]) (rest := []) (c_X3_refundedTo l G z (c := (-1)) (hI := (by assumption))) k_X6_count_X3_refundedTo rc_Office0 rfl rfl (Nat.le_of_ble_eq_true rfl) dX6_count_174 ?_
            refine ret _ _ _ _ dX6_count_177 ?_
            first | (simp [spCount, c1, c2, c4, ht5]; done) | grind [spCount]
          · -- case 13
            refine g_tabIn hX (off := 125) 178 dX6_count_53 (by rw [ht5]; decide) (by rw [ht5]; decide) (by rw [ht5]; rfl) (by decide) ?_
            refine g_aload_n hX 0 dX6_count_178 rfl ?_
            refine c_g_Main_0 hX i_X6_count_wsX60 (List.mem_of_getElem? (i := 1) rfl) dX6_count_179 ?_
            refine g_cvE hX (As := []) (rest := []) (c_X3_closedDays l G z  ) k_X6_count_X3_closedDays rc_Office0 rfl rfl (Nat.le_of_ble_eq_true rfl) dX6_count_182 ?_
            refine ret _ _ _ _ dX6_count_185 ?_
            first | (simp [spCount, c1, c2, c4, ht5]; done) | grind [spCount]
          · -- case 14
            refine g_tabIn hX (off := 133) 186 dX6_count_53 (by rw [ht5]; decide) (by rw [ht5]; decide) (by rw [ht5]; rfl) (by decide) ?_
            refine g_aload_n hX 0 dX6_count_186 rfl ?_
            refine c_g_Main_4 hX i_X6_count_wsX60 (List.mem_of_getElem? (i := 7) rfl) dX6_count_187 ?_
            refine c_g_Pad_1 hX i_X6_count_wsX40 (List.mem_of_getElem? (i := 8) rfl) dX6_count_190 ?_
            refine ret _ _ _ _ dX6_count_193 ?_
            first | (simp [spCount, c1, c2, c4, ht5]; done) | grind [spCount]
          · -- default
            have ht5_0 : ¬ w = 0 := by intro e; rw [e] at ht5; revert ht5; decide
            have ht5_1 : ¬ w = 1 := by intro e; rw [e] at ht5; revert ht5; decide
            have ht5_2 : ¬ w = 2 := by intro e; rw [e] at ht5; revert ht5; decide
            have ht5_3 : ¬ w = 3 := by intro e; rw [e] at ht5; revert ht5; decide
            have ht5_4 : ¬ w = 4 := by intro e; rw [e] at ht5; revert ht5; decide
            have ht5_5 : ¬ w = 5 := by intro e; rw [e] at ht5; revert ht5; decide
            have ht5_6 : ¬ w = 6 := by intro e; rw [e] at ht5; revert ht5; decide
            have ht5_7 : ¬ w = 7 := by intro e; rw [e] at ht5; revert ht5; decide
            have ht5_8 : ¬ w = 8 := by intro e; rw [e] at ht5; revert ht5; decide
            have ht5_9 : ¬ w = 9 := by intro e; rw [e] at ht5; revert ht5; decide
            have ht5_10 : ¬ w = 10 := by intro e; rw [e] at ht5; revert ht5; decide
            have ht5_11 : ¬ w = 11 := by intro e; rw [e] at ht5; revert ht5; decide
            have ht5_12 : ¬ w = 12 := by intro e; rw [e] at ht5; revert ht5; decide
            have ht5_13 : ¬ w = 13 := by intro e; rw [e] at ht5; revert ht5; decide
            have ht5_14 : ¬ w = 14 := by intro e; rw [e] at ht5; revert ht5; decide
            refine g_tabOut hX 194 dX6_count_53 ht5 (by decide) ?_
            refine g_bipush hX (-2) dX6_count_194 (by decide) ?_
            refine ret _ _ _ _ dX6_count_196 ?_
            first | (simp [spCount, c1, c2, c4, ht5_0, ht5_1, ht5_2, ht5_3, ht5_4, ht5_5, ht5_6, ht5_7, ht5_8, ht5_9, ht5_10, ht5_11, ht5_12, ht5_13, ht5_14]; done) | grind [spCount]
        · -- on 37
          have hx := sub15 (w := w) (by assumption) (by assumption)
          refine g_aload_n hX 0 dX6_count_37 rfl ?_
          refine c_g_Main_0 hX i_X6_count_wsX60 (List.mem_of_getElem? (i := 1) rfl) dX6_count_38 ?_
          refine c_g_Office_8 hX i_X6_count_wsX30 (List.mem_of_getElem? (i := 2) rfl) dX6_count_41 ?_
          refine g_iconst hX 0 dX6_count_44 (by decide) ?_
          refine g_iload_n hX 1 dX6_count_45 rfl ?_
          refine g_iadd hX dX6_count_46 ?_
          refine g_bipush hX 15 dX6_count_47 (by decide) ?_
          refine g_isub hX dX6_count_49 ?_
          refine g_top (w - 15) (by rw [Int32.zero_add]) ?_
          refine c_ld_settings hX (cn (w - 15)) hx.1 hx.2 dX6_count_50 ?_
          refine ret _ _ _ _ dX6_count_51 ?_
          first | (simp [spCount, c1, c2, c4]; done) | grind [spCount]
    · -- on 5
      refine g_iload_n hX 1 dX6_count_5 rfl ?_
      refine g_bipush hX 10 dX6_count_6 (by decide) ?_
      refine g_ic_gt hX 25 dX6_count_8 (by decide) (fun c6 => ?_) (fun c6 => ?_)
      · -- jump 25
        refine g_iload_n hX 1 dX6_count_25 rfl ?_
        refine g_bipush hX 15 dX6_count_26 (by decide) ?_
        refine g_ic_lt hX 52 dX6_count_28 (by decide) (fun c7 => ?_) (fun c7 => ?_)
        · -- jump 52
          refine g_iload_n hX 1 dX6_count_52 rfl ?_
          have ht8 : w = 0 ∨ w = 1 ∨ w = 2 ∨ w = 3 ∨ w = 4 ∨ w = 5 ∨ w = 6 ∨ w = 7 ∨ w = 8 ∨ w = 9 ∨ w = 10 ∨ w = 11 ∨ w = 12 ∨ w = 13 ∨ w = 14 ∨ (w.toInt < 0 ∨ 14 < w.toInt) := by
            have e0 : (0 : Int32).toInt = 0 := by decide
            have e1 : (1 : Int32).toInt = 1 := by decide
            have e2 : (2 : Int32).toInt = 2 := by decide
            have e3 : (3 : Int32).toInt = 3 := by decide
            have e4 : (4 : Int32).toInt = 4 := by decide
            have e5 : (5 : Int32).toInt = 5 := by decide
            have e6 : (6 : Int32).toInt = 6 := by decide
            have e7 : (7 : Int32).toInt = 7 := by decide
            have e8 : (8 : Int32).toInt = 8 := by decide
            have e9 : (9 : Int32).toInt = 9 := by decide
            have e10 : (10 : Int32).toInt = 10 := by decide
            have e11 : (11 : Int32).toInt = 11 := by decide
            have e12 : (12 : Int32).toInt = 12 := by decide
            have e13 : (13 : Int32).toInt = 13 := by decide
            have e14 : (14 : Int32).toInt = 14 := by decide
            simp only [← Int32.toInt_inj]
            omega
          rcases ht8 with ht8 | ht8 | ht8 | ht8 | ht8 | ht8 | ht8 | ht8 | ht8 | ht8 | ht8 | ht8 | ht8 | ht8 | ht8 | ht8
          · -- case 0
            refine g_tabIn hX (off := 75) 128 dX6_count_53 (by rw [ht8]; decide) (by rw [ht8]; decide) (by rw [ht8]; rfl) (by decide) ?_
            refine g_aload_n hX 0 dX6_count_128 rfl ?_
            refine c_g_Main_0 hX i_X6_count_wsX60 (List.mem_of_getElem? (i := 1) rfl) dX6_count_129 ?_
            refine c_g_Office_0 hX i_X6_count_wsX30 (List.mem_of_getElem? (i := 3) rfl) dX6_count_132 ?_
            refine ret _ _ _ _ dX6_count_135 ?_
            first | (simp [spCount, c1, c6, c7, ht8]; done) | grind [spCount]
          · -- case 1
            refine g_tabIn hX (off := 83) 136 dX6_count_53 (by rw [ht8]; decide) (by rw [ht8]; decide) (by rw [ht8]; rfl) (by decide) ?_
            refine g_aload_n hX 0 dX6_count_136 rfl ?_
            refine c_g_Main_0 hX i_X6_count_wsX60 (List.mem_of_getElem? (i := 1) rfl) dX6_count_137 ?_
            refine c_g_Office_1 hX i_X6_count_wsX30 (List.mem_of_getElem? (i := 4) rfl) dX6_count_140 ?_
            refine ret _ _ _ _ dX6_count_143 ?_
            first | (simp [spCount, c1, c6, c7, ht8]; done) | grind [spCount]
          · -- case 2
            refine g_tabIn hX (off := 91) 144 dX6_count_53 (by rw [ht8]; decide) (by rw [ht8]; decide) (by rw [ht8]; rfl) (by decide) ?_
            refine g_aload_n hX 0 dX6_count_144 rfl ?_
            refine c_g_Main_0 hX i_X6_count_wsX60 (List.mem_of_getElem? (i := 1) rfl) dX6_count_145 ?_
            refine c_g_Office_2 hX i_X6_count_wsX30 (List.mem_of_getElem? (i := 5) rfl) dX6_count_148 ?_
            refine ret _ _ _ _ dX6_count_151 ?_
            first | (simp [spCount, c1, c6, c7, ht8]; done) | grind [spCount]
          · -- case 3
            refine g_tabIn hX (off := 99) 152 dX6_count_53 (by rw [ht8]; decide) (by rw [ht8]; decide) (by rw [ht8]; rfl) (by decide) ?_
            refine g_aload_n hX 0 dX6_count_152 rfl ?_
            refine c_g_Main_0 hX i_X6_count_wsX60 (List.mem_of_getElem? (i := 1) rfl) dX6_count_153 ?_
            refine c_g_Office_3 hX i_X6_count_wsX30 (List.mem_of_getElem? (i := 6) rfl) dX6_count_156 ?_
            refine ret _ _ _ _ dX6_count_159 ?_
            first | (simp [spCount, c1, c6, c7, ht8]; done) | grind [spCount]
          · -- case 4
            refine g_tabIn hX (off := 141) 194 dX6_count_53 (by rw [ht8]; decide) (by rw [ht8]; decide) (by rw [ht8]; rfl) (by decide) ?_
            refine g_bipush hX (-2) dX6_count_194 (by decide) ?_
            refine ret _ _ _ _ dX6_count_196 ?_
            first | (simp [spCount, c1, c6, c7, ht8]; done) | grind [spCount]
          · -- case 5
            refine g_tabIn hX (off := 141) 194 dX6_count_53 (by rw [ht8]; decide) (by rw [ht8]; decide) (by rw [ht8]; rfl) (by decide) ?_
            refine g_bipush hX (-2) dX6_count_194 (by decide) ?_
            refine ret _ _ _ _ dX6_count_196 ?_
            first | (simp [spCount, c1, c6, c7, ht8]; done) | grind [spCount]
          · -- case 6
            refine g_tabIn hX (off := 141) 194 dX6_count_53 (by rw [ht8]; decide) (by rw [ht8]; decide) (by rw [ht8]; rfl) (by decide) ?_
            refine g_bipush hX (-2) dX6_count_194 (by decide) ?_
            refine ret _ _ _ _ dX6_count_196 ?_
            first | (simp [spCount, c1, c6, c7, ht8]; done) | grind [spCount]
          · -- case 7
            refine g_tabIn hX (off := 141) 194 dX6_count_53 (by rw [ht8]; decide) (by rw [ht8]; decide) (by rw [ht8]; rfl) (by decide) ?_
            refine g_bipush hX (-2) dX6_count_194 (by decide) ?_
            refine ret _ _ _ _ dX6_count_196 ?_
            first | (simp [spCount, c1, c6, c7, ht8]; done) | grind [spCount]
          · -- case 8
            refine g_tabIn hX (off := 141) 194 dX6_count_53 (by rw [ht8]; decide) (by rw [ht8]; decide) (by rw [ht8]; rfl) (by decide) ?_
            refine g_bipush hX (-2) dX6_count_194 (by decide) ?_
            refine ret _ _ _ _ dX6_count_196 ?_
            first | (simp [spCount, c1, c6, c7, ht8]; done) | grind [spCount]
          · -- case 9
            refine g_tabIn hX (off := 141) 194 dX6_count_53 (by rw [ht8]; decide) (by rw [ht8]; decide) (by rw [ht8]; rfl) (by decide) ?_
            refine g_bipush hX (-2) dX6_count_194 (by decide) ?_
            refine ret _ _ _ _ dX6_count_196 ?_
            first | (simp [spCount, c1, c6, c7, ht8]; done) | grind [spCount]
          · -- case 10
            refine g_tabIn hX (off := 141) 194 dX6_count_53 (by rw [ht8]; decide) (by rw [ht8]; decide) (by rw [ht8]; rfl) (by decide) ?_
            refine g_bipush hX (-2) dX6_count_194 (by decide) ?_
            refine ret _ _ _ _ dX6_count_196 ?_
            first | (simp [spCount, c1, c6, c7, ht8]; done) | grind [spCount]
          · -- case 11
            refine g_tabIn hX (off := 107) 160 dX6_count_53 (by rw [ht8]; decide) (by rw [ht8]; decide) (by rw [ht8]; rfl) (by decide) ?_
            refine g_aload_n hX 0 dX6_count_160 rfl ?_
            refine c_g_Main_0 hX i_X6_count_wsX60 (List.mem_of_getElem? (i := 1) rfl) dX6_count_161 ?_
            refine g_iconst hX (-1) dX6_count_164 (by decide) ?_
            refine g_cvE hX (As := [.int (-1)]) (rest := []) (c_X3_paidBy l G z (c := (-1)) (hI := (by assumption))) k_X6_count_X3_paidBy rc_Office0 rfl rfl (Nat.le_of_ble_eq_true rfl) dX6_count_165 ?_
            refine ret _ _ _ _ dX6_count_168 ?_
            first | (simp [spCount, c1, c6, c7, ht8]; done) | grind [spCount]
          · -- case 12
            refine g_tabIn hX (off := 116) 169 dX6_count_53 (by rw [ht8]; decide) (by rw [ht8]; decide) (by rw [ht8]; rfl) (by decide) ?_
            refine g_aload_n hX 0 dX6_count_169 rfl ?_
            refine c_g_Main_0 hX i_X6_count_wsX60 (List.mem_of_getElem? (i := 1) rfl) dX6_count_170 ?_
            refine g_iconst hX (-1) dX6_count_173 (by decide) ?_
            refine g_cvE hX (As := [.int (-1)]) (rest := []) (c_X3_refundedTo l G z (c := (-1)) (hI := (by assumption))) k_X6_count_X3_refundedTo rc_Office0 rfl rfl (Nat.le_of_ble_eq_true rfl) dX6_count_174 ?_
            refine ret _ _ _ _ dX6_count_177 ?_
            first | (simp [spCount, c1, c6, c7, ht8]; done) | grind [spCount]
          · -- case 13
            refine g_tabIn hX (off := 125) 178 dX6_count_53 (by rw [ht8]; decide) (by rw [ht8]; decide) (by rw [ht8]; rfl) (by decide) ?_
            refine g_aload_n hX 0 dX6_count_178 rfl ?_
            refine c_g_Main_0 hX i_X6_count_wsX60 (List.mem_of_getElem? (i := 1) rfl) dX6_count_179 ?_
            refine g_cvE hX (As := []) (rest := []) (c_X3_closedDays l G z  ) k_X6_count_X3_closedDays rc_Office0 rfl rfl (Nat.le_of_ble_eq_true rfl) dX6_count_182 ?_
            refine ret _ _ _ _ dX6_count_185 ?_
            first | (simp [spCount, c1, c6, c7, ht8]; done) | grind [spCount]
          · -- case 14
            refine g_tabIn hX (off := 133) 186 dX6_count_53 (by rw [ht8]; decide) (by rw [ht8]; decide) (by rw [ht8]; rfl) (by decide) ?_
            refine g_aload_n hX 0 dX6_count_186 rfl ?_
            refine c_g_Main_4 hX i_X6_count_wsX60 (List.mem_of_getElem? (i := 7) rfl) dX6_count_187 ?_
            refine c_g_Pad_1 hX i_X6_count_wsX40 (List.mem_of_getElem? (i := 8) rfl) dX6_count_190 ?_
            refine ret _ _ _ _ dX6_count_193 ?_
            first | (simp [spCount, c1, c6, c7, ht8]; done) | grind [spCount]
          · -- default
            have ht8_0 : ¬ w = 0 := by intro e; rw [e] at ht8; revert ht8; decide
            have ht8_1 : ¬ w = 1 := by intro e; rw [e] at ht8; revert ht8; decide
            have ht8_2 : ¬ w = 2 := by intro e; rw [e] at ht8; revert ht8; decide
            have ht8_3 : ¬ w = 3 := by intro e; rw [e] at ht8; revert ht8; decide
            have ht8_4 : ¬ w = 4 := by intro e; rw [e] at ht8; revert ht8; decide
            have ht8_5 : ¬ w = 5 := by intro e; rw [e] at ht8; revert ht8; decide
            have ht8_6 : ¬ w = 6 := by intro e; rw [e] at ht8; revert ht8; decide
            have ht8_7 : ¬ w = 7 := by intro e; rw [e] at ht8; revert ht8; decide
            have ht8_8 : ¬ w = 8 := by intro e; rw [e] at ht8; revert ht8; decide
            have ht8_9 : ¬ w = 9 := by intro e; rw [e] at ht8; revert ht8; decide
            have ht8_10 : ¬ w = 10 := by intro e; rw [e] at ht8; revert ht8; decide
            have ht8_11 : ¬ w = 11 := by intro e; rw [e] at ht8; revert ht8; decide
            have ht8_12 : ¬ w = 12 := by intro e; rw [e] at ht8; revert ht8; decide
            have ht8_13 : ¬ w = 13 := by intro e; rw [e] at ht8; revert ht8; decide
            have ht8_14 : ¬ w = 14 := by intro e; rw [e] at ht8; revert ht8; decide
            refine g_tabOut hX 194 dX6_count_53 ht8 (by decide) ?_
            refine g_bipush hX (-2) dX6_count_194 (by decide) ?_
            refine ret _ _ _ _ dX6_count_196 ?_
            first | (simp [spCount, c1, c6, c7, ht8_0, ht8_1, ht8_2, ht8_3, ht8_4, ht8_5, ht8_6, ht8_7, ht8_8, ht8_9, ht8_10, ht8_11, ht8_12, ht8_13, ht8_14]; done) | grind [spCount]
        · -- on 31
          refine g_iload_n hX 1 dX6_count_31 rfl ?_
          refine g_bipush hX 20 dX6_count_32 (by decide) ?_
          refine g_ic_gt hX 52 dX6_count_34 (by decide) (fun c9 => ?_) (fun c9 => ?_)
          · -- jump 52
            refine g_iload_n hX 1 dX6_count_52 rfl ?_
            have ht10 : w = 0 ∨ w = 1 ∨ w = 2 ∨ w = 3 ∨ w = 4 ∨ w = 5 ∨ w = 6 ∨ w = 7 ∨ w = 8 ∨ w = 9 ∨ w = 10 ∨ w = 11 ∨ w = 12 ∨ w = 13 ∨ w = 14 ∨ (w.toInt < 0 ∨ 14 < w.toInt) := by
              have e0 : (0 : Int32).toInt = 0 := by decide
              have e1 : (1 : Int32).toInt = 1 := by decide
              have e2 : (2 : Int32).toInt = 2 := by decide
              have e3 : (3 : Int32).toInt = 3 := by decide
              have e4 : (4 : Int32).toInt = 4 := by decide
              have e5 : (5 : Int32).toInt = 5 := by decide
              have e6 : (6 : Int32).toInt = 6 := by decide
              have e7 : (7 : Int32).toInt = 7 := by decide
              have e8 : (8 : Int32).toInt = 8 := by decide
              have e9 : (9 : Int32).toInt = 9 := by decide
              have e10 : (10 : Int32).toInt = 10 := by decide
              have e11 : (11 : Int32).toInt = 11 := by decide
              have e12 : (12 : Int32).toInt = 12 := by decide
              have e13 : (13 : Int32).toInt = 13 := by decide
              have e14 : (14 : Int32).toInt = 14 := by decide
              simp only [← Int32.toInt_inj]
              omega
            rcases ht10 with ht10 | ht10 | ht10 | ht10 | ht10 | ht10 | ht10 | ht10 | ht10 | ht10 | ht10 | ht10 | ht10 | ht10 | ht10 | ht10
            · -- case 0
              refine g_tabIn hX (off := 75) 128 dX6_count_53 (by rw [ht10]; decide) (by rw [ht10]; decide) (by rw [ht10]; rfl) (by decide) ?_
              refine g_aload_n hX 0 dX6_count_128 rfl ?_
              refine c_g_Main_0 hX i_X6_count_wsX60 (List.mem_of_getElem? (i := 1) rfl) dX6_count_129 ?_
              refine c_g_Office_0 hX i_X6_count_wsX30 (List.mem_of_getElem? (i := 3) rfl) dX6_count_132 ?_
              refine ret _ _ _ _ dX6_count_135 ?_
              first | (simp [spCount, c1, c6, c7, c9, ht10]; done) | grind [spCount]
            · -- case 1
              refine g_tabIn hX (off := 83) 136 dX6_count_53 (by rw [ht10]; decide) (by rw [ht10]; decide) (by rw [ht10]; rfl) (by decide) ?_
              refine g_aload_n hX 0 dX6_count_136 rfl ?_
              refine c_g_Main_0 hX i_X6_count_wsX60 (List.mem_of_getElem? (i := 1) rfl) dX6_count_137 ?_
              refine c_g_Office_1 hX i_X6_count_wsX30 (List.mem_of_getElem? (i := 4) rfl) dX6_count_140 ?_
              refine ret _ _ _ _ dX6_count_143 ?_
              first | (simp [spCount, c1, c6, c7, c9, ht10]; done) | grind [spCount]
            · -- case 2
              refine g_tabIn hX (off := 91) 144 dX6_count_53 (by rw [ht10]; decide) (by rw [ht10]; decide) (by rw [ht10]; rfl) (by decide) ?_
              refine g_aload_n hX 0 dX6_count_144 rfl ?_
              refine c_g_Main_0 hX i_X6_count_wsX60 (List.mem_of_getElem? (i := 1) rfl) dX6_count_145 ?_
              refine c_g_Office_2 hX i_X6_count_wsX30 (List.mem_of_getElem? (i := 5) rfl) dX6_count_148 ?_
              refine ret _ _ _ _ dX6_count_151 ?_
              first | (simp [spCount, c1, c6, c7, c9, ht10]; done) | grind [spCount]
            · -- case 3
              refine g_tabIn hX (off := 99) 152 dX6_count_53 (by rw [ht10]; decide) (by rw [ht10]; decide) (by rw [ht10]; rfl) (by decide) ?_
              refine g_aload_n hX 0 dX6_count_152 rfl ?_
              refine c_g_Main_0 hX i_X6_count_wsX60 (List.mem_of_getElem? (i := 1) rfl) dX6_count_153 ?_
              refine c_g_Office_3 hX i_X6_count_wsX30 (List.mem_of_getElem? (i := 6) rfl) dX6_count_156 ?_
              refine ret _ _ _ _ dX6_count_159 ?_
              first | (simp [spCount, c1, c6, c7, c9, ht10]; done) | grind [spCount]
            · -- case 4
              refine g_tabIn hX (off := 141) 194 dX6_count_53 (by rw [ht10]; decide) (by rw [ht10]; decide) (by rw [ht10]; rfl) (by decide) ?_
              refine g_bipush hX (-2) dX6_count_194 (by decide) ?_
              refine ret _ _ _ _ dX6_count_196 ?_
              first | (simp [spCount, c1, c6, c7, c9, ht10]; done) | grind [spCount]
            · -- case 5
              refine g_tabIn hX (off := 141) 194 dX6_count_53 (by rw [ht10]; decide) (by rw [ht10]; decide) (by rw [ht10]; rfl) (by decide) ?_
              refine g_bipush hX (-2) dX6_count_194 (by decide) ?_
              refine ret _ _ _ _ dX6_count_196 ?_
              first | (simp [spCount, c1, c6, c7, c9, ht10]; done) | grind [spCount]
            · -- case 6
              refine g_tabIn hX (off := 141) 194 dX6_count_53 (by rw [ht10]; decide) (by rw [ht10]; decide) (by rw [ht10]; rfl) (by decide) ?_
              refine g_bipush hX (-2) dX6_count_194 (by decide) ?_
              refine ret _ _ _ _ dX6_count_196 ?_
              first | (simp [spCount, c1, c6, c7, c9, ht10]; done) | grind [spCount]
            · -- case 7
              refine g_tabIn hX (off := 141) 194 dX6_count_53 (by rw [ht10]; decide) (by rw [ht10]; decide) (by rw [ht10]; rfl) (by decide) ?_
              refine g_bipush hX (-2) dX6_count_194 (by decide) ?_
              refine ret _ _ _ _ dX6_count_196 ?_
              first | (simp [spCount, c1, c6, c7, c9, ht10]; done) | grind [spCount]
            · -- case 8
              refine g_tabIn hX (off := 141) 194 dX6_count_53 (by rw [ht10]; decide) (by rw [ht10]; decide) (by rw [ht10]; rfl) (by decide) ?_
              refine g_bipush hX (-2) dX6_count_194 (by decide) ?_
              refine ret _ _ _ _ dX6_count_196 ?_
              first | (simp [spCount, c1, c6, c7, c9, ht10]; done) | grind [spCount]
            · -- case 9
              refine g_tabIn hX (off := 141) 194 dX6_count_53 (by rw [ht10]; decide) (by rw [ht10]; decide) (by rw [ht10]; rfl) (by decide) ?_
              refine g_bipush hX (-2) dX6_count_194 (by decide) ?_
              refine ret _ _ _ _ dX6_count_196 ?_
              first | (simp [spCount, c1, c6, c7, c9, ht10]; done) | grind [spCount]
            · -- case 10
              refine g_tabIn hX (off := 141) 194 dX6_count_53 (by rw [ht10]; decide) (by rw [ht10]; decide) (by rw [ht10]; rfl) (by decide) ?_
              refine g_bipush hX (-2) dX6_count_194 (by decide) ?_
              refine ret _ _ _ _ dX6_count_196 ?_
              first | (simp [spCount, c1, c6, c7, c9, ht10]; done) | grind [spCount]
            · -- case 11
              refine g_tabIn hX (off := 107) 160 dX6_count_53 (by rw [ht10]; decide) (by rw [ht10]; decide) (by rw [ht10]; rfl) (by decide) ?_
              refine g_aload_n hX 0 dX6_count_160 rfl ?_
              refine c_g_Main_0 hX i_X6_count_wsX60 (List.mem_of_getElem? (i := 1) rfl) dX6_count_161 ?_
              refine g_iconst hX (-1) dX6_count_164 (by decide) ?_
              refine g_cvE hX (As := [.int (-1)]) (rest := []) (c_X3_paidBy l G z (c := (-1)) (hI := (by assumption))) k_X6_count_X3_paidBy rc_Office0 rfl rfl (Nat.le_of_ble_eq_true rfl) dX6_count_165 ?_
              refine ret _ _ _ _ dX6_count_168 ?_
              first | (simp [spCount, c1, c6, c7, c9, ht10]; done) | grind [spCount]
            · -- case 12
              refine g_tabIn hX (off := 116) 169 dX6_count_53 (by rw [ht10]; decide) (by rw [ht10]; decide) (by rw [ht10]; rfl) (by decide) ?_
              refine g_aload_n hX 0 dX6_count_169 rfl ?_
              refine c_g_Main_0 hX i_X6_count_wsX60 (List.mem_of_getElem? (i := 1) rfl) dX6_count_170 ?_
              refine g_iconst hX (-1) dX6_count_173 (by decide) ?_
              refine g_cvE hX (As := [.int (-1)]) (rest := []) (c_X3_refundedTo l G z (c := (-1)) (hI := (by assumption))) k_X6_count_X3_refundedTo rc_Office0 rfl rfl (Nat.le_of_ble_eq_true rfl) dX6_count_174 ?_
              refine ret _ _ _ _ dX6_count_177 ?_
              first | (simp [spCount, c1, c6, c7, c9, ht10]; done) | grind [spCount]
            · -- case 13
              refine g_tabIn hX (off := 125) 178 dX6_count_53 (by rw [ht10]; decide) (by rw [ht10]; decide) (by rw [ht10]; rfl) (by decide) ?_
              refine g_aload_n hX 0 dX6_count_178 rfl ?_
              refine c_g_Main_0 hX i_X6_count_wsX60 (List.mem_of_getElem? (i := 1) rfl) dX6_count_179 ?_
              refine g_cvE hX (As := []) (rest := []) (c_X3_closedDays l G z  ) k_X6_count_X3_closedDays rc_Office0 rfl rfl (Nat.le_of_ble_eq_true rfl) dX6_count_182 ?_
              refine ret _ _ _ _ dX6_count_185 ?_
              first | (simp [spCount, c1, c6, c7, c9, ht10]; done) | grind [spCount]
            · -- case 14
              refine g_tabIn hX (off := 133) 186 dX6_count_53 (by rw [ht10]; decide) (by rw [ht10]; decide) (by rw [ht10]; rfl) (by decide) ?_
              refine g_aload_n hX 0 dX6_count_186 rfl ?_
              refine c_g_Main_4 hX i_X6_count_wsX60 (List.mem_of_getElem? (i := 7) rfl) dX6_count_187 ?_
              refine c_g_Pad_1 hX i_X6_count_wsX40 (List.mem_of_getElem? (i := 8) rfl) dX6_count_190 ?_
              refine ret _ _ _ _ dX6_count_193 ?_
              first | (simp [spCount, c1, c6, c7, c9, ht10]; done) | grind [spCount]
            · -- default
              have ht10_0 : ¬ w = 0 := by intro e; rw [e] at ht10; revert ht10; decide
              have ht10_1 : ¬ w = 1 := by intro e; rw [e] at ht10; revert ht10; decide
              have ht10_2 : ¬ w = 2 := by intro e; rw [e] at ht10; revert ht10; decide
              have ht10_3 : ¬ w = 3 := by intro e; rw [e] at ht10; revert ht10; decide
              have ht10_4 : ¬ w = 4 := by intro e; rw [e] at ht10; revert ht10; decide
              have ht10_5 : ¬ w = 5 := by intro e; rw [e] at ht10; revert ht10; decide
              have ht10_6 : ¬ w = 6 := by intro e; rw [e] at ht10; revert ht10; decide
              have ht10_7 : ¬ w = 7 := by intro e; rw [e] at ht10; revert ht10; decide
              have ht10_8 : ¬ w = 8 := by intro e; rw [e] at ht10; revert ht10; decide
              have ht10_9 : ¬ w = 9 := by intro e; rw [e] at ht10; revert ht10; decide
              have ht10_10 : ¬ w = 10 := by intro e; rw [e] at ht10; revert ht10; decide
              have ht10_11 : ¬ w = 11 := by intro e; rw [e] at ht10; revert ht10; decide
              have ht10_12 : ¬ w = 12 := by intro e; rw [e] at ht10; revert ht10; decide
              have ht10_13 : ¬ w = 13 := by intro e; rw [e] at ht10; revert ht10; decide
              have ht10_14 : ¬ w = 14 := by intro e; rw [e] at ht10; revert ht10; decide
              refine g_tabOut hX 194 dX6_count_53 ht10 (by decide) ?_
              refine g_bipush hX (-2) dX6_count_194 (by decide) ?_
              refine ret _ _ _ _ dX6_count_196 ?_
              first | (simp [spCount, c1, c6, c7, c9, ht10_0, ht10_1, ht10_2, ht10_3, ht10_4, ht10_5, ht10_6, ht10_7, ht10_8, ht10_9, ht10_10, ht10_11, ht10_12, ht10_13, ht10_14]; done) | grind [spCount]
          · -- on 37
            have hx := sub15 (w := w) (by assumption) (by assumption)
            refine g_aload_n hX 0 dX6_count_37 rfl ?_
            refine c_g_Main_0 hX i_X6_count_wsX60 (List.mem_of_getElem? (i := 1) rfl) dX6_count_38 ?_
            refine c_g_Office_8 hX i_X6_count_wsX30 (List.mem_of_getElem? (i := 2) rfl) dX6_count_41 ?_
            refine g_iconst hX 0 dX6_count_44 (by decide) ?_
            refine g_iload_n hX 1 dX6_count_45 rfl ?_
            refine g_iadd hX dX6_count_46 ?_
            refine g_bipush hX 15 dX6_count_47 (by decide) ?_
            refine g_isub hX dX6_count_49 ?_
            refine g_top (w - 15) (by rw [Int32.zero_add]) ?_
            refine c_ld_settings hX (cn (w - 15)) hx.1 hx.2 dX6_count_50 ?_
            refine ret _ _ _ _ dX6_count_51 ?_
            first | (simp [spCount, c1, c6, c7, c9]; done) | grind [spCount]
      · -- on 11
        refine g_aload_n hX 0 dX6_count_11 rfl ?_
        refine c_g_Main_0 hX i_X6_count_wsX60 (List.mem_of_getElem? (i := 1) rfl) dX6_count_12 ?_
        refine g_iconst hX (-1) dX6_count_15 (by decide) ?_
        refine g_iconst hX 0 dX6_count_16 (by decide) ?_
        refine g_iload_n hX 1 dX6_count_17 rfl ?_
        refine g_iadd hX dX6_count_18 ?_
        refine g_iconst hX 4 dX6_count_19 (by decide) ?_
        refine g_isub hX dX6_count_20 ?_
        refine g_top (w - 4) (by rw [Int32.zero_add]) ?_
        refine g_cvE hX (As := [.int (-1), .int (w - 4)]) (rest := []) (c_X3_countIn l G z (c := (-1)) (s := (w - 4)) (hI := (by assumption))) k_X6_count_X3_countIn rc_Office0 rfl rfl (Nat.le_of_ble_eq_true rfl) dX6_count_21 ?_
        refine ret _ _ _ _ dX6_count_24 ?_
        first | (simp [spCount, c1, c6]; done) | grind [spCount]
def rm_X6_nextWaiting : Room := { frames := 4, cells := 0, slots := 0, locals := 90 }
theorem i_X6_nextWaiting_wsX60 : ∀ w ∈ wsX60, w ∈ wsX6_nextWaiting := fun w h => List.mem_cons_of_mem _ (List.mem_append_left _ (List.mem_append_left _ (List.mem_append_left _ (List.mem_append_left _ (List.mem_append_right _ h)))))
theorem k_X6_nextWaiting_X3_firstWaiting : CW rm_X6_nextWaiting wsX6_nextWaiting RX6 RX3 247 yX3_firstWaiting cX3_firstWaiting 8 (some .int) wsX3_firstWaiting rm_X3_firstWaiting 3 := ⟨gX6_nextWaiting_X3_firstWaiting, ⟨_, rfl⟩, rfl, rfl, ⟨rfl, by decide +kernel, by decide +kernel, by decide +kernel⟩, by decide, by decide⟩
theorem k_X6_nextWaiting_X3_hasRouteAndDay : CW rm_X6_nextWaiting wsX6_nextWaiting RX6 RX3 85 yX3_hasRouteAndDay cX3_hasRouteAndDay 3 (some .boolean) wsX3_hasRouteAndDay rm_X3_hasRouteAndDay 2 := ⟨gX6_nextWaiting_X3_hasRouteAndDay, ⟨_, rfl⟩, rfl, rfl, ⟨rfl, by decide +kernel, by decide +kernel, by decide +kernel⟩, by decide, by decide⟩
theorem k_X6_nextWaiting_X3_isOpen : CW rm_X6_nextWaiting wsX6_nextWaiting RX6 RX3 89 yX3_isOpen cX3_isOpen 2 (some .boolean) wsX3_isOpen rm_X3_isOpen 1 := ⟨gX6_nextWaiting_X3_isOpen, ⟨_, rfl⟩, rfl, rfl, ⟨rfl, by decide +kernel, by decide +kernel, by decide +kernel⟩, by decide, by decide⟩
theorem k_X6_nextWaiting_X3_placesForLottery : CW rm_X6_nextWaiting wsX6_nextWaiting RX6 RX3 120 yX3_placesForLottery cX3_placesForLottery 3 (some .int) wsX3_placesForLottery rm_X3_placesForLottery 2 := ⟨gX6_nextWaiting_X3_placesForLottery, ⟨_, rfl⟩, rfl, rfl, ⟨rfl, by decide +kernel, by decide +kernel, by decide +kernel⟩, by decide, by decide⟩
set_option maxHeartbeats 4000000 in
set_option maxRecDepth 100000 in
theorem c_X6_nextWaiting (l : Launch) (G : MG) (z : St) {r : Int32} {d : Int32} (hI : IO z) (hm : ∀ c, c < 12 → 0 ≤ z 8 c) : CIc l G yX6_nextWaiting wsX6_nextWaiting rm_X6_nextWaiting [.ref (G.2.2 192), .int r, .int d] z (fun ρ ζ => ρ = spNext z r d ∧ ζ = z) := by
  refine ci_of (own := RX6) (cc := cX6_nextWaiting) (maxL := 3) (ret := .int) (by decide +kernel) rfl rfl ?_ (Nat.le_of_ble_eq_true rfl) (KQ_mv (ExC_mv G)) ?_
  · intro v z' _; rfl
  · intro X hX ret
    refine g_lv (lv' := [(0, .ref (G.2.2 192)), (1, .int r), (2, .int d)]) rfl ?_
    refine g_aload_n hX 0 dX6_nextWaiting_0 rfl ?_
    refine c_g_Main_0 hX i_X6_nextWaiting_wsX60 (List.mem_of_getElem? (i := 1) rfl) dX6_nextWaiting_1 ?_
    refine g_iload_n hX 1 dX6_nextWaiting_4 rfl ?_
    refine g_iload_n hX 2 dX6_nextWaiting_5 rfl ?_
    refine g_cvE hX (As := [.int r, .int d]) (rest := []) (c_X3_hasRouteAndDay l G z (x1 := r) (x2 := d) ) k_X6_nextWaiting_X3_hasRouteAndDay rc_Office0 rfl rfl (Nat.le_of_ble_eq_true rfl) dX6_nextWaiting_6 ?_
    refine g_bi_ne hX 14 dX6_nextWaiting_9 (by decide) (fun c1 => ?_) (fun c1 => ?_)
    · -- jump 14
      have hr := routeP_in hI c1.1
      have hrm := not_m1 c1.1.1
      have hd := dayP_in c1.2
      refine g_aload_n hX 0 dX6_nextWaiting_14 rfl ?_
      refine c_g_Main_0 hX i_X6_nextWaiting_wsX60 (List.mem_of_getElem? (i := 1) rfl) dX6_nextWaiting_15 ?_
      refine g_iload_n hX 2 dX6_nextWaiting_18 rfl ?_
      refine g_cvE hX (As := [.int d]) (rest := []) (c_X3_isOpen l G z (x1 := d) ) k_X6_nextWaiting_X3_isOpen rc_Office0 rfl rfl (Nat.le_of_ble_eq_true rfl) dX6_nextWaiting_19 ?_
      refine g_bi_ne hX 28 dX6_nextWaiting_22 (by decide) (fun c2 => ?_) (fun c2 => ?_)
      · -- jump 28
        refine g_aload_n hX 0 dX6_nextWaiting_28 rfl ?_
        refine c_g_Main_0 hX i_X6_nextWaiting_wsX60 (List.mem_of_getElem? (i := 1) rfl) dX6_nextWaiting_29 ?_
        refine g_iload_n hX 1 dX6_nextWaiting_32 rfl ?_
        refine g_iload_n hX 2 dX6_nextWaiting_33 rfl ?_
        refine g_aload_n hX 0 dX6_nextWaiting_34 rfl ?_
        refine c_g_Main_0 hX i_X6_nextWaiting_wsX60 (List.mem_of_getElem? (i := 1) rfl) dX6_nextWaiting_35 ?_
        refine g_iload_n hX 1 dX6_nextWaiting_38 rfl ?_
        refine g_iload_n hX 2 dX6_nextWaiting_39 rfl ?_
        refine g_st (st2 := [.int d, .int (nI (cn r)), .ref (G.2.2 0), .int d, .int r, .ref (G.2.2 0)]) (by rw [← (show r = nI (cn r) from hr.1)]) ?_
        refine g_cvE hX (As := [.int (nI (cn r)), .int d]) (rest := [.int d, .int r, .ref (G.2.2 0)]) (c_X3_placesForLottery l G z (q := (cn r)) (d := d) (hq := hr.2) (hI := (by assumption))) k_X6_nextWaiting_X3_placesForLottery rc_Office0 rfl rfl (Nat.le_of_ble_eq_true rfl) dX6_nextWaiting_40 ?_
        refine g_top (leftP z r d) (by rw [← hr.1]) ?_
        refine g_iconst hX 1 dX6_nextWaiting_43 (by decide) ?_
        refine g_iadd hX dX6_nextWaiting_44 ?_
        refine g_cvE hX (As := [.int r, .int d, .int ((leftP z r d) + 1)]) (rest := []) (c_X3_firstWaiting l G z (r := r) (d := d) (p := ((leftP z r d) + 1)) (hr := hrm) (hI := (by assumption)) (hm := (by assumption))) k_X6_nextWaiting_X3_firstWaiting rc_Office0 rfl rfl (Nat.le_of_ble_eq_true rfl) dX6_nextWaiting_45 ?_
        refine ret _ _ _ _ dX6_nextWaiting_48 ?_
        first | (simp [spNext, c1, c2]; done) | grind [spNext]
      · -- on 25
        refine g_bipush hX (-6) dX6_nextWaiting_25 (by decide) ?_
        refine ret _ _ _ _ dX6_nextWaiting_27 ?_
        first | (simp [spNext, c1, c2]; done) | grind [spNext]
    · -- on 12
      refine g_iconst hX (-1) dX6_nextWaiting_12 (by decide) ?_
      refine ret _ _ _ _ dX6_nextWaiting_13 ?_
      first | (simp [spNext, c1]; done) | grind [spNext]
def rm_X6_save : Room := { frames := 2, cells := 0, slots := 0, locals := 43 }
theorem i_X6_save_wsX30 : ∀ w ∈ wsX30, w ∈ wsX6_save := fun w h => List.mem_cons_of_mem _ (List.mem_append_left _ (List.mem_append_left _ (List.mem_append_left _ (List.mem_append_right _ h))))
theorem i_X6_save_wsX60 : ∀ w ∈ wsX60, w ∈ wsX6_save := fun w h => List.mem_cons_of_mem _ (List.mem_append_left _ (List.mem_append_left _ (List.mem_append_left _ (List.mem_append_left _ (List.mem_append_right _ h)))))
theorem k_X6_save_X3_copyFrom : CW rm_X6_save wsX6_save RX6 RX3 292 yX3_copyFrom cX3_copyFrom 3 none wsX3_copyFrom rm_X3_copyFrom 1 := ⟨gX6_save_X3_copyFrom, ⟨_, rfl⟩, rfl, rfl, ⟨rfl, by decide +kernel, by decide +kernel, by decide +kernel⟩, by decide, by decide⟩
set_option maxHeartbeats 4000000 in
set_option maxRecDepth 100000 in
theorem c_X6_save (l : Launch) (G : MG) (hA : Ap 203 G.2.2) (z : St) {s : Int32} (hb : ∀ o, o < 3 → ∀ a, a < 40 → z (20 * o + 18) a = 0 ∨ z (20 * o + 18) a = 1) (hcl : ∀ o, o < 3 → ∀ d, d < 60 → z (20 * o + 7) d = 0 ∨ z (20 * o + 7) d = 1) : CIc l G yX6_save wsX6_save rm_X6_save [.ref (G.2.2 192), .int s] z (fun ρ ζ => ρ = (spSave z s).1 ∧ ζ = (spSave z s).2) := by
  refine ci_of (own := RX6) (cc := cX6_save) (maxL := 2) (ret := .int) (by decide +kernel) rfl rfl ?_ (Nat.le_of_ble_eq_true rfl) (KQ_mv (ExC_mv G)) ?_
  · intro v z' _; rfl
  · intro X hX ret
    refine g_lv (lv' := [(0, .ref (G.2.2 192)), (1, .int s)]) rfl ?_
    refine g_iload_n hX 1 dX6_save_0 rfl ?_
    refine g_if_lt hX 9 dX6_save_1 (by decide) (fun c1 => ?_) (fun c1 => ?_)
    · -- jump 9
      refine g_bipush hX (-2) dX6_save_9 (by decide) ?_
      refine ret _ _ _ _ dX6_save_11 ?_
      first | (simp [spSave, c1]; done) | (simp [spSave, c1, cpAll_0]; done) | grind [spSave]
    · -- on 4
      refine g_iload_n hX 1 dX6_save_4 rfl ?_
      refine g_iconst hX 2 dX6_save_5 (by decide) ?_
      refine g_ic_lt hX 12 dX6_save_6 (by decide) (fun c2 => ?_) (fun c2 => ?_)
      · -- jump 12
        have hx := rng (n := 2) (by decide) c1 c2
        refine g_aload_n hX 0 dX6_save_12 rfl ?_
        refine c_g_Main_1 hX i_X6_save_wsX60 (List.mem_of_getElem? (i := 1) rfl) dX6_save_13 ?_
        refine g_iload_n hX 1 dX6_save_16 rfl ?_
        refine c_ld_slots hX (cn s) hx.1 hx.2 dX6_save_17 ?_
        refine g_aload_n hX 0 dX6_save_18 rfl ?_
        refine c_g_Main_0 hX i_X6_save_wsX60 (List.mem_of_getElem? (i := 2) rfl) dX6_save_19 ?_
        refine g_cvvE hX (As := [.ref (G.2.2 0)]) (rest := []) (c_X3_copyFrom l G hA z (o1 := ((cn s) + 1)) (o2 := 0) (h1 := (by omega)) (h2 := (by omega)) (h12 := (by omega)) (hb := (hb 0 (by decide))) (hc := (hcl 0 (by decide)))) k_X6_save_X3_copyFrom (rc_Office (by omega)) rfl rfl (Nat.le_of_ble_eq_true rfl) dX6_save_22 ?_
        refine g_aload_n hX 0 dX6_save_25 rfl ?_
        refine c_g_Main_2 hX i_X6_save_wsX60 (List.mem_of_getElem? (i := 3) rfl) dX6_save_26 ?_
        refine g_iload_n hX 1 dX6_save_29 rfl ?_
        refine g_iconst hX 1 dX6_save_30 (by decide) ?_
        refine c_st_filled hX hA (cn s) hx.1 hx.2 (Or.inr rfl) dX6_save_31 ?_
        refine g_aload_n hX 0 dX6_save_32 rfl ?_
        refine c_g_Main_0 hX i_X6_save_wsX60 (List.mem_of_getElem? (i := 2) rfl) dX6_save_33 ?_
        refine c_g_Office_0 hX i_X6_save_wsX30 (List.mem_of_getElem? (i := 4) rfl) dX6_save_36 ?_
        refine g_top ((cpAll z ((cn s) + 1) 0) 0 0) (by simp [u2]) ?_
        refine ret _ _ _ _ dX6_save_39 ?_
        first | (simp [spSave, c1, c2]; done) | (simp [spSave, c1, c2, cpAll_0]; done) | grind [spSave]
      · -- on 9
        refine g_bipush hX (-2) dX6_save_9 (by decide) ?_
        refine ret _ _ _ _ dX6_save_11 ?_
        first | (simp [spSave, c1, c2]; done) | (simp [spSave, c1, c2, cpAll_0]; done) | grind [spSave]
def rm_X6_restore : Room := { frames := 2, cells := 0, slots := 0, locals := 43 }
theorem i_X6_restore_wsX30 : ∀ w ∈ wsX30, w ∈ wsX6_restore := fun w h => List.mem_cons_of_mem _ (List.mem_append_left _ (List.mem_append_left _ (List.mem_append_left _ (List.mem_append_right _ h))))
theorem i_X6_restore_wsX60 : ∀ w ∈ wsX60, w ∈ wsX6_restore := fun w h => List.mem_cons_of_mem _ (List.mem_append_left _ (List.mem_append_left _ (List.mem_append_left _ (List.mem_append_left _ (List.mem_append_right _ h)))))
theorem k_X6_restore_X3_copyFrom : CW rm_X6_restore wsX6_restore RX6 RX3 292 yX3_copyFrom cX3_copyFrom 3 none wsX3_copyFrom rm_X3_copyFrom 1 := ⟨gX6_restore_X3_copyFrom, ⟨_, rfl⟩, rfl, rfl, ⟨rfl, by decide +kernel, by decide +kernel, by decide +kernel⟩, by decide, by decide⟩
set_option maxHeartbeats 4000000 in
set_option maxRecDepth 100000 in
theorem c_X6_restore (l : Launch) (G : MG) (hA : Ap 203 G.2.2) (z : St) {s : Int32} (hb : ∀ o, o < 3 → ∀ a, a < 40 → z (20 * o + 18) a = 0 ∨ z (20 * o + 18) a = 1) (hcl : ∀ o, o < 3 → ∀ d, d < 60 → z (20 * o + 7) d = 0 ∨ z (20 * o + 7) d = 1) : CIc l G yX6_restore wsX6_restore rm_X6_restore [.ref (G.2.2 192), .int s] z (fun ρ ζ => ρ = (spRestore z s).1 ∧ ζ = (spRestore z s).2) := by
  refine ci_of (own := RX6) (cc := cX6_restore) (maxL := 2) (ret := .int) (by decide +kernel) rfl rfl ?_ (Nat.le_of_ble_eq_true rfl) (KQ_mv (ExC_mv G)) ?_
  · intro v z' _; rfl
  · intro X hX ret
    refine g_lv (lv' := [(0, .ref (G.2.2 192)), (1, .int s)]) rfl ?_
    refine g_iload_n hX 1 dX6_restore_0 rfl ?_
    refine g_if_lt hX 9 dX6_restore_1 (by decide) (fun c1 => ?_) (fun c1 => ?_)
    · -- jump 9
      refine g_bipush hX (-2) dX6_restore_9 (by decide) ?_
      refine ret _ _ _ _ dX6_restore_11 ?_
      first | (simp [spRestore, c1]; done) | grind [spRestore]
    · -- on 4
      refine g_iload_n hX 1 dX6_restore_4 rfl ?_
      refine g_iconst hX 2 dX6_restore_5 (by decide) ?_
      refine g_ic_lt hX 12 dX6_restore_6 (by decide) (fun c2 => ?_) (fun c2 => ?_)
      · -- jump 12
        have hx := rng (n := 2) (by decide) c1 c2
        refine g_aload_n hX 0 dX6_restore_12 rfl ?_
        refine c_g_Main_2 hX i_X6_restore_wsX60 (List.mem_of_getElem? (i := 1) rfl) dX6_restore_13 ?_
        refine g_iload_n hX 1 dX6_restore_16 rfl ?_
        refine c_ld_filled hX (cn s) hx.1 hx.2 dX6_restore_17 ?_
        refine g_if_ne hX 24 dX6_restore_18 (by decide) (fun c3 => ?_) (fun c3 => ?_)
        · -- jump 24
          refine g_aload_n hX 0 dX6_restore_24 rfl ?_
          refine c_g_Main_0 hX i_X6_restore_wsX60 (List.mem_of_getElem? (i := 2) rfl) dX6_restore_25 ?_
          refine g_aload_n hX 0 dX6_restore_28 rfl ?_
          refine c_g_Main_1 hX i_X6_restore_wsX60 (List.mem_of_getElem? (i := 3) rfl) dX6_restore_29 ?_
          refine g_iload_n hX 1 dX6_restore_32 rfl ?_
          refine c_ld_slots hX (cn s) hx.1 hx.2 dX6_restore_33 ?_
          refine g_cvvE hX (As := [.ref (G.2.2 (64 * ((cn s) + 1)))]) (rest := []) (c_X3_copyFrom l G hA z (o1 := 0) (o2 := ((cn s) + 1)) (h1 := (by omega)) (h2 := (by omega)) (h12 := (by omega)) (hb := (hb (cn s + 1) (by omega))) (hc := (hcl (cn s + 1) (by omega)))) k_X6_restore_X3_copyFrom rc_Office0 rfl rfl (Nat.le_of_ble_eq_true rfl) dX6_restore_34 ?_
          refine g_aload_n hX 0 dX6_restore_37 rfl ?_
          refine c_g_Main_0 hX i_X6_restore_wsX60 (List.mem_of_getElem? (i := 2) rfl) dX6_restore_38 ?_
          refine c_g_Office_0 hX i_X6_restore_wsX30 (List.mem_of_getElem? (i := 4) rfl) dX6_restore_41 ?_
          refine ret _ _ _ _ dX6_restore_44 ?_
          first | (simp [spRestore, c1, c2, c3]; done) | grind [spRestore]
        · -- on 21
          refine g_bipush hX (-5) dX6_restore_21 (by decide) ?_
          refine ret _ _ _ _ dX6_restore_23 ?_
          first | (simp [spRestore, c1, c2, c3]; done) | grind [spRestore]
      · -- on 9
        refine g_bipush hX (-2) dX6_restore_9 (by decide) ?_
        refine ret _ _ _ _ dX6_restore_11 ?_
        first | (simp [spRestore, c1, c2]; done) | grind [spRestore]
def rm_X6_wipe : Room := { frames := 0, cells := 0, slots := 0, locals := 0 }
theorem i_X6_wipe_wsX40 : ∀ w ∈ wsX40, w ∈ wsX6_wipe := fun w h => List.mem_cons_of_mem _ (List.mem_append_right _ h)
theorem i_X6_wipe_wsX60 : ∀ w ∈ wsX60, w ∈ wsX6_wipe := fun w h => List.mem_cons_of_mem _ (List.mem_append_left _ (List.mem_append_right _ h))
set_option maxHeartbeats 4000000 in
set_option maxRecDepth 100000 in
theorem c_X6_wipe (l : Launch) (G : MG) (hA : Ap 203 G.2.2) (z : St)   : CIc l G yX6_wipe wsX6_wipe rm_X6_wipe [.ref (G.2.2 192)] z (fun ρ ζ => ρ = (spWipe z).1 ∧ ζ = (spWipe z).2) := by
  refine ci_of (own := RX6) (cc := cX6_wipe) (maxL := 2) (ret := .int) (by decide +kernel) rfl rfl ?_ (Nat.le_of_ble_eq_true rfl) (KQ_mv (ExC_mv G)) ?_
  · intro v z' _; rfl
  · intro X hX ret
    refine g_lv (lv' := [(0, .ref (G.2.2 192))]) rfl ?_
    refine g_aload_n hX 0 dX6_wipe_0 rfl ?_
    refine c_g_Main_4 hX i_X6_wipe_wsX60 (List.mem_of_getElem? (i := 1) rfl) dX6_wipe_1 ?_
    refine c_g_Pad_1 hX i_X6_wipe_wsX40 (List.mem_of_getElem? (i := 2) rfl) dX6_wipe_4 ?_
    refine g_istore_n hX [(1, .int (z 69 0)), (0, .ref (G.2.2 192))] dX6_wipe_7 (by decide) rfl ?_
    refine g_aload_n hX 1 dX6_wipe_8 rfl ?_
    refine c_g_Main_4 hX i_X6_wipe_wsX60 (List.mem_of_getElem? (i := 1) rfl) dX6_wipe_9 ?_
    refine g_iconst hX 0 dX6_wipe_12 (by decide) ?_
    refine c_p_Pad_1 hX hA i_X6_wipe_wsX40 (List.mem_of_getElem? (i := 2) rfl) dX6_wipe_13 ?_
    refine g_iload_n hX 0 dX6_wipe_16 rfl ?_
    refine ret _ _ _ _ dX6_wipe_17 ?_
    exact ⟨rfl, rfl⟩
