def rm_X0_isOf : Room := { frames := 0, cells := 0, slots := 0, locals := 0 }
theorem i_X0_isOf_wsX00 : ∀ w ∈ wsX00, w ∈ wsX0_isOf := fun w h => List.mem_cons_of_mem _ (List.mem_append_right _ h)
set_option maxHeartbeats 4000000 in
set_option maxRecDepth 100000 in
theorem c_X0_isOf (l : Launch) (G : MG) (z : St) {a : Nat} {x1 : Int32} {x2 : Int32} (ha : a < 40) : CIc l G yX0_isOf wsX0_isOf rm_X0_isOf [.ref (G.2.2 (24 + a)), .int x1, .int x2] z (fun ρ ζ => ρ = bi (z 13 a = x2 ∧ (x1 = -1 ∨ x1 = z 12 a)) ∧ ζ = z) := by
  refine ci_of (own := RX0) (cc := cX0_isOf) (maxL := 3) (ret := .boolean) (by decide +kernel) rfl rfl ?_ (Nat.le_of_ble_eq_true rfl) (KQ_mv (ExC_mv G)) ?_
  · rintro v z' ⟨rfl, -⟩; exact nz_bi _
  · intro X hX ret
    refine g_lv (lv' := [(0, .ref (G.2.2 (24 + a))), (1, .int x1), (2, .int x2)]) rfl ?_
    refine g_aload_n hX 0 dX0_isOf_0 rfl ?_
    refine c_g_Application_2 hX (by omega) i_X0_isOf_wsX00 (List.mem_of_getElem? (i := 1) rfl) dX0_isOf_1 ?_
    refine g_iload_n hX 2 dX0_isOf_4 rfl ?_
    refine g_ic_ne hX 25 dX0_isOf_5 (by decide) (fun c1 => ?_) (fun c1 => ?_)
    · -- jump 25
      refine g_iconst hX 0 dX0_isOf_25 (by decide) ?_
      refine ret _ _ _ _ dX0_isOf_26 ?_
      refine ⟨?_, rfl⟩
      first | rfl | (simp [bi, c1]; done) | grind [bi]
    · -- on 8
      refine g_iload_n hX 1 dX0_isOf_8 rfl ?_
      refine g_iconst hX (-1) dX0_isOf_9 (by decide) ?_
      refine g_ic_eq hX 21 dX0_isOf_10 (by decide) (fun c2 => ?_) (fun c2 => ?_)
      · -- jump 21
        refine g_iconst hX 1 dX0_isOf_21 (by decide) ?_
        refine g_goto hX 26 dX0_isOf_22 (by decide) ?_
        refine ret _ _ _ _ dX0_isOf_26 ?_
        refine ⟨?_, rfl⟩
        first | rfl | (simp [bi, c1, c2]; done) | grind [bi]
      · -- on 13
        refine g_iload_n hX 1 dX0_isOf_13 rfl ?_
        refine g_aload_n hX 0 dX0_isOf_14 rfl ?_
        refine c_g_Application_1 hX (by omega) i_X0_isOf_wsX00 (List.mem_of_getElem? (i := 2) rfl) dX0_isOf_15 ?_
        refine g_ic_ne hX 25 dX0_isOf_18 (by decide) (fun c3 => ?_) (fun c3 => ?_)
        · -- jump 25
          refine g_iconst hX 0 dX0_isOf_25 (by decide) ?_
          refine ret _ _ _ _ dX0_isOf_26 ?_
          refine ⟨?_, rfl⟩
          first | rfl | (simp [bi, c1, c2, c3]; done) | grind [bi]
        · -- on 21
          refine g_iconst hX 1 dX0_isOf_21 (by decide) ?_
          refine g_goto hX 26 dX0_isOf_22 (by decide) ?_
          refine ret _ _ _ _ dX0_isOf_26 ?_
          refine ⟨?_, rfl⟩
          first | rfl | (simp [bi, c1, c2, c3]; done) | grind [bi]
def rm_X0_isBy : Room := { frames := 0, cells := 0, slots := 0, locals := 0 }
theorem i_X0_isBy_wsX00 : ∀ w ∈ wsX00, w ∈ wsX0_isBy := fun w h => List.mem_cons_of_mem _ (List.mem_append_right _ h)
set_option maxHeartbeats 4000000 in
set_option maxRecDepth 100000 in
theorem c_X0_isBy (l : Launch) (G : MG) (z : St) {a : Nat} {x1 : Int32} (ha : a < 40) : CIc l G yX0_isBy wsX0_isBy rm_X0_isBy [.ref (G.2.2 (24 + a)), .int x1] z (fun ρ ζ => ρ = bi (byP z a x1) ∧ ζ = z) := by
  refine ci_of (own := RX0) (cc := cX0_isBy) (maxL := 2) (ret := .boolean) (by decide +kernel) rfl rfl ?_ (Nat.le_of_ble_eq_true rfl) (KQ_mv (ExC_mv G)) ?_
  · rintro v z' ⟨rfl, -⟩; exact nz_bi _
  · intro X hX ret
    refine g_lv (lv' := [(0, .ref (G.2.2 (24 + a))), (1, .int x1)]) rfl ?_
    refine g_iload_n hX 1 dX0_isBy_0 rfl ?_
    refine g_iconst hX (-1) dX0_isBy_1 (by decide) ?_
    refine g_ic_eq hX 13 dX0_isBy_2 (by decide) (fun c1 => ?_) (fun c1 => ?_)
    · -- jump 13
      refine g_iconst hX 1 dX0_isBy_13 (by decide) ?_
      refine g_goto hX 18 dX0_isBy_14 (by decide) ?_
      refine ret _ _ _ _ dX0_isBy_18 ?_
      refine ⟨?_, rfl⟩
      first | rfl | (simp [bi, c1]; done) | grind [bi]
    · -- on 5
      refine g_iload_n hX 1 dX0_isBy_5 rfl ?_
      refine g_aload_n hX 0 dX0_isBy_6 rfl ?_
      refine c_g_Application_0 hX (by omega) i_X0_isBy_wsX00 (List.mem_of_getElem? (i := 1) rfl) dX0_isBy_7 ?_
      refine g_ic_ne hX 17 dX0_isBy_10 (by decide) (fun c2 => ?_) (fun c2 => ?_)
      · -- jump 17
        refine g_iconst hX 0 dX0_isBy_17 (by decide) ?_
        refine ret _ _ _ _ dX0_isBy_18 ?_
        refine ⟨?_, rfl⟩
        first | rfl | (simp [bi, c1, c2]; done) | grind [bi]
      · -- on 13
        refine g_iconst hX 1 dX0_isBy_13 (by decide) ?_
        refine g_goto hX 18 dX0_isBy_14 (by decide) ?_
        refine ret _ _ _ _ dX0_isBy_18 ?_
        refine ⟨?_, rfl⟩
        first | rfl | (simp [bi, c1, c2]; done) | grind [bi]
def rm_X0_isAlive : Room := { frames := 0, cells := 0, slots := 0, locals := 0 }
theorem i_X0_isAlive_wsX00 : ∀ w ∈ wsX00, w ∈ wsX0_isAlive := fun w h => List.mem_cons_of_mem _ (List.mem_append_right _ h)
set_option maxHeartbeats 4000000 in
set_option maxRecDepth 100000 in
theorem c_X0_isAlive (l : Launch) (G : MG) (z : St) {a : Nat} (ha : a < 40) : CIc l G yX0_isAlive wsX0_isAlive rm_X0_isAlive [.ref (G.2.2 (24 + a))] z (fun ρ ζ => ρ = bi (aliveP z a) ∧ ζ = z) := by
  refine ci_of (own := RX0) (cc := cX0_isAlive) (maxL := 1) (ret := .boolean) (by decide +kernel) rfl rfl ?_ (Nat.le_of_ble_eq_true rfl) (KQ_mv (ExC_mv G)) ?_
  · rintro v z' ⟨rfl, -⟩; exact nz_bi _
  · intro X hX ret
    refine g_lv (lv' := [(0, .ref (G.2.2 (24 + a)))]) rfl ?_
    refine g_aload_n hX 0 dX0_isAlive_0 rfl ?_
    refine c_g_Application_5 hX (by omega) i_X0_isAlive_wsX00 (List.mem_of_getElem? (i := 1) rfl) dX0_isAlive_1 ?_
    refine g_if_eq hX 23 dX0_isAlive_4 (by decide) (fun c1 => ?_) (fun c1 => ?_)
    · -- jump 23
      refine g_iconst hX 1 dX0_isAlive_23 (by decide) ?_
      refine g_goto hX 28 dX0_isAlive_24 (by decide) ?_
      refine ret _ _ _ _ dX0_isAlive_28 ?_
      refine ⟨?_, rfl⟩
      first | rfl | (simp [bi, c1]; done) | grind [bi]
    · -- on 7
      refine g_aload_n hX 0 dX0_isAlive_7 rfl ?_
      refine c_g_Application_5 hX (by omega) i_X0_isAlive_wsX00 (List.mem_of_getElem? (i := 1) rfl) dX0_isAlive_8 ?_
      refine g_iconst hX 1 dX0_isAlive_11 (by decide) ?_
      refine g_ic_eq hX 23 dX0_isAlive_12 (by decide) (fun c2 => ?_) (fun c2 => ?_)
      · -- jump 23
        refine g_iconst hX 1 dX0_isAlive_23 (by decide) ?_
        refine g_goto hX 28 dX0_isAlive_24 (by decide) ?_
        refine ret _ _ _ _ dX0_isAlive_28 ?_
        refine ⟨?_, rfl⟩
        first | rfl | (simp [bi, c1, c2]; done) | grind [bi]
      · -- on 15
        refine g_aload_n hX 0 dX0_isAlive_15 rfl ?_
        refine c_g_Application_5 hX (by omega) i_X0_isAlive_wsX00 (List.mem_of_getElem? (i := 1) rfl) dX0_isAlive_16 ?_
        refine g_iconst hX 2 dX0_isAlive_19 (by decide) ?_
        refine g_ic_ne hX 27 dX0_isAlive_20 (by decide) (fun c3 => ?_) (fun c3 => ?_)
        · -- jump 27
          refine g_iconst hX 0 dX0_isAlive_27 (by decide) ?_
          refine ret _ _ _ _ dX0_isAlive_28 ?_
          refine ⟨?_, rfl⟩
          first | rfl | (simp [bi, c1, c2, c3]; done) | grind [bi]
        · -- on 23
          refine g_iconst hX 1 dX0_isAlive_23 (by decide) ?_
          refine g_goto hX 28 dX0_isAlive_24 (by decide) ?_
          refine ret _ _ _ _ dX0_isAlive_28 ?_
          refine ⟨?_, rfl⟩
          first | rfl | (simp [bi, c1, c2, c3]; done) | grind [bi]
def rm_X0_takesPlaces : Room := { frames := 0, cells := 0, slots := 0, locals := 0 }
theorem i_X0_takesPlaces_wsX00 : ∀ w ∈ wsX00, w ∈ wsX0_takesPlaces := fun w h => List.mem_cons_of_mem _ (List.mem_append_right _ h)
set_option maxHeartbeats 4000000 in
set_option maxRecDepth 100000 in
theorem c_X0_takesPlaces (l : Launch) (G : MG) (z : St) {a : Nat} (ha : a < 40) : CIc l G yX0_takesPlaces wsX0_takesPlaces rm_X0_takesPlaces [.ref (G.2.2 (24 + a))] z (fun ρ ζ => ρ = bi (takesP z a) ∧ ζ = z) := by
  refine ci_of (own := RX0) (cc := cX0_takesPlaces) (maxL := 1) (ret := .boolean) (by decide +kernel) rfl rfl ?_ (Nat.le_of_ble_eq_true rfl) (KQ_mv (ExC_mv G)) ?_
  · rintro v z' ⟨rfl, -⟩; exact nz_bi _
  · intro X hX ret
    refine g_lv (lv' := [(0, .ref (G.2.2 (24 + a)))]) rfl ?_
    refine g_aload_n hX 0 dX0_takesPlaces_0 rfl ?_
    refine c_g_Application_5 hX (by omega) i_X0_takesPlaces_wsX00 (List.mem_of_getElem? (i := 1) rfl) dX0_takesPlaces_1 ?_
    refine g_iconst hX 1 dX0_takesPlaces_4 (by decide) ?_
    refine g_ic_eq hX 25 dX0_takesPlaces_5 (by decide) (fun c1 => ?_) (fun c1 => ?_)
    · -- jump 25
      refine g_iconst hX 1 dX0_takesPlaces_25 (by decide) ?_
      refine g_goto hX 30 dX0_takesPlaces_26 (by decide) ?_
      refine ret _ _ _ _ dX0_takesPlaces_30 ?_
      refine ⟨?_, rfl⟩
      first | rfl | (simp [bi, c1]; done) | grind [bi]
    · -- on 8
      refine g_aload_n hX 0 dX0_takesPlaces_8 rfl ?_
      refine c_g_Application_5 hX (by omega) i_X0_takesPlaces_wsX00 (List.mem_of_getElem? (i := 1) rfl) dX0_takesPlaces_9 ?_
      refine g_iconst hX 5 dX0_takesPlaces_12 (by decide) ?_
      refine g_ic_eq hX 25 dX0_takesPlaces_13 (by decide) (fun c2 => ?_) (fun c2 => ?_)
      · -- jump 25
        refine g_iconst hX 1 dX0_takesPlaces_25 (by decide) ?_
        refine g_goto hX 30 dX0_takesPlaces_26 (by decide) ?_
        refine ret _ _ _ _ dX0_takesPlaces_30 ?_
        refine ⟨?_, rfl⟩
        first | rfl | (simp [bi, c1, c2]; done) | grind [bi]
      · -- on 16
        refine g_aload_n hX 0 dX0_takesPlaces_16 rfl ?_
        refine c_g_Application_5 hX (by omega) i_X0_takesPlaces_wsX00 (List.mem_of_getElem? (i := 1) rfl) dX0_takesPlaces_17 ?_
        refine g_bipush hX 6 dX0_takesPlaces_20 (by decide) ?_
        refine g_ic_ne hX 29 dX0_takesPlaces_22 (by decide) (fun c3 => ?_) (fun c3 => ?_)
        · -- jump 29
          refine g_iconst hX 0 dX0_takesPlaces_29 (by decide) ?_
          refine ret _ _ _ _ dX0_takesPlaces_30 ?_
          refine ⟨?_, rfl⟩
          first | rfl | (simp [bi, c1, c2, c3]; done) | grind [bi]
        · -- on 25
          refine g_iconst hX 1 dX0_takesPlaces_25 (by decide) ?_
          refine g_goto hX 30 dX0_takesPlaces_26 (by decide) ?_
          refine ret _ _ _ _ dX0_takesPlaces_30 ?_
          refine ⟨?_, rfl⟩
          first | rfl | (simp [bi, c1, c2, c3]; done) | grind [bi]
def rm_X1_isBarredOn : Room := { frames := 0, cells := 0, slots := 0, locals := 0 }
theorem i_X1_isBarredOn_wsX10 : ∀ w ∈ wsX10, w ∈ wsX1_isBarredOn := fun w h => List.mem_cons_of_mem _ (List.mem_append_right _ h)
set_option maxHeartbeats 4000000 in
set_option maxRecDepth 100000 in
theorem c_X1_isBarredOn (l : Launch) (G : MG) (z : St) {i : Nat} {x1 : Int32} (hi : i < 12) : CIc l G yX1_isBarredOn wsX1_isBarredOn rm_X1_isBarredOn [.ref (G.2.2 (12 + i)), .int x1] z (fun ρ ζ => ρ = bi (x1 ≤ z 10 i) ∧ ζ = z) := by
  refine ci_of (own := RX1) (cc := cX1_isBarredOn) (maxL := 2) (ret := .boolean) (by decide +kernel) rfl rfl ?_ (Nat.le_of_ble_eq_true rfl) (KQ_mv (ExC_mv G)) ?_
  · rintro v z' ⟨rfl, -⟩; exact nz_bi _
  · intro X hX ret
    refine g_lv (lv' := [(0, .ref (G.2.2 (12 + i))), (1, .int x1)]) rfl ?_
    refine g_aload_n hX 0 dX1_isBarredOn_0 rfl ?_
    refine c_g_Climber_2 hX (by omega) i_X1_isBarredOn_wsX10 (List.mem_of_getElem? (i := 1) rfl) dX1_isBarredOn_1 ?_
    refine g_iload_n hX 1 dX1_isBarredOn_4 rfl ?_
    refine g_ic_lt hX 12 dX1_isBarredOn_5 (by decide) (fun c1 => ?_) (fun c1 => ?_)
    · -- jump 12
      refine g_iconst hX 0 dX1_isBarredOn_12 (by decide) ?_
      refine ret _ _ _ _ dX1_isBarredOn_13 ?_
      refine ⟨?_, rfl⟩
      first | rfl | (simp [bi, c1]; done) | grind [bi]
    · -- on 8
      refine g_iconst hX 1 dX1_isBarredOn_8 (by decide) ?_
      refine g_goto hX 13 dX1_isBarredOn_9 (by decide) ?_
      refine ret _ _ _ _ dX1_isBarredOn_13 ?_
      refine ⟨?_, rfl⟩
      first | rfl | (simp [bi, c1]; done) | grind [bi]
def rm_X6_isDay : Room := { frames := 0, cells := 0, slots := 0, locals := 0 }
set_option maxHeartbeats 4000000 in
set_option maxRecDepth 100000 in
theorem c_X6_isDay (l : Launch) (G : MG) (z : St) {x1 : Int32}  : CIc l G yX6_isDay wsX6_isDay rm_X6_isDay [.int x1] z (fun ρ ζ => ρ = bi (dayP x1) ∧ ζ = z) := by
  refine ci_of (own := RX6) (cc := cX6_isDay) (maxL := 1) (ret := .boolean) (by decide +kernel) rfl rfl ?_ (Nat.le_of_ble_eq_true rfl) (KQ_mv (ExC_mv G)) ?_
  · rintro v z' ⟨rfl, -⟩; exact nz_bi _
  · intro X hX ret
    refine g_lv (lv' := [(0, .int x1)]) rfl ?_
    refine g_iload_n hX 0 dX6_isDay_0 rfl ?_
    refine g_if_lt hX 14 dX6_isDay_1 (by decide) (fun c1 => ?_) (fun c1 => ?_)
    · -- jump 14
      refine g_iconst hX 0 dX6_isDay_14 (by decide) ?_
      refine ret _ _ _ _ dX6_isDay_15 ?_
      refine ⟨?_, rfl⟩
      first | rfl | (simp [bi, c1]; done) | grind [bi]
    · -- on 4
      refine g_iload_n hX 0 dX6_isDay_4 rfl ?_
      refine g_bipush hX 60 dX6_isDay_5 (by decide) ?_
      refine g_ic_ge hX 14 dX6_isDay_7 (by decide) (fun c2 => ?_) (fun c2 => ?_)
      · -- jump 14
        refine g_iconst hX 0 dX6_isDay_14 (by decide) ?_
        refine ret _ _ _ _ dX6_isDay_15 ?_
        refine ⟨?_, rfl⟩
        first | rfl | (simp [bi, c1, c2]; done) | grind [bi]
      · -- on 10
        refine g_iconst hX 1 dX6_isDay_10 (by decide) ?_
        refine g_goto hX 15 dX6_isDay_11 (by decide) ?_
        refine ret _ _ _ _ dX6_isDay_15 ?_
        refine ⟨?_, rfl⟩
        first | rfl | (simp [bi, c1, c2]; done) | grind [bi]
def rm_X3_hasRoute : Room := { frames := 0, cells := 0, slots := 0, locals := 0 }
theorem i_X3_hasRoute_wsX30 : ∀ w ∈ wsX30, w ∈ wsX3_hasRoute := fun w h => List.mem_cons_of_mem _ (List.mem_append_right _ h)
set_option maxHeartbeats 4000000 in
set_option maxRecDepth 100000 in
theorem c_X3_hasRoute (l : Launch) (G : MG) (z : St) {x1 : Int32}  : CIc l G yX3_hasRoute wsX3_hasRoute rm_X3_hasRoute [.ref (G.2.2 0), .int x1] z (fun ρ ζ => ρ = bi (routeP z x1) ∧ ζ = z) := by
  refine ci_of (own := RX3) (cc := cX3_hasRoute) (maxL := 2) (ret := .boolean) (by decide +kernel) rfl rfl ?_ (Nat.le_of_ble_eq_true rfl) (KQ_mv (ExC_mv G)) ?_
  · rintro v z' ⟨rfl, -⟩; exact nz_bi _
  · intro X hX ret
    refine g_lv (lv' := [(0, .ref (G.2.2 0)), (1, .int x1)]) rfl ?_
    refine g_iload_n hX 1 dX3_hasRoute_0 rfl ?_
    refine g_if_lt hX 16 dX3_hasRoute_1 (by decide) (fun c1 => ?_) (fun c1 => ?_)
    · -- jump 16
      refine g_iconst hX 0 dX3_hasRoute_16 (by decide) ?_
      refine ret _ _ _ _ dX3_hasRoute_17 ?_
      refine ⟨?_, rfl⟩
      first | rfl | (simp [bi, c1]; done) | grind [bi]
    · -- on 4
      refine g_iload_n hX 1 dX3_hasRoute_4 rfl ?_
      refine g_aload_n hX 0 dX3_hasRoute_5 rfl ?_
      refine c_g_Office_1 hX i_X3_hasRoute_wsX30 (List.mem_of_getElem? (i := 1) rfl) dX3_hasRoute_6 ?_
      refine g_ic_ge hX 16 dX3_hasRoute_9 (by decide) (fun c2 => ?_) (fun c2 => ?_)
      · -- jump 16
        refine g_iconst hX 0 dX3_hasRoute_16 (by decide) ?_
        refine ret _ _ _ _ dX3_hasRoute_17 ?_
        refine ⟨?_, rfl⟩
        first | rfl | (simp [bi, c1, c2]; done) | grind [bi]
      · -- on 12
        refine g_iconst hX 1 dX3_hasRoute_12 (by decide) ?_
        refine g_goto hX 17 dX3_hasRoute_13 (by decide) ?_
        refine ret _ _ _ _ dX3_hasRoute_17 ?_
        refine ⟨?_, rfl⟩
        first | rfl | (simp [bi, c1, c2]; done) | grind [bi]
def rm_X3_hasClimber : Room := { frames := 0, cells := 0, slots := 0, locals := 0 }
theorem i_X3_hasClimber_wsX30 : ∀ w ∈ wsX30, w ∈ wsX3_hasClimber := fun w h => List.mem_cons_of_mem _ (List.mem_append_right _ h)
set_option maxHeartbeats 4000000 in
set_option maxRecDepth 100000 in
theorem c_X3_hasClimber (l : Launch) (G : MG) (z : St) {x1 : Int32}  : CIc l G yX3_hasClimber wsX3_hasClimber rm_X3_hasClimber [.ref (G.2.2 0), .int x1] z (fun ρ ζ => ρ = bi (climP z x1) ∧ ζ = z) := by
  refine ci_of (own := RX3) (cc := cX3_hasClimber) (maxL := 2) (ret := .boolean) (by decide +kernel) rfl rfl ?_ (Nat.le_of_ble_eq_true rfl) (KQ_mv (ExC_mv G)) ?_
  · rintro v z' ⟨rfl, -⟩; exact nz_bi _
  · intro X hX ret
    refine g_lv (lv' := [(0, .ref (G.2.2 0)), (1, .int x1)]) rfl ?_
    refine g_iload_n hX 1 dX3_hasClimber_0 rfl ?_
    refine g_if_lt hX 16 dX3_hasClimber_1 (by decide) (fun c1 => ?_) (fun c1 => ?_)
    · -- jump 16
      refine g_iconst hX 0 dX3_hasClimber_16 (by decide) ?_
      refine ret _ _ _ _ dX3_hasClimber_17 ?_
      refine ⟨?_, rfl⟩
      first | rfl | (simp [bi, c1]; done) | grind [bi]
    · -- on 4
      refine g_iload_n hX 1 dX3_hasClimber_4 rfl ?_
      refine g_aload_n hX 0 dX3_hasClimber_5 rfl ?_
      refine c_g_Office_2 hX i_X3_hasClimber_wsX30 (List.mem_of_getElem? (i := 1) rfl) dX3_hasClimber_6 ?_
      refine g_ic_ge hX 16 dX3_hasClimber_9 (by decide) (fun c2 => ?_) (fun c2 => ?_)
      · -- jump 16
        refine g_iconst hX 0 dX3_hasClimber_16 (by decide) ?_
        refine ret _ _ _ _ dX3_hasClimber_17 ?_
        refine ⟨?_, rfl⟩
        first | rfl | (simp [bi, c1, c2]; done) | grind [bi]
      · -- on 12
        refine g_iconst hX 1 dX3_hasClimber_12 (by decide) ?_
        refine g_goto hX 17 dX3_hasClimber_13 (by decide) ?_
        refine ret _ _ _ _ dX3_hasClimber_17 ?_
        refine ⟨?_, rfl⟩
        first | rfl | (simp [bi, c1, c2]; done) | grind [bi]
def rm_X3_hasApplication : Room := { frames := 0, cells := 0, slots := 0, locals := 0 }
theorem i_X3_hasApplication_wsX30 : ∀ w ∈ wsX30, w ∈ wsX3_hasApplication := fun w h => List.mem_cons_of_mem _ (List.mem_append_right _ h)
set_option maxHeartbeats 4000000 in
set_option maxRecDepth 100000 in
theorem c_X3_hasApplication (l : Launch) (G : MG) (z : St) {x1 : Int32}  : CIc l G yX3_hasApplication wsX3_hasApplication rm_X3_hasApplication [.ref (G.2.2 0), .int x1] z (fun ρ ζ => ρ = bi (appP z x1) ∧ ζ = z) := by
  refine ci_of (own := RX3) (cc := cX3_hasApplication) (maxL := 2) (ret := .boolean) (by decide +kernel) rfl rfl ?_ (Nat.le_of_ble_eq_true rfl) (KQ_mv (ExC_mv G)) ?_
  · rintro v z' ⟨rfl, -⟩; exact nz_bi _
  · intro X hX ret
    refine g_lv (lv' := [(0, .ref (G.2.2 0)), (1, .int x1)]) rfl ?_
    refine g_iload_n hX 1 dX3_hasApplication_0 rfl ?_
    refine g_if_lt hX 16 dX3_hasApplication_1 (by decide) (fun c1 => ?_) (fun c1 => ?_)
    · -- jump 16
      refine g_iconst hX 0 dX3_hasApplication_16 (by decide) ?_
      refine ret _ _ _ _ dX3_hasApplication_17 ?_
      refine ⟨?_, rfl⟩
      first | rfl | (simp [bi, c1]; done) | grind [bi]
    · -- on 4
      refine g_iload_n hX 1 dX3_hasApplication_4 rfl ?_
      refine g_aload_n hX 0 dX3_hasApplication_5 rfl ?_
      refine c_g_Office_3 hX i_X3_hasApplication_wsX30 (List.mem_of_getElem? (i := 1) rfl) dX3_hasApplication_6 ?_
      refine g_ic_ge hX 16 dX3_hasApplication_9 (by decide) (fun c2 => ?_) (fun c2 => ?_)
      · -- jump 16
        refine g_iconst hX 0 dX3_hasApplication_16 (by decide) ?_
        refine ret _ _ _ _ dX3_hasApplication_17 ?_
        refine ⟨?_, rfl⟩
        first | rfl | (simp [bi, c1, c2]; done) | grind [bi]
      · -- on 12
        refine g_iconst hX 1 dX3_hasApplication_12 (by decide) ?_
        refine g_goto hX 17 dX3_hasApplication_13 (by decide) ?_
        refine ret _ _ _ _ dX3_hasApplication_17 ?_
        refine ⟨?_, rfl⟩
        first | rfl | (simp [bi, c1, c2]; done) | grind [bi]
def rm_X3_hasRouteAndDay : Room := { frames := 1, cells := 0, slots := 0, locals := 21 }
theorem k_X3_hasRouteAndDay_X3_hasRoute : CW rm_X3_hasRouteAndDay wsX3_hasRouteAndDay RX3 RX3 66 yX3_hasRoute cX3_hasRoute 2 (some .boolean) wsX3_hasRoute rm_X3_hasRoute 1 := ⟨gX3_hasRouteAndDay_X3_hasRoute, ⟨_, rfl⟩, rfl, rfl, ⟨rfl, by decide +kernel, by decide +kernel, by decide +kernel⟩, by decide, by decide⟩
theorem k_X3_hasRouteAndDay_X6_isDay : CN rm_X3_hasRouteAndDay wsX3_hasRouteAndDay yX6_isDay cX6_isDay 1 (some .boolean) wsX6_isDay rm_X6_isDay 1 := ⟨gX3_hasRouteAndDay_X6_isDay_n70, ⟨_, rfl⟩, rfl, rfl, ⟨by decide +kernel, by decide +kernel, by decide +kernel⟩, ⟨by decide, by decide⟩, (List.mem_of_getElem? (i := 7) rfl), (List.mem_of_getElem? (i := 8) rfl)⟩
set_option maxHeartbeats 4000000 in
set_option maxRecDepth 100000 in
theorem c_X3_hasRouteAndDay (l : Launch) (G : MG) (z : St) {x1 : Int32} {x2 : Int32}  : CIc l G yX3_hasRouteAndDay wsX3_hasRouteAndDay rm_X3_hasRouteAndDay [.ref (G.2.2 0), .int x1, .int x2] z (fun ρ ζ => ρ = bi (routeP z x1 ∧ dayP x2) ∧ ζ = z) := by
  refine ci_of (own := RX3) (cc := cX3_hasRouteAndDay) (maxL := 3) (ret := .boolean) (by decide +kernel) rfl rfl ?_ (Nat.le_of_ble_eq_true rfl) (KQ_mv (ExC_mv G)) ?_
  · rintro v z' ⟨rfl, -⟩; exact nz_bi _
  · intro X hX ret
    refine g_lv (lv' := [(0, .ref (G.2.2 0)), (1, .int x1), (2, .int x2)]) rfl ?_
    refine g_aload_n hX 0 dX3_hasRouteAndDay_0 rfl ?_
    refine g_iload_n hX 1 dX3_hasRouteAndDay_1 rfl ?_
    refine g_cvE hX (As := [.int x1]) (rest := []) (c_X3_hasRoute l G z (x1 := x1) ) k_X3_hasRouteAndDay_X3_hasRoute rc_Office0 rfl rfl (Nat.le_of_ble_eq_true rfl) dX3_hasRouteAndDay_2 ?_
    refine g_bi_eq hX 19 dX3_hasRouteAndDay_5 (by decide) (fun c1 => ?_) (fun c1 => ?_)
    · -- jump 19
      refine g_iconst hX 0 dX3_hasRouteAndDay_19 (by decide) ?_
      refine ret _ _ _ _ dX3_hasRouteAndDay_20 ?_
      refine ⟨?_, rfl⟩
      first | rfl | (simp [bi, c1]; done) | grind [bi]
    · -- on 8
      refine g_iload_n hX 2 dX3_hasRouteAndDay_8 rfl ?_
      refine g_cnE hX (As := [.int x2]) (rest := []) (c_X6_isDay l G z (x1 := x2) ) k_X3_hasRouteAndDay_X6_isDay (fun _ h => h.2.1) rfl rfl (Nat.le_of_ble_eq_true rfl) dX3_hasRouteAndDay_9 ?_
      refine g_bi_eq hX 19 dX3_hasRouteAndDay_12 (by decide) (fun c2 => ?_) (fun c2 => ?_)
      · -- jump 19
        refine g_iconst hX 0 dX3_hasRouteAndDay_19 (by decide) ?_
        refine ret _ _ _ _ dX3_hasRouteAndDay_20 ?_
        refine ⟨?_, rfl⟩
        first | rfl | (simp [bi, c1, c2]; done) | grind [bi]
      · -- on 15
        refine g_iconst hX 1 dX3_hasRouteAndDay_15 (by decide) ?_
        refine g_goto hX 20 dX3_hasRouteAndDay_16 (by decide) ?_
        refine ret _ _ _ _ dX3_hasRouteAndDay_20 ?_
        refine ⟨?_, rfl⟩
        first | rfl | (simp [bi, c1, c2]; done) | grind [bi]
def rm_X3_isOpen : Room := { frames := 1, cells := 0, slots := 0, locals := 20 }
theorem i_X3_isOpen_wsX30 : ∀ w ∈ wsX30, w ∈ wsX3_isOpen := fun w h => List.mem_cons_of_mem _ (List.mem_append_right _ h)
theorem k_X3_isOpen_X6_isDay : CN rm_X3_isOpen wsX3_isOpen yX6_isDay cX6_isDay 1 (some .boolean) wsX6_isDay rm_X6_isDay 1 := ⟨gX3_isOpen_X6_isDay_n70, ⟨_, rfl⟩, rfl, rfl, ⟨by decide +kernel, by decide +kernel, by decide +kernel⟩, ⟨by decide, by decide⟩, (List.mem_of_getElem? (i := 3) rfl), (List.mem_of_getElem? (i := 4) rfl)⟩
set_option maxHeartbeats 4000000 in
set_option maxRecDepth 100000 in
theorem c_X3_isOpen (l : Launch) (G : MG) (z : St) {x1 : Int32}  : CIc l G yX3_isOpen wsX3_isOpen rm_X3_isOpen [.ref (G.2.2 0), .int x1] z (fun ρ ζ => ρ = bi (openP z x1) ∧ ζ = z) := by
  refine ci_of (own := RX3) (cc := cX3_isOpen) (maxL := 2) (ret := .boolean) (by decide +kernel) rfl rfl ?_ (Nat.le_of_ble_eq_true rfl) (KQ_mv (ExC_mv G)) ?_
  · rintro v z' ⟨rfl, -⟩; exact nz_bi _
  · intro X hX ret
    refine g_lv (lv' := [(0, .ref (G.2.2 0)), (1, .int x1)]) rfl ?_
    refine g_iload_n hX 1 dX3_isOpen_0 rfl ?_
    refine g_aload_n hX 0 dX3_isOpen_1 rfl ?_
    refine c_g_Office_0 hX i_X3_isOpen_wsX30 (List.mem_of_getElem? (i := 1) rfl) dX3_isOpen_2 ?_
    refine g_ic_lt hX 28 dX3_isOpen_5 (by decide) (fun c1 => ?_) (fun c1 => ?_)
    · -- jump 28
      refine g_iconst hX 0 dX3_isOpen_28 (by decide) ?_
      refine ret _ _ _ _ dX3_isOpen_29 ?_
      refine ⟨?_, rfl⟩
      first | rfl | (simp [bi, c1]; done) | grind [bi]
    · -- on 8
      refine g_iload_n hX 1 dX3_isOpen_8 rfl ?_
      refine g_cnE hX (As := [.int x1]) (rest := []) (c_X6_isDay l G z (x1 := x1) ) k_X3_isOpen_X6_isDay (fun _ h => h.2.1) rfl rfl (Nat.le_of_ble_eq_true rfl) dX3_isOpen_9 ?_
      refine g_bi_eq hX 28 dX3_isOpen_12 (by decide) (fun c2 => ?_) (fun c2 => ?_)
      · -- jump 28
        refine g_iconst hX 0 dX3_isOpen_28 (by decide) ?_
        refine ret _ _ _ _ dX3_isOpen_29 ?_
        refine ⟨?_, rfl⟩
        first | rfl | (simp [bi, c1, c2]; done) | grind [bi]
      · -- on 15
        refine g_aload_n hX 0 dX3_isOpen_15 rfl ?_
        refine c_g_Office_7 hX i_X3_isOpen_wsX30 (List.mem_of_getElem? (i := 2) rfl) dX3_isOpen_16 ?_
        refine g_iload_n hX 1 dX3_isOpen_19 rfl ?_
        have e1 := rng0 (n := 60) (by decide) c2.1 c2.2
        refine c_ld_closed hX (cn x1) e1.1 e1.2 dX3_isOpen_20 ?_
        refine g_if_ne hX 28 dX3_isOpen_21 (by decide) (fun c3 => ?_) (fun c3 => ?_)
        · -- jump 28
          refine g_iconst hX 0 dX3_isOpen_28 (by decide) ?_
          refine ret _ _ _ _ dX3_isOpen_29 ?_
          refine ⟨?_, rfl⟩
          first | rfl | (simp [bi, c1, c2, c3]; done) | grind [bi]
        · -- on 24
          refine g_iconst hX 1 dX3_isOpen_24 (by decide) ?_
          refine g_goto hX 29 dX3_isOpen_25 (by decide) ?_
          refine ret _ _ _ _ dX3_isOpen_29 ?_
          refine ⟨?_, rfl⟩
          first | rfl | (simp [bi, c1, c2, c3]; done) | grind [bi]
def rm_X3_placesTaken : Room := { frames := 1, cells := 0, slots := 0, locals := 22 }
theorem i_X3_placesTaken_wsX00 : ∀ w ∈ wsX00, w ∈ wsX3_placesTaken := fun w h => List.mem_cons_of_mem _ (List.mem_append_right _ h)
theorem i_X3_placesTaken_wsX30 : ∀ w ∈ wsX30, w ∈ wsX3_placesTaken := fun w h => List.mem_cons_of_mem _ (List.mem_append_left _ (List.mem_append_right _ h))
theorem k_X3_placesTaken_X0_isOf : CW rm_X3_placesTaken wsX3_placesTaken RX3 RX0 97 yX0_isOf cX0_isOf 3 (some .boolean) wsX0_isOf rm_X0_isOf 2 := ⟨gX3_placesTaken_X0_isOf, ⟨_, rfl⟩, rfl, rfl, ⟨rfl, by decide +kernel, by decide +kernel, by decide +kernel⟩, by decide, by decide⟩
theorem k_X3_placesTaken_X0_takesPlaces : CW rm_X3_placesTaken wsX3_placesTaken RX3 RX0 114 yX0_takesPlaces cX0_takesPlaces 1 (some .boolean) wsX0_takesPlaces rm_X0_takesPlaces 0 := ⟨gX3_placesTaken_X0_takesPlaces, ⟨_, rfl⟩, rfl, rfl, ⟨rfl, by decide +kernel, by decide +kernel, by decide +kernel⟩, by decide, by decide⟩
set_option maxHeartbeats 4000000 in
set_option maxRecDepth 100000 in
theorem c_X3_placesTaken (l : Launch) (G : MG) (z : St) {r : Int32} {d : Int32} (hr : ¬ r = -1) (hI : IO z) : CIc l G yX3_placesTaken wsX3_placesTaken rm_X3_placesTaken [.ref (G.2.2 0), .int r, .int d] z (fun ρ ζ => ρ = taken z r d ∧ ζ = z) := by
  refine ci_of (own := RX3) (cc := cX3_placesTaken) (maxL := 5) (ret := .int) (by decide +kernel) rfl rfl ?_ (Nat.le_of_ble_eq_true rfl) (KQ_mv (ExC_mv G)) ?_
  · intro v z' _; rfl
  · intro X hX ret
    refine g_lv (lv' := [(0, .ref (G.2.2 0)), (1, .int r), (2, .int d)]) rfl ?_
    obtain ⟨e3, h40⟩ := iNa hI
    refine g_iconst hX 0 dX3_placesTaken_0 (by decide) ?_
    refine g_istore_n hX [(3, .int 0), (0, .ref (G.2.2 0)), (1, .int r), (2, .int d)] dX3_placesTaken_1 (by decide) rfl ?_
    refine g_iconst hX 0 dX3_placesTaken_2 (by decide) ?_
    refine g_istore hX [(4, .int 0), (3, .int 0), (0, .ref (G.2.2 0)), (1, .int r), (2, .int d)] dX3_placesTaken_3 (by decide) rfl ?_
    have loop5 : ∀ (nf : Nat) (k : Nat), (nA z < k + nf) → (k ≤ nA z) → Go X (z) 5 [(0, .ref (G.2.2 0)), (1, .int r), (2, .int d), (3, .int (sm (fun a => if takesP z a ∧ onP z a r d then z 14 a else 0) k)), (4, .int (nI k))] [] := by
      intro nf
      induction nf with
      | zero =>
        intro k hmu hk
        exfalso; omega
      | succ nf ih =>
        intro k hmu hk
        refine g_iload hX 4 dX3_placesTaken_5 rfl ?_
        refine g_aload_n hX 0 dX3_placesTaken_7 rfl ?_
        refine c_g_Office_3 hX i_X3_placesTaken_wsX30 (List.mem_of_getElem? (i := 1) rfl) dX3_placesTaken_8 ?_
        refine g_ic_ge hX 61 dX3_placesTaken_11 (by decide) (fun c1 => ?_) (fun c1 => ?_)
        · -- jump 61
          have hke : k = nA z := by
            rw [e3] at c1; have := (nI_leI (by omega) (by omega)).mp c1; omega
          refine g_iload_n hX 3 dX3_placesTaken_61 rfl ?_
          refine ret _ _ _ _ dX3_placesTaken_62 ?_
          exact ⟨by rw [hke]; rfl, rfl⟩
        · -- on 14
          have hkn : k < nA z := by
            rw [e3] at c1; exact Nat.lt_of_not_le (fun q => c1 (nI_le q (by omega)))
          refine g_aload_n hX 0 dX3_placesTaken_14 rfl ?_
          refine c_g_Office_6 hX i_X3_placesTaken_wsX30 (List.mem_of_getElem? (i := 2) rfl) dX3_placesTaken_15 ?_
          refine g_iload hX 4 dX3_placesTaken_18 rfl ?_
          refine c_ld_applications hX k rfl (by omega) dX3_placesTaken_20 ?_
          refine g_cvE hX (As := []) (rest := []) (c_X0_takesPlaces l G z (a := k) (ha := (by omega))) k_X3_placesTaken_X0_takesPlaces (rc_App0 (by omega)) rfl rfl (Nat.le_of_ble_eq_true rfl) dX3_placesTaken_21 ?_
          refine g_bi_eq hX 55 dX3_placesTaken_24 (by decide) (fun c2 => ?_) (fun c2 => ?_)
          · -- jump 55
            refine g_iinc hX (nI (k + 1)) 4 [(4, .int (nI (k + 1))), (0, .ref (G.2.2 0)), (1, .int r), (2, .int d), (3, .int (sm (fun a => if takesP z a ∧ onP z a r d then z 14 a else 0) k))] dX3_placesTaken_55 rfl (nI_1 k) (by decide) rfl ?_
            refine g_goto hX 5 dX3_placesTaken_58 (by decide) ?_
            -- back to 5
            refine g_sub [1, 2, 3, 4, 0] [(0, .ref (G.2.2 0)), (1, .int r), (2, .int d), (3, .int (sm (fun a => if takesP z a ∧ onP z a r d then z 14 a else 0) k)), (4, .int (nI (k + 1)))] rfl ?_
            have e3 : (sm (fun a => if takesP z a ∧ onP z a r d then z 14 a else 0) k : Int32) = sm (fun a => if takesP z a ∧ onP z a r d then z 14 a else 0) (k + 1) := by
              exact sm_f (by grind)
            refine g_lv (lv' := [(0, .ref (G.2.2 0)), (1, .int r), (2, .int d), (3, .int (sm (fun a => if takesP z a ∧ onP z a r d then z 14 a else 0) (k + 1))), (4, .int (nI (k + 1)))]) (by rw [e3]) ?_
            exact ih (k + 1) (by omega) (by omega)
          · -- on 27
            refine g_aload_n hX 0 dX3_placesTaken_27 rfl ?_
            refine c_g_Office_6 hX i_X3_placesTaken_wsX30 (List.mem_of_getElem? (i := 2) rfl) dX3_placesTaken_28 ?_
            refine g_iload hX 4 dX3_placesTaken_31 rfl ?_
            refine c_ld_applications hX k rfl (by omega) dX3_placesTaken_33 ?_
            refine g_iload_n hX 1 dX3_placesTaken_34 rfl ?_
            refine g_iload_n hX 2 dX3_placesTaken_35 rfl ?_
            refine g_cvE hX (As := [.int r, .int d]) (rest := []) (c_X0_isOf l G z (a := k) (x1 := r) (x2 := d) (ha := (by omega))) k_X3_placesTaken_X0_isOf (rc_App0 (by omega)) rfl rfl (Nat.le_of_ble_eq_true rfl) dX3_placesTaken_36 ?_
            refine g_bi_eq hX 55 dX3_placesTaken_39 (by decide) (fun c3 => ?_) (fun c3 => ?_)
            · -- jump 55
              refine g_iinc hX (nI (k + 1)) 4 [(4, .int (nI (k + 1))), (0, .ref (G.2.2 0)), (1, .int r), (2, .int d), (3, .int (sm (fun a => if takesP z a ∧ onP z a r d then z 14 a else 0) k))] dX3_placesTaken_55 rfl (nI_1 k) (by decide) rfl ?_
              refine g_goto hX 5 dX3_placesTaken_58 (by decide) ?_
              -- back to 5
              refine g_sub [1, 2, 3, 4, 0] [(0, .ref (G.2.2 0)), (1, .int r), (2, .int d), (3, .int (sm (fun a => if takesP z a ∧ onP z a r d then z 14 a else 0) k)), (4, .int (nI (k + 1)))] rfl ?_
              have e3 : (sm (fun a => if takesP z a ∧ onP z a r d then z 14 a else 0) k : Int32) = sm (fun a => if takesP z a ∧ onP z a r d then z 14 a else 0) (k + 1) := by
                exact sm_f (by grind)
              refine g_lv (lv' := [(0, .ref (G.2.2 0)), (1, .int r), (2, .int d), (3, .int (sm (fun a => if takesP z a ∧ onP z a r d then z 14 a else 0) (k + 1))), (4, .int (nI (k + 1)))]) (by rw [e3]) ?_
              exact ih (k + 1) (by omega) (by omega)
            · -- on 42
              refine g_iload_n hX 3 dX3_placesTaken_42 rfl ?_
              refine g_aload_n hX 0 dX3_placesTaken_43 rfl ?_
              refine c_g_Office_6 hX i_X3_placesTaken_wsX30 (List.mem_of_getElem? (i := 2) rfl) dX3_placesTaken_44 ?_
              refine g_iload hX 4 dX3_placesTaken_47 rfl ?_
              refine c_ld_applications hX k rfl (by omega) dX3_placesTaken_49 ?_
              refine c_g_Application_4 hX (by omega) i_X3_placesTaken_wsX00 (List.mem_of_getElem? (i := 3) rfl) dX3_placesTaken_50 ?_
              refine g_iadd hX dX3_placesTaken_53 ?_
              refine g_istore_n hX [(3, .int ((sm (fun a => if takesP z a ∧ onP z a r d then z 14 a else 0) k) + (z 14 k))), (0, .ref (G.2.2 0)), (1, .int r), (2, .int d), (4, .int (nI k))] dX3_placesTaken_54 (by decide) rfl ?_
              refine g_iinc hX (nI (k + 1)) 4 [(4, .int (nI (k + 1))), (3, .int ((sm (fun a => if takesP z a ∧ onP z a r d then z 14 a else 0) k) + (z 14 k))), (0, .ref (G.2.2 0)), (1, .int r), (2, .int d)] dX3_placesTaken_55 rfl (nI_1 k) (by decide) rfl ?_
              refine g_goto hX 5 dX3_placesTaken_58 (by decide) ?_
              -- back to 5
              refine g_sub [2, 3, 4, 1, 0] [(0, .ref (G.2.2 0)), (1, .int r), (2, .int d), (3, .int ((sm (fun a => if takesP z a ∧ onP z a r d then z 14 a else 0) k) + (z 14 k))), (4, .int (nI (k + 1)))] rfl ?_
              have e3 : ((sm (fun a => if takesP z a ∧ onP z a r d then z 14 a else 0) k) + (z 14 k) : Int32) = sm (fun a => if takesP z a ∧ onP z a r d then z 14 a else 0) (k + 1) := by
                exact sm_t (by grind)
              refine g_lv (lv' := [(0, .ref (G.2.2 0)), (1, .int r), (2, .int d), (3, .int (sm (fun a => if takesP z a ∧ onP z a r d then z 14 a else 0) (k + 1))), (4, .int (nI (k + 1)))]) (by rw [e3]) ?_
              exact ih (k + 1) (by omega) (by omega)
    refine g_sub [2, 3, 4, 1, 0] [(0, .ref (G.2.2 0)), (1, .int r), (2, .int d), (3, .int 0), (4, .int 0)] rfl ?_
    exact loop5 (nA z + 1) 0 (by omega) (Nat.zero_le _)
def rm_X3_countOf : Room := { frames := 1, cells := 0, slots := 0, locals := 22 }
theorem i_X3_countOf_wsX00 : ∀ w ∈ wsX00, w ∈ wsX3_countOf := fun w h => List.mem_cons_of_mem _ (List.mem_append_right _ h)
theorem i_X3_countOf_wsX30 : ∀ w ∈ wsX30, w ∈ wsX3_countOf := fun w h => List.mem_cons_of_mem _ (List.mem_append_left _ (List.mem_append_right _ h))
theorem k_X3_countOf_X0_isOf : CW rm_X3_countOf wsX3_countOf RX3 RX0 97 yX0_isOf cX0_isOf 3 (some .boolean) wsX0_isOf rm_X0_isOf 2 := ⟨gX3_countOf_X0_isOf, ⟨_, rfl⟩, rfl, rfl, ⟨rfl, by decide +kernel, by decide +kernel, by decide +kernel⟩, by decide, by decide⟩
set_option maxHeartbeats 4000000 in
set_option maxRecDepth 100000 in
theorem c_X3_countOf (l : Launch) (G : MG) (z : St) {r : Int32} {d : Int32} {s : Int32} (hr : ¬ r = -1) (hI : IO z) : CIc l G yX3_countOf wsX3_countOf rm_X3_countOf [.ref (G.2.2 0), .int r, .int d, .int s] z (fun ρ ζ => ρ = inSt z r d s ∧ ζ = z) := by
  refine ci_of (own := RX3) (cc := cX3_countOf) (maxL := 6) (ret := .int) (by decide +kernel) rfl rfl ?_ (Nat.le_of_ble_eq_true rfl) (KQ_mv (ExC_mv G)) ?_
  · intro v z' _; rfl
  · intro X hX ret
    refine g_lv (lv' := [(0, .ref (G.2.2 0)), (1, .int r), (2, .int d), (3, .int s)]) rfl ?_
    obtain ⟨e3, h40⟩ := iNa hI
    refine g_iconst hX 0 dX3_countOf_0 (by decide) ?_
    refine g_istore hX [(4, .int 0), (0, .ref (G.2.2 0)), (1, .int r), (2, .int d), (3, .int s)] dX3_countOf_1 (by decide) rfl ?_
    refine g_iconst hX 0 dX3_countOf_3 (by decide) ?_
    refine g_istore hX [(5, .int 0), (4, .int 0), (0, .ref (G.2.2 0)), (1, .int r), (2, .int d), (3, .int s)] dX3_countOf_4 (by decide) rfl ?_
    have loop6 : ∀ (nf : Nat) (k : Nat), (nA z < k + nf) → (k ≤ nA z) → Go X (z) 6 [(0, .ref (G.2.2 0)), (1, .int r), (2, .int d), (3, .int s), (4, .int (sm (fun a => if onP z a r d ∧ z 15 a = s then 1 else 0) k)), (5, .int (nI k))] [] := by
      intro nf
      induction nf with
      | zero =>
        intro k hmu hk
        exfalso; omega
      | succ nf ih =>
        intro k hmu hk
        refine g_iload hX 5 dX3_countOf_6 rfl ?_
        refine g_aload_n hX 0 dX3_countOf_8 rfl ?_
        refine c_g_Office_3 hX i_X3_countOf_wsX30 (List.mem_of_getElem? (i := 1) rfl) dX3_countOf_9 ?_
        refine g_ic_ge hX 53 dX3_countOf_12 (by decide) (fun c1 => ?_) (fun c1 => ?_)
        · -- jump 53
          have hke : k = nA z := by
            rw [e3] at c1; have := (nI_leI (by omega) (by omega)).mp c1; omega
          refine g_iload hX 4 dX3_countOf_53 rfl ?_
          refine ret _ _ _ _ dX3_countOf_55 ?_
          exact ⟨by rw [hke]; rfl, rfl⟩
        · -- on 15
          have hkn : k < nA z := by
            rw [e3] at c1; exact Nat.lt_of_not_le (fun q => c1 (nI_le q (by omega)))
          refine g_aload_n hX 0 dX3_countOf_15 rfl ?_
          refine c_g_Office_6 hX i_X3_countOf_wsX30 (List.mem_of_getElem? (i := 2) rfl) dX3_countOf_16 ?_
          refine g_iload hX 5 dX3_countOf_19 rfl ?_
          refine c_ld_applications hX k rfl (by omega) dX3_countOf_21 ?_
          refine c_g_Application_5 hX (by omega) i_X3_countOf_wsX00 (List.mem_of_getElem? (i := 3) rfl) dX3_countOf_22 ?_
          refine g_iload_n hX 3 dX3_countOf_25 rfl ?_
          refine g_ic_ne hX 47 dX3_countOf_26 (by decide) (fun c2 => ?_) (fun c2 => ?_)
          · -- jump 47
            refine g_iinc hX (nI (k + 1)) 5 [(5, .int (nI (k + 1))), (0, .ref (G.2.2 0)), (1, .int r), (2, .int d), (3, .int s), (4, .int (sm (fun a => if onP z a r d ∧ z 15 a = s then 1 else 0) k))] dX3_countOf_47 rfl (nI_1 k) (by decide) rfl ?_
            refine g_goto hX 6 dX3_countOf_50 (by decide) ?_
            -- back to 6
            refine g_sub [1, 2, 3, 4, 5, 0] [(0, .ref (G.2.2 0)), (1, .int r), (2, .int d), (3, .int s), (4, .int (sm (fun a => if onP z a r d ∧ z 15 a = s then 1 else 0) k)), (5, .int (nI (k + 1)))] rfl ?_
            have e4 : (sm (fun a => if onP z a r d ∧ z 15 a = s then 1 else 0) k : Int32) = sm (fun a => if onP z a r d ∧ z 15 a = s then 1 else 0) (k + 1) := by
              exact sm_f (by grind)
            refine g_lv (lv' := [(0, .ref (G.2.2 0)), (1, .int r), (2, .int d), (3, .int s), (4, .int (sm (fun a => if onP z a r d ∧ z 15 a = s then 1 else 0) (k + 1))), (5, .int (nI (k + 1)))]) (by rw [e4]) ?_
            exact ih (k + 1) (by omega) (by omega)
          · -- on 29
            refine g_aload_n hX 0 dX3_countOf_29 rfl ?_
            refine c_g_Office_6 hX i_X3_countOf_wsX30 (List.mem_of_getElem? (i := 2) rfl) dX3_countOf_30 ?_
            refine g_iload hX 5 dX3_countOf_33 rfl ?_
            refine c_ld_applications hX k rfl (by omega) dX3_countOf_35 ?_
            refine g_iload_n hX 1 dX3_countOf_36 rfl ?_
            refine g_iload_n hX 2 dX3_countOf_37 rfl ?_
            refine g_cvE hX (As := [.int r, .int d]) (rest := []) (c_X0_isOf l G z (a := k) (x1 := r) (x2 := d) (ha := (by omega))) k_X3_countOf_X0_isOf (rc_App0 (by omega)) rfl rfl (Nat.le_of_ble_eq_true rfl) dX3_countOf_38 ?_
            refine g_bi_eq hX 47 dX3_countOf_41 (by decide) (fun c3 => ?_) (fun c3 => ?_)
            · -- jump 47
              refine g_iinc hX (nI (k + 1)) 5 [(5, .int (nI (k + 1))), (0, .ref (G.2.2 0)), (1, .int r), (2, .int d), (3, .int s), (4, .int (sm (fun a => if onP z a r d ∧ z 15 a = s then 1 else 0) k))] dX3_countOf_47 rfl (nI_1 k) (by decide) rfl ?_
              refine g_goto hX 6 dX3_countOf_50 (by decide) ?_
              -- back to 6
              refine g_sub [1, 2, 3, 4, 5, 0] [(0, .ref (G.2.2 0)), (1, .int r), (2, .int d), (3, .int s), (4, .int (sm (fun a => if onP z a r d ∧ z 15 a = s then 1 else 0) k)), (5, .int (nI (k + 1)))] rfl ?_
              have e4 : (sm (fun a => if onP z a r d ∧ z 15 a = s then 1 else 0) k : Int32) = sm (fun a => if onP z a r d ∧ z 15 a = s then 1 else 0) (k + 1) := by
                exact sm_f (by grind)
              refine g_lv (lv' := [(0, .ref (G.2.2 0)), (1, .int r), (2, .int d), (3, .int s), (4, .int (sm (fun a => if onP z a r d ∧ z 15 a = s then 1 else 0) (k + 1))), (5, .int (nI (k + 1)))]) (by rw [e4]) ?_
              exact ih (k + 1) (by omega) (by omega)
            · -- on 44
              refine g_iinc hX ((sm (fun a => if onP z a r d ∧ z 15 a = s then 1 else 0) k) + 1) 4 [(4, .int ((sm (fun a => if onP z a r d ∧ z 15 a = s then 1 else 0) k) + 1)), (0, .ref (G.2.2 0)), (1, .int r), (2, .int d), (3, .int s), (5, .int (nI k))] dX3_countOf_44 rfl rfl (by decide) rfl ?_
              refine g_iinc hX (nI (k + 1)) 5 [(5, .int (nI (k + 1))), (4, .int ((sm (fun a => if onP z a r d ∧ z 15 a = s then 1 else 0) k) + 1)), (0, .ref (G.2.2 0)), (1, .int r), (2, .int d), (3, .int s)] dX3_countOf_47 rfl (nI_1 k) (by decide) rfl ?_
              refine g_goto hX 6 dX3_countOf_50 (by decide) ?_
              -- back to 6
              refine g_sub [2, 3, 4, 5, 1, 0] [(0, .ref (G.2.2 0)), (1, .int r), (2, .int d), (3, .int s), (4, .int ((sm (fun a => if onP z a r d ∧ z 15 a = s then 1 else 0) k) + 1)), (5, .int (nI (k + 1)))] rfl ?_
              have e4 : ((sm (fun a => if onP z a r d ∧ z 15 a = s then 1 else 0) k) + 1 : Int32) = sm (fun a => if onP z a r d ∧ z 15 a = s then 1 else 0) (k + 1) := by
                exact sm_t (by grind)
              refine g_lv (lv' := [(0, .ref (G.2.2 0)), (1, .int r), (2, .int d), (3, .int s), (4, .int (sm (fun a => if onP z a r d ∧ z 15 a = s then 1 else 0) (k + 1))), (5, .int (nI (k + 1)))]) (by rw [e4]) ?_
              exact ih (k + 1) (by omega) (by omega)
    refine g_sub [2, 3, 4, 5, 1, 0] [(0, .ref (G.2.2 0)), (1, .int r), (2, .int d), (3, .int s), (4, .int 0), (5, .int 0)] rfl ?_
    exact loop6 (nA z + 1) 0 (by omega) (Nat.zero_le _)
def rm_X3_countIn : Room := { frames := 1, cells := 0, slots := 0, locals := 21 }
theorem i_X3_countIn_wsX00 : ∀ w ∈ wsX00, w ∈ wsX3_countIn := fun w h => List.mem_cons_of_mem _ (List.mem_append_right _ h)
theorem i_X3_countIn_wsX30 : ∀ w ∈ wsX30, w ∈ wsX3_countIn := fun w h => List.mem_cons_of_mem _ (List.mem_append_left _ (List.mem_append_right _ h))
theorem k_X3_countIn_X0_isBy : CW rm_X3_countIn wsX3_countIn RX3 RX0 94 yX0_isBy cX0_isBy 2 (some .boolean) wsX0_isBy rm_X0_isBy 1 := ⟨gX3_countIn_X0_isBy, ⟨_, rfl⟩, rfl, rfl, ⟨rfl, by decide +kernel, by decide +kernel, by decide +kernel⟩, by decide, by decide⟩
set_option maxHeartbeats 4000000 in
set_option maxRecDepth 100000 in
theorem c_X3_countIn (l : Launch) (G : MG) (z : St) {c : Int32} {s : Int32} (hI : IO z) : CIc l G yX3_countIn wsX3_countIn rm_X3_countIn [.ref (G.2.2 0), .int c, .int s] z (fun ρ ζ => ρ = cntIn z c s ∧ ζ = z) := by
  refine ci_of (own := RX3) (cc := cX3_countIn) (maxL := 5) (ret := .int) (by decide +kernel) rfl rfl ?_ (Nat.le_of_ble_eq_true rfl) (KQ_mv (ExC_mv G)) ?_
  · intro v z' _; rfl
  · intro X hX ret
    refine g_lv (lv' := [(0, .ref (G.2.2 0)), (1, .int c), (2, .int s)]) rfl ?_
    obtain ⟨e3, h40⟩ := iNa hI
    refine g_iconst hX 0 dX3_countIn_0 (by decide) ?_
    refine g_istore_n hX [(3, .int 0), (0, .ref (G.2.2 0)), (1, .int c), (2, .int s)] dX3_countIn_1 (by decide) rfl ?_
    refine g_iconst hX 0 dX3_countIn_2 (by decide) ?_
    refine g_istore hX [(4, .int 0), (3, .int 0), (0, .ref (G.2.2 0)), (1, .int c), (2, .int s)] dX3_countIn_3 (by decide) rfl ?_
    have loop5 : ∀ (nf : Nat) (k : Nat), (nA z < k + nf) → (k ≤ nA z) → Go X (z) 5 [(0, .ref (G.2.2 0)), (1, .int c), (2, .int s), (3, .int (sm (fun a => if z 15 a = s ∧ byP z a c then 1 else 0) k)), (4, .int (nI k))] [] := by
      intro nf
      induction nf with
      | zero =>
        intro k hmu hk
        exfalso; omega
      | succ nf ih =>
        intro k hmu hk
        refine g_iload hX 4 dX3_countIn_5 rfl ?_
        refine g_aload_n hX 0 dX3_countIn_7 rfl ?_
        refine c_g_Office_3 hX i_X3_countIn_wsX30 (List.mem_of_getElem? (i := 1) rfl) dX3_countIn_8 ?_
        refine g_ic_ge hX 51 dX3_countIn_11 (by decide) (fun c1 => ?_) (fun c1 => ?_)
        · -- jump 51
          have hke : k = nA z := by
            rw [e3] at c1; have := (nI_leI (by omega) (by omega)).mp c1; omega
          refine g_iload_n hX 3 dX3_countIn_51 rfl ?_
          refine ret _ _ _ _ dX3_countIn_52 ?_
          exact ⟨by rw [hke]; rfl, rfl⟩
        · -- on 14
          have hkn : k < nA z := by
            rw [e3] at c1; exact Nat.lt_of_not_le (fun q => c1 (nI_le q (by omega)))
          refine g_aload_n hX 0 dX3_countIn_14 rfl ?_
          refine c_g_Office_6 hX i_X3_countIn_wsX30 (List.mem_of_getElem? (i := 2) rfl) dX3_countIn_15 ?_
          refine g_iload hX 4 dX3_countIn_18 rfl ?_
          refine c_ld_applications hX k rfl (by omega) dX3_countIn_20 ?_
          refine c_g_Application_5 hX (by omega) i_X3_countIn_wsX00 (List.mem_of_getElem? (i := 3) rfl) dX3_countIn_21 ?_
          refine g_iload_n hX 2 dX3_countIn_24 rfl ?_
          refine g_ic_ne hX 45 dX3_countIn_25 (by decide) (fun c2 => ?_) (fun c2 => ?_)
          · -- jump 45
            refine g_iinc hX (nI (k + 1)) 4 [(4, .int (nI (k + 1))), (0, .ref (G.2.2 0)), (1, .int c), (2, .int s), (3, .int (sm (fun a => if z 15 a = s ∧ byP z a c then 1 else 0) k))] dX3_countIn_45 rfl (nI_1 k) (by decide) rfl ?_
            refine g_goto hX 5 dX3_countIn_48 (by decide) ?_
            -- back to 5
            refine g_sub [1, 2, 3, 4, 0] [(0, .ref (G.2.2 0)), (1, .int c), (2, .int s), (3, .int (sm (fun a => if z 15 a = s ∧ byP z a c then 1 else 0) k)), (4, .int (nI (k + 1)))] rfl ?_
            have e3 : (sm (fun a => if z 15 a = s ∧ byP z a c then 1 else 0) k : Int32) = sm (fun a => if z 15 a = s ∧ byP z a c then 1 else 0) (k + 1) := by
              exact sm_f (by grind)
            refine g_lv (lv' := [(0, .ref (G.2.2 0)), (1, .int c), (2, .int s), (3, .int (sm (fun a => if z 15 a = s ∧ byP z a c then 1 else 0) (k + 1))), (4, .int (nI (k + 1)))]) (by rw [e3]) ?_
            exact ih (k + 1) (by omega) (by omega)
          · -- on 28
            refine g_aload_n hX 0 dX3_countIn_28 rfl ?_
            refine c_g_Office_6 hX i_X3_countIn_wsX30 (List.mem_of_getElem? (i := 2) rfl) dX3_countIn_29 ?_
            refine g_iload hX 4 dX3_countIn_32 rfl ?_
            refine c_ld_applications hX k rfl (by omega) dX3_countIn_34 ?_
            refine g_iload_n hX 1 dX3_countIn_35 rfl ?_
            refine g_cvE hX (As := [.int c]) (rest := []) (c_X0_isBy l G z (a := k) (x1 := c) (ha := (by omega))) k_X3_countIn_X0_isBy (rc_App0 (by omega)) rfl rfl (Nat.le_of_ble_eq_true rfl) dX3_countIn_36 ?_
            refine g_bi_eq hX 45 dX3_countIn_39 (by decide) (fun c3 => ?_) (fun c3 => ?_)
            · -- jump 45
              refine g_iinc hX (nI (k + 1)) 4 [(4, .int (nI (k + 1))), (0, .ref (G.2.2 0)), (1, .int c), (2, .int s), (3, .int (sm (fun a => if z 15 a = s ∧ byP z a c then 1 else 0) k))] dX3_countIn_45 rfl (nI_1 k) (by decide) rfl ?_
              refine g_goto hX 5 dX3_countIn_48 (by decide) ?_
              -- back to 5
              refine g_sub [1, 2, 3, 4, 0] [(0, .ref (G.2.2 0)), (1, .int c), (2, .int s), (3, .int (sm (fun a => if z 15 a = s ∧ byP z a c then 1 else 0) k)), (4, .int (nI (k + 1)))] rfl ?_
              have e3 : (sm (fun a => if z 15 a = s ∧ byP z a c then 1 else 0) k : Int32) = sm (fun a => if z 15 a = s ∧ byP z a c then 1 else 0) (k + 1) := by
                exact sm_f (by grind)
              refine g_lv (lv' := [(0, .ref (G.2.2 0)), (1, .int c), (2, .int s), (3, .int (sm (fun a => if z 15 a = s ∧ byP z a c then 1 else 0) (k + 1))), (4, .int (nI (k + 1)))]) (by rw [e3]) ?_
              exact ih (k + 1) (by omega) (by omega)
            · -- on 42
              refine g_iinc hX ((sm (fun a => if z 15 a = s ∧ byP z a c then 1 else 0) k) + 1) 3 [(3, .int ((sm (fun a => if z 15 a = s ∧ byP z a c then 1 else 0) k) + 1)), (0, .ref (G.2.2 0)), (1, .int c), (2, .int s), (4, .int (nI k))] dX3_countIn_42 rfl rfl (by decide) rfl ?_
              refine g_iinc hX (nI (k + 1)) 4 [(4, .int (nI (k + 1))), (3, .int ((sm (fun a => if z 15 a = s ∧ byP z a c then 1 else 0) k) + 1)), (0, .ref (G.2.2 0)), (1, .int c), (2, .int s)] dX3_countIn_45 rfl (nI_1 k) (by decide) rfl ?_
              refine g_goto hX 5 dX3_countIn_48 (by decide) ?_
              -- back to 5
              refine g_sub [2, 3, 4, 1, 0] [(0, .ref (G.2.2 0)), (1, .int c), (2, .int s), (3, .int ((sm (fun a => if z 15 a = s ∧ byP z a c then 1 else 0) k) + 1)), (4, .int (nI (k + 1)))] rfl ?_
              have e3 : ((sm (fun a => if z 15 a = s ∧ byP z a c then 1 else 0) k) + 1 : Int32) = sm (fun a => if z 15 a = s ∧ byP z a c then 1 else 0) (k + 1) := by
                exact sm_t (by grind)
              refine g_lv (lv' := [(0, .ref (G.2.2 0)), (1, .int c), (2, .int s), (3, .int (sm (fun a => if z 15 a = s ∧ byP z a c then 1 else 0) (k + 1))), (4, .int (nI (k + 1)))]) (by rw [e3]) ?_
              exact ih (k + 1) (by omega) (by omega)
    refine g_sub [2, 3, 4, 1, 0] [(0, .ref (G.2.2 0)), (1, .int c), (2, .int s), (3, .int 0), (4, .int 0)] rfl ?_
    exact loop5 (nA z + 1) 0 (by omega) (Nat.zero_le _)
def rm_X3_countBy : Room := { frames := 1, cells := 0, slots := 0, locals := 21 }
theorem i_X3_countBy_wsX30 : ∀ w ∈ wsX30, w ∈ wsX3_countBy := fun w h => List.mem_cons_of_mem _ (List.mem_append_left _ (List.mem_append_right _ h))
theorem k_X3_countBy_X0_isBy : CW rm_X3_countBy wsX3_countBy RX3 RX0 94 yX0_isBy cX0_isBy 2 (some .boolean) wsX0_isBy rm_X0_isBy 1 := ⟨gX3_countBy_X0_isBy, ⟨_, rfl⟩, rfl, rfl, ⟨rfl, by decide +kernel, by decide +kernel, by decide +kernel⟩, by decide, by decide⟩
set_option maxHeartbeats 4000000 in
set_option maxRecDepth 100000 in
theorem c_X3_countBy (l : Launch) (G : MG) (z : St) {c : Int32} (hI : IO z) : CIc l G yX3_countBy wsX3_countBy rm_X3_countBy [.ref (G.2.2 0), .int c] z (fun ρ ζ => ρ = cntBy z c ∧ ζ = z) := by
  refine ci_of (own := RX3) (cc := cX3_countBy) (maxL := 4) (ret := .int) (by decide +kernel) rfl rfl ?_ (Nat.le_of_ble_eq_true rfl) (KQ_mv (ExC_mv G)) ?_
  · intro v z' _; rfl
  · intro X hX ret
    refine g_lv (lv' := [(0, .ref (G.2.2 0)), (1, .int c)]) rfl ?_
    obtain ⟨e3, h40⟩ := iNa hI
    refine g_iconst hX 0 dX3_countBy_0 (by decide) ?_
    refine g_istore_n hX [(2, .int 0), (0, .ref (G.2.2 0)), (1, .int c)] dX3_countBy_1 (by decide) rfl ?_
    refine g_iconst hX 0 dX3_countBy_2 (by decide) ?_
    refine g_istore_n hX [(3, .int 0), (2, .int 0), (0, .ref (G.2.2 0)), (1, .int c)] dX3_countBy_3 (by decide) rfl ?_
    have loop4 : ∀ (nf : Nat) (k : Nat), (nA z < k + nf) → (k ≤ nA z) → Go X (z) 4 [(0, .ref (G.2.2 0)), (1, .int c), (2, .int (sm (fun a => if byP z a c then 1 else 0) k)), (3, .int (nI k))] [] := by
      intro nf
      induction nf with
      | zero =>
        intro k hmu hk
        exfalso; omega
      | succ nf ih =>
        intro k hmu hk
        refine g_iload_n hX 3 dX3_countBy_4 rfl ?_
        refine g_aload_n hX 0 dX3_countBy_5 rfl ?_
        refine c_g_Office_3 hX i_X3_countBy_wsX30 (List.mem_of_getElem? (i := 1) rfl) dX3_countBy_6 ?_
        refine g_ic_ge hX 34 dX3_countBy_9 (by decide) (fun c1 => ?_) (fun c1 => ?_)
        · -- jump 34
          have hke : k = nA z := by
            rw [e3] at c1; have := (nI_leI (by omega) (by omega)).mp c1; omega
          refine g_iload_n hX 2 dX3_countBy_34 rfl ?_
          refine ret _ _ _ _ dX3_countBy_35 ?_
          exact ⟨by rw [hke]; rfl, rfl⟩
        · -- on 12
          have hkn : k < nA z := by
            rw [e3] at c1; exact Nat.lt_of_not_le (fun q => c1 (nI_le q (by omega)))
          refine g_aload_n hX 0 dX3_countBy_12 rfl ?_
          refine c_g_Office_6 hX i_X3_countBy_wsX30 (List.mem_of_getElem? (i := 2) rfl) dX3_countBy_13 ?_
          refine g_iload_n hX 3 dX3_countBy_16 rfl ?_
          refine c_ld_applications hX k rfl (by omega) dX3_countBy_17 ?_
          refine g_iload_n hX 1 dX3_countBy_18 rfl ?_
          refine g_cvE hX (As := [.int c]) (rest := []) (c_X0_isBy l G z (a := k) (x1 := c) (ha := (by omega))) k_X3_countBy_X0_isBy (rc_App0 (by omega)) rfl rfl (Nat.le_of_ble_eq_true rfl) dX3_countBy_19 ?_
          refine g_bi_eq hX 28 dX3_countBy_22 (by decide) (fun c2 => ?_) (fun c2 => ?_)
          · -- jump 28
            refine g_iinc hX (nI (k + 1)) 3 [(3, .int (nI (k + 1))), (0, .ref (G.2.2 0)), (1, .int c), (2, .int (sm (fun a => if byP z a c then 1 else 0) k))] dX3_countBy_28 rfl (nI_1 k) (by decide) rfl ?_
            refine g_goto hX 4 dX3_countBy_31 (by decide) ?_
            -- back to 4
            refine g_sub [1, 2, 3, 0] [(0, .ref (G.2.2 0)), (1, .int c), (2, .int (sm (fun a => if byP z a c then 1 else 0) k)), (3, .int (nI (k + 1)))] rfl ?_
            have e2 : (sm (fun a => if byP z a c then 1 else 0) k : Int32) = sm (fun a => if byP z a c then 1 else 0) (k + 1) := by
              exact sm_f (by grind)
            refine g_lv (lv' := [(0, .ref (G.2.2 0)), (1, .int c), (2, .int (sm (fun a => if byP z a c then 1 else 0) (k + 1))), (3, .int (nI (k + 1)))]) (by rw [e2]) ?_
            exact ih (k + 1) (by omega) (by omega)
          · -- on 25
            refine g_iinc hX ((sm (fun a => if byP z a c then 1 else 0) k) + 1) 2 [(2, .int ((sm (fun a => if byP z a c then 1 else 0) k) + 1)), (0, .ref (G.2.2 0)), (1, .int c), (3, .int (nI k))] dX3_countBy_25 rfl rfl (by decide) rfl ?_
            refine g_iinc hX (nI (k + 1)) 3 [(3, .int (nI (k + 1))), (2, .int ((sm (fun a => if byP z a c then 1 else 0) k) + 1)), (0, .ref (G.2.2 0)), (1, .int c)] dX3_countBy_28 rfl (nI_1 k) (by decide) rfl ?_
            refine g_goto hX 4 dX3_countBy_31 (by decide) ?_
            -- back to 4
            refine g_sub [2, 3, 1, 0] [(0, .ref (G.2.2 0)), (1, .int c), (2, .int ((sm (fun a => if byP z a c then 1 else 0) k) + 1)), (3, .int (nI (k + 1)))] rfl ?_
            have e2 : ((sm (fun a => if byP z a c then 1 else 0) k) + 1 : Int32) = sm (fun a => if byP z a c then 1 else 0) (k + 1) := by
              exact sm_t (by grind)
            refine g_lv (lv' := [(0, .ref (G.2.2 0)), (1, .int c), (2, .int (sm (fun a => if byP z a c then 1 else 0) (k + 1))), (3, .int (nI (k + 1)))]) (by rw [e2]) ?_
            exact ih (k + 1) (by omega) (by omega)
    refine g_sub [2, 3, 1, 0] [(0, .ref (G.2.2 0)), (1, .int c), (2, .int 0), (3, .int 0)] rfl ?_
    exact loop4 (nA z + 1) 0 (by omega) (Nat.zero_le _)
def rm_X3_paidBy : Room := { frames := 1, cells := 0, slots := 0, locals := 21 }
theorem i_X3_paidBy_wsX00 : ∀ w ∈ wsX00, w ∈ wsX3_paidBy := fun w h => List.mem_cons_of_mem _ (List.mem_append_right _ h)
theorem i_X3_paidBy_wsX30 : ∀ w ∈ wsX30, w ∈ wsX3_paidBy := fun w h => List.mem_cons_of_mem _ (List.mem_append_left _ (List.mem_append_right _ h))
theorem k_X3_paidBy_X0_isBy : CW rm_X3_paidBy wsX3_paidBy RX3 RX0 94 yX0_isBy cX0_isBy 2 (some .boolean) wsX0_isBy rm_X0_isBy 1 := ⟨gX3_paidBy_X0_isBy, ⟨_, rfl⟩, rfl, rfl, ⟨rfl, by decide +kernel, by decide +kernel, by decide +kernel⟩, by decide, by decide⟩
set_option maxHeartbeats 4000000 in
set_option maxRecDepth 100000 in
theorem c_X3_paidBy (l : Launch) (G : MG) (z : St) {c : Int32} (hI : IO z) : CIc l G yX3_paidBy wsX3_paidBy rm_X3_paidBy [.ref (G.2.2 0), .int c] z (fun ρ ζ => ρ = paidBy z c ∧ ζ = z) := by
  refine ci_of (own := RX3) (cc := cX3_paidBy) (maxL := 4) (ret := .int) (by decide +kernel) rfl rfl ?_ (Nat.le_of_ble_eq_true rfl) (KQ_mv (ExC_mv G)) ?_
  · intro v z' _; rfl
  · intro X hX ret
    refine g_lv (lv' := [(0, .ref (G.2.2 0)), (1, .int c)]) rfl ?_
    obtain ⟨e3, h40⟩ := iNa hI
    refine g_iconst hX 0 dX3_paidBy_0 (by decide) ?_
    refine g_istore_n hX [(2, .int 0), (0, .ref (G.2.2 0)), (1, .int c)] dX3_paidBy_1 (by decide) rfl ?_
    refine g_iconst hX 0 dX3_paidBy_2 (by decide) ?_
    refine g_istore_n hX [(3, .int 0), (2, .int 0), (0, .ref (G.2.2 0)), (1, .int c)] dX3_paidBy_3 (by decide) rfl ?_
    have loop4 : ∀ (nf : Nat) (k : Nat), (nA z < k + nf) → (k ≤ nA z) → Go X (z) 4 [(0, .ref (G.2.2 0)), (1, .int c), (2, .int (sm (fun a => if byP z a c then z 16 a else 0) k)), (3, .int (nI k))] [] := by
      intro nf
      induction nf with
      | zero =>
        intro k hmu hk
        exfalso; omega
      | succ nf ih =>
        intro k hmu hk
        refine g_iload_n hX 3 dX3_paidBy_4 rfl ?_
        refine g_aload_n hX 0 dX3_paidBy_5 rfl ?_
        refine c_g_Office_3 hX i_X3_paidBy_wsX30 (List.mem_of_getElem? (i := 1) rfl) dX3_paidBy_6 ?_
        refine g_ic_ge hX 43 dX3_paidBy_9 (by decide) (fun c1 => ?_) (fun c1 => ?_)
        · -- jump 43
          have hke : k = nA z := by
            rw [e3] at c1; have := (nI_leI (by omega) (by omega)).mp c1; omega
          refine g_iload_n hX 2 dX3_paidBy_43 rfl ?_
          refine ret _ _ _ _ dX3_paidBy_44 ?_
          exact ⟨by rw [hke]; rfl, rfl⟩
        · -- on 12
          have hkn : k < nA z := by
            rw [e3] at c1; exact Nat.lt_of_not_le (fun q => c1 (nI_le q (by omega)))
          refine g_aload_n hX 0 dX3_paidBy_12 rfl ?_
          refine c_g_Office_6 hX i_X3_paidBy_wsX30 (List.mem_of_getElem? (i := 2) rfl) dX3_paidBy_13 ?_
          refine g_iload_n hX 3 dX3_paidBy_16 rfl ?_
          refine c_ld_applications hX k rfl (by omega) dX3_paidBy_17 ?_
          refine g_iload_n hX 1 dX3_paidBy_18 rfl ?_
          refine g_cvE hX (As := [.int c]) (rest := []) (c_X0_isBy l G z (a := k) (x1 := c) (ha := (by omega))) k_X3_paidBy_X0_isBy (rc_App0 (by omega)) rfl rfl (Nat.le_of_ble_eq_true rfl) dX3_paidBy_19 ?_
          refine g_bi_eq hX 37 dX3_paidBy_22 (by decide) (fun c2 => ?_) (fun c2 => ?_)
          · -- jump 37
            refine g_iinc hX (nI (k + 1)) 3 [(3, .int (nI (k + 1))), (0, .ref (G.2.2 0)), (1, .int c), (2, .int (sm (fun a => if byP z a c then z 16 a else 0) k))] dX3_paidBy_37 rfl (nI_1 k) (by decide) rfl ?_
            refine g_goto hX 4 dX3_paidBy_40 (by decide) ?_
            -- back to 4
            refine g_sub [1, 2, 3, 0] [(0, .ref (G.2.2 0)), (1, .int c), (2, .int (sm (fun a => if byP z a c then z 16 a else 0) k)), (3, .int (nI (k + 1)))] rfl ?_
            have e2 : (sm (fun a => if byP z a c then z 16 a else 0) k : Int32) = sm (fun a => if byP z a c then z 16 a else 0) (k + 1) := by
              exact sm_f (by grind)
            refine g_lv (lv' := [(0, .ref (G.2.2 0)), (1, .int c), (2, .int (sm (fun a => if byP z a c then z 16 a else 0) (k + 1))), (3, .int (nI (k + 1)))]) (by rw [e2]) ?_
            exact ih (k + 1) (by omega) (by omega)
          · -- on 25
            refine g_iload_n hX 2 dX3_paidBy_25 rfl ?_
            refine g_aload_n hX 0 dX3_paidBy_26 rfl ?_
            refine c_g_Office_6 hX i_X3_paidBy_wsX30 (List.mem_of_getElem? (i := 2) rfl) dX3_paidBy_27 ?_
            refine g_iload_n hX 3 dX3_paidBy_30 rfl ?_
            refine c_ld_applications hX k rfl (by omega) dX3_paidBy_31 ?_
            refine c_g_Application_6 hX (by omega) i_X3_paidBy_wsX00 (List.mem_of_getElem? (i := 3) rfl) dX3_paidBy_32 ?_
            refine g_iadd hX dX3_paidBy_35 ?_
            refine g_istore_n hX [(2, .int ((sm (fun a => if byP z a c then z 16 a else 0) k) + (z 16 k))), (0, .ref (G.2.2 0)), (1, .int c), (3, .int (nI k))] dX3_paidBy_36 (by decide) rfl ?_
            refine g_iinc hX (nI (k + 1)) 3 [(3, .int (nI (k + 1))), (2, .int ((sm (fun a => if byP z a c then z 16 a else 0) k) + (z 16 k))), (0, .ref (G.2.2 0)), (1, .int c)] dX3_paidBy_37 rfl (nI_1 k) (by decide) rfl ?_
            refine g_goto hX 4 dX3_paidBy_40 (by decide) ?_
            -- back to 4
            refine g_sub [2, 3, 1, 0] [(0, .ref (G.2.2 0)), (1, .int c), (2, .int ((sm (fun a => if byP z a c then z 16 a else 0) k) + (z 16 k))), (3, .int (nI (k + 1)))] rfl ?_
            have e2 : ((sm (fun a => if byP z a c then z 16 a else 0) k) + (z 16 k) : Int32) = sm (fun a => if byP z a c then z 16 a else 0) (k + 1) := by
              exact sm_t (by grind)
            refine g_lv (lv' := [(0, .ref (G.2.2 0)), (1, .int c), (2, .int (sm (fun a => if byP z a c then z 16 a else 0) (k + 1))), (3, .int (nI (k + 1)))]) (by rw [e2]) ?_
            exact ih (k + 1) (by omega) (by omega)
    refine g_sub [2, 3, 1, 0] [(0, .ref (G.2.2 0)), (1, .int c), (2, .int 0), (3, .int 0)] rfl ?_
    exact loop4 (nA z + 1) 0 (by omega) (Nat.zero_le _)
def rm_X3_refundedTo : Room := { frames := 1, cells := 0, slots := 0, locals := 21 }
theorem i_X3_refundedTo_wsX00 : ∀ w ∈ wsX00, w ∈ wsX3_refundedTo := fun w h => List.mem_cons_of_mem _ (List.mem_append_right _ h)
theorem i_X3_refundedTo_wsX30 : ∀ w ∈ wsX30, w ∈ wsX3_refundedTo := fun w h => List.mem_cons_of_mem _ (List.mem_append_left _ (List.mem_append_right _ h))
theorem k_X3_refundedTo_X0_isBy : CW rm_X3_refundedTo wsX3_refundedTo RX3 RX0 94 yX0_isBy cX0_isBy 2 (some .boolean) wsX0_isBy rm_X0_isBy 1 := ⟨gX3_refundedTo_X0_isBy, ⟨_, rfl⟩, rfl, rfl, ⟨rfl, by decide +kernel, by decide +kernel, by decide +kernel⟩, by decide, by decide⟩
set_option maxHeartbeats 4000000 in
set_option maxRecDepth 100000 in
theorem c_X3_refundedTo (l : Launch) (G : MG) (z : St) {c : Int32} (hI : IO z) : CIc l G yX3_refundedTo wsX3_refundedTo rm_X3_refundedTo [.ref (G.2.2 0), .int c] z (fun ρ ζ => ρ = backTo z c ∧ ζ = z) := by
  refine ci_of (own := RX3) (cc := cX3_refundedTo) (maxL := 4) (ret := .int) (by decide +kernel) rfl rfl ?_ (Nat.le_of_ble_eq_true rfl) (KQ_mv (ExC_mv G)) ?_
  · intro v z' _; rfl
  · intro X hX ret
    refine g_lv (lv' := [(0, .ref (G.2.2 0)), (1, .int c)]) rfl ?_
    obtain ⟨e3, h40⟩ := iNa hI
    refine g_iconst hX 0 dX3_refundedTo_0 (by decide) ?_
    refine g_istore_n hX [(2, .int 0), (0, .ref (G.2.2 0)), (1, .int c)] dX3_refundedTo_1 (by decide) rfl ?_
    refine g_iconst hX 0 dX3_refundedTo_2 (by decide) ?_
    refine g_istore_n hX [(3, .int 0), (2, .int 0), (0, .ref (G.2.2 0)), (1, .int c)] dX3_refundedTo_3 (by decide) rfl ?_
    have loop4 : ∀ (nf : Nat) (k : Nat), (nA z < k + nf) → (k ≤ nA z) → Go X (z) 4 [(0, .ref (G.2.2 0)), (1, .int c), (2, .int (sm (fun a => if byP z a c then z 17 a else 0) k)), (3, .int (nI k))] [] := by
      intro nf
      induction nf with
      | zero =>
        intro k hmu hk
        exfalso; omega
      | succ nf ih =>
        intro k hmu hk
        refine g_iload_n hX 3 dX3_refundedTo_4 rfl ?_
        refine g_aload_n hX 0 dX3_refundedTo_5 rfl ?_
        refine c_g_Office_3 hX i_X3_refundedTo_wsX30 (List.mem_of_getElem? (i := 1) rfl) dX3_refundedTo_6 ?_
        refine g_ic_ge hX 43 dX3_refundedTo_9 (by decide) (fun c1 => ?_) (fun c1 => ?_)
        · -- jump 43
          have hke : k = nA z := by
            rw [e3] at c1; have := (nI_leI (by omega) (by omega)).mp c1; omega
          refine g_iload_n hX 2 dX3_refundedTo_43 rfl ?_
          refine ret _ _ _ _ dX3_refundedTo_44 ?_
          exact ⟨by rw [hke]; rfl, rfl⟩
        · -- on 12
          have hkn : k < nA z := by
            rw [e3] at c1; exact Nat.lt_of_not_le (fun q => c1 (nI_le q (by omega)))
          refine g_aload_n hX 0 dX3_refundedTo_12 rfl ?_
          refine c_g_Office_6 hX i_X3_refundedTo_wsX30 (List.mem_of_getElem? (i := 2) rfl) dX3_refundedTo_13 ?_
          refine g_iload_n hX 3 dX3_refundedTo_16 rfl ?_
          refine c_ld_applications hX k rfl (by omega) dX3_refundedTo_17 ?_
          refine g_iload_n hX 1 dX3_refundedTo_18 rfl ?_
          refine g_cvE hX (As := [.int c]) (rest := []) (c_X0_isBy l G z (a := k) (x1 := c) (ha := (by omega))) k_X3_refundedTo_X0_isBy (rc_App0 (by omega)) rfl rfl (Nat.le_of_ble_eq_true rfl) dX3_refundedTo_19 ?_
          refine g_bi_eq hX 37 dX3_refundedTo_22 (by decide) (fun c2 => ?_) (fun c2 => ?_)
          · -- jump 37
            refine g_iinc hX (nI (k + 1)) 3 [(3, .int (nI (k + 1))), (0, .ref (G.2.2 0)), (1, .int c), (2, .int (sm (fun a => if byP z a c then z 17 a else 0) k))] dX3_refundedTo_37 rfl (nI_1 k) (by decide) rfl ?_
            refine g_goto hX 4 dX3_refundedTo_40 (by decide) ?_
            -- back to 4
            refine g_sub [1, 2, 3, 0] [(0, .ref (G.2.2 0)), (1, .int c), (2, .int (sm (fun a => if byP z a c then z 17 a else 0) k)), (3, .int (nI (k + 1)))] rfl ?_
            have e2 : (sm (fun a => if byP z a c then z 17 a else 0) k : Int32) = sm (fun a => if byP z a c then z 17 a else 0) (k + 1) := by
              exact sm_f (by grind)
            refine g_lv (lv' := [(0, .ref (G.2.2 0)), (1, .int c), (2, .int (sm (fun a => if byP z a c then z 17 a else 0) (k + 1))), (3, .int (nI (k + 1)))]) (by rw [e2]) ?_
            exact ih (k + 1) (by omega) (by omega)
          · -- on 25
            refine g_iload_n hX 2 dX3_refundedTo_25 rfl ?_
            refine g_aload_n hX 0 dX3_refundedTo_26 rfl ?_
            refine c_g_Office_6 hX i_X3_refundedTo_wsX30 (List.mem_of_getElem? (i := 2) rfl) dX3_refundedTo_27 ?_
            refine g_iload_n hX 3 dX3_refundedTo_30 rfl ?_
            refine c_ld_applications hX k rfl (by omega) dX3_refundedTo_31 ?_
            refine c_g_Application_7 hX (by omega) i_X3_refundedTo_wsX00 (List.mem_of_getElem? (i := 3) rfl) dX3_refundedTo_32 ?_
            refine g_iadd hX dX3_refundedTo_35 ?_
            refine g_istore_n hX [(2, .int ((sm (fun a => if byP z a c then z 17 a else 0) k) + (z 17 k))), (0, .ref (G.2.2 0)), (1, .int c), (3, .int (nI k))] dX3_refundedTo_36 (by decide) rfl ?_
            refine g_iinc hX (nI (k + 1)) 3 [(3, .int (nI (k + 1))), (2, .int ((sm (fun a => if byP z a c then z 17 a else 0) k) + (z 17 k))), (0, .ref (G.2.2 0)), (1, .int c)] dX3_refundedTo_37 rfl (nI_1 k) (by decide) rfl ?_
            refine g_goto hX 4 dX3_refundedTo_40 (by decide) ?_
            -- back to 4
            refine g_sub [2, 3, 1, 0] [(0, .ref (G.2.2 0)), (1, .int c), (2, .int ((sm (fun a => if byP z a c then z 17 a else 0) k) + (z 17 k))), (3, .int (nI (k + 1)))] rfl ?_
            have e2 : ((sm (fun a => if byP z a c then z 17 a else 0) k) + (z 17 k) : Int32) = sm (fun a => if byP z a c then z 17 a else 0) (k + 1) := by
              exact sm_t (by grind)
            refine g_lv (lv' := [(0, .ref (G.2.2 0)), (1, .int c), (2, .int (sm (fun a => if byP z a c then z 17 a else 0) (k + 1))), (3, .int (nI (k + 1)))]) (by rw [e2]) ?_
            exact ih (k + 1) (by omega) (by omega)
    refine g_sub [2, 3, 1, 0] [(0, .ref (G.2.2 0)), (1, .int c), (2, .int 0), (3, .int 0)] rfl ?_
    exact loop4 (nA z + 1) 0 (by omega) (Nat.zero_le _)
def rm_X3_closedDays : Room := { frames := 0, cells := 0, slots := 0, locals := 0 }
theorem i_X3_closedDays_wsX30 : ∀ w ∈ wsX30, w ∈ wsX3_closedDays := fun w h => List.mem_cons_of_mem _ (List.mem_append_right _ h)
set_option maxHeartbeats 4000000 in
set_option maxRecDepth 100000 in
theorem c_X3_closedDays (l : Launch) (G : MG) (z : St)   : CIc l G yX3_closedDays wsX3_closedDays rm_X3_closedDays [.ref (G.2.2 0)] z (fun ρ ζ => ρ = closedN z ∧ ζ = z) := by
  refine ci_of (own := RX3) (cc := cX3_closedDays) (maxL := 3) (ret := .int) (by decide +kernel) rfl rfl ?_ (Nat.le_of_ble_eq_true rfl) (KQ_mv (ExC_mv G)) ?_
  · intro v z' _; rfl
  · intro X hX ret
    refine g_lv (lv' := [(0, .ref (G.2.2 0))]) rfl ?_
    refine g_iconst hX 0 dX3_closedDays_0 (by decide) ?_
    refine g_istore_n hX [(1, .int 0), (0, .ref (G.2.2 0))] dX3_closedDays_1 (by decide) rfl ?_
    refine g_iconst hX 0 dX3_closedDays_2 (by decide) ?_
    refine g_istore_n hX [(2, .int 0), (1, .int 0), (0, .ref (G.2.2 0))] dX3_closedDays_3 (by decide) rfl ?_
    have loop4 : ∀ (nf : Nat) (k : Nat), (60 < k + nf) → (k ≤ 60) → Go X (z) 4 [(0, .ref (G.2.2 0)), (1, .int (sm (fun d => if z 7 d = 0 then 0 else 1) k)), (2, .int (nI k))] [] := by
      intro nf
      induction nf with
      | zero =>
        intro k hmu hk
        exfalso; omega
      | succ nf ih =>
        intro k hmu hk
        refine g_iload_n hX 2 dX3_closedDays_4 rfl ?_
        refine g_aload_n hX 0 dX3_closedDays_5 rfl ?_
        refine c_g_Office_7 hX i_X3_closedDays_wsX30 (List.mem_of_getElem? (i := 1) rfl) dX3_closedDays_6 ?_
        refine c_len_closed hX dX3_closedDays_9 ?_
        refine g_ic_ge hX 31 dX3_closedDays_10 (by decide) (fun c1 => ?_) (fun c1 => ?_)
        · -- jump 31
          have hke : k = 60 := by
            have := (nI_leI (a := 60) (by omega) (by omega)).mp c1; omega
          refine g_iload_n hX 1 dX3_closedDays_31 rfl ?_
          refine ret _ _ _ _ dX3_closedDays_32 ?_
          exact ⟨by rw [hke]; rfl, rfl⟩
        · -- on 13
          have hkn : k < 60 := Nat.lt_of_not_le (fun q => c1 (nI_le (a := 60) q (by omega)))
          refine g_aload_n hX 0 dX3_closedDays_13 rfl ?_
          refine c_g_Office_7 hX i_X3_closedDays_wsX30 (List.mem_of_getElem? (i := 1) rfl) dX3_closedDays_14 ?_
          refine g_iload_n hX 2 dX3_closedDays_17 rfl ?_
          refine c_ld_closed hX k rfl (by omega) dX3_closedDays_18 ?_
          refine g_if_eq hX 25 dX3_closedDays_19 (by decide) (fun c2 => ?_) (fun c2 => ?_)
          · -- jump 25
            refine g_iinc hX (nI (k + 1)) 2 [(2, .int (nI (k + 1))), (0, .ref (G.2.2 0)), (1, .int (sm (fun d => if z 7 d = 0 then 0 else 1) k))] dX3_closedDays_25 rfl (nI_1 k) (by decide) rfl ?_
            refine g_goto hX 4 dX3_closedDays_28 (by decide) ?_
            -- back to 4
            refine g_sub [1, 2, 0] [(0, .ref (G.2.2 0)), (1, .int (sm (fun d => if z 7 d = 0 then 0 else 1) k)), (2, .int (nI (k + 1)))] rfl ?_
            have e1 : (sm (fun d => if z 7 d = 0 then 0 else 1) k : Int32) = sm (fun d => if z 7 d = 0 then 0 else 1) (k + 1) := by
              exact sm_f2 (by grind)
            refine g_lv (lv' := [(0, .ref (G.2.2 0)), (1, .int (sm (fun d => if z 7 d = 0 then 0 else 1) (k + 1))), (2, .int (nI (k + 1)))]) (by rw [e1]) ?_
            exact ih (k + 1) (by omega) (by omega)
          · -- on 22
            refine g_iinc hX ((sm (fun d => if z 7 d = 0 then 0 else 1) k) + 1) 1 [(1, .int ((sm (fun d => if z 7 d = 0 then 0 else 1) k) + 1)), (0, .ref (G.2.2 0)), (2, .int (nI k))] dX3_closedDays_22 rfl rfl (by decide) rfl ?_
            refine g_iinc hX (nI (k + 1)) 2 [(2, .int (nI (k + 1))), (1, .int ((sm (fun d => if z 7 d = 0 then 0 else 1) k) + 1)), (0, .ref (G.2.2 0))] dX3_closedDays_25 rfl (nI_1 k) (by decide) rfl ?_
            refine g_goto hX 4 dX3_closedDays_28 (by decide) ?_
            -- back to 4
            refine g_sub [2, 1, 0] [(0, .ref (G.2.2 0)), (1, .int ((sm (fun d => if z 7 d = 0 then 0 else 1) k) + 1)), (2, .int (nI (k + 1)))] rfl ?_
            have e1 : ((sm (fun d => if z 7 d = 0 then 0 else 1) k) + 1 : Int32) = sm (fun d => if z 7 d = 0 then 0 else 1) (k + 1) := by
              exact sm_t2 (by grind)
            refine g_lv (lv' := [(0, .ref (G.2.2 0)), (1, .int (sm (fun d => if z 7 d = 0 then 0 else 1) (k + 1))), (2, .int (nI (k + 1)))]) (by rw [e1]) ?_
            exact ih (k + 1) (by omega) (by omega)
    refine g_sub [2, 1, 0] [(0, .ref (G.2.2 0)), (1, .int 0), (2, .int 0)] rfl ?_
    exact loop4 (60 + 1) 0 (by omega) (Nat.zero_le _)
def rm_X3_stillHas : Room := { frames := 1, cells := 0, slots := 0, locals := 22 }
theorem i_X3_stillHas_wsX30 : ∀ w ∈ wsX30, w ∈ wsX3_stillHas := fun w h => List.mem_cons_of_mem _ (List.mem_append_left _ (List.mem_append_right _ h))
theorem k_X3_stillHas_X0_isAlive : CW rm_X3_stillHas wsX3_stillHas RX3 RX0 101 yX0_isAlive cX0_isAlive 1 (some .boolean) wsX0_isAlive rm_X0_isAlive 0 := ⟨gX3_stillHas_X0_isAlive, ⟨_, rfl⟩, rfl, rfl, ⟨rfl, by decide +kernel, by decide +kernel, by decide +kernel⟩, by decide, by decide⟩
theorem k_X3_stillHas_X0_isBy : CW rm_X3_stillHas wsX3_stillHas RX3 RX0 94 yX0_isBy cX0_isBy 2 (some .boolean) wsX0_isBy rm_X0_isBy 1 := ⟨gX3_stillHas_X0_isBy, ⟨_, rfl⟩, rfl, rfl, ⟨rfl, by decide +kernel, by decide +kernel, by decide +kernel⟩, by decide, by decide⟩
theorem k_X3_stillHas_X0_isOf : CW rm_X3_stillHas wsX3_stillHas RX3 RX0 97 yX0_isOf cX0_isOf 3 (some .boolean) wsX0_isOf rm_X0_isOf 2 := ⟨gX3_stillHas_X0_isOf, ⟨_, rfl⟩, rfl, rfl, ⟨rfl, by decide +kernel, by decide +kernel, by decide +kernel⟩, by decide, by decide⟩
set_option maxHeartbeats 4000000 in
set_option maxRecDepth 100000 in
theorem c_X3_stillHas (l : Launch) (G : MG) (z : St) {c : Int32} {r : Int32} {d : Int32} (hr : ¬ r = -1) (hc : ¬ c = -1) (hI : IO z) : CIc l G yX3_stillHas wsX3_stillHas rm_X3_stillHas [.ref (G.2.2 0), .int c, .int r, .int d] z (fun ρ ζ => ρ = bi (hasOne z c r d = true) ∧ ζ = z) := by
  refine ci_of (own := RX3) (cc := cX3_stillHas) (maxL := 6) (ret := .boolean) (by decide +kernel) rfl rfl ?_ (Nat.le_of_ble_eq_true rfl) (KQ_mv (ExC_mv G)) ?_
  · rintro v z' ⟨rfl, -⟩; exact nz_bi _
  · intro X hX ret
    refine g_lv (lv' := [(0, .ref (G.2.2 0)), (1, .int c), (2, .int r), (3, .int d)]) rfl ?_
    obtain ⟨e3, h40⟩ := iNa hI
    refine g_iconst hX 0 dX3_stillHas_0 (by decide) ?_
    refine g_istore hX [(4, .int 0), (0, .ref (G.2.2 0)), (1, .int c), (2, .int r), (3, .int d)] dX3_stillHas_1 (by decide) rfl ?_
    have loop3 : ∀ (nf : Nat) (k : Nat), (nA z < k + nf) → (k ≤ nA z) → (anyN (fun a => decide (z 11 a = c ∧ onP z a r d ∧ aliveP z a)) k = false) → Go X (z) 3 [(0, .ref (G.2.2 0)), (1, .int c), (2, .int r), (3, .int d), (4, .int (nI k))] [] := by
      intro nf
      induction nf with
      | zero =>
        intro k hmu hk hno
        exfalso; omega
      | succ nf ih =>
        intro k hmu hk hno
        refine g_iload hX 4 dX3_stillHas_3 rfl ?_
        refine g_aload_n hX 0 dX3_stillHas_5 rfl ?_
        refine c_g_Office_3 hX i_X3_stillHas_wsX30 (List.mem_of_getElem? (i := 1) rfl) dX3_stillHas_6 ?_
        refine g_ic_ge hX 56 dX3_stillHas_9 (by decide) (fun c1 => ?_) (fun c1 => ?_)
        · -- jump 56
          have hke : k = nA z := by
            rw [e3] at c1; have := (nI_leI (by omega) (by omega)).mp c1; omega
          refine g_iconst hX 0 dX3_stillHas_56 (by decide) ?_
          refine ret _ _ _ _ dX3_stillHas_57 ?_
          exact ⟨(bi_f (by rw [hasOne, ← hke, hno]; decide)).symm, rfl⟩
        · -- on 12
          have hkn : k < nA z := by
            rw [e3] at c1; exact Nat.lt_of_not_le (fun q => c1 (nI_le q (by omega)))
          refine g_aload_n hX 0 dX3_stillHas_12 rfl ?_
          refine c_g_Office_6 hX i_X3_stillHas_wsX30 (List.mem_of_getElem? (i := 2) rfl) dX3_stillHas_13 ?_
          refine g_iload hX 4 dX3_stillHas_16 rfl ?_
          refine c_ld_applications hX k rfl (by omega) dX3_stillHas_18 ?_
          refine g_astore hX [(5, .ref (G.2.2 (24 + k))), (0, .ref (G.2.2 0)), (1, .int c), (2, .int r), (3, .int d), (4, .int (nI k))] dX3_stillHas_19 (by decide) rfl ?_
          refine g_aload hX 0 dX3_stillHas_21 rfl ?_
          refine g_iload_n hX 2 dX3_stillHas_23 rfl ?_
          refine g_cvE hX (As := [.int c]) (rest := []) (c_X0_isBy l G z (a := k) (x1 := c) (ha := (by omega))) k_X3_stillHas_X0_isBy (rc_App0 (by omega)) rfl rfl (Nat.le_of_ble_eq_true rfl) dX3_stillHas_24 ?_
          refine g_bi_eq hX 50 dX3_stillHas_27 (by decide) (fun c2 => ?_) (fun c2 => ?_)
          · -- jump 50
            refine g_iinc hX (nI (k + 1)) 5 [(4, .int (nI (k + 1))), (5, .ref (G.2.2 (24 + k))), (0, .ref (G.2.2 0)), (1, .int c), (2, .int r), (3, .int d)] dX3_stillHas_50 rfl (nI_1 k) (by decide) rfl ?_
            refine g_goto hX 3 dX3_stillHas_53 (by decide) ?_
            -- back to 3
            refine g_sub [2, 3, 4, 5, 0] [(0, .ref (G.2.2 0)), (1, .int c), (2, .int r), (3, .int d), (4, .int (nI (k + 1)))] rfl ?_
            exact ih (k + 1) (by omega) (by omega) (by rw [anyN, hno]; simp only [Bool.false_or, decide_eq_false_iff_not]; grind)
          · -- on 30
            refine g_aload hX 0 dX3_stillHas_30 rfl ?_
            refine g_iload_n hX 3 dX3_stillHas_32 rfl ?_
            refine g_iload_n hX 4 dX3_stillHas_33 rfl ?_
            refine g_cvE hX (As := [.int r, .int d]) (rest := []) (c_X0_isOf l G z (a := k) (x1 := r) (x2 := d) (ha := (by omega))) k_X3_stillHas_X0_isOf (rc_App0 (by omega)) rfl rfl (Nat.le_of_ble_eq_true rfl) dX3_stillHas_34 ?_
            refine g_bi_eq hX 50 dX3_stillHas_37 (by decide) (fun c3 => ?_) (fun c3 => ?_)
            · -- jump 50
              refine g_iinc hX (nI (k + 1)) 5 [(4, .int (nI (k + 1))), (5, .ref (G.2.2 (24 + k))), (0, .ref (G.2.2 0)), (1, .int c), (2, .int r), (3, .int d)] dX3_stillHas_50 rfl (nI_1 k) (by decide) rfl ?_
              refine g_goto hX 3 dX3_stillHas_53 (by decide) ?_
              -- back to 3
              refine g_sub [2, 3, 4, 5, 0] [(0, .ref (G.2.2 0)), (1, .int c), (2, .int r), (3, .int d), (4, .int (nI (k + 1)))] rfl ?_
              exact ih (k + 1) (by omega) (by omega) (by rw [anyN, hno]; simp only [Bool.false_or, decide_eq_false_iff_not]; grind)
            · -- on 40
              refine g_aload hX 0 dX3_stillHas_40 rfl ?_
              refine g_cvE hX (As := []) (rest := []) (c_X0_isAlive l G z (a := k) (ha := (by omega))) k_X3_stillHas_X0_isAlive (rc_App0 (by omega)) rfl rfl (Nat.le_of_ble_eq_true rfl) dX3_stillHas_42 ?_
              refine g_bi_eq hX 50 dX3_stillHas_45 (by decide) (fun c4 => ?_) (fun c4 => ?_)
              · -- jump 50
                refine g_iinc hX (nI (k + 1)) 5 [(4, .int (nI (k + 1))), (5, .ref (G.2.2 (24 + k))), (0, .ref (G.2.2 0)), (1, .int c), (2, .int r), (3, .int d)] dX3_stillHas_50 rfl (nI_1 k) (by decide) rfl ?_
                refine g_goto hX 3 dX3_stillHas_53 (by decide) ?_
                -- back to 3
                refine g_sub [2, 3, 4, 5, 0] [(0, .ref (G.2.2 0)), (1, .int c), (2, .int r), (3, .int d), (4, .int (nI (k + 1)))] rfl ?_
                exact ih (k + 1) (by omega) (by omega) (by rw [anyN, hno]; simp only [Bool.false_or, decide_eq_false_iff_not]; grind)
              · -- on 48
                refine g_iconst hX 1 dX3_stillHas_48 (by decide) ?_
                refine ret _ _ _ _ dX3_stillHas_49 ?_
                exact ⟨(bi_t (anyN_iff.mpr ⟨k, hkn, by simp only [decide_eq_true_eq]; grind⟩)).symm, rfl⟩
    refine g_sub [1, 2, 3, 4, 0] [(0, .ref (G.2.2 0)), (1, .int c), (2, .int r), (3, .int d), (4, .int 0)] rfl ?_
    exact loop3 (nA z + 1) 0 (by omega) (Nat.zero_le _) rfl
def rm_X3_placesFree : Room := { frames := 2, cells := 0, slots := 0, locals := 46 }
theorem i_X3_placesFree_wsX30 : ∀ w ∈ wsX30, w ∈ wsX3_placesFree := fun w h => List.mem_cons_of_mem _ (List.mem_append_left _ (List.mem_append_left _ (List.mem_append_right _ h)))
theorem i_X3_placesFree_wsX50 : ∀ w ∈ wsX50, w ∈ wsX3_placesFree := fun w h => List.mem_cons_of_mem _ (List.mem_append_left _ (List.mem_append_right _ h))
theorem k_X3_placesFree_X3_placesTaken : CW rm_X3_placesFree wsX3_placesFree RX3 RX3 117 yX3_placesTaken cX3_placesTaken 5 (some .int) wsX3_placesTaken rm_X3_placesTaken 2 := ⟨gX3_placesFree_X3_placesTaken, ⟨_, rfl⟩, rfl, rfl, ⟨rfl, by decide +kernel, by decide +kernel, by decide +kernel⟩, by decide, by decide⟩
set_option maxHeartbeats 4000000 in
set_option maxRecDepth 100000 in
theorem c_X3_placesFree (l : Launch) (G : MG) (z : St) {q : Nat} {d : Int32} (hq : q < 6) (hI : IO z) : CIc l G yX3_placesFree wsX3_placesFree rm_X3_placesFree [.ref (G.2.2 0), .int (nI q), .int d] z (fun ρ ζ => ρ = freeP z (nI q) d ∧ ζ = z) := by
  refine ci_of (own := RX3) (cc := cX3_placesFree) (maxL := 3) (ret := .int) (by decide +kernel) rfl rfl ?_ (Nat.le_of_ble_eq_true rfl) (KQ_mv (ExC_mv G)) ?_
  · intro v z' _; rfl
  · intro X hX ret
    refine g_lv (lv' := [(0, .ref (G.2.2 0)), (1, .int (nI q)), (2, .int d)]) rfl ?_
    refine g_aload_n hX 0 dX3_placesFree_0 rfl ?_
    refine c_g_Office_4 hX i_X3_placesFree_wsX30 (List.mem_of_getElem? (i := 1) rfl) dX3_placesFree_1 ?_
    refine g_iload_n hX 1 dX3_placesFree_4 rfl ?_
    refine c_ld_routes hX q rfl (by omega) dX3_placesFree_5 ?_
    refine c_g_Route_0 hX (by omega) i_X3_placesFree_wsX50 (List.mem_of_getElem? (i := 2) rfl) dX3_placesFree_6 ?_
    refine g_aload_n hX 0 dX3_placesFree_9 rfl ?_
    refine g_iload_n hX 1 dX3_placesFree_10 rfl ?_
    refine g_iload_n hX 2 dX3_placesFree_11 rfl ?_
    refine g_cvE hX (As := [.int (nI q), .int d]) (rest := [.int (z 5 q)]) (c_X3_placesTaken l G z (r := (nI q)) (d := d) (hr := (nI_m1 (by omega))) (hI := (by assumption))) k_X3_placesFree_X3_placesTaken rc_Office0 rfl rfl (Nat.le_of_ble_eq_true rfl) dX3_placesFree_12 ?_
    refine g_isub hX dX3_placesFree_15 ?_
    refine ret _ _ _ _ dX3_placesFree_16 ?_
    exact ⟨by rw [freeP, cn_nI (by omega)], rfl⟩
def rm_X3_placesForLottery : Room := { frames := 3, cells := 0, slots := 0, locals := 68 }
theorem i_X3_placesForLottery_wsX30 : ∀ w ∈ wsX30, w ∈ wsX3_placesForLottery := fun w h => List.mem_cons_of_mem _ (List.mem_append_left _ (List.mem_append_left _ (List.mem_append_right _ h)))
theorem i_X3_placesForLottery_wsX50 : ∀ w ∈ wsX50, w ∈ wsX3_placesForLottery := fun w h => List.mem_cons_of_mem _ (List.mem_append_left _ (List.mem_append_right _ h))
theorem k_X3_placesForLottery_X3_placesFree : CW rm_X3_placesForLottery wsX3_placesForLottery RX3 RX3 121 yX3_placesFree cX3_placesFree 3 (some .int) wsX3_placesFree rm_X3_placesFree 2 := ⟨gX3_placesForLottery_X3_placesFree, ⟨_, rfl⟩, rfl, rfl, ⟨rfl, by decide +kernel, by decide +kernel, by decide +kernel⟩, by decide, by decide⟩
set_option maxHeartbeats 4000000 in
set_option maxRecDepth 100000 in
theorem c_X3_placesForLottery (l : Launch) (G : MG) (z : St) {q : Nat} {d : Int32} (hq : q < 6) (hI : IO z) : CIc l G yX3_placesForLottery wsX3_placesForLottery rm_X3_placesForLottery [.ref (G.2.2 0), .int (nI q), .int d] z (fun ρ ζ => ρ = leftP z (nI q) d ∧ ζ = z) := by
  refine ci_of (own := RX3) (cc := cX3_placesForLottery) (maxL := 3) (ret := .int) (by decide +kernel) rfl rfl ?_ (Nat.le_of_ble_eq_true rfl) (KQ_mv (ExC_mv G)) ?_
  · intro v z' _; rfl
  · intro X hX ret
    refine g_lv (lv' := [(0, .ref (G.2.2 0)), (1, .int (nI q)), (2, .int d)]) rfl ?_
    refine g_aload_n hX 0 dX3_placesForLottery_0 rfl ?_
    refine g_iload_n hX 1 dX3_placesForLottery_1 rfl ?_
    refine g_iload_n hX 2 dX3_placesForLottery_2 rfl ?_
    refine g_cvE hX (As := [.int (nI q), .int d]) (rest := []) (c_X3_placesFree l G z (q := q) (d := d) (hq := (by assumption)) (hI := (by assumption))) k_X3_placesForLottery_X3_placesFree rc_Office0 rfl rfl (Nat.le_of_ble_eq_true rfl) dX3_placesForLottery_3 ?_
    refine g_aload_n hX 0 dX3_placesForLottery_6 rfl ?_
    refine c_g_Office_4 hX i_X3_placesForLottery_wsX30 (List.mem_of_getElem? (i := 1) rfl) dX3_placesForLottery_7 ?_
    refine g_iload_n hX 1 dX3_placesForLottery_10 rfl ?_
    refine c_ld_routes hX q rfl (by omega) dX3_placesForLottery_11 ?_
    refine c_g_Route_1 hX (by omega) i_X3_placesForLottery_wsX50 (List.mem_of_getElem? (i := 2) rfl) dX3_placesForLottery_12 ?_
    refine g_isub hX dX3_placesForLottery_15 ?_
    refine ret _ _ _ _ dX3_placesForLottery_16 ?_
    exact ⟨by rw [leftP, cn_nI (by omega)], rfl⟩
def rm_X3_isBarred : Room := { frames := 1, cells := 0, slots := 0, locals := 21 }
theorem i_X3_isBarred_wsX00 : ∀ w ∈ wsX00, w ∈ wsX3_isBarred := fun w h => List.mem_cons_of_mem _ (List.mem_append_left _ (List.mem_append_right _ h))
theorem i_X3_isBarred_wsX30 : ∀ w ∈ wsX30, w ∈ wsX3_isBarred := fun w h => List.mem_cons_of_mem _ (List.mem_append_left _ (List.mem_append_left _ (List.mem_append_right _ h)))
theorem k_X3_isBarred_X1_isBarredOn : CW rm_X3_isBarred wsX3_isBarred RX3 RX1 124 yX1_isBarredOn cX1_isBarredOn 2 (some .boolean) wsX1_isBarredOn rm_X1_isBarredOn 1 := ⟨gX3_isBarred_X1_isBarredOn, ⟨_, rfl⟩, rfl, rfl, ⟨rfl, by decide +kernel, by decide +kernel, by decide +kernel⟩, by decide, by decide⟩
set_option maxHeartbeats 4000000 in
set_option maxRecDepth 100000 in
theorem c_X3_isBarred (l : Launch) (G : MG) (z : St) {a : Nat} (ha : a < nA z) (hI : IO z) : CIc l G yX3_isBarred wsX3_isBarred rm_X3_isBarred [.ref (G.2.2 0), .ref (G.2.2 (24 + a))] z (fun ρ ζ => ρ = bi (brdP z a) ∧ ζ = z) := by
  refine ci_of (own := RX3) (cc := cX3_isBarred) (maxL := 2) (ret := .boolean) (by decide +kernel) rfl rfl ?_ (Nat.le_of_ble_eq_true rfl) (KQ_mv (ExC_mv G)) ?_
  · rintro v z' ⟨rfl, -⟩; exact nz_bi _
  · intro X hX ret
    refine g_lv (lv' := [(0, .ref (G.2.2 0)), (1, .ref (G.2.2 (24 + a)))]) rfl ?_
    have h40 := (iNa hI).2
    refine g_aload_n hX 0 dX3_isBarred_0 rfl ?_
    refine c_g_Office_5 hX i_X3_isBarred_wsX30 (List.mem_of_getElem? (i := 1) rfl) dX3_isBarred_1 ?_
    refine g_aload_n hX 1 dX3_isBarred_4 rfl ?_
    refine c_g_Application_0 hX (by omega) i_X3_isBarred_wsX00 (List.mem_of_getElem? (i := 2) rfl) dX3_isBarred_5 ?_
    refine c_ld_climbers hX (cn (z 11 a)) (iC hI (by omega)).1 (iC hI (by omega)).2 dX3_isBarred_8 ?_
    refine g_aload_n hX 1 dX3_isBarred_9 rfl ?_
    refine c_g_Application_2 hX (by omega) i_X3_isBarred_wsX00 (List.mem_of_getElem? (i := 3) rfl) dX3_isBarred_10 ?_
    refine g_cvE hX (As := [.int (z 13 a)]) (rest := []) (c_X1_isBarredOn l G z (i := (cn (z 11 a))) (x1 := (z 13 a)) (hi := (iC hI ha).2)) k_X3_isBarred_X1_isBarredOn (rc_Climber0 (iC hI ha).2) rfl rfl (Nat.le_of_ble_eq_true rfl) dX3_isBarred_13 ?_
    refine ret _ _ _ _ dX3_isBarred_16 ?_
    exact ⟨rfl, rfl⟩
def rm_X3_ticketsOf : Room := { frames := 0, cells := 0, slots := 0, locals := 0 }
theorem i_X3_ticketsOf_wsX00 : ∀ w ∈ wsX00, w ∈ wsX3_ticketsOf := fun w h => List.mem_cons_of_mem _ (List.mem_append_left _ (List.mem_append_right _ h))
theorem i_X3_ticketsOf_wsX10 : ∀ w ∈ wsX10, w ∈ wsX3_ticketsOf := fun w h => List.mem_cons_of_mem _ (List.mem_append_right _ h)
theorem i_X3_ticketsOf_wsX30 : ∀ w ∈ wsX30, w ∈ wsX3_ticketsOf := fun w h => List.mem_cons_of_mem _ (List.mem_append_left _ (List.mem_append_left _ (List.mem_append_right _ h)))
set_option maxHeartbeats 4000000 in
set_option maxRecDepth 100000 in
theorem c_X3_ticketsOf (l : Launch) (G : MG) (z : St) {a : Nat} (ha : a < nA z) (hI : IO z) : CIc l G yX3_ticketsOf wsX3_ticketsOf rm_X3_ticketsOf [.ref (G.2.2 0), .ref (G.2.2 (24 + a))] z (fun ρ ζ => ρ = tkt z a ∧ ζ = z) := by
  refine ci_of (own := RX3) (cc := cX3_ticketsOf) (maxL := 2) (ret := .int) (by decide +kernel) rfl rfl ?_ (Nat.le_of_ble_eq_true rfl) (KQ_mv (ExC_mv G)) ?_
  · intro v z' _; rfl
  · intro X hX ret
    refine g_lv (lv' := [(0, .ref (G.2.2 0)), (1, .ref (G.2.2 (24 + a)))]) rfl ?_
    have h40 := (iNa hI).2
    refine g_iconst hX 1 dX3_ticketsOf_0 (by decide) ?_
    refine g_aload_n hX 0 dX3_ticketsOf_1 rfl ?_
    refine c_g_Office_8 hX i_X3_ticketsOf_wsX30 (List.mem_of_getElem? (i := 1) rfl) dX3_ticketsOf_2 ?_
    refine g_iconst hX 1 dX3_ticketsOf_5 (by decide) ?_
    refine c_ld_settings hX 1 rfl (by decide) dX3_ticketsOf_6 ?_
    refine g_aload_n hX 0 dX3_ticketsOf_7 rfl ?_
    refine c_g_Office_5 hX i_X3_ticketsOf_wsX30 (List.mem_of_getElem? (i := 2) rfl) dX3_ticketsOf_8 ?_
    refine g_aload_n hX 1 dX3_ticketsOf_11 rfl ?_
    refine c_g_Application_0 hX (by omega) i_X3_ticketsOf_wsX00 (List.mem_of_getElem? (i := 3) rfl) dX3_ticketsOf_12 ?_
    refine c_ld_climbers hX (cn (z 11 a)) (iC hI (by omega)).1 (iC hI (by omega)).2 dX3_ticketsOf_15 ?_
    refine c_g_Climber_0 hX (iC hI (by omega)).2 i_X3_ticketsOf_wsX10 (List.mem_of_getElem? (i := 4) rfl) dX3_ticketsOf_16 ?_
    refine g_imul hX dX3_ticketsOf_19 ?_
    refine g_iadd hX dX3_ticketsOf_20 ?_
    refine ret _ _ _ _ dX3_ticketsOf_21 ?_
    exact ⟨rfl, rfl⟩
def rm_X3_givePermit : Room := { frames := 0, cells := 0, slots := 0, locals := 0 }
theorem i_X3_givePermit_wsX00 : ∀ w ∈ wsX00, w ∈ wsX3_givePermit := fun w h => List.mem_cons_of_mem _ (List.mem_append_left _ (List.mem_append_right _ h))
theorem i_X3_givePermit_wsX30 : ∀ w ∈ wsX30, w ∈ wsX3_givePermit := fun w h => List.mem_cons_of_mem _ (List.mem_append_right _ h)
set_option maxHeartbeats 4000000 in
set_option maxRecDepth 100000 in
theorem c_X3_givePermit (l : Launch) (G : MG) (hA : Ap 203 G.2.2) (z : St) {a : Nat} (ha : a < 40) : CVc l G yX3_givePermit wsX3_givePermit rm_X3_givePermit [.ref (G.2.2 0), .ref (G.2.2 (24 + a))] z (fun ζ => ζ = permit z a) := by
  refine cv_of (own := RX3) (cc := cX3_givePermit) (maxL := 2) (by decide +kernel) rfl rfl (Nat.le_of_ble_eq_true rfl) (KQ_mv (ExC_mv G)) ?_
  intro X hX ret
  refine g_lv (lv' := [(0, .ref (G.2.2 0)), (1, .ref (G.2.2 (24 + a)))]) rfl ?_
  refine g_aload_n hX 1 dX3_givePermit_0 rfl ?_
  refine g_iconst hX 1 dX3_givePermit_1 (by decide) ?_
  refine c_p_Application_5 hX hA (by omega) i_X3_givePermit_wsX00 (List.mem_of_getElem? (i := 1) rfl) dX3_givePermit_2 ?_
  refine g_aload_n hX 1 dX3_givePermit_5 rfl ?_
  refine g_aload_n hX 0 dX3_givePermit_6 rfl ?_
  refine c_g_Office_8 hX i_X3_givePermit_wsX30 (List.mem_of_getElem? (i := 2) rfl) dX3_givePermit_7 ?_
  refine g_iconst hX 0 dX3_givePermit_10 (by decide) ?_
  refine c_ld_settings hX 0 rfl (by decide) dX3_givePermit_11 ?_
  refine g_top (z 4 0) (by simp [u2]) ?_
  refine g_aload_n hX 1 dX3_givePermit_12 rfl ?_
  refine c_g_Application_4 hX (by omega) i_X3_givePermit_wsX00 (List.mem_of_getElem? (i := 3) rfl) dX3_givePermit_13 ?_
  refine g_top (z 14 a) (by simp [u2]) ?_
  refine g_imul hX dX3_givePermit_16 ?_
  refine c_p_Application_6 hX hA (by omega) i_X3_givePermit_wsX00 (List.mem_of_getElem? (i := 4) rfl) dX3_givePermit_17 ?_
  refine ret _ _ _ dX3_givePermit_20 ?_
  rfl
def rm_X3_refundNow : Room := { frames := 0, cells := 0, slots := 0, locals := 0 }
theorem i_X3_refundNow_wsX00 : ∀ w ∈ wsX00, w ∈ wsX3_refundNow := fun w h => List.mem_cons_of_mem _ (List.mem_append_left _ (List.mem_append_right _ h))
theorem i_X3_refundNow_wsX30 : ∀ w ∈ wsX30, w ∈ wsX3_refundNow := fun w h => List.mem_cons_of_mem _ (List.mem_append_right _ h)
set_option maxHeartbeats 4000000 in
set_option maxRecDepth 100000 in
theorem c_X3_refundNow (l : Launch) (G : MG) (z : St) {a : Nat} (ha : a < 40) : CIc l G yX3_refundNow wsX3_refundNow rm_X3_refundNow [.ref (G.2.2 0), .ref (G.2.2 (24 + a))] z (fun ρ ζ => ρ = backNow z a ∧ ζ = z) := by
  refine ci_of (own := RX3) (cc := cX3_refundNow) (maxL := 3) (ret := .int) (by decide +kernel) rfl rfl ?_ (Nat.le_of_ble_eq_true rfl) (KQ_mv (ExC_mv G)) ?_
  · intro v z' _; rfl
  · intro X hX ret
    refine g_lv (lv' := [(0, .ref (G.2.2 0)), (1, .ref (G.2.2 (24 + a)))]) rfl ?_
    refine g_aload_n hX 1 dX3_refundNow_0 rfl ?_
    refine c_g_Application_2 hX (by omega) i_X3_refundNow_wsX00 (List.mem_of_getElem? (i := 1) rfl) dX3_refundNow_1 ?_
    refine g_aload_n hX 0 dX3_refundNow_4 rfl ?_
    refine c_g_Office_0 hX i_X3_refundNow_wsX30 (List.mem_of_getElem? (i := 2) rfl) dX3_refundNow_5 ?_
    refine g_isub hX dX3_refundNow_8 ?_
    refine g_istore_n hX [(2, .int ((z 13 a) - (z 0 0))), (0, .ref (G.2.2 0)), (1, .ref (G.2.2 (24 + a)))] dX3_refundNow_9 (by decide) rfl ?_
    refine g_iload_n hX 0 dX3_refundNow_10 rfl ?_
    refine g_bipush hX 7 dX3_refundNow_11 (by decide) ?_
    refine g_ic_lt hX 21 dX3_refundNow_13 (by decide) (fun c1 => ?_) (fun c1 => ?_)
    · -- jump 21
      refine g_iload_n hX 0 dX3_refundNow_21 rfl ?_
      refine g_iconst hX 3 dX3_refundNow_22 (by decide) ?_
      refine g_ic_lt hX 35 dX3_refundNow_23 (by decide) (fun c2 => ?_) (fun c2 => ?_)
      · -- jump 35
        refine g_iconst hX 0 dX3_refundNow_35 (by decide) ?_
        refine ret _ _ _ _ dX3_refundNow_36 ?_
        refine ⟨?_, rfl⟩
        simp [backNow, c1, c2]
      · -- on 26
        refine g_aload_n hX 2 dX3_refundNow_26 rfl ?_
        refine c_g_Application_6 hX (by omega) i_X3_refundNow_wsX00 (List.mem_of_getElem? (i := 3) rfl) dX3_refundNow_27 ?_
        refine g_iconst hX 2 dX3_refundNow_30 (by decide) ?_
        refine g_idiv hX dX3_refundNow_31 (by decide) ?_
        refine g_goto hX 36 dX3_refundNow_32 (by decide) ?_
        refine ret _ _ _ _ dX3_refundNow_36 ?_
        refine ⟨?_, rfl⟩
        simp [backNow, c1, c2]
    · -- on 16
      refine g_aload_n hX 2 dX3_refundNow_16 rfl ?_
      refine c_g_Application_6 hX (by omega) i_X3_refundNow_wsX00 (List.mem_of_getElem? (i := 3) rfl) dX3_refundNow_17 ?_
      refine ret _ _ _ _ dX3_refundNow_20 ?_
      refine ⟨?_, rfl⟩
      simp [backNow, c1]
def rm_X1_strike : Room := { frames := 1, cells := 0, slots := 0, locals := 24 }
theorem i_X1_strike_wsX10 : ∀ w ∈ wsX10, w ∈ wsX1_strike := fun w h => List.mem_cons_of_mem _ (List.mem_append_right _ h)
set_option maxHeartbeats 4000000 in
set_option maxRecDepth 100000 in
theorem c_X1_strike (l : Launch) (G : MG) (hA : Ap 203 G.2.2) (z : St) {i : Nat} {x1 : Int32} {x2 : Int32} (hi : i < 12) : CVc l G yX1_strike wsX1_strike rm_X1_strike [.ref (G.2.2 (12 + i)), .int x1, .int x2] z (fun ζ => ζ = strikeZ z i x1 x2) := by
  refine cv_of (own := RX1) (cc := cX1_strike) (maxL := 3) (by decide +kernel) rfl rfl (Nat.le_of_ble_eq_true rfl) (KQ_mv (ExC_mv G)) ?_
  intro X hX ret
  refine g_lv (lv' := [(0, .ref (G.2.2 (12 + i))), (1, .int x1), (2, .int x2)]) rfl ?_
  refine g_aload_n hX 0 dX1_strike_0 rfl ?_
  refine g_dup hX dX1_strike_1 rfl ?_
  refine c_g_Climber_1 hX (by omega) i_X1_strike_wsX10 (List.mem_of_getElem? (i := 1) rfl) dX1_strike_2 ?_
  refine g_iconst hX 1 dX1_strike_5 (by decide) ?_
  refine g_iadd hX dX1_strike_6 ?_
  refine c_p_Climber_1 hX hA (by omega) i_X1_strike_wsX10 (List.mem_of_getElem? (i := 1) rfl) dX1_strike_7 ?_
  refine g_aload_n hX 0 dX1_strike_10 rfl ?_
  refine c_g_Climber_1 hX (by omega) i_X1_strike_wsX10 (List.mem_of_getElem? (i := 1) rfl) dX1_strike_11 ?_
  refine g_top ((z 9 i) + 1) (by simp [u2]) ?_
  refine g_iload_n hX 1 dX1_strike_14 rfl ?_
  refine g_ic_lt hX 35 dX1_strike_15 (by decide) (fun c1 => ?_) (fun c1 => ?_)
  · -- jump 35
    refine ret _ _ _ dX1_strike_35 ?_
    simp [strikeZ, c1]
  · -- on 18
    refine g_aload_n hX 0 dX1_strike_18 rfl ?_
    refine g_iconst hX 0 dX1_strike_19 (by decide) ?_
    refine c_p_Climber_1 hX hA (by omega) i_X1_strike_wsX10 (List.mem_of_getElem? (i := 1) rfl) dX1_strike_20 ?_
    refine g_aload_n hX 0 dX1_strike_23 rfl ?_
    refine g_aload_n hX 0 dX1_strike_24 rfl ?_
    refine c_g_Climber_2 hX (by omega) i_X1_strike_wsX10 (List.mem_of_getElem? (i := 2) rfl) dX1_strike_25 ?_
    refine g_top (z 10 i) (by simp [u2]) ?_
    refine g_iload_n hX 2 dX1_strike_28 rfl ?_
    refine g_max hX dX1_strike_29 (List.mem_of_getElem? (i := 3) rfl) (List.mem_of_getElem? (i := 4) rfl) (List.mem_of_getElem? (i := 5) rfl) (List.mem_of_getElem? (i := 6) rfl) (by decide) (Nat.le_of_ble_eq_true rfl) ?_
    refine c_p_Climber_2 hX hA (by omega) i_X1_strike_wsX10 (List.mem_of_getElem? (i := 2) rfl) dX1_strike_32 ?_
    refine ret _ _ _ dX1_strike_35 ?_
    simp [strikeZ, c1]
def rm_X3_loseApplied : Room := { frames := 1, cells := 0, slots := 0, locals := 22 }
theorem i_X3_loseApplied_wsX00 : ∀ w ∈ wsX00, w ∈ wsX3_loseApplied := fun w h => List.mem_cons_of_mem _ (List.mem_append_right _ h)
theorem i_X3_loseApplied_wsX30 : ∀ w ∈ wsX30, w ∈ wsX3_loseApplied := fun w h => List.mem_cons_of_mem _ (List.mem_append_left _ (List.mem_append_right _ h))
theorem k_X3_loseApplied_X0_isOf : CW rm_X3_loseApplied wsX3_loseApplied RX3 RX0 97 yX0_isOf cX0_isOf 3 (some .boolean) wsX0_isOf rm_X0_isOf 2 := ⟨gX3_loseApplied_X0_isOf, ⟨_, rfl⟩, rfl, rfl, ⟨rfl, by decide +kernel, by decide +kernel, by decide +kernel⟩, by decide, by decide⟩
set_option maxHeartbeats 4000000 in
set_option maxRecDepth 100000 in
theorem c_X3_loseApplied (l : Launch) (G : MG) (hA : Ap 203 G.2.2) (z : St) {r : Int32} {d : Int32} (hI : IO z) : CVc l G yX3_loseApplied wsX3_loseApplied rm_X3_loseApplied [.ref (G.2.2 0), .int r, .int d] z (fun ζ => ζ = loseK z r d (nA z)) := by
  refine cv_of (own := RX3) (cc := cX3_loseApplied) (maxL := 4) (by decide +kernel) rfl rfl (Nat.le_of_ble_eq_true rfl) (KQ_mv (ExC_mv G)) ?_
  intro X hX ret
  refine g_lv (lv' := [(0, .ref (G.2.2 0)), (1, .int r), (2, .int d)]) rfl ?_
  obtain ⟨e3, h40⟩ := iNa hI
  refine g_iconst hX 0 dX3_loseApplied_0 (by decide) ?_
  refine g_istore_n hX [(3, .int 0), (0, .ref (G.2.2 0)), (1, .int r), (2, .int d)] dX3_loseApplied_1 (by decide) rfl ?_
  have loop2 : ∀ (nf : Nat) (k : Nat) (y : St), (nA z < k + nf) → (k ≤ nA z) → (y = loseK z r d k) → Go X (y) 2 [(0, .ref (G.2.2 0)), (1, .int r), (2, .int d), (3, .int (nI k))] [] := by
    intro nf
    induction nf with
    | zero =>
      intro k y hmu hk hy
      exfalso; omega
    | succ nf ih =>
      intro k y hmu hk hy
      have y15 : y 15 k = z 15 k := by rw [hy]; exact loseK_ne (by omega)
      have y12 : y 12 k = z 12 k := by rw [hy]; exact loseK_ne (by omega)
      have y13 : y 13 k = z 13 k := by rw [hy]; exact loseK_ne (by omega)
      refine g_iload_n hX 3 dX3_loseApplied_2 rfl ?_
      refine g_aload_n hX 0 dX3_loseApplied_3 rfl ?_
      refine c_g_Office_3 hX i_X3_loseApplied_wsX30 (List.mem_of_getElem? (i := 1) rfl) dX3_loseApplied_4 ?_
      refine g_ic_ge hX 52 dX3_loseApplied_7 (by decide) (fun c1 => ?_) (fun c1 => ?_)
      · -- jump 52
        have hke : k = nA z := by
          rw [hy, loseK_ne (by omega), e3] at c1; have := (nI_leI (by omega) (by omega)).mp c1; omega
        refine ret _ _ _ dX3_loseApplied_52 ?_
        rw [hy, hke]
      · -- on 10
        have hkn : k < nA z := by
          rw [hy, loseK_ne (by omega), e3] at c1; exact Nat.lt_of_not_le (fun q => c1 (nI_le q (by omega)))
        refine g_aload_n hX 0 dX3_loseApplied_10 rfl ?_
        refine c_g_Office_6 hX i_X3_loseApplied_wsX30 (List.mem_of_getElem? (i := 2) rfl) dX3_loseApplied_11 ?_
        refine g_iload_n hX 3 dX3_loseApplied_14 rfl ?_
        refine c_ld_applications hX k rfl (by omega) dX3_loseApplied_15 ?_
        refine c_g_Application_5 hX (by omega) i_X3_loseApplied_wsX00 (List.mem_of_getElem? (i := 3) rfl) dX3_loseApplied_16 ?_
        refine g_if_ne hX 46 dX3_loseApplied_19 (by decide) (fun c2 => ?_) (fun c2 => ?_)
        · -- jump 46
          refine g_iinc hX (nI (k + 1)) 3 [(3, .int (nI (k + 1))), (0, .ref (G.2.2 0)), (1, .int r), (2, .int d)] dX3_loseApplied_46 rfl (nI_1 k) (by decide) rfl ?_
          refine g_goto hX 2 dX3_loseApplied_49 (by decide) ?_
          -- back to 2
          refine g_sub [1, 2, 3, 0] [(0, .ref (G.2.2 0)), (1, .int r), (2, .int d), (3, .int (nI (k + 1)))] rfl ?_
          exact ih (k + 1) y (by omega) (by omega) (by rw [loseK, if_neg (by grind)]; exact hy)
        · -- on 22
          refine g_aload_n hX 0 dX3_loseApplied_22 rfl ?_
          refine c_g_Office_6 hX i_X3_loseApplied_wsX30 (List.mem_of_getElem? (i := 2) rfl) dX3_loseApplied_23 ?_
          refine g_iload_n hX 3 dX3_loseApplied_26 rfl ?_
          refine c_ld_applications hX k rfl (by omega) dX3_loseApplied_27 ?_
          refine g_iload_n hX 1 dX3_loseApplied_28 rfl ?_
          refine g_iload_n hX 2 dX3_loseApplied_29 rfl ?_
          refine g_cvE hX (As := [.int r, .int d]) (rest := []) (c_X0_isOf l G y (a := k) (x1 := r) (x2 := d) (ha := (by omega))) k_X3_loseApplied_X0_isOf (rc_App0 (by omega)) rfl rfl (Nat.le_of_ble_eq_true rfl) dX3_loseApplied_30 ?_
          refine g_bi_eq hX 46 dX3_loseApplied_33 (by decide) (fun c3 => ?_) (fun c3 => ?_)
          · -- jump 46
            refine g_iinc hX (nI (k + 1)) 3 [(3, .int (nI (k + 1))), (0, .ref (G.2.2 0)), (1, .int r), (2, .int d)] dX3_loseApplied_46 rfl (nI_1 k) (by decide) rfl ?_
            refine g_goto hX 2 dX3_loseApplied_49 (by decide) ?_
            -- back to 2
            refine g_sub [1, 2, 3, 0] [(0, .ref (G.2.2 0)), (1, .int r), (2, .int d), (3, .int (nI (k + 1)))] rfl ?_
            exact ih (k + 1) y (by omega) (by omega) (by rw [loseK, if_neg (by grind)]; exact hy)
          · -- on 36
            refine g_aload_n hX 0 dX3_loseApplied_36 rfl ?_
            refine c_g_Office_6 hX i_X3_loseApplied_wsX30 (List.mem_of_getElem? (i := 2) rfl) dX3_loseApplied_37 ?_
            refine g_iload_n hX 3 dX3_loseApplied_40 rfl ?_
            refine c_ld_applications hX k rfl (by omega) dX3_loseApplied_41 ?_
            refine g_iconst hX 2 dX3_loseApplied_42 (by decide) ?_
            refine c_p_Application_5 hX hA (by omega) i_X3_loseApplied_wsX00 (List.mem_of_getElem? (i := 3) rfl) dX3_loseApplied_43 ?_
            refine g_iinc hX (nI (k + 1)) 3 [(3, .int (nI (k + 1))), (0, .ref (G.2.2 0)), (1, .int r), (2, .int d)] dX3_loseApplied_46 rfl (nI_1 k) (by decide) rfl ?_
            refine g_goto hX 2 dX3_loseApplied_49 (by decide) ?_
            -- back to 2
            refine g_sub [1, 2, 3, 0] [(0, .ref (G.2.2 0)), (1, .int r), (2, .int d), (3, .int (nI (k + 1)))] rfl ?_
            exact ih (k + 1) (u2 y 15 k 2) (by omega) (by omega) (by rw [loseK, if_pos (by grind), hy])
  refine g_sub [1, 2, 3, 0] [(0, .ref (G.2.2 0)), (1, .int r), (2, .int d), (3, .int 0)] rfl ?_
  exact loop2 (nA z + 1) 0 z (by omega) (Nat.zero_le _) rfl
def rm_X3_firstWaiting : Room := { frames := 2, cells := 0, slots := 0, locals := 42 }
theorem i_X3_firstWaiting_wsX00 : ∀ w ∈ wsX00, w ∈ wsX3_firstWaiting := fun w h => List.mem_cons_of_mem _ (List.mem_append_left _ (List.mem_append_right _ h))
theorem i_X3_firstWaiting_wsX10 : ∀ w ∈ wsX10, w ∈ wsX3_firstWaiting := fun w h => List.mem_cons_of_mem _ (List.mem_append_right _ h)
theorem i_X3_firstWaiting_wsX30 : ∀ w ∈ wsX30, w ∈ wsX3_firstWaiting := fun w h => List.mem_cons_of_mem _ (List.mem_append_left _ (List.mem_append_left _ (List.mem_append_right _ h)))
theorem k_X3_firstWaiting_X0_isOf : CW rm_X3_firstWaiting wsX3_firstWaiting RX3 RX0 97 yX0_isOf cX0_isOf 3 (some .boolean) wsX0_isOf rm_X0_isOf 2 := ⟨gX3_firstWaiting_X0_isOf, ⟨_, rfl⟩, rfl, rfl, ⟨rfl, by decide +kernel, by decide +kernel, by decide +kernel⟩, by decide, by decide⟩
theorem k_X3_firstWaiting_X3_isBarred : CW rm_X3_firstWaiting wsX3_firstWaiting RX3 RX3 130 yX3_isBarred cX3_isBarred 2 (some .boolean) wsX3_isBarred rm_X3_isBarred 1 := ⟨gX3_firstWaiting_X3_isBarred, ⟨_, rfl⟩, rfl, rfl, ⟨rfl, by decide +kernel, by decide +kernel, by decide +kernel⟩, by decide, by decide⟩
set_option maxHeartbeats 4000000 in
set_option maxRecDepth 100000 in
theorem c_X3_firstWaiting (l : Launch) (G : MG) (z : St) {r : Int32} {d : Int32} {p : Int32} (hr : ¬ r = -1) (hI : IO z) (hm : ∀ c, c < 12 → 0 ≤ z 8 c) : CIc l G yX3_firstWaiting wsX3_firstWaiting rm_X3_firstWaiting [.ref (G.2.2 0), .int r, .int d, .int p] z (fun ρ ζ => ρ = fw z r d p ∧ ζ = z) := by
  refine ci_of (own := RX3) (cc := cX3_firstWaiting) (maxL := 8) (ret := .int) (by decide +kernel) rfl rfl ?_ (Nat.le_of_ble_eq_true rfl) (KQ_mv (ExC_mv G)) ?_
  · intro v z' _; rfl
  · intro X hX ret
    refine g_lv (lv' := [(0, .ref (G.2.2 0)), (1, .int r), (2, .int d), (3, .int p)]) rfl ?_
    obtain ⟨e3, h40⟩ := iNa hI
    refine g_bipush hX (-6) dX3_firstWaiting_0 (by decide) ?_
    refine g_istore hX [(4, .int (-6)), (0, .ref (G.2.2 0)), (1, .int r), (2, .int d), (3, .int p)] dX3_firstWaiting_2 (by decide) rfl ?_
    refine g_iconst hX (-1) dX3_firstWaiting_4 (by decide) ?_
    refine g_istore hX [(5, .int (-1)), (4, .int (-6)), (0, .ref (G.2.2 0)), (1, .int r), (2, .int d), (3, .int p)] dX3_firstWaiting_5 (by decide) rfl ?_
    refine g_iconst hX 0 dX3_firstWaiting_7 (by decide) ?_
    refine g_istore hX [(6, .int 0), (5, .int (-1)), (4, .int (-6)), (0, .ref (G.2.2 0)), (1, .int r), (2, .int d), (3, .int p)] dX3_firstWaiting_8 (by decide) rfl ?_
    have loop10 : ∀ (nf : Nat) (k : Nat), (nA z < k + nf) → (k ≤ nA z) → Go X (z) 10 [(0, .ref (G.2.2 0)), (1, .int r), (2, .int d), (3, .int p), (4, .int (fwK z r d p k)), (5, .int (mostK z r d p k)), (6, .int (nI k))] [] := by
      intro nf
      induction nf with
      | zero =>
        intro k hmu hk
        exfalso; omega
      | succ nf ih =>
        intro k hmu hk
        refine g_iload hX 6 dX3_firstWaiting_10 rfl ?_
        refine g_aload_n hX 0 dX3_firstWaiting_12 rfl ?_
        refine c_g_Office_3 hX i_X3_firstWaiting_wsX30 (List.mem_of_getElem? (i := 1) rfl) dX3_firstWaiting_13 ?_
        refine g_ic_ge hX 108 dX3_firstWaiting_16 (by decide) (fun c1 => ?_) (fun c1 => ?_)
        · -- jump 108
          have hke : k = nA z := by
            rw [e3] at c1; have := (nI_leI (by omega) (by omega)).mp c1; omega
          refine g_iload hX 4 dX3_firstWaiting_108 rfl ?_
          refine ret _ _ _ _ dX3_firstWaiting_110 ?_
          exact ⟨by rw [hke]; rfl, rfl⟩
        · -- on 19
          have hkn : k < nA z := by
            rw [e3] at c1; exact Nat.lt_of_not_le (fun q => c1 (nI_le q (by omega)))
          refine g_aload_n hX 0 dX3_firstWaiting_19 rfl ?_
          refine c_g_Office_6 hX i_X3_firstWaiting_wsX30 (List.mem_of_getElem? (i := 2) rfl) dX3_firstWaiting_20 ?_
          refine g_iload hX 6 dX3_firstWaiting_23 rfl ?_
          refine c_ld_applications hX k rfl (by omega) dX3_firstWaiting_25 ?_
          refine g_astore hX [(7, .ref (G.2.2 (24 + k))), (0, .ref (G.2.2 0)), (1, .int r), (2, .int d), (3, .int p), (4, .int (fwK z r d p k)), (5, .int (mostK z r d p k)), (6, .int (nI k))] dX3_firstWaiting_26 (by decide) rfl ?_
          refine g_aload hX 0 dX3_firstWaiting_28 rfl ?_
          refine c_g_Application_5 hX (by omega) i_X3_firstWaiting_wsX00 (List.mem_of_getElem? (i := 3) rfl) dX3_firstWaiting_30 ?_
          refine g_iconst hX 2 dX3_firstWaiting_33 (by decide) ?_
          refine g_ic_ne hX 102 dX3_firstWaiting_34 (by decide) (fun c2 => ?_) (fun c2 => ?_)
          · -- jump 102
            refine g_iinc hX (nI (k + 1)) 7 [(6, .int (nI (k + 1))), (7, .ref (G.2.2 (24 + k))), (0, .ref (G.2.2 0)), (1, .int r), (2, .int d), (3, .int p), (4, .int (fwK z r d p k)), (5, .int (mostK z r d p k))] dX3_firstWaiting_102 rfl (nI_1 k) (by decide) rfl ?_
            refine g_goto hX 10 dX3_firstWaiting_105 (by decide) ?_
            -- back to 10
            refine g_sub [2, 3, 4, 5, 6, 7, 0] [(0, .ref (G.2.2 0)), (1, .int r), (2, .int d), (3, .int p), (4, .int (fwK z r d p k)), (5, .int (mostK z r d p k)), (6, .int (nI (k + 1)))] rfl ?_
            have hs := fw_step (z := z) (r := r) (d := d) (p := p) (k := k) (hm _ (iC hI hkn).2)
            have e4 : (fwK z r d p k : Int32) = fwK z r d p (k + 1) := by
              exact (hs.2 (by grind)).1.symm
            refine g_lv (lv' := [(0, .ref (G.2.2 0)), (1, .int r), (2, .int d), (3, .int p), (4, .int (fwK z r d p (k + 1))), (5, .int (mostK z r d p k)), (6, .int (nI (k + 1)))]) (by rw [e4]) ?_
            have e5 : (mostK z r d p k : Int32) = mostK z r d p (k + 1) := by
              exact (hs.2 (by grind)).2.symm
            refine g_lv (lv' := [(0, .ref (G.2.2 0)), (1, .int r), (2, .int d), (3, .int p), (4, .int (fwK z r d p (k + 1))), (5, .int (mostK z r d p (k + 1))), (6, .int (nI (k + 1)))]) (by rw [e5]) ?_
            exact ih (k + 1) (by omega) (by omega)
          · -- on 37
            refine g_aload hX 0 dX3_firstWaiting_37 rfl ?_
            refine g_iload_n hX 2 dX3_firstWaiting_39 rfl ?_
            refine g_iload_n hX 3 dX3_firstWaiting_40 rfl ?_
            refine g_cvE hX (As := [.int r, .int d]) (rest := []) (c_X0_isOf l G z (a := k) (x1 := r) (x2 := d) (ha := (by omega))) k_X3_firstWaiting_X0_isOf (rc_App0 (by omega)) rfl rfl (Nat.le_of_ble_eq_true rfl) dX3_firstWaiting_41 ?_
            refine g_bi_eq hX 102 dX3_firstWaiting_44 (by decide) (fun c3 => ?_) (fun c3 => ?_)
            · -- jump 102
              refine g_iinc hX (nI (k + 1)) 7 [(6, .int (nI (k + 1))), (7, .ref (G.2.2 (24 + k))), (0, .ref (G.2.2 0)), (1, .int r), (2, .int d), (3, .int p), (4, .int (fwK z r d p k)), (5, .int (mostK z r d p k))] dX3_firstWaiting_102 rfl (nI_1 k) (by decide) rfl ?_
              refine g_goto hX 10 dX3_firstWaiting_105 (by decide) ?_
              -- back to 10
              refine g_sub [2, 3, 4, 5, 6, 7, 0] [(0, .ref (G.2.2 0)), (1, .int r), (2, .int d), (3, .int p), (4, .int (fwK z r d p k)), (5, .int (mostK z r d p k)), (6, .int (nI (k + 1)))] rfl ?_
              have hs := fw_step (z := z) (r := r) (d := d) (p := p) (k := k) (hm _ (iC hI hkn).2)
              have e4 : (fwK z r d p k : Int32) = fwK z r d p (k + 1) := by
                exact (hs.2 (by grind)).1.symm
              refine g_lv (lv' := [(0, .ref (G.2.2 0)), (1, .int r), (2, .int d), (3, .int p), (4, .int (fwK z r d p (k + 1))), (5, .int (mostK z r d p k)), (6, .int (nI (k + 1)))]) (by rw [e4]) ?_
              have e5 : (mostK z r d p k : Int32) = mostK z r d p (k + 1) := by
                exact (hs.2 (by grind)).2.symm
              refine g_lv (lv' := [(0, .ref (G.2.2 0)), (1, .int r), (2, .int d), (3, .int p), (4, .int (fwK z r d p (k + 1))), (5, .int (mostK z r d p (k + 1))), (6, .int (nI (k + 1)))]) (by rw [e5]) ?_
              exact ih (k + 1) (by omega) (by omega)
            · -- on 47
              refine g_aload hX 0 dX3_firstWaiting_47 rfl ?_
              refine c_g_Application_4 hX (by omega) i_X3_firstWaiting_wsX00 (List.mem_of_getElem? (i := 4) rfl) dX3_firstWaiting_49 ?_
              refine g_iload_n hX 4 dX3_firstWaiting_52 rfl ?_
              refine g_ic_gt hX 102 dX3_firstWaiting_53 (by decide) (fun c4 => ?_) (fun c4 => ?_)
              · -- jump 102
                refine g_iinc hX (nI (k + 1)) 7 [(6, .int (nI (k + 1))), (7, .ref (G.2.2 (24 + k))), (0, .ref (G.2.2 0)), (1, .int r), (2, .int d), (3, .int p), (4, .int (fwK z r d p k)), (5, .int (mostK z r d p k))] dX3_firstWaiting_102 rfl (nI_1 k) (by decide) rfl ?_
                refine g_goto hX 10 dX3_firstWaiting_105 (by decide) ?_
                -- back to 10
                refine g_sub [2, 3, 4, 5, 6, 7, 0] [(0, .ref (G.2.2 0)), (1, .int r), (2, .int d), (3, .int p), (4, .int (fwK z r d p k)), (5, .int (mostK z r d p k)), (6, .int (nI (k + 1)))] rfl ?_
                have hs := fw_step (z := z) (r := r) (d := d) (p := p) (k := k) (hm _ (iC hI hkn).2)
                have e4 : (fwK z r d p k : Int32) = fwK z r d p (k + 1) := by
                  exact (hs.2 (by grind)).1.symm
                refine g_lv (lv' := [(0, .ref (G.2.2 0)), (1, .int r), (2, .int d), (3, .int p), (4, .int (fwK z r d p (k + 1))), (5, .int (mostK z r d p k)), (6, .int (nI (k + 1)))]) (by rw [e4]) ?_
                have e5 : (mostK z r d p k : Int32) = mostK z r d p (k + 1) := by
                  exact (hs.2 (by grind)).2.symm
                refine g_lv (lv' := [(0, .ref (G.2.2 0)), (1, .int r), (2, .int d), (3, .int p), (4, .int (fwK z r d p (k + 1))), (5, .int (mostK z r d p (k + 1))), (6, .int (nI (k + 1)))]) (by rw [e5]) ?_
                exact ih (k + 1) (by omega) (by omega)
              · -- on 56
                refine g_aload_n hX 1 dX3_firstWaiting_56 rfl ?_
                refine g_aload hX 0 dX3_firstWaiting_57 rfl ?_
                refine g_cvE hX (As := [.ref (G.2.2 (24 + k))]) (rest := []) (c_X3_isBarred l G z (a := k) (ha := (by omega)) (hI := (by assumption))) k_X3_firstWaiting_X3_isBarred rc_Office0 rfl rfl (Nat.le_of_ble_eq_true rfl) dX3_firstWaiting_59 ?_
                refine g_bi_ne hX 102 dX3_firstWaiting_62 (by decide) (fun c5 => ?_) (fun c5 => ?_)
                · -- jump 102
                  refine g_iinc hX (nI (k + 1)) 7 [(6, .int (nI (k + 1))), (7, .ref (G.2.2 (24 + k))), (0, .ref (G.2.2 0)), (1, .int r), (2, .int d), (3, .int p), (4, .int (fwK z r d p k)), (5, .int (mostK z r d p k))] dX3_firstWaiting_102 rfl (nI_1 k) (by decide) rfl ?_
                  refine g_goto hX 10 dX3_firstWaiting_105 (by decide) ?_
                  -- back to 10
                  refine g_sub [2, 3, 4, 5, 6, 7, 0] [(0, .ref (G.2.2 0)), (1, .int r), (2, .int d), (3, .int p), (4, .int (fwK z r d p k)), (5, .int (mostK z r d p k)), (6, .int (nI (k + 1)))] rfl ?_
                  have hs := fw_step (z := z) (r := r) (d := d) (p := p) (k := k) (hm _ (iC hI hkn).2)
                  have e4 : (fwK z r d p k : Int32) = fwK z r d p (k + 1) := by
                    exact (hs.2 (by grind)).1.symm
                  refine g_lv (lv' := [(0, .ref (G.2.2 0)), (1, .int r), (2, .int d), (3, .int p), (4, .int (fwK z r d p (k + 1))), (5, .int (mostK z r d p k)), (6, .int (nI (k + 1)))]) (by rw [e4]) ?_
                  have e5 : (mostK z r d p k : Int32) = mostK z r d p (k + 1) := by
                    exact (hs.2 (by grind)).2.symm
                  refine g_lv (lv' := [(0, .ref (G.2.2 0)), (1, .int r), (2, .int d), (3, .int p), (4, .int (fwK z r d p (k + 1))), (5, .int (mostK z r d p (k + 1))), (6, .int (nI (k + 1)))]) (by rw [e5]) ?_
                  exact ih (k + 1) (by omega) (by omega)
                · -- on 65
                  refine g_aload_n hX 1 dX3_firstWaiting_65 rfl ?_
                  refine c_g_Office_5 hX i_X3_firstWaiting_wsX30 (List.mem_of_getElem? (i := 5) rfl) dX3_firstWaiting_66 ?_
                  refine g_aload hX 0 dX3_firstWaiting_69 rfl ?_
                  refine c_g_Application_0 hX (by omega) i_X3_firstWaiting_wsX00 (List.mem_of_getElem? (i := 6) rfl) dX3_firstWaiting_71 ?_
                  refine c_ld_climbers hX (cn (z 11 k)) (iC hI (by omega)).1 (iC hI (by omega)).2 dX3_firstWaiting_74 ?_
                  refine c_g_Climber_0 hX (iC hI (by omega)).2 i_X3_firstWaiting_wsX10 (List.mem_of_getElem? (i := 7) rfl) dX3_firstWaiting_75 ?_
                  refine g_iload hX 6 dX3_firstWaiting_78 rfl ?_
                  refine g_ic_le hX 102 dX3_firstWaiting_80 (by decide) (fun c6 => ?_) (fun c6 => ?_)
                  · -- jump 102
                    refine g_iinc hX (nI (k + 1)) 7 [(6, .int (nI (k + 1))), (7, .ref (G.2.2 (24 + k))), (0, .ref (G.2.2 0)), (1, .int r), (2, .int d), (3, .int p), (4, .int (fwK z r d p k)), (5, .int (mostK z r d p k))] dX3_firstWaiting_102 rfl (nI_1 k) (by decide) rfl ?_
                    refine g_goto hX 10 dX3_firstWaiting_105 (by decide) ?_
                    -- back to 10
                    refine g_sub [2, 3, 4, 5, 6, 7, 0] [(0, .ref (G.2.2 0)), (1, .int r), (2, .int d), (3, .int p), (4, .int (fwK z r d p k)), (5, .int (mostK z r d p k)), (6, .int (nI (k + 1)))] rfl ?_
                    have hs := fw_step (z := z) (r := r) (d := d) (p := p) (k := k) (hm _ (iC hI hkn).2)
                    have e4 : (fwK z r d p k : Int32) = fwK z r d p (k + 1) := by
                      exact (hs.2 (by grind)).1.symm
                    refine g_lv (lv' := [(0, .ref (G.2.2 0)), (1, .int r), (2, .int d), (3, .int p), (4, .int (fwK z r d p (k + 1))), (5, .int (mostK z r d p k)), (6, .int (nI (k + 1)))]) (by rw [e4]) ?_
                    have e5 : (mostK z r d p k : Int32) = mostK z r d p (k + 1) := by
                      exact (hs.2 (by grind)).2.symm
                    refine g_lv (lv' := [(0, .ref (G.2.2 0)), (1, .int r), (2, .int d), (3, .int p), (4, .int (fwK z r d p (k + 1))), (5, .int (mostK z r d p (k + 1))), (6, .int (nI (k + 1)))]) (by rw [e5]) ?_
                    exact ih (k + 1) (by omega) (by omega)
                  · -- on 83
                    refine g_iload hX 7 dX3_firstWaiting_83 rfl ?_
                    refine g_istore hX [(4, .int (nI k)), (7, .ref (G.2.2 (24 + k))), (0, .ref (G.2.2 0)), (1, .int r), (2, .int d), (3, .int p), (5, .int (mostK z r d p k)), (6, .int (nI k))] dX3_firstWaiting_85 (by decide) rfl ?_
                    refine g_aload_n hX 2 dX3_firstWaiting_87 rfl ?_
                    refine c_g_Office_5 hX i_X3_firstWaiting_wsX30 (List.mem_of_getElem? (i := 5) rfl) dX3_firstWaiting_88 ?_
                    refine g_aload hX 1 dX3_firstWaiting_91 rfl ?_
                    refine c_g_Application_0 hX (by omega) i_X3_firstWaiting_wsX00 (List.mem_of_getElem? (i := 6) rfl) dX3_firstWaiting_93 ?_
                    refine c_ld_climbers hX (cn (z 11 k)) (iC hI (by omega)).1 (iC hI (by omega)).2 dX3_firstWaiting_96 ?_
                    refine c_g_Climber_0 hX (iC hI (by omega)).2 i_X3_firstWaiting_wsX10 (List.mem_of_getElem? (i := 7) rfl) dX3_firstWaiting_97 ?_
                    refine g_istore hX [(5, .int (z 8 (cn (z 11 k)))), (4, .int (nI k)), (7, .ref (G.2.2 (24 + k))), (0, .ref (G.2.2 0)), (1, .int r), (2, .int d), (3, .int p), (6, .int (nI k))] dX3_firstWaiting_100 (by decide) rfl ?_
                    refine g_iinc hX (nI (k + 1)) 7 [(6, .int (nI (k + 1))), (5, .int (z 8 (cn (z 11 k)))), (4, .int (nI k)), (7, .ref (G.2.2 (24 + k))), (0, .ref (G.2.2 0)), (1, .int r), (2, .int d), (3, .int p)] dX3_firstWaiting_102 rfl (nI_1 k) (by decide) rfl ?_
                    refine g_goto hX 10 dX3_firstWaiting_105 (by decide) ?_
                    -- back to 10
                    refine g_sub [4, 5, 6, 7, 2, 1, 0] [(0, .ref (G.2.2 0)), (1, .int r), (2, .int d), (3, .int p), (4, .int (nI k)), (5, .int (z 8 (cn (z 11 k)))), (6, .int (nI (k + 1)))] rfl ?_
                    have hs := fw_step (z := z) (r := r) (d := d) (p := p) (k := k) (hm _ (iC hI hkn).2)
                    have e4 : (nI k : Int32) = fwK z r d p (k + 1) := by
                      exact (hs.1 (by grind)).1.symm
                    refine g_lv (lv' := [(0, .ref (G.2.2 0)), (1, .int r), (2, .int d), (3, .int p), (4, .int (fwK z r d p (k + 1))), (5, .int (z 8 (cn (z 11 k)))), (6, .int (nI (k + 1)))]) (by rw [e4]) ?_
                    have e5 : (z 8 (cn (z 11 k)) : Int32) = mostK z r d p (k + 1) := by
                      exact (hs.1 (by grind)).2.symm
                    refine g_lv (lv' := [(0, .ref (G.2.2 0)), (1, .int r), (2, .int d), (3, .int p), (4, .int (fwK z r d p (k + 1))), (5, .int (mostK z r d p (k + 1))), (6, .int (nI (k + 1)))]) (by rw [e5]) ?_
                    exact ih (k + 1) (by omega) (by omega)
    refine g_sub [3, 4, 5, 6, 2, 1, 0] [(0, .ref (G.2.2 0)), (1, .int r), (2, .int d), (3, .int p), (4, .int (-6)), (5, .int (-1)), (6, .int 0)] rfl ?_
    exact loop10 (nA z + 1) 0 (by omega) (Nat.zero_le _)
