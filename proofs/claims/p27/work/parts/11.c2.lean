def rm_X3_addRoute : Room := { frames := 0, cells := 0, slots := 0, locals := 0 }
theorem i_X3_addRoute_wsX30 : ∀ w ∈ wsX30, w ∈ wsX3_addRoute := fun w h => List.mem_cons_of_mem _ (List.mem_append_left _ (List.mem_append_right _ h))
theorem i_X3_addRoute_wsX50 : ∀ w ∈ wsX50, w ∈ wsX3_addRoute := fun w h => List.mem_cons_of_mem _ (List.mem_append_right _ h)
set_option maxHeartbeats 4000000 in
set_option maxRecDepth 100000 in
theorem c_X3_addRoute (l : Launch) (G : MG) (hA : Ap 203 G.2.2) (z : St) {x1 : Int32} {x2 : Int32} (hn : cn (z 1 0) < 6) (hI : IO z) : CIc l G yX3_addRoute wsX3_addRoute rm_X3_addRoute [.ref (G.2.2 0), .int x1, .int x2] z (fun ρ ζ => ρ = z 1 0 ∧ ζ = u2 (u2 (u2 z 5 (cn (z 1 0)) x1) 6 (cn (z 1 0)) x2) 1 0 (z 1 0 + 1)) := by
  refine ci_of (own := RX3) (cc := cX3_addRoute) (maxL := 4) (ret := .int) (by decide +kernel) rfl rfl ?_ (Nat.le_of_ble_eq_true rfl) (KQ_mv (ExC_mv G)) ?_
  · intro v z' _; rfl
  · intro X hX ret
    refine g_lv (lv' := [(0, .ref (G.2.2 0)), (1, .int x1), (2, .int x2)]) rfl ?_
    refine g_aload_n hX 0 dX3_addRoute_0 rfl ?_
    refine c_g_Office_4 hX i_X3_addRoute_wsX30 (List.mem_of_getElem? (i := 1) rfl) dX3_addRoute_1 ?_
    refine g_aload_n hX 0 dX3_addRoute_4 rfl ?_
    refine c_g_Office_1 hX i_X3_addRoute_wsX30 (List.mem_of_getElem? (i := 2) rfl) dX3_addRoute_5 ?_
    refine c_ld_routes hX (cn (z 1 0)) (iNr hI).1 hn dX3_addRoute_8 ?_
    refine g_astore_n hX [(3, .ref (G.2.2 (6 + (cn (z 1 0))))), (0, .ref (G.2.2 0)), (1, .int x1), (2, .int x2)] dX3_addRoute_9 (by decide) rfl ?_
    refine g_aload_n hX 0 dX3_addRoute_10 rfl ?_
    refine g_iload_n hX 2 dX3_addRoute_11 rfl ?_
    refine c_p_Route_0 hX hA hn i_X3_addRoute_wsX50 (List.mem_of_getElem? (i := 3) rfl) dX3_addRoute_12 ?_
    refine g_aload_n hX 0 dX3_addRoute_15 rfl ?_
    refine g_iload_n hX 3 dX3_addRoute_16 rfl ?_
    refine c_p_Route_1 hX hA hn i_X3_addRoute_wsX50 (List.mem_of_getElem? (i := 4) rfl) dX3_addRoute_17 ?_
    refine g_aload_n hX 1 dX3_addRoute_20 rfl ?_
    refine g_dup hX dX3_addRoute_21 rfl ?_
    refine c_g_Office_1 hX i_X3_addRoute_wsX30 (List.mem_of_getElem? (i := 2) rfl) dX3_addRoute_22 ?_
    refine g_top (z 1 0) (by simp [u2]) ?_
    refine g_iconst hX 1 dX3_addRoute_25 (by decide) ?_
    refine g_iadd hX dX3_addRoute_26 ?_
    refine c_p_Office_1 hX hA i_X3_addRoute_wsX30 (List.mem_of_getElem? (i := 2) rfl) dX3_addRoute_27 ?_
    refine g_aload_n hX 1 dX3_addRoute_30 rfl ?_
    refine c_g_Office_1 hX i_X3_addRoute_wsX30 (List.mem_of_getElem? (i := 2) rfl) dX3_addRoute_31 ?_
    refine g_top ((z 1 0) + 1) (by simp [u2]) ?_
    refine g_iconst hX 1 dX3_addRoute_34 (by decide) ?_
    refine g_isub hX dX3_addRoute_35 ?_
    refine ret _ _ _ _ dX3_addRoute_36 ?_
    exact ⟨by grind, rfl⟩
def rm_X3_addClimber : Room := { frames := 0, cells := 0, slots := 0, locals := 0 }
theorem i_X3_addClimber_wsX30 : ∀ w ∈ wsX30, w ∈ wsX3_addClimber := fun w h => List.mem_cons_of_mem _ (List.mem_append_right _ h)
set_option maxHeartbeats 4000000 in
set_option maxRecDepth 100000 in
theorem c_X3_addClimber (l : Launch) (G : MG) (hA : Ap 203 G.2.2) (z : St)   : CIc l G yX3_addClimber wsX3_addClimber rm_X3_addClimber [.ref (G.2.2 0)] z (fun ρ ζ => ρ = z 2 0 ∧ ζ = u2 z 2 0 (z 2 0 + 1)) := by
  refine ci_of (own := RX3) (cc := cX3_addClimber) (maxL := 1) (ret := .int) (by decide +kernel) rfl rfl ?_ (Nat.le_of_ble_eq_true rfl) (KQ_mv (ExC_mv G)) ?_
  · intro v z' _; rfl
  · intro X hX ret
    refine g_lv (lv' := [(0, .ref (G.2.2 0))]) rfl ?_
    refine g_aload_n hX 0 dX3_addClimber_0 rfl ?_
    refine g_dup hX dX3_addClimber_1 rfl ?_
    refine c_g_Office_2 hX i_X3_addClimber_wsX30 (List.mem_of_getElem? (i := 1) rfl) dX3_addClimber_2 ?_
    refine g_iconst hX 1 dX3_addClimber_5 (by decide) ?_
    refine g_iadd hX dX3_addClimber_6 ?_
    refine c_p_Office_2 hX hA i_X3_addClimber_wsX30 (List.mem_of_getElem? (i := 1) rfl) dX3_addClimber_7 ?_
    refine g_aload_n hX 0 dX3_addClimber_10 rfl ?_
    refine c_g_Office_2 hX i_X3_addClimber_wsX30 (List.mem_of_getElem? (i := 1) rfl) dX3_addClimber_11 ?_
    refine g_top ((z 2 0) + 1) (by simp [u2]) ?_
    refine g_iconst hX 1 dX3_addClimber_14 (by decide) ?_
    refine g_isub hX dX3_addClimber_15 ?_
    refine ret _ _ _ _ dX3_addClimber_16 ?_
    exact ⟨by grind, rfl⟩
def rm_X3_addApplication : Room := { frames := 0, cells := 0, slots := 0, locals := 0 }
theorem i_X3_addApplication_wsX00 : ∀ w ∈ wsX00, w ∈ wsX3_addApplication := fun w h => List.mem_cons_of_mem _ (List.mem_append_right _ h)
theorem i_X3_addApplication_wsX30 : ∀ w ∈ wsX30, w ∈ wsX3_addApplication := fun w h => List.mem_cons_of_mem _ (List.mem_append_left _ (List.mem_append_right _ h))
set_option maxHeartbeats 4000000 in
set_option maxRecDepth 100000 in
theorem c_X3_addApplication (l : Launch) (G : MG) (hA : Ap 203 G.2.2) (z : St) {c : Int32} {r : Int32} {d : Int32} {p : Int32} (hn : nA z < 40) (hI : IO z) : CIc l G yX3_addApplication wsX3_addApplication rm_X3_addApplication [.ref (G.2.2 0), .int c, .int r, .int d, .int p] z (fun ρ ζ => ρ = z 3 0 ∧ ζ = u2 (u2 (u2 (u2 (u2 (u2 z 11 (nA z) c) 12 (nA z) r) 13 (nA z) d) 19 (nA z) d) 14 (nA z) p) 3 0 (z 3 0 + 1)) := by
  refine ci_of (own := RX3) (cc := cX3_addApplication) (maxL := 6) (ret := .int) (by decide +kernel) rfl rfl ?_ (Nat.le_of_ble_eq_true rfl) (KQ_mv (ExC_mv G)) ?_
  · intro v z' _; rfl
  · intro X hX ret
    refine g_lv (lv' := [(0, .ref (G.2.2 0)), (1, .int c), (2, .int r), (3, .int d), (4, .int p)]) rfl ?_
    refine g_aload_n hX 0 dX3_addApplication_0 rfl ?_
    refine c_g_Office_6 hX i_X3_addApplication_wsX30 (List.mem_of_getElem? (i := 1) rfl) dX3_addApplication_1 ?_
    refine g_aload_n hX 0 dX3_addApplication_4 rfl ?_
    refine c_g_Office_3 hX i_X3_addApplication_wsX30 (List.mem_of_getElem? (i := 2) rfl) dX3_addApplication_5 ?_
    refine c_ld_applications hX (nA z) (iNa hI).1 hn dX3_addApplication_8 ?_
    refine g_astore hX [(5, .ref (G.2.2 (24 + (nA z)))), (0, .ref (G.2.2 0)), (1, .int c), (2, .int r), (3, .int d), (4, .int p)] dX3_addApplication_9 (by decide) rfl ?_
    refine g_aload hX 0 dX3_addApplication_11 rfl ?_
    refine g_iload_n hX 2 dX3_addApplication_13 rfl ?_
    refine c_p_Application_0 hX hA hn i_X3_addApplication_wsX00 (List.mem_of_getElem? (i := 3) rfl) dX3_addApplication_14 ?_
    refine g_aload hX 0 dX3_addApplication_17 rfl ?_
    refine g_iload_n hX 3 dX3_addApplication_19 rfl ?_
    refine c_p_Application_1 hX hA hn i_X3_addApplication_wsX00 (List.mem_of_getElem? (i := 4) rfl) dX3_addApplication_20 ?_
    refine g_aload hX 0 dX3_addApplication_23 rfl ?_
    refine g_iload_n hX 4 dX3_addApplication_25 rfl ?_
    refine c_p_Application_2 hX hA hn i_X3_addApplication_wsX00 (List.mem_of_getElem? (i := 5) rfl) dX3_addApplication_26 ?_
    refine g_aload hX 0 dX3_addApplication_29 rfl ?_
    refine g_iload_n hX 4 dX3_addApplication_31 rfl ?_
    refine c_p_Application_3 hX hA hn i_X3_addApplication_wsX00 (List.mem_of_getElem? (i := 6) rfl) dX3_addApplication_32 ?_
    refine g_aload hX 0 dX3_addApplication_35 rfl ?_
    refine g_iload hX 5 dX3_addApplication_37 rfl ?_
    refine c_p_Application_4 hX hA hn i_X3_addApplication_wsX00 (List.mem_of_getElem? (i := 7) rfl) dX3_addApplication_39 ?_
    refine g_aload_n hX 1 dX3_addApplication_42 rfl ?_
    refine g_dup hX dX3_addApplication_43 rfl ?_
    refine c_g_Office_3 hX i_X3_addApplication_wsX30 (List.mem_of_getElem? (i := 2) rfl) dX3_addApplication_44 ?_
    refine g_top (z 3 0) (by simp [u2]) ?_
    refine g_iconst hX 1 dX3_addApplication_47 (by decide) ?_
    refine g_iadd hX dX3_addApplication_48 ?_
    refine c_p_Office_3 hX hA i_X3_addApplication_wsX30 (List.mem_of_getElem? (i := 2) rfl) dX3_addApplication_49 ?_
    refine g_aload_n hX 1 dX3_addApplication_52 rfl ?_
    refine c_g_Office_3 hX i_X3_addApplication_wsX30 (List.mem_of_getElem? (i := 2) rfl) dX3_addApplication_53 ?_
    refine g_top ((z 3 0) + 1) (by simp [u2]) ?_
    refine g_iconst hX 1 dX3_addApplication_56 (by decide) ?_
    refine g_isub hX dX3_addApplication_57 ?_
    refine ret _ _ _ _ dX3_addApplication_58 ?_
    exact ⟨by grind, rfl⟩
def rm_X5_copyFrom : Room := { frames := 0, cells := 0, slots := 0, locals := 0 }
theorem i_X5_copyFrom_wsX50 : ∀ w ∈ wsX50, w ∈ wsX5_copyFrom := fun w h => List.mem_cons_of_mem _ (List.mem_append_right _ h)
set_option maxHeartbeats 4000000 in
set_option maxRecDepth 100000 in
theorem c_X5_copyFrom (l : Launch) (G : MG) (hA : Ap 203 G.2.2) (z : St) {o1 : Nat} {i : Nat} {o2 : Nat} (h1 : o1 < 3) (h2 : o2 < 3) (h12 : o1 ≠ o2) (hi : i < 6) : CVc l G yX5_copyFrom wsX5_copyFrom rm_X5_copyFrom [.ref (G.2.2 (64 * o1 + 6 + i)), .ref (G.2.2 (64 * o2 + 6 + i))] z (fun ζ => ζ = u2 (u2 z (20 * o1 + 5) i (z (20 * o2 + 5) i)) (20 * o1 + 6) i (z (20 * o2 + 6) i)) := by
  refine cv_of (own := RX5) (cc := cX5_copyFrom) (maxL := 2) (by decide +kernel) rfl rfl (Nat.le_of_ble_eq_true rfl) (KQ_mv (ExC_mv G)) ?_
  intro X hX ret
  refine g_lv (lv' := [(0, .ref (G.2.2 (64 * o1 + 6 + i))), (1, .ref (G.2.2 (64 * o2 + 6 + i)))]) rfl ?_
  refine g_aload_n hX 0 dX5_copyFrom_0 rfl ?_
  refine g_aload_n hX 1 dX5_copyFrom_1 rfl ?_
  refine co_g_Route_0 hX (by omega) (by omega) i_X5_copyFrom_wsX50 (List.mem_of_getElem? (i := 1) rfl) dX5_copyFrom_2 ?_
  refine co_p_Route_0 hX hA (by omega) (by omega) i_X5_copyFrom_wsX50 (List.mem_of_getElem? (i := 1) rfl) dX5_copyFrom_5 ?_
  refine g_aload_n hX 0 dX5_copyFrom_8 rfl ?_
  refine g_aload_n hX 1 dX5_copyFrom_9 rfl ?_
  refine co_g_Route_1 hX (by omega) (by omega) i_X5_copyFrom_wsX50 (List.mem_of_getElem? (i := 2) rfl) dX5_copyFrom_10 ?_
  refine g_top (z (20 * o2 + 6) i) (by (repeat rw [u2_ne (by omega)])) ?_
  refine co_p_Route_1 hX hA (by omega) (by omega) i_X5_copyFrom_wsX50 (List.mem_of_getElem? (i := 2) rfl) dX5_copyFrom_13 ?_
  refine ret _ _ _ dX5_copyFrom_16 ?_
  rfl
def rm_X1_copyFrom : Room := { frames := 0, cells := 0, slots := 0, locals := 0 }
theorem i_X1_copyFrom_wsX10 : ∀ w ∈ wsX10, w ∈ wsX1_copyFrom := fun w h => List.mem_cons_of_mem _ (List.mem_append_right _ h)
set_option maxHeartbeats 4000000 in
set_option maxRecDepth 100000 in
theorem c_X1_copyFrom (l : Launch) (G : MG) (hA : Ap 203 G.2.2) (z : St) {o1 : Nat} {i : Nat} {o2 : Nat} (h1 : o1 < 3) (h2 : o2 < 3) (h12 : o1 ≠ o2) (hi : i < 12) : CVc l G yX1_copyFrom wsX1_copyFrom rm_X1_copyFrom [.ref (G.2.2 (64 * o1 + 12 + i)), .ref (G.2.2 (64 * o2 + 12 + i))] z (fun ζ => ζ = u2 (u2 (u2 z (20 * o1 + 8) i (z (20 * o2 + 8) i)) (20 * o1 + 9) i (z (20 * o2 + 9) i)) (20 * o1 + 10) i (z (20 * o2 + 10) i)) := by
  refine cv_of (own := RX1) (cc := cX1_copyFrom) (maxL := 2) (by decide +kernel) rfl rfl (Nat.le_of_ble_eq_true rfl) (KQ_mv (ExC_mv G)) ?_
  intro X hX ret
  refine g_lv (lv' := [(0, .ref (G.2.2 (64 * o1 + 12 + i))), (1, .ref (G.2.2 (64 * o2 + 12 + i)))]) rfl ?_
  refine g_aload_n hX 0 dX1_copyFrom_0 rfl ?_
  refine g_aload_n hX 1 dX1_copyFrom_1 rfl ?_
  refine co_g_Climber_0 hX (by omega) (by omega) i_X1_copyFrom_wsX10 (List.mem_of_getElem? (i := 1) rfl) dX1_copyFrom_2 ?_
  refine co_p_Climber_0 hX hA (by omega) (by omega) i_X1_copyFrom_wsX10 (List.mem_of_getElem? (i := 1) rfl) dX1_copyFrom_5 ?_
  refine g_aload_n hX 0 dX1_copyFrom_8 rfl ?_
  refine g_aload_n hX 1 dX1_copyFrom_9 rfl ?_
  refine co_g_Climber_1 hX (by omega) (by omega) i_X1_copyFrom_wsX10 (List.mem_of_getElem? (i := 2) rfl) dX1_copyFrom_10 ?_
  refine g_top (z (20 * o2 + 9) i) (by (repeat rw [u2_ne (by omega)])) ?_
  refine co_p_Climber_1 hX hA (by omega) (by omega) i_X1_copyFrom_wsX10 (List.mem_of_getElem? (i := 2) rfl) dX1_copyFrom_13 ?_
  refine g_aload_n hX 0 dX1_copyFrom_16 rfl ?_
  refine g_aload_n hX 1 dX1_copyFrom_17 rfl ?_
  refine co_g_Climber_2 hX (by omega) (by omega) i_X1_copyFrom_wsX10 (List.mem_of_getElem? (i := 3) rfl) dX1_copyFrom_18 ?_
  refine g_top (z (20 * o2 + 10) i) (by (repeat rw [u2_ne (by omega)])) ?_
  refine co_p_Climber_2 hX hA (by omega) (by omega) i_X1_copyFrom_wsX10 (List.mem_of_getElem? (i := 3) rfl) dX1_copyFrom_21 ?_
  refine ret _ _ _ dX1_copyFrom_24 ?_
  rfl
def rm_X0_copyFrom : Room := { frames := 0, cells := 0, slots := 0, locals := 0 }
theorem i_X0_copyFrom_wsX00 : ∀ w ∈ wsX00, w ∈ wsX0_copyFrom := fun w h => List.mem_cons_of_mem _ (List.mem_append_right _ h)
set_option maxHeartbeats 4000000 in
set_option maxRecDepth 100000 in
theorem c_X0_copyFrom (l : Launch) (G : MG) (hA : Ap 203 G.2.2) (z : St) {o1 : Nat} {i : Nat} {o2 : Nat} (h1 : o1 < 3) (h2 : o2 < 3) (h12 : o1 ≠ o2) (hi : i < 40) (hb : z (20 * o2 + 18) i = 0 ∨ z (20 * o2 + 18) i = 1) : CVc l G yX0_copyFrom wsX0_copyFrom rm_X0_copyFrom [.ref (G.2.2 (64 * o1 + 24 + i)), .ref (G.2.2 (64 * o2 + 24 + i))] z (fun ζ => ζ = u2 (u2 (u2 (u2 (u2 (u2 (u2 (u2 (u2 z (20 * o1 + 11) i (z (20 * o2 + 11) i)) (20 * o1 + 12) i (z (20 * o2 + 12) i)) (20 * o1 + 13) i (z (20 * o2 + 13) i)) (20 * o1 + 19) i (z (20 * o2 + 19) i)) (20 * o1 + 14) i (z (20 * o2 + 14) i)) (20 * o1 + 15) i (z (20 * o2 + 15) i)) (20 * o1 + 16) i (z (20 * o2 + 16) i)) (20 * o1 + 17) i (z (20 * o2 + 17) i)) (20 * o1 + 18) i (z (20 * o2 + 18) i)) := by
  refine cv_of (own := RX0) (cc := cX0_copyFrom) (maxL := 2) (by decide +kernel) rfl rfl (Nat.le_of_ble_eq_true rfl) (KQ_mv (ExC_mv G)) ?_
  intro X hX ret
  refine g_lv (lv' := [(0, .ref (G.2.2 (64 * o1 + 24 + i))), (1, .ref (G.2.2 (64 * o2 + 24 + i)))]) rfl ?_
  refine g_aload_n hX 0 dX0_copyFrom_0 rfl ?_
  refine g_aload_n hX 1 dX0_copyFrom_1 rfl ?_
  refine co_g_Application_0 hX (by omega) (by omega) i_X0_copyFrom_wsX00 (List.mem_of_getElem? (i := 1) rfl) dX0_copyFrom_2 ?_
  refine co_p_Application_0 hX hA (by omega) (by omega) i_X0_copyFrom_wsX00 (List.mem_of_getElem? (i := 1) rfl) dX0_copyFrom_5 ?_
  refine g_aload_n hX 0 dX0_copyFrom_8 rfl ?_
  refine g_aload_n hX 1 dX0_copyFrom_9 rfl ?_
  refine co_g_Application_1 hX (by omega) (by omega) i_X0_copyFrom_wsX00 (List.mem_of_getElem? (i := 2) rfl) dX0_copyFrom_10 ?_
  refine g_top (z (20 * o2 + 12) i) (by (repeat rw [u2_ne (by omega)])) ?_
  refine co_p_Application_1 hX hA (by omega) (by omega) i_X0_copyFrom_wsX00 (List.mem_of_getElem? (i := 2) rfl) dX0_copyFrom_13 ?_
  refine g_aload_n hX 0 dX0_copyFrom_16 rfl ?_
  refine g_aload_n hX 1 dX0_copyFrom_17 rfl ?_
  refine co_g_Application_2 hX (by omega) (by omega) i_X0_copyFrom_wsX00 (List.mem_of_getElem? (i := 3) rfl) dX0_copyFrom_18 ?_
  refine g_top (z (20 * o2 + 13) i) (by (repeat rw [u2_ne (by omega)])) ?_
  refine co_p_Application_2 hX hA (by omega) (by omega) i_X0_copyFrom_wsX00 (List.mem_of_getElem? (i := 3) rfl) dX0_copyFrom_21 ?_
  refine g_aload_n hX 0 dX0_copyFrom_24 rfl ?_
  refine g_aload_n hX 1 dX0_copyFrom_25 rfl ?_
  refine co_g_Application_3 hX (by omega) (by omega) i_X0_copyFrom_wsX00 (List.mem_of_getElem? (i := 4) rfl) dX0_copyFrom_26 ?_
  refine g_top (z (20 * o2 + 19) i) (by (repeat rw [u2_ne (by omega)])) ?_
  refine co_p_Application_3 hX hA (by omega) (by omega) i_X0_copyFrom_wsX00 (List.mem_of_getElem? (i := 4) rfl) dX0_copyFrom_29 ?_
  refine g_aload_n hX 0 dX0_copyFrom_32 rfl ?_
  refine g_aload_n hX 1 dX0_copyFrom_33 rfl ?_
  refine co_g_Application_4 hX (by omega) (by omega) i_X0_copyFrom_wsX00 (List.mem_of_getElem? (i := 5) rfl) dX0_copyFrom_34 ?_
  refine g_top (z (20 * o2 + 14) i) (by (repeat rw [u2_ne (by omega)])) ?_
  refine co_p_Application_4 hX hA (by omega) (by omega) i_X0_copyFrom_wsX00 (List.mem_of_getElem? (i := 5) rfl) dX0_copyFrom_37 ?_
  refine g_aload_n hX 0 dX0_copyFrom_40 rfl ?_
  refine g_aload_n hX 1 dX0_copyFrom_41 rfl ?_
  refine co_g_Application_5 hX (by omega) (by omega) i_X0_copyFrom_wsX00 (List.mem_of_getElem? (i := 6) rfl) dX0_copyFrom_42 ?_
  refine g_top (z (20 * o2 + 15) i) (by (repeat rw [u2_ne (by omega)])) ?_
  refine co_p_Application_5 hX hA (by omega) (by omega) i_X0_copyFrom_wsX00 (List.mem_of_getElem? (i := 6) rfl) dX0_copyFrom_45 ?_
  refine g_aload_n hX 0 dX0_copyFrom_48 rfl ?_
  refine g_aload_n hX 1 dX0_copyFrom_49 rfl ?_
  refine co_g_Application_6 hX (by omega) (by omega) i_X0_copyFrom_wsX00 (List.mem_of_getElem? (i := 7) rfl) dX0_copyFrom_50 ?_
  refine g_top (z (20 * o2 + 16) i) (by (repeat rw [u2_ne (by omega)])) ?_
  refine co_p_Application_6 hX hA (by omega) (by omega) i_X0_copyFrom_wsX00 (List.mem_of_getElem? (i := 7) rfl) dX0_copyFrom_53 ?_
  refine g_aload_n hX 0 dX0_copyFrom_56 rfl ?_
  refine g_aload_n hX 1 dX0_copyFrom_57 rfl ?_
  refine co_g_Application_7 hX (by omega) (by omega) i_X0_copyFrom_wsX00 (List.mem_of_getElem? (i := 8) rfl) dX0_copyFrom_58 ?_
  refine g_top (z (20 * o2 + 17) i) (by (repeat rw [u2_ne (by omega)])) ?_
  refine co_p_Application_7 hX hA (by omega) (by omega) i_X0_copyFrom_wsX00 (List.mem_of_getElem? (i := 8) rfl) dX0_copyFrom_61 ?_
  refine g_aload_n hX 0 dX0_copyFrom_64 rfl ?_
  refine g_aload_n hX 1 dX0_copyFrom_65 rfl ?_
  refine co_g_Application_8 hX (by omega) (by omega) i_X0_copyFrom_wsX00 (List.mem_of_getElem? (i := 9) rfl) dX0_copyFrom_66 ?_
  refine g_top (z (20 * o2 + 18) i) (by (repeat rw [u2_ne (by omega)])) ?_
  refine co_p_Application_8 hX hA (by omega) (by omega) hb i_X0_copyFrom_wsX00 (List.mem_of_getElem? (i := 9) rfl) dX0_copyFrom_69 ?_
  refine ret _ _ _ dX0_copyFrom_72 ?_
  rfl
def rm_X3_copyFrom : Room := { frames := 1, cells := 0, slots := 0, locals := 21 }
theorem i_X3_copyFrom_wsX30 : ∀ w ∈ wsX30, w ∈ wsX3_copyFrom := fun w h => List.mem_cons_of_mem _ (List.mem_append_left _ (List.mem_append_left _ (List.mem_append_left _ (List.mem_append_right _ h))))
theorem k_X3_copyFrom_X0_copyFrom : CW rm_X3_copyFrom wsX3_copyFrom RX3 RX0 63 yX0_copyFrom cX0_copyFrom 2 none wsX0_copyFrom rm_X0_copyFrom 1 := ⟨gX3_copyFrom_X0_copyFrom, ⟨_, rfl⟩, rfl, rfl, ⟨rfl, by decide +kernel, by decide +kernel, by decide +kernel⟩, by decide, by decide⟩
theorem k_X3_copyFrom_X1_copyFrom : CW rm_X3_copyFrom wsX3_copyFrom RX3 RX1 60 yX1_copyFrom cX1_copyFrom 2 none wsX1_copyFrom rm_X1_copyFrom 1 := ⟨gX3_copyFrom_X1_copyFrom, ⟨_, rfl⟩, rfl, rfl, ⟨rfl, by decide +kernel, by decide +kernel, by decide +kernel⟩, by decide, by decide⟩
theorem k_X3_copyFrom_X5_copyFrom : CW rm_X3_copyFrom wsX3_copyFrom RX3 RX5 56 yX5_copyFrom cX5_copyFrom 2 none wsX5_copyFrom rm_X5_copyFrom 1 := ⟨gX3_copyFrom_X5_copyFrom, ⟨_, rfl⟩, rfl, rfl, ⟨rfl, by decide +kernel, by decide +kernel, by decide +kernel⟩, by decide, by decide⟩
set_option maxHeartbeats 4000000 in
set_option maxRecDepth 100000 in
theorem c_X3_copyFrom (l : Launch) (G : MG) (hA : Ap 203 G.2.2) (z : St) {o1 : Nat} {o2 : Nat} (h1 : o1 < 3) (h2 : o2 < 3) (h12 : o1 ≠ o2) (hb : ∀ a, a < 40 → z (20 * o2 + 18) a = 0 ∨ z (20 * o2 + 18) a = 1) (hc : ∀ d, d < 60 → z (20 * o2 + 7) d = 0 ∨ z (20 * o2 + 7) d = 1) : CVc l G yX3_copyFrom wsX3_copyFrom rm_X3_copyFrom [.ref (G.2.2 (64 * o1)), .ref (G.2.2 (64 * o2))] z (fun ζ => ζ = cpAll z o1 o2) := by
  refine cv_of (own := RX3) (cc := cX3_copyFrom) (maxL := 3) (by decide +kernel) rfl rfl (Nat.le_of_ble_eq_true rfl) (KQ_mv (ExC_mv G)) ?_
  intro X hX ret
  refine g_lv (lv' := [(0, .ref (G.2.2 (64 * o1))), (1, .ref (G.2.2 (64 * o2)))]) rfl ?_
  refine g_aload_n hX 0 dX3_copyFrom_0 rfl ?_
  refine g_aload_n hX 1 dX3_copyFrom_1 rfl ?_
  refine co_g_Office_0 hX (by omega) i_X3_copyFrom_wsX30 (List.mem_of_getElem? (i := 1) rfl) dX3_copyFrom_2 ?_
  refine co_p_Office_0 hX hA (by omega) i_X3_copyFrom_wsX30 (List.mem_of_getElem? (i := 1) rfl) dX3_copyFrom_5 ?_
  refine g_aload_n hX 0 dX3_copyFrom_8 rfl ?_
  refine g_aload_n hX 1 dX3_copyFrom_9 rfl ?_
  refine co_g_Office_1 hX (by omega) i_X3_copyFrom_wsX30 (List.mem_of_getElem? (i := 2) rfl) dX3_copyFrom_10 ?_
  refine g_top (z (20 * o2 + 1) 0) (by (repeat rw [u2_ne (by omega)])) ?_
  refine co_p_Office_1 hX hA (by omega) i_X3_copyFrom_wsX30 (List.mem_of_getElem? (i := 2) rfl) dX3_copyFrom_13 ?_
  refine g_aload_n hX 0 dX3_copyFrom_16 rfl ?_
  refine g_aload_n hX 1 dX3_copyFrom_17 rfl ?_
  refine co_g_Office_2 hX (by omega) i_X3_copyFrom_wsX30 (List.mem_of_getElem? (i := 3) rfl) dX3_copyFrom_18 ?_
  refine g_top (z (20 * o2 + 2) 0) (by (repeat rw [u2_ne (by omega)])) ?_
  refine co_p_Office_2 hX hA (by omega) i_X3_copyFrom_wsX30 (List.mem_of_getElem? (i := 3) rfl) dX3_copyFrom_21 ?_
  refine g_aload_n hX 0 dX3_copyFrom_24 rfl ?_
  refine g_aload_n hX 1 dX3_copyFrom_25 rfl ?_
  refine co_g_Office_3 hX (by omega) i_X3_copyFrom_wsX30 (List.mem_of_getElem? (i := 4) rfl) dX3_copyFrom_26 ?_
  refine g_top (z (20 * o2 + 3) 0) (by (repeat rw [u2_ne (by omega)])) ?_
  refine co_p_Office_3 hX hA (by omega) i_X3_copyFrom_wsX30 (List.mem_of_getElem? (i := 4) rfl) dX3_copyFrom_29 ?_
  refine g_iconst hX 0 dX3_copyFrom_32 (by decide) ?_
  refine g_istore_n hX [(2, .int 0), (0, .ref (G.2.2 (64 * o1))), (1, .ref (G.2.2 (64 * o2)))] dX3_copyFrom_33 (by decide) rfl ?_
  have loop34 : ∀ (nf : Nat) (k : Nat), (6 < k + nf) → (k ≤ 6) → Go X (cpS z o1 o2 (fun f i => decide (f < 4 ∧ i = 0) || decide (4 < f ∧ f < 7 ∧ i < k))) 34 [(0, .ref (G.2.2 (64 * o1))), (1, .ref (G.2.2 (64 * o2))), (2, .int (nI k))] [] := by
    intro nf
    induction nf with
    | zero =>
      intro k hmu hk
      exfalso; omega
    | succ nf ih =>
      intro k hmu hk
      refine g_iload_n hX 2 dX3_copyFrom_34 rfl ?_
      refine g_aload_n hX 0 dX3_copyFrom_35 rfl ?_
      refine co_g_Office_4 hX (by omega) i_X3_copyFrom_wsX30 (List.mem_of_getElem? (i := 5) rfl) dX3_copyFrom_36 ?_
      refine co_len_routes hX (by omega) dX3_copyFrom_39 ?_
      refine g_ic_ge hX 64 dX3_copyFrom_40 (by decide) (fun c1 => ?_) (fun c1 => ?_)
      · -- jump 64
        have hke : k = 6 := by
          have := (nI_leI (a := 6) (by omega) (by omega)).mp c1; omega
        subst hke
        refine g_iconst hX 0 dX3_copyFrom_64 (by decide) ?_
        refine g_istore_n hX [(2, .int 0), (0, .ref (G.2.2 (64 * o1))), (1, .ref (G.2.2 (64 * o2)))] dX3_copyFrom_65 (by decide) rfl ?_
        have loop66 : ∀ (nf : Nat) (k : Nat), (12 < k + nf) → (k ≤ 12) → Go X (cpS z o1 o2 (fun f i => decide (f < 4 ∧ i = 0) || decide (4 < f ∧ f < 7 ∧ i < 6) || decide (7 < f ∧ f < 11 ∧ i < k))) 66 [(0, .ref (G.2.2 (64 * o1))), (1, .ref (G.2.2 (64 * o2))), (2, .int (nI k))] [] := by
          intro nf
          induction nf with
          | zero =>
            intro k hmu hk
            exfalso; omega
          | succ nf ih =>
            intro k hmu hk
            refine g_iload_n hX 2 dX3_copyFrom_66 rfl ?_
            refine g_aload_n hX 0 dX3_copyFrom_67 rfl ?_
            refine co_g_Office_5 hX (by omega) i_X3_copyFrom_wsX30 (List.mem_of_getElem? (i := 6) rfl) dX3_copyFrom_68 ?_
            refine co_len_climbers hX (by omega) dX3_copyFrom_71 ?_
            refine g_ic_ge hX 96 dX3_copyFrom_72 (by decide) (fun c2 => ?_) (fun c2 => ?_)
            · -- jump 96
              have hke : k = 12 := by
                have := (nI_leI (a := 12) (by omega) (by omega)).mp c2; omega
              subst hke
              refine g_iconst hX 0 dX3_copyFrom_96 (by decide) ?_
              refine g_istore_n hX [(2, .int 0), (0, .ref (G.2.2 (64 * o1))), (1, .ref (G.2.2 (64 * o2)))] dX3_copyFrom_97 (by decide) rfl ?_
              have loop98 : ∀ (nf : Nat) (k : Nat), (40 < k + nf) → (k ≤ 40) → Go X (cpS z o1 o2 (fun f i => decide (f < 4 ∧ i = 0) || decide (4 < f ∧ f < 7 ∧ i < 6) || decide (7 < f ∧ f < 11 ∧ i < 12) || decide (10 < f ∧ f < 20 ∧ i < k))) 98 [(0, .ref (G.2.2 (64 * o1))), (1, .ref (G.2.2 (64 * o2))), (2, .int (nI k))] [] := by
                intro nf
                induction nf with
                | zero =>
                  intro k hmu hk
                  exfalso; omega
                | succ nf ih =>
                  intro k hmu hk
                  refine g_iload_n hX 2 dX3_copyFrom_98 rfl ?_
                  refine g_aload_n hX 0 dX3_copyFrom_99 rfl ?_
                  refine co_g_Office_6 hX (by omega) i_X3_copyFrom_wsX30 (List.mem_of_getElem? (i := 7) rfl) dX3_copyFrom_100 ?_
                  refine co_len_applications hX (by omega) dX3_copyFrom_103 ?_
                  refine g_ic_ge hX 128 dX3_copyFrom_104 (by decide) (fun c3 => ?_) (fun c3 => ?_)
                  · -- jump 128
                    have hke : k = 40 := by
                      have := (nI_leI (a := 40) (by omega) (by omega)).mp c3; omega
                    subst hke
                    refine g_iconst hX 0 dX3_copyFrom_128 (by decide) ?_
                    refine g_istore_n hX [(2, .int 0), (0, .ref (G.2.2 (64 * o1))), (1, .ref (G.2.2 (64 * o2)))] dX3_copyFrom_129 (by decide) rfl ?_
                    have loop130 : ∀ (nf : Nat) (k : Nat), (60 < k + nf) → (k ≤ 60) → Go X (cpS z o1 o2 (fun f i => decide (f < 4 ∧ i = 0) || decide (4 < f ∧ f < 7 ∧ i < 6) || decide (7 < f ∧ f < 11 ∧ i < 12) || decide (10 < f ∧ f < 20 ∧ i < 40) || decide (f = 7 ∧ i < k))) 130 [(0, .ref (G.2.2 (64 * o1))), (1, .ref (G.2.2 (64 * o2))), (2, .int (nI k))] [] := by
                      intro nf
                      induction nf with
                      | zero =>
                        intro k hmu hk
                        exfalso; omega
                      | succ nf ih =>
                        intro k hmu hk
                        refine g_iload_n hX 2 dX3_copyFrom_130 rfl ?_
                        refine g_aload_n hX 0 dX3_copyFrom_131 rfl ?_
                        refine co_g_Office_7 hX (by omega) i_X3_copyFrom_wsX30 (List.mem_of_getElem? (i := 8) rfl) dX3_copyFrom_132 ?_
                        refine co_len_closed hX (by omega) dX3_copyFrom_135 ?_
                        refine g_ic_ge hX 157 dX3_copyFrom_136 (by decide) (fun c4 => ?_) (fun c4 => ?_)
                        · -- jump 157
                          have hke : k = 60 := by
                            have := (nI_leI (a := 60) (by omega) (by omega)).mp c4; omega
                          subst hke
                          refine g_iconst hX 0 dX3_copyFrom_157 (by decide) ?_
                          refine g_istore_n hX [(2, .int 0), (0, .ref (G.2.2 (64 * o1))), (1, .ref (G.2.2 (64 * o2)))] dX3_copyFrom_158 (by decide) rfl ?_
                          have loop159 : ∀ (nf : Nat) (k : Nat), (6 < k + nf) → (k ≤ 6) → Go X (cpS z o1 o2 (fun f i => decide (f < 4 ∧ i = 0) || decide (4 < f ∧ f < 7 ∧ i < 6) || decide (7 < f ∧ f < 11 ∧ i < 12) || decide (10 < f ∧ f < 20 ∧ i < 40) || decide (f = 7 ∧ i < 60) || decide (f = 4 ∧ i < k))) 159 [(0, .ref (G.2.2 (64 * o1))), (1, .ref (G.2.2 (64 * o2))), (2, .int (nI k))] [] := by
                            intro nf
                            induction nf with
                            | zero =>
                              intro k hmu hk
                              exfalso; omega
                            | succ nf ih =>
                              intro k hmu hk
                              refine g_iload_n hX 2 dX3_copyFrom_159 rfl ?_
                              refine g_aload_n hX 0 dX3_copyFrom_160 rfl ?_
                              refine co_g_Office_8 hX (by omega) i_X3_copyFrom_wsX30 (List.mem_of_getElem? (i := 9) rfl) dX3_copyFrom_161 ?_
                              refine co_len_settings hX (by omega) dX3_copyFrom_164 ?_
                              refine g_ic_ge hX 186 dX3_copyFrom_165 (by decide) (fun c5 => ?_) (fun c5 => ?_)
                              · -- jump 186
                                have hke : k = 6 := by
                                  have := (nI_leI (a := 6) (by omega) (by omega)).mp c5; omega
                                subst hke
                                refine ret _ _ _ dX3_copyFrom_186 ?_
                                exact cp_end z o1 o2
                              · -- on 168
                                have hkn : k < 6 := Nat.lt_of_not_le (fun q => c5 (nI_le (a := 6) q (by omega)))
                                refine g_aload_n hX 0 dX3_copyFrom_168 rfl ?_
                                refine co_g_Office_8 hX (by omega) i_X3_copyFrom_wsX30 (List.mem_of_getElem? (i := 9) rfl) dX3_copyFrom_169 ?_
                                refine g_iload_n hX 2 dX3_copyFrom_172 rfl ?_
                                refine g_aload_n hX 1 dX3_copyFrom_173 rfl ?_
                                refine co_g_Office_8 hX (by omega) i_X3_copyFrom_wsX30 (List.mem_of_getElem? (i := 9) rfl) dX3_copyFrom_174 ?_
                                refine g_iload_n hX 2 dX3_copyFrom_177 rfl ?_
                                refine co_ld_settings hX (by omega) k rfl (by omega) dX3_copyFrom_178 ?_
                                refine co_st_settings hX hA (by omega) k rfl (by omega) dX3_copyFrom_179 ?_
                                refine g_iinc hX (nI (k + 1)) 2 [(2, .int (nI (k + 1))), (0, .ref (G.2.2 (64 * o1))), (1, .ref (G.2.2 (64 * o2)))] dX3_copyFrom_180 rfl (nI_1 k) (by decide) rfl ?_
                                refine g_goto hX 159 dX3_copyFrom_183 (by decide) ?_
                                -- back to 159
                                refine g_sub [1, 2, 0] [(0, .ref (G.2.2 (64 * o1))), (1, .ref (G.2.2 (64 * o2))), (2, .int (nI (k + 1)))] rfl ?_
                                have ez : u2 (cpS z o1 o2 (fun f i => decide (f < 4 ∧ i = 0) || decide (4 < f ∧ f < 7 ∧ i < 6) || decide (7 < f ∧ f < 11 ∧ i < 12) || decide (10 < f ∧ f < 20 ∧ i < 40) || decide (f = 7 ∧ i < 60) || decide (f = 4 ∧ i < k))) (20 * o1 + 4) k ((cpS z o1 o2 (fun f i => decide (f < 4 ∧ i = 0) || decide (4 < f ∧ f < 7 ∧ i < 6) || decide (7 < f ∧ f < 11 ∧ i < 12) || decide (10 < f ∧ f < 20 ∧ i < 40) || decide (f = 7 ∧ i < 60) || decide (f = 4 ∧ i < k))) (20 * o2 + 4) k) = cpS z o1 o2 (fun f i => decide (f < 4 ∧ i = 0) || decide (4 < f ∧ f < 7 ∧ i < 6) || decide (7 < f ∧ f < 11 ∧ i < 12) || decide (10 < f ∧ f < 20 ∧ i < 40) || decide (f = 7 ∧ i < 60) || decide (f = 4 ∧ i < (k + 1))) := by
                                  (repeat rw [cpS_at (by omega) (by decide)])
                                  rw [cpS_u2 (by decide)]
                                  refine cpS_congr (fun f i hf => ?_)
                                  rw [Bool.eq_iff_iff]; simp; try omega
                                refine g_z ez ?_
                                exact ih (k + 1) (by omega) (by omega)
                          refine g_sub [1, 2, 0] [(0, .ref (G.2.2 (64 * o1))), (1, .ref (G.2.2 (64 * o2))), (2, .int 0)] rfl ?_
                          have ez : cpS z o1 o2 (fun f i => decide (f < 4 ∧ i = 0) || decide (4 < f ∧ f < 7 ∧ i < 6) || decide (7 < f ∧ f < 11 ∧ i < 12) || decide (10 < f ∧ f < 20 ∧ i < 40) || decide (f = 7 ∧ i < 60)) = cpS z o1 o2 (fun f i => decide (f < 4 ∧ i = 0) || decide (4 < f ∧ f < 7 ∧ i < 6) || decide (7 < f ∧ f < 11 ∧ i < 12) || decide (10 < f ∧ f < 20 ∧ i < 40) || decide (f = 7 ∧ i < 60) || decide (f = 4 ∧ i < 0)) := by
                            refine cpS_congr (fun f i hf => ?_)
                            rw [Bool.eq_iff_iff]; simp; try omega
                          refine g_z ez ?_
                          exact loop159 (6 + 1) 0 (by omega) (Nat.zero_le _)
                        · -- on 139
                          have hkn : k < 60 := Nat.lt_of_not_le (fun q => c4 (nI_le (a := 60) q (by omega)))
                          refine g_aload_n hX 0 dX3_copyFrom_139 rfl ?_
                          refine co_g_Office_7 hX (by omega) i_X3_copyFrom_wsX30 (List.mem_of_getElem? (i := 8) rfl) dX3_copyFrom_140 ?_
                          refine g_iload_n hX 2 dX3_copyFrom_143 rfl ?_
                          refine g_aload_n hX 1 dX3_copyFrom_144 rfl ?_
                          refine co_g_Office_7 hX (by omega) i_X3_copyFrom_wsX30 (List.mem_of_getElem? (i := 8) rfl) dX3_copyFrom_145 ?_
                          refine g_iload_n hX 2 dX3_copyFrom_148 rfl ?_
                          refine co_ld_closed hX (by omega) k rfl (by omega) dX3_copyFrom_149 ?_
                          refine co_st_closed hX hA (by omega) k rfl (by omega) (by rw [cpS_at h12 (by decide)]; exact hc k hkn) dX3_copyFrom_150 ?_
                          refine g_iinc hX (nI (k + 1)) 2 [(2, .int (nI (k + 1))), (0, .ref (G.2.2 (64 * o1))), (1, .ref (G.2.2 (64 * o2)))] dX3_copyFrom_151 rfl (nI_1 k) (by decide) rfl ?_
                          refine g_goto hX 130 dX3_copyFrom_154 (by decide) ?_
                          -- back to 130
                          refine g_sub [1, 2, 0] [(0, .ref (G.2.2 (64 * o1))), (1, .ref (G.2.2 (64 * o2))), (2, .int (nI (k + 1)))] rfl ?_
                          have ez : u2 (cpS z o1 o2 (fun f i => decide (f < 4 ∧ i = 0) || decide (4 < f ∧ f < 7 ∧ i < 6) || decide (7 < f ∧ f < 11 ∧ i < 12) || decide (10 < f ∧ f < 20 ∧ i < 40) || decide (f = 7 ∧ i < k))) (20 * o1 + 7) k ((cpS z o1 o2 (fun f i => decide (f < 4 ∧ i = 0) || decide (4 < f ∧ f < 7 ∧ i < 6) || decide (7 < f ∧ f < 11 ∧ i < 12) || decide (10 < f ∧ f < 20 ∧ i < 40) || decide (f = 7 ∧ i < k))) (20 * o2 + 7) k) = cpS z o1 o2 (fun f i => decide (f < 4 ∧ i = 0) || decide (4 < f ∧ f < 7 ∧ i < 6) || decide (7 < f ∧ f < 11 ∧ i < 12) || decide (10 < f ∧ f < 20 ∧ i < 40) || decide (f = 7 ∧ i < (k + 1))) := by
                            (repeat rw [cpS_at (by omega) (by decide)])
                            rw [cpS_u2 (by decide)]
                            refine cpS_congr (fun f i hf => ?_)
                            rw [Bool.eq_iff_iff]; simp; try omega
                          refine g_z ez ?_
                          exact ih (k + 1) (by omega) (by omega)
                    refine g_sub [1, 2, 0] [(0, .ref (G.2.2 (64 * o1))), (1, .ref (G.2.2 (64 * o2))), (2, .int 0)] rfl ?_
                    have ez : cpS z o1 o2 (fun f i => decide (f < 4 ∧ i = 0) || decide (4 < f ∧ f < 7 ∧ i < 6) || decide (7 < f ∧ f < 11 ∧ i < 12) || decide (10 < f ∧ f < 20 ∧ i < 40)) = cpS z o1 o2 (fun f i => decide (f < 4 ∧ i = 0) || decide (4 < f ∧ f < 7 ∧ i < 6) || decide (7 < f ∧ f < 11 ∧ i < 12) || decide (10 < f ∧ f < 20 ∧ i < 40) || decide (f = 7 ∧ i < 0)) := by
                      refine cpS_congr (fun f i hf => ?_)
                      rw [Bool.eq_iff_iff]; simp; try omega
                    refine g_z ez ?_
                    exact loop130 (60 + 1) 0 (by omega) (Nat.zero_le _)
                  · -- on 107
                    have hkn : k < 40 := Nat.lt_of_not_le (fun q => c3 (nI_le (a := 40) q (by omega)))
                    refine g_aload_n hX 0 dX3_copyFrom_107 rfl ?_
                    refine co_g_Office_6 hX (by omega) i_X3_copyFrom_wsX30 (List.mem_of_getElem? (i := 7) rfl) dX3_copyFrom_108 ?_
                    refine g_iload_n hX 2 dX3_copyFrom_111 rfl ?_
                    refine co_ld_applications hX (by omega) k rfl (by omega) dX3_copyFrom_112 ?_
                    refine g_aload_n hX 1 dX3_copyFrom_113 rfl ?_
                    refine co_g_Office_6 hX (by omega) i_X3_copyFrom_wsX30 (List.mem_of_getElem? (i := 7) rfl) dX3_copyFrom_114 ?_
                    refine g_iload_n hX 2 dX3_copyFrom_117 rfl ?_
                    refine co_ld_applications hX (by omega) k rfl (by omega) dX3_copyFrom_118 ?_
                    refine g_cvvE hX (As := [.ref (G.2.2 (64 * o2 + 24 + k))]) (rest := []) (c_X0_copyFrom l G hA (cpS z o1 o2 (fun f i => decide (f < 4 ∧ i = 0) || decide (4 < f ∧ f < 7 ∧ i < 6) || decide (7 < f ∧ f < 11 ∧ i < 12) || decide (10 < f ∧ f < 20 ∧ i < k))) (i := k) (o1 := o1) (o2 := o2) (h1 := (by omega)) (h2 := (by omega)) (h12 := (by omega)) (hi := (by omega)) (hb := (by rw [cpS_at h12 (by decide)]; exact hb k hkn))) k_X3_copyFrom_X0_copyFrom (rc_App (by omega) (by omega)) rfl rfl (Nat.le_of_ble_eq_true rfl) dX3_copyFrom_119 ?_
                    refine g_iinc hX (nI (k + 1)) 2 [(2, .int (nI (k + 1))), (0, .ref (G.2.2 (64 * o1))), (1, .ref (G.2.2 (64 * o2)))] dX3_copyFrom_122 rfl (nI_1 k) (by decide) rfl ?_
                    refine g_goto hX 98 dX3_copyFrom_125 (by decide) ?_
                    -- back to 98
                    refine g_sub [1, 2, 0] [(0, .ref (G.2.2 (64 * o1))), (1, .ref (G.2.2 (64 * o2))), (2, .int (nI (k + 1)))] rfl ?_
                    have ez : u2 (u2 (u2 (u2 (u2 (u2 (u2 (u2 (u2 (cpS z o1 o2 (fun f i => decide (f < 4 ∧ i = 0) || decide (4 < f ∧ f < 7 ∧ i < 6) || decide (7 < f ∧ f < 11 ∧ i < 12) || decide (10 < f ∧ f < 20 ∧ i < k))) (20 * o1 + 11) k ((cpS z o1 o2 (fun f i => decide (f < 4 ∧ i = 0) || decide (4 < f ∧ f < 7 ∧ i < 6) || decide (7 < f ∧ f < 11 ∧ i < 12) || decide (10 < f ∧ f < 20 ∧ i < k))) (20 * o2 + 11) k)) (20 * o1 + 12) k ((cpS z o1 o2 (fun f i => decide (f < 4 ∧ i = 0) || decide (4 < f ∧ f < 7 ∧ i < 6) || decide (7 < f ∧ f < 11 ∧ i < 12) || decide (10 < f ∧ f < 20 ∧ i < k))) (20 * o2 + 12) k)) (20 * o1 + 13) k ((cpS z o1 o2 (fun f i => decide (f < 4 ∧ i = 0) || decide (4 < f ∧ f < 7 ∧ i < 6) || decide (7 < f ∧ f < 11 ∧ i < 12) || decide (10 < f ∧ f < 20 ∧ i < k))) (20 * o2 + 13) k)) (20 * o1 + 19) k ((cpS z o1 o2 (fun f i => decide (f < 4 ∧ i = 0) || decide (4 < f ∧ f < 7 ∧ i < 6) || decide (7 < f ∧ f < 11 ∧ i < 12) || decide (10 < f ∧ f < 20 ∧ i < k))) (20 * o2 + 19) k)) (20 * o1 + 14) k ((cpS z o1 o2 (fun f i => decide (f < 4 ∧ i = 0) || decide (4 < f ∧ f < 7 ∧ i < 6) || decide (7 < f ∧ f < 11 ∧ i < 12) || decide (10 < f ∧ f < 20 ∧ i < k))) (20 * o2 + 14) k)) (20 * o1 + 15) k ((cpS z o1 o2 (fun f i => decide (f < 4 ∧ i = 0) || decide (4 < f ∧ f < 7 ∧ i < 6) || decide (7 < f ∧ f < 11 ∧ i < 12) || decide (10 < f ∧ f < 20 ∧ i < k))) (20 * o2 + 15) k)) (20 * o1 + 16) k ((cpS z o1 o2 (fun f i => decide (f < 4 ∧ i = 0) || decide (4 < f ∧ f < 7 ∧ i < 6) || decide (7 < f ∧ f < 11 ∧ i < 12) || decide (10 < f ∧ f < 20 ∧ i < k))) (20 * o2 + 16) k)) (20 * o1 + 17) k ((cpS z o1 o2 (fun f i => decide (f < 4 ∧ i = 0) || decide (4 < f ∧ f < 7 ∧ i < 6) || decide (7 < f ∧ f < 11 ∧ i < 12) || decide (10 < f ∧ f < 20 ∧ i < k))) (20 * o2 + 17) k)) (20 * o1 + 18) k ((cpS z o1 o2 (fun f i => decide (f < 4 ∧ i = 0) || decide (4 < f ∧ f < 7 ∧ i < 6) || decide (7 < f ∧ f < 11 ∧ i < 12) || decide (10 < f ∧ f < 20 ∧ i < k))) (20 * o2 + 18) k) = cpS z o1 o2 (fun f i => decide (f < 4 ∧ i = 0) || decide (4 < f ∧ f < 7 ∧ i < 6) || decide (7 < f ∧ f < 11 ∧ i < 12) || decide (10 < f ∧ f < 20 ∧ i < (k + 1))) := by
                      (repeat rw [cpS_at (by omega) (by decide)])
                      rw [cpS_u2 (by decide), cpS_u2 (by decide), cpS_u2 (by decide), cpS_u2 (by decide), cpS_u2 (by decide), cpS_u2 (by decide), cpS_u2 (by decide), cpS_u2 (by decide), cpS_u2 (by decide)]
                      refine cpS_congr (fun f i hf => ?_)
                      rw [Bool.eq_iff_iff]; simp; try omega
                    refine g_z ez ?_
                    exact ih (k + 1) (by omega) (by omega)
              refine g_sub [1, 2, 0] [(0, .ref (G.2.2 (64 * o1))), (1, .ref (G.2.2 (64 * o2))), (2, .int 0)] rfl ?_
              have ez : cpS z o1 o2 (fun f i => decide (f < 4 ∧ i = 0) || decide (4 < f ∧ f < 7 ∧ i < 6) || decide (7 < f ∧ f < 11 ∧ i < 12)) = cpS z o1 o2 (fun f i => decide (f < 4 ∧ i = 0) || decide (4 < f ∧ f < 7 ∧ i < 6) || decide (7 < f ∧ f < 11 ∧ i < 12) || decide (10 < f ∧ f < 20 ∧ i < 0)) := by
                refine cpS_congr (fun f i hf => ?_)
                rw [Bool.eq_iff_iff]; simp; try omega
              refine g_z ez ?_
              exact loop98 (40 + 1) 0 (by omega) (Nat.zero_le _)
            · -- on 75
              have hkn : k < 12 := Nat.lt_of_not_le (fun q => c2 (nI_le (a := 12) q (by omega)))
              refine g_aload_n hX 0 dX3_copyFrom_75 rfl ?_
              refine co_g_Office_5 hX (by omega) i_X3_copyFrom_wsX30 (List.mem_of_getElem? (i := 6) rfl) dX3_copyFrom_76 ?_
              refine g_iload_n hX 2 dX3_copyFrom_79 rfl ?_
              refine co_ld_climbers hX (by omega) k rfl (by omega) dX3_copyFrom_80 ?_
              refine g_aload_n hX 1 dX3_copyFrom_81 rfl ?_
              refine co_g_Office_5 hX (by omega) i_X3_copyFrom_wsX30 (List.mem_of_getElem? (i := 6) rfl) dX3_copyFrom_82 ?_
              refine g_iload_n hX 2 dX3_copyFrom_85 rfl ?_
              refine co_ld_climbers hX (by omega) k rfl (by omega) dX3_copyFrom_86 ?_
              refine g_cvvE hX (As := [.ref (G.2.2 (64 * o2 + 12 + k))]) (rest := []) (c_X1_copyFrom l G hA (cpS z o1 o2 (fun f i => decide (f < 4 ∧ i = 0) || decide (4 < f ∧ f < 7 ∧ i < 6) || decide (7 < f ∧ f < 11 ∧ i < k))) (i := k) (o1 := o1) (o2 := o2) (h1 := (by omega)) (h2 := (by omega)) (h12 := (by omega)) (hi := (by omega))) k_X3_copyFrom_X1_copyFrom (rc_Climber (by omega) (by omega)) rfl rfl (Nat.le_of_ble_eq_true rfl) dX3_copyFrom_87 ?_
              refine g_iinc hX (nI (k + 1)) 2 [(2, .int (nI (k + 1))), (0, .ref (G.2.2 (64 * o1))), (1, .ref (G.2.2 (64 * o2)))] dX3_copyFrom_90 rfl (nI_1 k) (by decide) rfl ?_
              refine g_goto hX 66 dX3_copyFrom_93 (by decide) ?_
              -- back to 66
              refine g_sub [1, 2, 0] [(0, .ref (G.2.2 (64 * o1))), (1, .ref (G.2.2 (64 * o2))), (2, .int (nI (k + 1)))] rfl ?_
              have ez : u2 (u2 (u2 (cpS z o1 o2 (fun f i => decide (f < 4 ∧ i = 0) || decide (4 < f ∧ f < 7 ∧ i < 6) || decide (7 < f ∧ f < 11 ∧ i < k))) (20 * o1 + 8) k ((cpS z o1 o2 (fun f i => decide (f < 4 ∧ i = 0) || decide (4 < f ∧ f < 7 ∧ i < 6) || decide (7 < f ∧ f < 11 ∧ i < k))) (20 * o2 + 8) k)) (20 * o1 + 9) k ((cpS z o1 o2 (fun f i => decide (f < 4 ∧ i = 0) || decide (4 < f ∧ f < 7 ∧ i < 6) || decide (7 < f ∧ f < 11 ∧ i < k))) (20 * o2 + 9) k)) (20 * o1 + 10) k ((cpS z o1 o2 (fun f i => decide (f < 4 ∧ i = 0) || decide (4 < f ∧ f < 7 ∧ i < 6) || decide (7 < f ∧ f < 11 ∧ i < k))) (20 * o2 + 10) k) = cpS z o1 o2 (fun f i => decide (f < 4 ∧ i = 0) || decide (4 < f ∧ f < 7 ∧ i < 6) || decide (7 < f ∧ f < 11 ∧ i < (k + 1))) := by
                (repeat rw [cpS_at (by omega) (by decide)])
                rw [cpS_u2 (by decide), cpS_u2 (by decide), cpS_u2 (by decide)]
                refine cpS_congr (fun f i hf => ?_)
                rw [Bool.eq_iff_iff]; simp; try omega
              refine g_z ez ?_
              exact ih (k + 1) (by omega) (by omega)
        refine g_sub [1, 2, 0] [(0, .ref (G.2.2 (64 * o1))), (1, .ref (G.2.2 (64 * o2))), (2, .int 0)] rfl ?_
        have ez : cpS z o1 o2 (fun f i => decide (f < 4 ∧ i = 0) || decide (4 < f ∧ f < 7 ∧ i < 6)) = cpS z o1 o2 (fun f i => decide (f < 4 ∧ i = 0) || decide (4 < f ∧ f < 7 ∧ i < 6) || decide (7 < f ∧ f < 11 ∧ i < 0)) := by
          refine cpS_congr (fun f i hf => ?_)
          rw [Bool.eq_iff_iff]; simp; try omega
        refine g_z ez ?_
        exact loop66 (12 + 1) 0 (by omega) (Nat.zero_le _)
      · -- on 43
        have hkn : k < 6 := Nat.lt_of_not_le (fun q => c1 (nI_le (a := 6) q (by omega)))
        refine g_aload_n hX 0 dX3_copyFrom_43 rfl ?_
        refine co_g_Office_4 hX (by omega) i_X3_copyFrom_wsX30 (List.mem_of_getElem? (i := 5) rfl) dX3_copyFrom_44 ?_
        refine g_iload_n hX 2 dX3_copyFrom_47 rfl ?_
        refine co_ld_routes hX (by omega) k rfl (by omega) dX3_copyFrom_48 ?_
        refine g_aload_n hX 1 dX3_copyFrom_49 rfl ?_
        refine co_g_Office_4 hX (by omega) i_X3_copyFrom_wsX30 (List.mem_of_getElem? (i := 5) rfl) dX3_copyFrom_50 ?_
        refine g_iload_n hX 2 dX3_copyFrom_53 rfl ?_
        refine co_ld_routes hX (by omega) k rfl (by omega) dX3_copyFrom_54 ?_
        refine g_cvvE hX (As := [.ref (G.2.2 (64 * o2 + 6 + k))]) (rest := []) (c_X5_copyFrom l G hA (cpS z o1 o2 (fun f i => decide (f < 4 ∧ i = 0) || decide (4 < f ∧ f < 7 ∧ i < k))) (i := k) (o1 := o1) (o2 := o2) (h1 := (by omega)) (h2 := (by omega)) (h12 := (by omega)) (hi := (by omega))) k_X3_copyFrom_X5_copyFrom (rc_Route (by omega) (by omega)) rfl rfl (Nat.le_of_ble_eq_true rfl) dX3_copyFrom_55 ?_
        refine g_iinc hX (nI (k + 1)) 2 [(2, .int (nI (k + 1))), (0, .ref (G.2.2 (64 * o1))), (1, .ref (G.2.2 (64 * o2)))] dX3_copyFrom_58 rfl (nI_1 k) (by decide) rfl ?_
        refine g_goto hX 34 dX3_copyFrom_61 (by decide) ?_
        -- back to 34
        refine g_sub [1, 2, 0] [(0, .ref (G.2.2 (64 * o1))), (1, .ref (G.2.2 (64 * o2))), (2, .int (nI (k + 1)))] rfl ?_
        have ez : u2 (u2 (cpS z o1 o2 (fun f i => decide (f < 4 ∧ i = 0) || decide (4 < f ∧ f < 7 ∧ i < k))) (20 * o1 + 5) k ((cpS z o1 o2 (fun f i => decide (f < 4 ∧ i = 0) || decide (4 < f ∧ f < 7 ∧ i < k))) (20 * o2 + 5) k)) (20 * o1 + 6) k ((cpS z o1 o2 (fun f i => decide (f < 4 ∧ i = 0) || decide (4 < f ∧ f < 7 ∧ i < k))) (20 * o2 + 6) k) = cpS z o1 o2 (fun f i => decide (f < 4 ∧ i = 0) || decide (4 < f ∧ f < 7 ∧ i < (k + 1))) := by
          (repeat rw [cpS_at (by omega) (by decide)])
          rw [cpS_u2 (by decide), cpS_u2 (by decide)]
          refine cpS_congr (fun f i hf => ?_)
          rw [Bool.eq_iff_iff]; simp; try omega
        refine g_z ez ?_
        exact ih (k + 1) (by omega) (by omega)
  refine g_sub [1, 2, 0] [(0, .ref (G.2.2 (64 * o1))), (1, .ref (G.2.2 (64 * o2))), (2, .int 0)] rfl ?_
  have ez : u2 (u2 (u2 (u2 z (20 * o1 + 0) 0 (z (20 * o2 + 0) 0)) (20 * o1 + 1) 0 (z (20 * o2 + 1) 0)) (20 * o1 + 2) 0 (z (20 * o2 + 2) 0)) (20 * o1 + 3) 0 (z (20 * o2 + 3) 0) = cpS z o1 o2 (fun f i => decide (f < 4 ∧ i = 0) || decide (4 < f ∧ f < 7 ∧ i < 0)) := by
    exact cp_start z o1 o2 h12
  refine g_z ez ?_
  exact loop34 (6 + 1) 0 (by omega) (Nat.zero_le _)
def rm_X3_serveWaiting : Room := { frames := 4, cells := 0, slots := 0, locals := 90 }
theorem i_X3_serveWaiting_wsX00 : ∀ w ∈ wsX00, w ∈ wsX3_serveWaiting := fun w h => List.mem_cons_of_mem _ (List.mem_append_left _ (List.mem_append_left _ (List.mem_append_right _ h)))
theorem i_X3_serveWaiting_wsX10 : ∀ w ∈ wsX10, w ∈ wsX3_serveWaiting := fun w h => List.mem_cons_of_mem _ (List.mem_append_left _ (List.mem_append_right _ h))
theorem i_X3_serveWaiting_wsX30 : ∀ w ∈ wsX30, w ∈ wsX3_serveWaiting := fun w h => List.mem_cons_of_mem _ (List.mem_append_left _ (List.mem_append_left _ (List.mem_append_left _ (List.mem_append_right _ h))))
theorem k_X3_serveWaiting_X3_firstWaiting : CW rm_X3_serveWaiting wsX3_serveWaiting RX3 RX3 140 yX3_firstWaiting cX3_firstWaiting 8 (some .int) wsX3_firstWaiting rm_X3_firstWaiting 3 := ⟨gX3_serveWaiting_X3_firstWaiting, ⟨_, rfl⟩, rfl, rfl, ⟨rfl, by decide +kernel, by decide +kernel, by decide +kernel⟩, by decide, by decide⟩
theorem k_X3_serveWaiting_X3_givePermit : CW rm_X3_serveWaiting wsX3_serveWaiting RX3 RX3 144 yX3_givePermit cX3_givePermit 2 none wsX3_givePermit rm_X3_givePermit 1 := ⟨gX3_serveWaiting_X3_givePermit, ⟨_, rfl⟩, rfl, rfl, ⟨rfl, by decide +kernel, by decide +kernel, by decide +kernel⟩, by decide, by decide⟩
theorem k_X3_serveWaiting_X3_isOpen : CW rm_X3_serveWaiting wsX3_serveWaiting RX3 RX3 134 yX3_isOpen cX3_isOpen 2 (some .boolean) wsX3_isOpen rm_X3_isOpen 1 := ⟨gX3_serveWaiting_X3_isOpen, ⟨_, rfl⟩, rfl, rfl, ⟨rfl, by decide +kernel, by decide +kernel, by decide +kernel⟩, by decide, by decide⟩
theorem k_X3_serveWaiting_X3_placesForLottery : CW rm_X3_serveWaiting wsX3_serveWaiting RX3 RX3 137 yX3_placesForLottery cX3_placesForLottery 3 (some .int) wsX3_placesForLottery rm_X3_placesForLottery 2 := ⟨gX3_serveWaiting_X3_placesForLottery, ⟨_, rfl⟩, rfl, rfl, ⟨rfl, by decide +kernel, by decide +kernel, by decide +kernel⟩, by decide, by decide⟩
set_option maxHeartbeats 4000000 in
set_option maxRecDepth 100000 in
theorem c_X3_serveWaiting (l : Launch) (G : MG) (hA : Ap 203 G.2.2) (z : St) {q : Nat} {d : Int32} (hq : q < 6) (hI : IO z) (hm : ∀ c, c < 12 → 0 ≤ z 8 c) : CVc l G yX3_serveWaiting wsX3_serveWaiting rm_X3_serveWaiting [.ref (G.2.2 0), .int (nI q), .int d] z (fun ζ => ζ = (if openP z d then serve (nI q) d (nA z) z else z)) := by
  refine cv_of (own := RX3) (cc := cX3_serveWaiting) (maxL := 5) (by decide +kernel) rfl rfl (Nat.le_of_ble_eq_true rfl) (KQ_mv (ExC_mv G)) ?_
  intro X hX ret
  refine g_lv (lv' := [(0, .ref (G.2.2 0)), (1, .int (nI q)), (2, .int d)]) rfl ?_
  obtain ⟨e3, h40⟩ := iNa hI
  refine g_aload_n hX 0 dX3_serveWaiting_0 rfl ?_
  refine g_iload_n hX 2 dX3_serveWaiting_1 rfl ?_
  refine g_cvE hX (As := [.int d]) (rest := []) (c_X3_isOpen l G z (x1 := d) ) k_X3_serveWaiting_X3_isOpen rc_Office0 rfl rfl (Nat.le_of_ble_eq_true rfl) dX3_serveWaiting_2 ?_
  refine g_bi_ne hX 9 dX3_serveWaiting_5 (by decide) (fun c1 => ?_) (fun c1 => ?_)
  · -- jump 9
    refine g_iconst hX 0 dX3_serveWaiting_9 (by decide) ?_
    refine g_istore_n hX [(3, .int 0), (0, .ref (G.2.2 0)), (1, .int (nI q)), (2, .int d)] dX3_serveWaiting_10 (by decide) rfl ?_
    have loop11 : ∀ (nf : Nat) (k : Nat) (y : St), (nA z < k + nf) → (k ≤ nA z) → (IO y) → (nA y = nA z) → (∀ c, c < 12 → 0 ≤ y 8 c) → (serve (nI q) d (nA z - k) y = serve (nI q) d (nA z) z) → Go X (y) 11 [(0, .ref (G.2.2 0)), (1, .int (nI q)), (2, .int d), (3, .int (nI k))] [] := by
      intro nf
      induction nf with
      | zero =>
        intro k y hmu hk hIy hny hmy hs
        exfalso; omega
      | succ nf ih =>
        intro k y hmu hk hIy hny hmy hs
        refine g_iload_n hX 3 dX3_serveWaiting_11 rfl ?_
        refine g_aload_n hX 0 dX3_serveWaiting_12 rfl ?_
        refine c_g_Office_3 hX i_X3_serveWaiting_wsX30 (List.mem_of_getElem? (i := 1) rfl) dX3_serveWaiting_13 ?_
        refine g_ic_ge hX 75 dX3_serveWaiting_16 (by decide) (fun c2 => ?_) (fun c2 => ?_)
        · -- jump 75
          have hke : k = nA z := by
            rw [(iNa hIy).1, hny] at c2; have := (nI_leI (by omega) (by omega)).mp c2; omega
          refine ret _ _ _ dX3_serveWaiting_75 ?_
          rw [if_pos c1, ← hs, hke, Nat.sub_self]; rfl
        · -- on 19
          have hkn : k < nA z := by
            rw [(iNa hIy).1, hny] at c2; exact Nat.lt_of_not_le (fun q => c2 (nI_le q (by omega)))
          refine g_aload_n hX 0 dX3_serveWaiting_19 rfl ?_
          refine g_iload_n hX 1 dX3_serveWaiting_20 rfl ?_
          refine g_iload_n hX 2 dX3_serveWaiting_21 rfl ?_
          refine g_aload_n hX 0 dX3_serveWaiting_22 rfl ?_
          refine g_iload_n hX 1 dX3_serveWaiting_23 rfl ?_
          refine g_iload_n hX 2 dX3_serveWaiting_24 rfl ?_
          refine g_cvE hX (As := [.int (nI q), .int d]) (rest := [.int d, .int (nI q), .ref (G.2.2 0)]) (c_X3_placesForLottery l G y (q := q) (d := d) (hq := (by assumption)) (hI := hIy)) k_X3_serveWaiting_X3_placesForLottery rc_Office0 rfl rfl (Nat.le_of_ble_eq_true rfl) dX3_serveWaiting_25 ?_
          refine g_cvE hX (As := [.int (nI q), .int d, .int (leftP y (nI q) d)]) (rest := []) (c_X3_firstWaiting l G y (r := (nI q)) (d := d) (p := (leftP y (nI q) d)) (hr := (nI_m1 (by omega))) (hI := hIy) (hm := hmy)) k_X3_serveWaiting_X3_firstWaiting rc_Office0 rfl rfl (Nat.le_of_ble_eq_true rfl) dX3_serveWaiting_28 ?_
          refine g_istore hX [(4, .int (fw y (nI q) d (leftP y (nI q) d))), (0, .ref (G.2.2 0)), (1, .int (nI q)), (2, .int d), (3, .int (nI k))] dX3_serveWaiting_31 (by decide) rfl ?_
          refine g_iload hX 0 dX3_serveWaiting_33 rfl ?_
          refine g_if_ge hX 39 dX3_serveWaiting_35 (by decide) (fun c3 => ?_) (fun c3 => ?_)
          · -- jump 39
            have hfw := c3
            obtain ⟨w1, w2, w3⟩ := fw_in hIy (show ¬ fw y (nI q) d (leftP y (nI q) d) < 0 by simpa using c3)
            refine g_aload_n hX 1 dX3_serveWaiting_39 rfl ?_
            refine g_aload_n hX 1 dX3_serveWaiting_40 rfl ?_
            refine c_g_Office_6 hX i_X3_serveWaiting_wsX30 (List.mem_of_getElem? (i := 2) rfl) dX3_serveWaiting_41 ?_
            refine g_iload hX 0 dX3_serveWaiting_44 rfl ?_
            refine c_ld_applications hX (cn (fw y (nI q) d (leftP y (nI q) d))) w1 (by omega) dX3_serveWaiting_46 ?_
            refine g_cvvE hX (As := [.ref (G.2.2 (24 + (cn (fw y (nI q) d (leftP y (nI q) d)))))]) (rest := []) (c_X3_givePermit l G hA y (a := (cn (fw y (nI q) d (leftP y (nI q) d)))) (ha := (by omega))) k_X3_serveWaiting_X3_givePermit rc_Office0 rfl rfl (Nat.le_of_ble_eq_true rfl) dX3_serveWaiting_47 ?_
            refine g_aload_n hX 1 dX3_serveWaiting_50 rfl ?_
            refine c_g_Office_5 hX i_X3_serveWaiting_wsX30 (List.mem_of_getElem? (i := 3) rfl) dX3_serveWaiting_51 ?_
            refine g_aload_n hX 1 dX3_serveWaiting_54 rfl ?_
            refine c_g_Office_6 hX i_X3_serveWaiting_wsX30 (List.mem_of_getElem? (i := 2) rfl) dX3_serveWaiting_55 ?_
            refine g_iload hX 0 dX3_serveWaiting_58 rfl ?_
            refine c_ld_applications hX (cn (fw y (nI q) d (leftP y (nI q) d))) w1 (by omega) dX3_serveWaiting_60 ?_
            refine c_g_Application_0 hX (by omega) i_X3_serveWaiting_wsX00 (List.mem_of_getElem? (i := 4) rfl) dX3_serveWaiting_61 ?_
            refine c_ld_climbers hX (cn (y 11 (cn (fw y (nI q) d (leftP y (nI q) d))))) (iC hIy w2).1 (iC hIy w2).2 dX3_serveWaiting_64 ?_
            refine g_iconst hX 0 dX3_serveWaiting_65 (by decide) ?_
            refine c_p_Climber_0 hX hA (iC hIy w2).2 i_X3_serveWaiting_wsX10 (List.mem_of_getElem? (i := 5) rfl) dX3_serveWaiting_66 ?_
            refine g_iinc hX (nI (k + 1)) 4 [(3, .int (nI (k + 1))), (4, .int (fw y (nI q) d (leftP y (nI q) d))), (0, .ref (G.2.2 0)), (1, .int (nI q)), (2, .int d)] dX3_serveWaiting_69 rfl (nI_1 k) (by decide) rfl ?_
            refine g_goto hX 11 dX3_serveWaiting_72 (by decide) ?_
            -- back to 11
            refine g_sub [2, 3, 4, 0] [(0, .ref (G.2.2 0)), (1, .int (nI q)), (2, .int d), (3, .int (nI (k + 1)))] rfl ?_
            exact ih (k + 1) (u2 (permit y (cn (fw y (nI q) d (leftP y (nI q) d)))) 8 (cn (y 11 (cn (fw y (nI q) d (leftP y (nI q) d))))) 0) (by omega) (by omega) (IO_serve1 hIy _) ((nA_serve1 _ _).trans hny) (mem_serve1 hmy _) (by rw [← hs, show nA z - k = (nA z - (k + 1)) + 1 from by omega, serve, if_neg (Int32.not_lt.mpr hfw)]; rfl)
          · -- on 38
            have hfw := c3
            refine ret _ _ _ dX3_serveWaiting_38 ?_
            rw [if_pos c1, ← hs, show nA z - k = (nA z - (k + 1)) + 1 from by omega, serve, if_pos (Int32.not_le.mp hfw)]
    refine g_sub [1, 2, 3, 0] [(0, .ref (G.2.2 0)), (1, .int (nI q)), (2, .int d), (3, .int 0)] rfl ?_
    exact loop11 (nA z + 1) 0 z (by omega) (Nat.zero_le _) hI rfl hm rfl
  · -- on 8
    refine ret _ _ _ dX3_serveWaiting_8 ?_
    exact (if_neg c1).symm
