def rm_X7_in : Room := { frames := 0, cells := 0, slots := 0, locals := 0 }
set_option maxHeartbeats 4000000 in
set_option maxRecDepth 100000 in
theorem c_X7_in (l : Launch) (G : MG) (z : St) {x : Int32} {lo : Int32} {hi : Int32}  : CIm l G yX7_in wsX7_in rm_X7_in [.int x, .int lo, .int hi] z (fun ρ ζ => ρ = bi (lo ≤ x ∧ x ≤ hi) ∧ ζ = z) := by
  refine ci_of (own := RX7) (cc := cX7_in) (maxL := 3) (ret := .boolean) (by decide +kernel) rfl rfl ?_ (Nat.le_of_ble_eq_true rfl) (KQ_mv (ExM_mv G)) ?_
  · rintro v z' ⟨rfl, -⟩; exact nz_bi _
  · intro X hX ret
    refine g_lv (lv' := [(0, .int x), (1, .int lo), (2, .int hi)]) rfl ?_
    refine g_iload_n hX 0 dX7_in_0 rfl ?_
    refine g_iload_n hX 1 dX7_in_1 rfl ?_
    refine g_ic_lt hX 14 dX7_in_2 (by decide) (fun c1 => ?_) (fun c1 => ?_)
    · -- jump 14
      refine g_iconst hX 0 dX7_in_14 (by decide) ?_
      refine ret _ _ _ _ dX7_in_15 ?_
      refine ⟨?_, rfl⟩
      first | rfl | (simp [bi, c1]; done) | grind [bi]
    · -- on 5
      refine g_iload_n hX 0 dX7_in_5 rfl ?_
      refine g_iload_n hX 2 dX7_in_6 rfl ?_
      refine g_ic_gt hX 14 dX7_in_7 (by decide) (fun c2 => ?_) (fun c2 => ?_)
      · -- jump 14
        refine g_iconst hX 0 dX7_in_14 (by decide) ?_
        refine ret _ _ _ _ dX7_in_15 ?_
        refine ⟨?_, rfl⟩
        first | rfl | (simp [bi, c1, c2]; done) | grind [bi]
      · -- on 10
        refine g_iconst hX 1 dX7_in_10 (by decide) ?_
        refine g_goto hX 15 dX7_in_11 (by decide) ?_
        refine ret _ _ _ _ dX7_in_15 ?_
        refine ⟨?_, rfl⟩
        first | rfl | (simp [bi, c1, c2]; done) | grind [bi]
def rm_X7_setting : Room := { frames := 0, cells := 0, slots := 0, locals := 0 }
theorem i_X7_setting_wsX70 : ∀ w ∈ wsX70, w ∈ wsX7_setting := fun w h => List.mem_cons_of_mem _ (List.mem_append_right _ h)
set_option maxHeartbeats 4000000 in
set_option maxRecDepth 100000 in
theorem c_X7_setting (l : Launch) (G : MG) (z : St) {w : Nat} (hw : w < 6) : CIm l G yX7_setting wsX7_setting rm_X7_setting [.ref (G.2.2 0), .int (nI w)] z (fun ρ ζ => ρ = z 4 w ∧ ζ = z) := by
  refine ci_of (own := RX7) (cc := cX7_setting) (maxL := 2) (ret := .int) (by decide +kernel) rfl rfl ?_ (Nat.le_of_ble_eq_true rfl) (KQ_mv (ExM_mv G)) ?_
  · intro v z' _; rfl
  · intro X hX ret
    refine g_lv (lv' := [(0, .ref (G.2.2 0)), (1, .int (nI w))]) rfl ?_
    refine g_aload_n hX 0 dX7_setting_0 rfl ?_
    refine m_g_0 hX i_X7_setting_wsX70 (List.mem_of_getElem? (i := 1) rfl) dX7_setting_1 ?_
    refine g_iconst hX 4 dX7_setting_4 (by decide) ?_
    refine g_iload_n hX 1 dX7_setting_5 rfl ?_
    refine g_iadd hX dX7_setting_6 ?_
    refine m_ld_at hX (4 + w) (nI_add 4 w) (by omega) dX7_setting_7 (v := z 4 w) (at_s z hw) ?_
    refine ret _ _ _ _ dX7_setting_8 ?_
    exact ⟨rfl, rfl⟩
def rm_X7_of : Room := { frames := 0, cells := 0, slots := 0, locals := 0 }
theorem i_X7_of_wsX70 : ∀ w ∈ wsX70, w ∈ wsX7_of := fun w h => List.mem_cons_of_mem _ (List.mem_append_right _ h)
set_option maxHeartbeats 4000000 in
set_option maxRecDepth 100000 in
theorem c_X7_of (l : Launch) (G : MG) (z : St) {a : Nat} {w : Nat} (ha : a < 40) (hw : w < 9) : CIm l G yX7_of wsX7_of rm_X7_of [.ref (G.2.2 0), .int (nI a), .int (nI w)] z (fun ρ ζ => ρ = z (11 + w) a ∧ ζ = z) := by
  refine ci_of (own := RX7) (cc := cX7_of) (maxL := 3) (ret := .int) (by decide +kernel) rfl rfl ?_ (Nat.le_of_ble_eq_true rfl) (KQ_mv (ExM_mv G)) ?_
  · intro v z' _; rfl
  · intro X hX ret
    refine g_lv (lv' := [(0, .ref (G.2.2 0)), (1, .int (nI a)), (2, .int (nI w))]) rfl ?_
    refine g_aload_n hX 0 dX7_of_0 rfl ?_
    refine m_g_0 hX i_X7_of_wsX70 (List.mem_of_getElem? (i := 1) rfl) dX7_of_1 ?_
    refine g_bipush hX 118 dX7_of_4 (by decide) ?_
    refine g_bipush hX 9 dX7_of_6 (by decide) ?_
    refine g_iload_n hX 1 dX7_of_8 rfl ?_
    refine g_imul hX dX7_of_9 ?_
    refine g_iadd hX dX7_of_10 ?_
    refine g_iload_n hX 2 dX7_of_11 rfl ?_
    refine g_iadd hX dX7_of_12 ?_
    refine m_ld_at hX (118 + 9 * a + w) (ix_a a w) (by omega) dX7_of_13 (v := z (11 + w) a) (at_a z hw) ?_
    refine ret _ _ _ _ dX7_of_14 ?_
    exact ⟨rfl, rfl⟩
def rm_X7_lay : Room := { frames := 0, cells := 0, slots := 0, locals := 0 }
theorem i_X7_lay_wsX70 : ∀ w ∈ wsX70, w ∈ wsX7_lay := fun w h => List.mem_cons_of_mem _ (List.mem_append_right _ h)
set_option maxHeartbeats 4000000 in
set_option maxRecDepth 100000 in
theorem c_X7_lay (l : Launch) (G : MG) (hA : Ap 9 G.2.2) (z : St) {a : Nat} {w : Nat} {v : Int32} (ha : a < 40) (hw : w < 9) : CVm l G yX7_lay wsX7_lay rm_X7_lay [.ref (G.2.2 0), .int (nI a), .int (nI w), .int v] z (fun ζ => ζ = u2 z (11 + w) a v) := by
  refine cv_of (own := RX7) (cc := cX7_lay) (maxL := 4) (by decide +kernel) rfl rfl (Nat.le_of_ble_eq_true rfl) (KQ_mv (ExM_mv G)) ?_
  intro X hX ret
  refine g_lv (lv' := [(0, .ref (G.2.2 0)), (1, .int (nI a)), (2, .int (nI w)), (3, .int v)]) rfl ?_
  refine g_aload_n hX 0 dX7_lay_0 rfl ?_
  refine m_g_0 hX i_X7_lay_wsX70 (List.mem_of_getElem? (i := 1) rfl) dX7_lay_1 ?_
  refine g_bipush hX 118 dX7_lay_4 (by decide) ?_
  refine g_bipush hX 9 dX7_lay_6 (by decide) ?_
  refine g_iload_n hX 1 dX7_lay_8 rfl ?_
  refine g_imul hX dX7_lay_9 ?_
  refine g_iadd hX dX7_lay_10 ?_
  refine g_iload_n hX 2 dX7_lay_11 rfl ?_
  refine g_iadd hX dX7_lay_12 ?_
  refine g_iload_n hX 3 dX7_lay_13 rfl ?_
  refine m_st_at hX hA (118 + 9 * a + w) (ix_a a w) (by omega) dX7_lay_14 ?_
  refine ret _ _ _ dX7_lay_15 ?_
  rw [(fO_a hw).1, (fO_a hw).2, gO_ne (by omega)]
def rm_X7_ofClimber : Room := { frames := 0, cells := 0, slots := 0, locals := 0 }
theorem i_X7_ofClimber_wsX70 : ∀ w ∈ wsX70, w ∈ wsX7_ofClimber := fun w h => List.mem_cons_of_mem _ (List.mem_append_right _ h)
set_option maxHeartbeats 4000000 in
set_option maxRecDepth 100000 in
theorem c_X7_ofClimber (l : Launch) (G : MG) (z : St) {c : Nat} {w : Nat} (hc : c < 12) (hw : w < 3) : CIm l G yX7_ofClimber wsX7_ofClimber rm_X7_ofClimber [.ref (G.2.2 0), .int (nI c), .int (nI w)] z (fun ρ ζ => ρ = z (gO 0 (8 + w)) c ∧ ζ = z) := by
  refine ci_of (own := RX7) (cc := cX7_ofClimber) (maxL := 3) (ret := .int) (by decide +kernel) rfl rfl ?_ (Nat.le_of_ble_eq_true rfl) (KQ_mv (ExM_mv G)) ?_
  · intro v z' _; rfl
  · intro X hX ret
    refine g_lv (lv' := [(0, .ref (G.2.2 0)), (1, .int (nI c)), (2, .int (nI w))]) rfl ?_
    refine g_aload_n hX 0 dX7_ofClimber_0 rfl ?_
    refine m_g_0 hX i_X7_ofClimber_wsX70 (List.mem_of_getElem? (i := 1) rfl) dX7_ofClimber_1 ?_
    refine g_bipush hX 82 dX7_ofClimber_4 (by decide) ?_
    refine g_iconst hX 3 dX7_ofClimber_6 (by decide) ?_
    refine g_iload_n hX 1 dX7_ofClimber_7 rfl ?_
    refine g_imul hX dX7_ofClimber_8 ?_
    refine g_iadd hX dX7_ofClimber_9 ?_
    refine g_iload_n hX 2 dX7_ofClimber_10 rfl ?_
    refine g_iadd hX dX7_ofClimber_11 ?_
    refine m_ld_at hX (82 + 3 * c + w) (ix_c c w) (by omega) dX7_ofClimber_12 (v := z (gO 0 (8 + w)) c) (at_c z hc hw) ?_
    refine ret _ _ _ _ dX7_ofClimber_13 ?_
    exact ⟨rfl, rfl⟩
def rm_X7_layClimber : Room := { frames := 0, cells := 0, slots := 0, locals := 0 }
theorem i_X7_layClimber_wsX70 : ∀ w ∈ wsX70, w ∈ wsX7_layClimber := fun w h => List.mem_cons_of_mem _ (List.mem_append_right _ h)
set_option maxHeartbeats 4000000 in
set_option maxRecDepth 100000 in
theorem c_X7_layClimber (l : Launch) (G : MG) (hA : Ap 9 G.2.2) (z : St) {c : Nat} {w : Nat} {v : Int32} (hc : c < 12) (hw : w < 3) : CVm l G yX7_layClimber wsX7_layClimber rm_X7_layClimber [.ref (G.2.2 0), .int (nI c), .int (nI w), .int v] z (fun ζ => ζ = u2 z (gO 0 (8 + w)) c v) := by
  refine cv_of (own := RX7) (cc := cX7_layClimber) (maxL := 4) (by decide +kernel) rfl rfl (Nat.le_of_ble_eq_true rfl) (KQ_mv (ExM_mv G)) ?_
  intro X hX ret
  refine g_lv (lv' := [(0, .ref (G.2.2 0)), (1, .int (nI c)), (2, .int (nI w)), (3, .int v)]) rfl ?_
  refine g_aload_n hX 0 dX7_layClimber_0 rfl ?_
  refine m_g_0 hX i_X7_layClimber_wsX70 (List.mem_of_getElem? (i := 1) rfl) dX7_layClimber_1 ?_
  refine g_bipush hX 82 dX7_layClimber_4 (by decide) ?_
  refine g_iconst hX 3 dX7_layClimber_6 (by decide) ?_
  refine g_iload_n hX 1 dX7_layClimber_7 rfl ?_
  refine g_imul hX dX7_layClimber_8 ?_
  refine g_iadd hX dX7_layClimber_9 ?_
  refine g_iload_n hX 2 dX7_layClimber_10 rfl ?_
  refine g_iadd hX dX7_layClimber_11 ?_
  refine g_iload_n hX 3 dX7_layClimber_12 rfl ?_
  refine m_st_at hX hA (82 + 3 * c + w) (ix_c c w) (by omega) dX7_layClimber_13 ?_
  refine ret _ _ _ dX7_layClimber_14 ?_
  rw [(fO_c hc hw).1, (fO_c hc hw).2]
def rm_X7_isRoute : Room := { frames := 1, cells := 0, slots := 0, locals := 22 }
theorem i_X7_isRoute_wsX70 : ∀ w ∈ wsX70, w ∈ wsX7_isRoute := fun w h => List.mem_cons_of_mem _ (List.mem_append_right _ h)
theorem k_X7_isRoute_X7_in : CS rm_X7_isRoute wsX7_isRoute RX7 35 yX7_in cX7_in 3 (some .boolean) wsX7_in rm_X7_in 3 := ⟨gX7_isRoute_X7_in, ⟨_, rfl⟩, rfl, rfl, ⟨rfl, by decide +kernel, by decide +kernel, by decide +kernel⟩, by decide, by decide⟩
set_option maxHeartbeats 4000000 in
set_option maxRecDepth 100000 in
theorem c_X7_isRoute (l : Launch) (G : MG) (z : St) {x : Int32} (hI : IO z) : CIm l G yX7_isRoute wsX7_isRoute rm_X7_isRoute [.ref (G.2.2 0), .int x] z (fun ρ ζ => ρ = bi (routeP z x) ∧ ζ = z) := by
  refine ci_of (own := RX7) (cc := cX7_isRoute) (maxL := 2) (ret := .boolean) (by decide +kernel) rfl rfl ?_ (Nat.le_of_ble_eq_true rfl) (KQ_mv (ExM_mv G)) ?_
  · rintro v z' ⟨rfl, -⟩; exact nz_bi _
  · intro X hX ret
    refine g_lv (lv' := [(0, .ref (G.2.2 0)), (1, .int x)]) rfl ?_
    refine g_iload_n hX 1 dX7_isRoute_0 rfl ?_
    refine g_iconst hX 0 dX7_isRoute_1 (by decide) ?_
    refine g_aload_n hX 0 dX7_isRoute_2 rfl ?_
    refine m_g_0 hX i_X7_isRoute_wsX70 (List.mem_of_getElem? (i := 1) rfl) dX7_isRoute_3 ?_
    refine g_iconst hX 1 dX7_isRoute_6 (by decide) ?_
    refine m_ld_at hX 1 rfl (by decide) dX7_isRoute_7 (v := z 1 0) rfl ?_
    refine g_iconst hX 1 dX7_isRoute_8 (by decide) ?_
    refine g_isub hX dX7_isRoute_9 ?_
    refine g_csE hX (As := [.int x, .int 0, .int ((z 1 0) - 1)]) (rest := []) (c_X7_in l G z (x := x) (lo := 0) (hi := ((z 1 0) - 1)) ) k_X7_isRoute_X7_in rfl rfl (Nat.le_of_ble_eq_true rfl) dX7_isRoute_10 ?_
    refine ret _ _ _ _ dX7_isRoute_13 ?_
    refine ⟨?_, rfl⟩
    exact bi_cnt (n := 6) (by decide) hI.2.1
def rm_X7_isClimber : Room := { frames := 1, cells := 0, slots := 0, locals := 22 }
theorem i_X7_isClimber_wsX70 : ∀ w ∈ wsX70, w ∈ wsX7_isClimber := fun w h => List.mem_cons_of_mem _ (List.mem_append_right _ h)
theorem k_X7_isClimber_X7_in : CS rm_X7_isClimber wsX7_isClimber RX7 35 yX7_in cX7_in 3 (some .boolean) wsX7_in rm_X7_in 3 := ⟨gX7_isClimber_X7_in, ⟨_, rfl⟩, rfl, rfl, ⟨rfl, by decide +kernel, by decide +kernel, by decide +kernel⟩, by decide, by decide⟩
set_option maxHeartbeats 4000000 in
set_option maxRecDepth 100000 in
theorem c_X7_isClimber (l : Launch) (G : MG) (z : St) {x : Int32} (hI : IO z) : CIm l G yX7_isClimber wsX7_isClimber rm_X7_isClimber [.ref (G.2.2 0), .int x] z (fun ρ ζ => ρ = bi (climP z x) ∧ ζ = z) := by
  refine ci_of (own := RX7) (cc := cX7_isClimber) (maxL := 2) (ret := .boolean) (by decide +kernel) rfl rfl ?_ (Nat.le_of_ble_eq_true rfl) (KQ_mv (ExM_mv G)) ?_
  · rintro v z' ⟨rfl, -⟩; exact nz_bi _
  · intro X hX ret
    refine g_lv (lv' := [(0, .ref (G.2.2 0)), (1, .int x)]) rfl ?_
    refine g_iload_n hX 1 dX7_isClimber_0 rfl ?_
    refine g_iconst hX 0 dX7_isClimber_1 (by decide) ?_
    refine g_aload_n hX 0 dX7_isClimber_2 rfl ?_
    refine m_g_0 hX i_X7_isClimber_wsX70 (List.mem_of_getElem? (i := 1) rfl) dX7_isClimber_3 ?_
    refine g_iconst hX 2 dX7_isClimber_6 (by decide) ?_
    refine m_ld_at hX 2 rfl (by decide) dX7_isClimber_7 (v := z 2 0) rfl ?_
    refine g_iconst hX 1 dX7_isClimber_8 (by decide) ?_
    refine g_isub hX dX7_isClimber_9 ?_
    refine g_csE hX (As := [.int x, .int 0, .int ((z 2 0) - 1)]) (rest := []) (c_X7_in l G z (x := x) (lo := 0) (hi := ((z 2 0) - 1)) ) k_X7_isClimber_X7_in rfl rfl (Nat.le_of_ble_eq_true rfl) dX7_isClimber_10 ?_
    refine ret _ _ _ _ dX7_isClimber_13 ?_
    refine ⟨?_, rfl⟩
    exact bi_cnt (n := 12) (by decide) hI.2.2.1
def rm_X7_isApplication : Room := { frames := 1, cells := 0, slots := 0, locals := 22 }
theorem i_X7_isApplication_wsX70 : ∀ w ∈ wsX70, w ∈ wsX7_isApplication := fun w h => List.mem_cons_of_mem _ (List.mem_append_right _ h)
theorem k_X7_isApplication_X7_in : CS rm_X7_isApplication wsX7_isApplication RX7 35 yX7_in cX7_in 3 (some .boolean) wsX7_in rm_X7_in 3 := ⟨gX7_isApplication_X7_in, ⟨_, rfl⟩, rfl, rfl, ⟨rfl, by decide +kernel, by decide +kernel, by decide +kernel⟩, by decide, by decide⟩
set_option maxHeartbeats 4000000 in
set_option maxRecDepth 100000 in
theorem c_X7_isApplication (l : Launch) (G : MG) (z : St) {x : Int32} (hI : IO z) : CIm l G yX7_isApplication wsX7_isApplication rm_X7_isApplication [.ref (G.2.2 0), .int x] z (fun ρ ζ => ρ = bi (appP z x) ∧ ζ = z) := by
  refine ci_of (own := RX7) (cc := cX7_isApplication) (maxL := 2) (ret := .boolean) (by decide +kernel) rfl rfl ?_ (Nat.le_of_ble_eq_true rfl) (KQ_mv (ExM_mv G)) ?_
  · rintro v z' ⟨rfl, -⟩; exact nz_bi _
  · intro X hX ret
    refine g_lv (lv' := [(0, .ref (G.2.2 0)), (1, .int x)]) rfl ?_
    refine g_iload_n hX 1 dX7_isApplication_0 rfl ?_
    refine g_iconst hX 0 dX7_isApplication_1 (by decide) ?_
    refine g_aload_n hX 0 dX7_isApplication_2 rfl ?_
    refine m_g_0 hX i_X7_isApplication_wsX70 (List.mem_of_getElem? (i := 1) rfl) dX7_isApplication_3 ?_
    refine g_iconst hX 3 dX7_isApplication_6 (by decide) ?_
    refine m_ld_at hX 3 rfl (by decide) dX7_isApplication_7 (v := z 3 0) rfl ?_
    refine g_iconst hX 1 dX7_isApplication_8 (by decide) ?_
    refine g_isub hX dX7_isApplication_9 ?_
    refine g_csE hX (As := [.int x, .int 0, .int ((z 3 0) - 1)]) (rest := []) (c_X7_in l G z (x := x) (lo := 0) (hi := ((z 3 0) - 1)) ) k_X7_isApplication_X7_in rfl rfl (Nat.le_of_ble_eq_true rfl) dX7_isApplication_10 ?_
    refine ret _ _ _ _ dX7_isApplication_13 ?_
    refine ⟨?_, rfl⟩
    exact bi_cnt (n := 40) (by decide) hI.2.2.2.1
def rm_X7_isDay : Room := { frames := 1, cells := 0, slots := 0, locals := 22 }
theorem k_X7_isDay_X7_in : CS rm_X7_isDay wsX7_isDay RX7 35 yX7_in cX7_in 3 (some .boolean) wsX7_in rm_X7_in 3 := ⟨gX7_isDay_X7_in, ⟨_, rfl⟩, rfl, rfl, ⟨rfl, by decide +kernel, by decide +kernel, by decide +kernel⟩, by decide, by decide⟩
set_option maxHeartbeats 4000000 in
set_option maxRecDepth 100000 in
theorem c_X7_isDay (l : Launch) (G : MG) (z : St) {x : Int32}  : CIm l G yX7_isDay wsX7_isDay rm_X7_isDay [.int x] z (fun ρ ζ => ρ = bi (dayP x) ∧ ζ = z) := by
  refine ci_of (own := RX7) (cc := cX7_isDay) (maxL := 1) (ret := .boolean) (by decide +kernel) rfl rfl ?_ (Nat.le_of_ble_eq_true rfl) (KQ_mv (ExM_mv G)) ?_
  · rintro v z' ⟨rfl, -⟩; exact nz_bi _
  · intro X hX ret
    refine g_lv (lv' := [(0, .int x)]) rfl ?_
    refine g_iload_n hX 0 dX7_isDay_0 rfl ?_
    refine g_iconst hX 0 dX7_isDay_1 (by decide) ?_
    refine g_bipush hX 59 dX7_isDay_2 (by decide) ?_
    refine g_csE hX (As := [.int x, .int 0, .int 59]) (rest := []) (c_X7_in l G z (x := x) (lo := 0) (hi := 59) ) k_X7_isDay_X7_in rfl rfl (Nat.le_of_ble_eq_true rfl) dX7_isDay_4 ?_
    refine ret _ _ _ _ dX7_isDay_7 ?_
    refine ⟨?_, rfl⟩
    exact bi_day x
def rm_X7_isClosed : Room := { frames := 0, cells := 0, slots := 0, locals := 0 }
theorem i_X7_isClosed_wsX70 : ∀ w ∈ wsX70, w ∈ wsX7_isClosed := fun w h => List.mem_cons_of_mem _ (List.mem_append_right _ h)
set_option maxHeartbeats 4000000 in
set_option maxRecDepth 100000 in
theorem c_X7_isClosed (l : Launch) (G : MG) (z : St) {d : Nat} (hd : d < 60) : CIm l G yX7_isClosed wsX7_isClosed rm_X7_isClosed [.ref (G.2.2 0), .int (nI d)] z (fun ρ ζ => ρ = bi (z 7 d = 1) ∧ ζ = z) := by
  refine ci_of (own := RX7) (cc := cX7_isClosed) (maxL := 2) (ret := .boolean) (by decide +kernel) rfl rfl ?_ (Nat.le_of_ble_eq_true rfl) (KQ_mv (ExM_mv G)) ?_
  · rintro v z' ⟨rfl, -⟩; exact nz_bi _
  · intro X hX ret
    refine g_lv (lv' := [(0, .ref (G.2.2 0)), (1, .int (nI d))]) rfl ?_
    refine g_aload_n hX 0 dX7_isClosed_0 rfl ?_
    refine m_g_0 hX i_X7_isClosed_wsX70 (List.mem_of_getElem? (i := 1) rfl) dX7_isClosed_1 ?_
    refine g_bipush hX 22 dX7_isClosed_4 (by decide) ?_
    refine g_iload_n hX 1 dX7_isClosed_6 rfl ?_
    refine g_iadd hX dX7_isClosed_7 ?_
    refine m_ld_at hX (22 + d) (nI_add 22 d) (by omega) dX7_isClosed_8 (v := z 7 d) (at_d z hd) ?_
    refine g_iconst hX 1 dX7_isClosed_9 (by decide) ?_
    refine g_ic_ne hX 17 dX7_isClosed_10 (by decide) (fun c1 => ?_) (fun c1 => ?_)
    · -- jump 17
      refine g_iconst hX 0 dX7_isClosed_17 (by decide) ?_
      refine ret _ _ _ _ dX7_isClosed_18 ?_
      refine ⟨?_, rfl⟩
      first | rfl | (simp [bi, c1]; done) | grind [bi]
    · -- on 13
      refine g_iconst hX 1 dX7_isClosed_13 (by decide) ?_
      refine g_goto hX 18 dX7_isClosed_14 (by decide) ?_
      refine ret _ _ _ _ dX7_isClosed_18 ?_
      refine ⟨?_, rfl⟩
      first | rfl | (simp [bi, c1]; done) | grind [bi]
def rm_X7_isBarred : Room := { frames := 1, cells := 0, slots := 0, locals := 22 }
theorem k_X7_isBarred_X7_ofClimber : CW rm_X7_isBarred wsX7_isBarred RX7 RX7 39 yX7_ofClimber cX7_ofClimber 3 (some .int) wsX7_ofClimber rm_X7_ofClimber 2 := ⟨gX7_isBarred_X7_ofClimber, ⟨_, rfl⟩, rfl, rfl, ⟨rfl, by decide +kernel, by decide +kernel, by decide +kernel⟩, by decide, by decide⟩
set_option maxHeartbeats 4000000 in
set_option maxRecDepth 100000 in
theorem c_X7_isBarred (l : Launch) (G : MG) (z : St) {c : Nat} {d : Int32} (hc : c < 12) : CIm l G yX7_isBarred wsX7_isBarred rm_X7_isBarred [.ref (G.2.2 0), .int (nI c), .int d] z (fun ρ ζ => ρ = bi (d ≤ z 87 c) ∧ ζ = z) := by
  refine ci_of (own := RX7) (cc := cX7_isBarred) (maxL := 3) (ret := .boolean) (by decide +kernel) rfl rfl ?_ (Nat.le_of_ble_eq_true rfl) (KQ_mv (ExM_mv G)) ?_
  · rintro v z' ⟨rfl, -⟩; exact nz_bi _
  · intro X hX ret
    refine g_lv (lv' := [(0, .ref (G.2.2 0)), (1, .int (nI c)), (2, .int d)]) rfl ?_
    refine g_aload_n hX 0 dX7_isBarred_0 rfl ?_
    refine g_iload_n hX 1 dX7_isBarred_1 rfl ?_
    refine g_iconst hX 2 dX7_isBarred_2 (by decide) ?_
    refine g_cvE hX (As := [.int (nI c), .int 2]) (rest := []) (c_X7_ofClimber l G z (c := c) (w := 2) (hc := (by omega)) (hw := (by decide))) k_X7_isBarred_X7_ofClimber rc_Model rfl rfl (Nat.le_of_ble_eq_true rfl) dX7_isBarred_3 ?_
    refine g_top (z 87 c) rfl ?_
    refine g_iload_n hX 2 dX7_isBarred_6 rfl ?_
    refine g_ic_lt hX 14 dX7_isBarred_7 (by decide) (fun c1 => ?_) (fun c1 => ?_)
    · -- jump 14
      refine g_iconst hX 0 dX7_isBarred_14 (by decide) ?_
      refine ret _ _ _ _ dX7_isBarred_15 ?_
      refine ⟨?_, rfl⟩
      first | rfl | (simp [bi, c1]; done) | grind [bi]
    · -- on 10
      refine g_iconst hX 1 dX7_isBarred_10 (by decide) ?_
      refine g_goto hX 15 dX7_isBarred_11 (by decide) ?_
      refine ret _ _ _ _ dX7_isBarred_15 ?_
      refine ⟨?_, rfl⟩
      first | rfl | (simp [bi, c1]; done) | grind [bi]
def rm_X7_limitOf : Room := { frames := 0, cells := 0, slots := 0, locals := 0 }
theorem i_X7_limitOf_wsX70 : ∀ w ∈ wsX70, w ∈ wsX7_limitOf := fun w h => List.mem_cons_of_mem _ (List.mem_append_right _ h)
set_option maxHeartbeats 4000000 in
set_option maxRecDepth 100000 in
theorem c_X7_limitOf (l : Launch) (G : MG) (z : St) {r : Nat} (hr6 : r < 6) : CIm l G yX7_limitOf wsX7_limitOf rm_X7_limitOf [.ref (G.2.2 0), .int (nI r)] z (fun ρ ζ => ρ = z 5 r ∧ ζ = z) := by
  refine ci_of (own := RX7) (cc := cX7_limitOf) (maxL := 2) (ret := .int) (by decide +kernel) rfl rfl ?_ (Nat.le_of_ble_eq_true rfl) (KQ_mv (ExM_mv G)) ?_
  · intro v z' _; rfl
  · intro X hX ret
    refine g_lv (lv' := [(0, .ref (G.2.2 0)), (1, .int (nI r))]) rfl ?_
    refine g_aload_n hX 0 dX7_limitOf_0 rfl ?_
    refine m_g_0 hX i_X7_limitOf_wsX70 (List.mem_of_getElem? (i := 1) rfl) dX7_limitOf_1 ?_
    refine g_bipush hX 10 dX7_limitOf_4 (by decide) ?_
    refine g_iconst hX 2 dX7_limitOf_6 (by decide) ?_
    refine g_iload_n hX 1 dX7_limitOf_7 rfl ?_
    refine g_imul hX dX7_limitOf_8 ?_
    refine g_iadd hX dX7_limitOf_9 ?_
    refine m_ld_at hX (10 + 2 * r) (ix_r r) (by omega) dX7_limitOf_10 (v := z 5 r) (at_r z hr6) ?_
    refine ret _ _ _ _ dX7_limitOf_11 ?_
    exact ⟨rfl, rfl⟩
def rm_X7_bufferOf : Room := { frames := 0, cells := 0, slots := 0, locals := 0 }
theorem i_X7_bufferOf_wsX70 : ∀ w ∈ wsX70, w ∈ wsX7_bufferOf := fun w h => List.mem_cons_of_mem _ (List.mem_append_right _ h)
set_option maxHeartbeats 4000000 in
set_option maxRecDepth 100000 in
theorem c_X7_bufferOf (l : Launch) (G : MG) (z : St) {r : Nat} (hr6 : r < 6) : CIm l G yX7_bufferOf wsX7_bufferOf rm_X7_bufferOf [.ref (G.2.2 0), .int (nI r)] z (fun ρ ζ => ρ = z 6 r ∧ ζ = z) := by
  refine ci_of (own := RX7) (cc := cX7_bufferOf) (maxL := 2) (ret := .int) (by decide +kernel) rfl rfl ?_ (Nat.le_of_ble_eq_true rfl) (KQ_mv (ExM_mv G)) ?_
  · intro v z' _; rfl
  · intro X hX ret
    refine g_lv (lv' := [(0, .ref (G.2.2 0)), (1, .int (nI r))]) rfl ?_
    refine g_aload_n hX 0 dX7_bufferOf_0 rfl ?_
    refine m_g_0 hX i_X7_bufferOf_wsX70 (List.mem_of_getElem? (i := 1) rfl) dX7_bufferOf_1 ?_
    refine g_bipush hX 10 dX7_bufferOf_4 (by decide) ?_
    refine g_iconst hX 2 dX7_bufferOf_6 (by decide) ?_
    refine g_iload_n hX 1 dX7_bufferOf_7 rfl ?_
    refine g_imul hX dX7_bufferOf_8 ?_
    refine g_iadd hX dX7_bufferOf_9 ?_
    refine g_iconst hX 1 dX7_bufferOf_10 (by decide) ?_
    refine g_iadd hX dX7_bufferOf_11 ?_
    refine m_ld_at hX (11 + 2 * r) (ix_b r) (by omega) dX7_bufferOf_12 (v := z 6 r) (at_b z hr6) ?_
    refine ret _ _ _ _ dX7_bufferOf_13 ?_
    exact ⟨rfl, rfl⟩
def rm_X7_isOn : Room := { frames := 1, cells := 0, slots := 0, locals := 22 }
theorem k_X7_isOn_X7_of : CW rm_X7_isOn wsX7_isOn RX7 RX7 66 yX7_of cX7_of 3 (some .int) wsX7_of rm_X7_of 2 := ⟨gX7_isOn_X7_of, ⟨_, rfl⟩, rfl, rfl, ⟨rfl, by decide +kernel, by decide +kernel, by decide +kernel⟩, by decide, by decide⟩
set_option maxHeartbeats 4000000 in
set_option maxRecDepth 100000 in
theorem c_X7_isOn (l : Launch) (G : MG) (z : St) {a : Nat} {r : Int32} {d : Int32} (ha : a < 40) : CIm l G yX7_isOn wsX7_isOn rm_X7_isOn [.ref (G.2.2 0), .int (nI a), .int r, .int d] z (fun ρ ζ => ρ = bi (onP z a r d) ∧ ζ = z) := by
  refine ci_of (own := RX7) (cc := cX7_isOn) (maxL := 4) (ret := .boolean) (by decide +kernel) rfl rfl ?_ (Nat.le_of_ble_eq_true rfl) (KQ_mv (ExM_mv G)) ?_
  · rintro v z' ⟨rfl, -⟩; exact nz_bi _
  · intro X hX ret
    refine g_lv (lv' := [(0, .ref (G.2.2 0)), (1, .int (nI a)), (2, .int r), (3, .int d)]) rfl ?_
    refine g_aload_n hX 0 dX7_isOn_0 rfl ?_
    refine g_iload_n hX 1 dX7_isOn_1 rfl ?_
    refine g_iconst hX 1 dX7_isOn_2 (by decide) ?_
    refine g_cvE hX (As := [.int (nI a), .int 1]) (rest := []) (c_X7_of l G z (a := a) (w := 1) (ha := (by omega)) (hw := (by decide))) k_X7_isOn_X7_of rc_Model rfl rfl (Nat.le_of_ble_eq_true rfl) dX7_isOn_3 ?_
    refine g_top (z 12 a) rfl ?_
    refine g_iload_n hX 2 dX7_isOn_6 rfl ?_
    refine g_ic_ne hX 24 dX7_isOn_7 (by decide) (fun c1 => ?_) (fun c1 => ?_)
    · -- jump 24
      refine g_iconst hX 0 dX7_isOn_24 (by decide) ?_
      refine ret _ _ _ _ dX7_isOn_25 ?_
      refine ⟨?_, rfl⟩
      first | rfl | (simp [bi, c1]; done) | grind [bi]
    · -- on 10
      refine g_aload_n hX 0 dX7_isOn_10 rfl ?_
      refine g_iload_n hX 1 dX7_isOn_11 rfl ?_
      refine g_iconst hX 2 dX7_isOn_12 (by decide) ?_
      refine g_cvE hX (As := [.int (nI a), .int 2]) (rest := []) (c_X7_of l G z (a := a) (w := 2) (ha := (by omega)) (hw := (by decide))) k_X7_isOn_X7_of rc_Model rfl rfl (Nat.le_of_ble_eq_true rfl) dX7_isOn_13 ?_
      refine g_top (z 13 a) rfl ?_
      refine g_iload_n hX 3 dX7_isOn_16 rfl ?_
      refine g_ic_ne hX 24 dX7_isOn_17 (by decide) (fun c2 => ?_) (fun c2 => ?_)
      · -- jump 24
        refine g_iconst hX 0 dX7_isOn_24 (by decide) ?_
        refine ret _ _ _ _ dX7_isOn_25 ?_
        refine ⟨?_, rfl⟩
        first | rfl | (simp [bi, c1, c2]; done) | grind [bi]
      · -- on 20
        refine g_iconst hX 1 dX7_isOn_20 (by decide) ?_
        refine g_goto hX 25 dX7_isOn_21 (by decide) ?_
        refine ret _ _ _ _ dX7_isOn_25 ?_
        refine ⟨?_, rfl⟩
        first | rfl | (simp [bi, c1, c2]; done) | grind [bi]
def rm_X7_taken : Room := { frames := 2, cells := 0, slots := 0, locals := 45 }
theorem i_X7_taken_wsX70 : ∀ w ∈ wsX70, w ∈ wsX7_taken := fun w h => List.mem_cons_of_mem _ (List.mem_append_right _ h)
theorem k_X7_taken_X7_isOn : CW rm_X7_taken wsX7_taken RX7 RX7 69 yX7_isOn cX7_isOn 4 (some .boolean) wsX7_isOn rm_X7_isOn 3 := ⟨gX7_taken_X7_isOn, ⟨_, rfl⟩, rfl, rfl, ⟨rfl, by decide +kernel, by decide +kernel, by decide +kernel⟩, by decide, by decide⟩
theorem k_X7_taken_X7_of : CW rm_X7_taken wsX7_taken RX7 RX7 66 yX7_of cX7_of 3 (some .int) wsX7_of rm_X7_of 2 := ⟨gX7_taken_X7_of, ⟨_, rfl⟩, rfl, rfl, ⟨rfl, by decide +kernel, by decide +kernel, by decide +kernel⟩, by decide, by decide⟩
set_option maxHeartbeats 4000000 in
set_option maxRecDepth 100000 in
theorem c_X7_taken (l : Launch) (G : MG) (z : St) {r : Int32} {d : Int32} (hI : IO z) : CIm l G yX7_taken wsX7_taken rm_X7_taken [.ref (G.2.2 0), .int r, .int d] z (fun ρ ζ => ρ = taken z r d ∧ ζ = z) := by
  refine ci_of (own := RX7) (cc := cX7_taken) (maxL := 7) (ret := .int) (by decide +kernel) rfl rfl ?_ (Nat.le_of_ble_eq_true rfl) (KQ_mv (ExM_mv G)) ?_
  · intro v z' _; rfl
  · intro X hX ret
    refine g_lv (lv' := [(0, .ref (G.2.2 0)), (1, .int r), (2, .int d)]) rfl ?_
    obtain ⟨e3, h40⟩ := iNa hI
    refine g_iconst hX 0 dX7_taken_0 (by decide) ?_
    refine g_istore_n hX [(3, .int 0), (0, .ref (G.2.2 0)), (1, .int r), (2, .int d)] dX7_taken_1 (by decide) rfl ?_
    refine g_iconst hX 0 dX7_taken_2 (by decide) ?_
    refine g_istore hX [(4, .int 0), (3, .int 0), (0, .ref (G.2.2 0)), (1, .int r), (2, .int d)] dX7_taken_3 (by decide) rfl ?_
    have loop5 : ∀ (nf : Nat) (k : Nat), (nA z < k + nf) → (k ≤ nA z) → Go X (z) 5 [(0, .ref (G.2.2 0)), (1, .int r), (2, .int d), (3, .int (sm (fun a => if takesP z a ∧ onP z a r d then z 14 a else 0) k)), (4, .int (nI k))] [] := by
      intro nf
      induction nf with
      | zero =>
        intro k hmu hk
        exfalso; omega
      | succ nf ih =>
        intro k hmu hk
        refine g_iload hX 4 dX7_taken_5 rfl ?_
        refine g_aload_n hX 0 dX7_taken_7 rfl ?_
        refine m_g_0 hX i_X7_taken_wsX70 (List.mem_of_getElem? (i := 1) rfl) dX7_taken_8 ?_
        refine g_iconst hX 3 dX7_taken_11 (by decide) ?_
        refine m_ld_at hX 3 rfl (by decide) dX7_taken_12 (v := z 3 0) rfl ?_
        refine g_ic_ge hX 87 dX7_taken_13 (by decide) (fun c1 => ?_) (fun c1 => ?_)
        · -- jump 87
          have hke : k = nA z := by
            rw [e3] at c1; have := (nI_leI (by omega) (by omega)).mp c1; omega
          refine g_iload_n hX 3 dX7_taken_87 rfl ?_
          refine ret _ _ _ _ dX7_taken_88 ?_
          exact ⟨by rw [hke]; rfl, rfl⟩
        · -- on 16
          have hkn : k < nA z := by
            rw [e3] at c1; exact Nat.lt_of_not_le (fun q => c1 (nI_le q (by omega)))
          refine g_aload_n hX 0 dX7_taken_16 rfl ?_
          refine g_iload hX 4 dX7_taken_17 rfl ?_
          refine g_iconst hX 4 dX7_taken_19 (by decide) ?_
          refine g_cvE hX (As := [.int (nI k), .int 4]) (rest := []) (c_X7_of l G z (a := k) (w := 4) (ha := (by omega)) (hw := (by decide))) k_X7_taken_X7_of rc_Model rfl rfl (Nat.le_of_ble_eq_true rfl) dX7_taken_20 ?_
          refine g_top (z 15 k) rfl ?_
          refine g_istore hX [(5, .int (z 15 k)), (0, .ref (G.2.2 0)), (1, .int r), (2, .int d), (3, .int (sm (fun a => if takesP z a ∧ onP z a r d then z 14 a else 0) k)), (4, .int (nI k))] dX7_taken_23 (by decide) rfl ?_
          refine g_iload hX 0 dX7_taken_25 rfl ?_
          refine g_iconst hX 1 dX7_taken_27 (by decide) ?_
          refine g_ic_eq hX 44 dX7_taken_28 (by decide) (fun c2 => ?_) (fun c2 => ?_)
          · -- jump 44
            refine g_iconst hX 1 dX7_taken_44 (by decide) ?_
            refine g_goto hX 49 dX7_taken_45 (by decide) ?_
            refine g_istore hX [(6, .int 1), (5, .int (z 15 k)), (0, .ref (G.2.2 0)), (1, .int r), (2, .int d), (3, .int (sm (fun a => if takesP z a ∧ onP z a r d then z 14 a else 0) k)), (4, .int (nI k))] dX7_taken_49 (by decide) rfl ?_
            refine g_iload_n hX 5 dX7_taken_51 rfl ?_
            refine g_iload hX 0 dX7_taken_52 rfl ?_
            refine g_if_eq hX 78 dX7_taken_54 (by decide) (fun c3 => ?_) (fun c3 => ?_)
            · -- jump 78
              exact absurd c3 (by decide)
            · -- on 57
              refine g_aload_n hX 2 dX7_taken_57 rfl ?_
              refine g_iload hX 6 dX7_taken_58 rfl ?_
              refine g_iload_n hX 3 dX7_taken_60 rfl ?_
              refine g_iload_n hX 4 dX7_taken_61 rfl ?_
              refine g_cvE hX (As := [.int (nI k), .int r, .int d]) (rest := [.int (sm (fun a => if takesP z a ∧ onP z a r d then z 14 a else 0) k)]) (c_X7_isOn l G z (a := k) (r := r) (d := d) (ha := (by omega))) k_X7_taken_X7_isOn rc_Model rfl rfl (Nat.le_of_ble_eq_true rfl) dX7_taken_62 ?_
              refine g_bi_eq hX 78 dX7_taken_65 (by decide) (fun c4 => ?_) (fun c4 => ?_)
              · -- jump 78
                refine g_iconst hX 0 dX7_taken_78 (by decide) ?_
                refine g_iadd hX dX7_taken_79 ?_
                refine g_istore_n hX [(3, .int ((sm (fun a => if takesP z a ∧ onP z a r d then z 14 a else 0) k) + 0)), (6, .int 1), (5, .int (z 15 k)), (0, .ref (G.2.2 0)), (1, .int r), (2, .int d), (4, .int (nI k))] dX7_taken_80 (by decide) rfl ?_
                refine g_iinc hX (nI (k + 1)) 6 [(4, .int (nI (k + 1))), (3, .int ((sm (fun a => if takesP z a ∧ onP z a r d then z 14 a else 0) k) + 0)), (6, .int 1), (5, .int (z 15 k)), (0, .ref (G.2.2 0)), (1, .int r), (2, .int d)] dX7_taken_81 rfl (nI_1 k) (by decide) rfl ?_
                refine g_goto hX 5 dX7_taken_84 (by decide) ?_
                -- back to 5
                refine g_sub [4, 5, 6, 1, 0] [(0, .ref (G.2.2 0)), (1, .int r), (2, .int d), (3, .int ((sm (fun a => if takesP z a ∧ onP z a r d then z 14 a else 0) k) + 0)), (4, .int (nI (k + 1)))] rfl ?_
                have e3 : ((sm (fun a => if takesP z a ∧ onP z a r d then z 14 a else 0) k) + 0 : Int32) = sm (fun a => if takesP z a ∧ onP z a r d then z 14 a else 0) (k + 1) := by
                  exact (by rw [Int32.add_zero]; exact sm_f (by grind))
                refine g_lv (lv' := [(0, .ref (G.2.2 0)), (1, .int r), (2, .int d), (3, .int (sm (fun a => if takesP z a ∧ onP z a r d then z 14 a else 0) (k + 1))), (4, .int (nI (k + 1)))]) (by rw [e3]) ?_
                exact ih (k + 1) (by omega) (by omega)
              · -- on 68
                refine g_aload_n hX 2 dX7_taken_68 rfl ?_
                refine g_iload hX 6 dX7_taken_69 rfl ?_
                refine g_iconst hX 3 dX7_taken_71 (by decide) ?_
                refine g_cvE hX (As := [.int (nI k), .int 3]) (rest := [.int (sm (fun a => if takesP z a ∧ onP z a r d then z 14 a else 0) k)]) (c_X7_of l G z (a := k) (w := 3) (ha := (by omega)) (hw := (by decide))) k_X7_taken_X7_of rc_Model rfl rfl (Nat.le_of_ble_eq_true rfl) dX7_taken_72 ?_
                refine g_top (z 14 k) rfl ?_
                refine g_goto hX 79 dX7_taken_75 (by decide) ?_
                refine g_iadd hX dX7_taken_79 ?_
                refine g_istore_n hX [(3, .int ((sm (fun a => if takesP z a ∧ onP z a r d then z 14 a else 0) k) + (z 14 k))), (6, .int 1), (5, .int (z 15 k)), (0, .ref (G.2.2 0)), (1, .int r), (2, .int d), (4, .int (nI k))] dX7_taken_80 (by decide) rfl ?_
                refine g_iinc hX (nI (k + 1)) 6 [(4, .int (nI (k + 1))), (3, .int ((sm (fun a => if takesP z a ∧ onP z a r d then z 14 a else 0) k) + (z 14 k))), (6, .int 1), (5, .int (z 15 k)), (0, .ref (G.2.2 0)), (1, .int r), (2, .int d)] dX7_taken_81 rfl (nI_1 k) (by decide) rfl ?_
                refine g_goto hX 5 dX7_taken_84 (by decide) ?_
                -- back to 5
                refine g_sub [4, 5, 6, 1, 0] [(0, .ref (G.2.2 0)), (1, .int r), (2, .int d), (3, .int ((sm (fun a => if takesP z a ∧ onP z a r d then z 14 a else 0) k) + (z 14 k))), (4, .int (nI (k + 1)))] rfl ?_
                have e3 : ((sm (fun a => if takesP z a ∧ onP z a r d then z 14 a else 0) k) + (z 14 k) : Int32) = sm (fun a => if takesP z a ∧ onP z a r d then z 14 a else 0) (k + 1) := by
                  exact sm_t (by grind)
                refine g_lv (lv' := [(0, .ref (G.2.2 0)), (1, .int r), (2, .int d), (3, .int (sm (fun a => if takesP z a ∧ onP z a r d then z 14 a else 0) (k + 1))), (4, .int (nI (k + 1)))]) (by rw [e3]) ?_
                exact ih (k + 1) (by omega) (by omega)
          · -- on 31
            refine g_iload hX 0 dX7_taken_31 rfl ?_
            refine g_iconst hX 5 dX7_taken_33 (by decide) ?_
            refine g_ic_eq hX 44 dX7_taken_34 (by decide) (fun c5 => ?_) (fun c5 => ?_)
            · -- jump 44
              refine g_iconst hX 1 dX7_taken_44 (by decide) ?_
              refine g_goto hX 49 dX7_taken_45 (by decide) ?_
              refine g_istore hX [(6, .int 1), (5, .int (z 15 k)), (0, .ref (G.2.2 0)), (1, .int r), (2, .int d), (3, .int (sm (fun a => if takesP z a ∧ onP z a r d then z 14 a else 0) k)), (4, .int (nI k))] dX7_taken_49 (by decide) rfl ?_
              refine g_iload_n hX 5 dX7_taken_51 rfl ?_
              refine g_iload hX 0 dX7_taken_52 rfl ?_
              refine g_if_eq hX 78 dX7_taken_54 (by decide) (fun c6 => ?_) (fun c6 => ?_)
              · -- jump 78
                exact absurd c6 (by decide)
              · -- on 57
                refine g_aload_n hX 2 dX7_taken_57 rfl ?_
                refine g_iload hX 6 dX7_taken_58 rfl ?_
                refine g_iload_n hX 3 dX7_taken_60 rfl ?_
                refine g_iload_n hX 4 dX7_taken_61 rfl ?_
                refine g_cvE hX (As := [.int (nI k), .int r, .int d]) (rest := [.int (sm (fun a => if takesP z a ∧ onP z a r d then z 14 a else 0) k)]) (c_X7_isOn l G z (a := k) (r := r) (d := d) (ha := (by omega))) k_X7_taken_X7_isOn rc_Model rfl rfl (Nat.le_of_ble_eq_true rfl) dX7_taken_62 ?_
                refine g_bi_eq hX 78 dX7_taken_65 (by decide) (fun c7 => ?_) (fun c7 => ?_)
                · -- jump 78
                  refine g_iconst hX 0 dX7_taken_78 (by decide) ?_
                  refine g_iadd hX dX7_taken_79 ?_
                  refine g_istore_n hX [(3, .int ((sm (fun a => if takesP z a ∧ onP z a r d then z 14 a else 0) k) + 0)), (6, .int 1), (5, .int (z 15 k)), (0, .ref (G.2.2 0)), (1, .int r), (2, .int d), (4, .int (nI k))] dX7_taken_80 (by decide) rfl ?_
                  refine g_iinc hX (nI (k + 1)) 6 [(4, .int (nI (k + 1))), (3, .int ((sm (fun a => if takesP z a ∧ onP z a r d then z 14 a else 0) k) + 0)), (6, .int 1), (5, .int (z 15 k)), (0, .ref (G.2.2 0)), (1, .int r), (2, .int d)] dX7_taken_81 rfl (nI_1 k) (by decide) rfl ?_
                  refine g_goto hX 5 dX7_taken_84 (by decide) ?_
                  -- back to 5
                  refine g_sub [4, 5, 6, 1, 0] [(0, .ref (G.2.2 0)), (1, .int r), (2, .int d), (3, .int ((sm (fun a => if takesP z a ∧ onP z a r d then z 14 a else 0) k) + 0)), (4, .int (nI (k + 1)))] rfl ?_
                  have e3 : ((sm (fun a => if takesP z a ∧ onP z a r d then z 14 a else 0) k) + 0 : Int32) = sm (fun a => if takesP z a ∧ onP z a r d then z 14 a else 0) (k + 1) := by
                    exact (by rw [Int32.add_zero]; exact sm_f (by grind))
                  refine g_lv (lv' := [(0, .ref (G.2.2 0)), (1, .int r), (2, .int d), (3, .int (sm (fun a => if takesP z a ∧ onP z a r d then z 14 a else 0) (k + 1))), (4, .int (nI (k + 1)))]) (by rw [e3]) ?_
                  exact ih (k + 1) (by omega) (by omega)
                · -- on 68
                  refine g_aload_n hX 2 dX7_taken_68 rfl ?_
                  refine g_iload hX 6 dX7_taken_69 rfl ?_
                  refine g_iconst hX 3 dX7_taken_71 (by decide) ?_
                  refine g_cvE hX (As := [.int (nI k), .int 3]) (rest := [.int (sm (fun a => if takesP z a ∧ onP z a r d then z 14 a else 0) k)]) (c_X7_of l G z (a := k) (w := 3) (ha := (by omega)) (hw := (by decide))) k_X7_taken_X7_of rc_Model rfl rfl (Nat.le_of_ble_eq_true rfl) dX7_taken_72 ?_
                  refine g_top (z 14 k) rfl ?_
                  refine g_goto hX 79 dX7_taken_75 (by decide) ?_
                  refine g_iadd hX dX7_taken_79 ?_
                  refine g_istore_n hX [(3, .int ((sm (fun a => if takesP z a ∧ onP z a r d then z 14 a else 0) k) + (z 14 k))), (6, .int 1), (5, .int (z 15 k)), (0, .ref (G.2.2 0)), (1, .int r), (2, .int d), (4, .int (nI k))] dX7_taken_80 (by decide) rfl ?_
                  refine g_iinc hX (nI (k + 1)) 6 [(4, .int (nI (k + 1))), (3, .int ((sm (fun a => if takesP z a ∧ onP z a r d then z 14 a else 0) k) + (z 14 k))), (6, .int 1), (5, .int (z 15 k)), (0, .ref (G.2.2 0)), (1, .int r), (2, .int d)] dX7_taken_81 rfl (nI_1 k) (by decide) rfl ?_
                  refine g_goto hX 5 dX7_taken_84 (by decide) ?_
                  -- back to 5
                  refine g_sub [4, 5, 6, 1, 0] [(0, .ref (G.2.2 0)), (1, .int r), (2, .int d), (3, .int ((sm (fun a => if takesP z a ∧ onP z a r d then z 14 a else 0) k) + (z 14 k))), (4, .int (nI (k + 1)))] rfl ?_
                  have e3 : ((sm (fun a => if takesP z a ∧ onP z a r d then z 14 a else 0) k) + (z 14 k) : Int32) = sm (fun a => if takesP z a ∧ onP z a r d then z 14 a else 0) (k + 1) := by
                    exact sm_t (by grind)
                  refine g_lv (lv' := [(0, .ref (G.2.2 0)), (1, .int r), (2, .int d), (3, .int (sm (fun a => if takesP z a ∧ onP z a r d then z 14 a else 0) (k + 1))), (4, .int (nI (k + 1)))]) (by rw [e3]) ?_
                  exact ih (k + 1) (by omega) (by omega)
            · -- on 37
              refine g_iload hX 0 dX7_taken_37 rfl ?_
              refine g_bipush hX 6 dX7_taken_39 (by decide) ?_
              refine g_ic_ne hX 48 dX7_taken_41 (by decide) (fun c8 => ?_) (fun c8 => ?_)
              · -- jump 48
                refine g_iconst hX 0 dX7_taken_48 (by decide) ?_
                refine g_istore hX [(6, .int 0), (5, .int (z 15 k)), (0, .ref (G.2.2 0)), (1, .int r), (2, .int d), (3, .int (sm (fun a => if takesP z a ∧ onP z a r d then z 14 a else 0) k)), (4, .int (nI k))] dX7_taken_49 (by decide) rfl ?_
                refine g_iload_n hX 5 dX7_taken_51 rfl ?_
                refine g_iload hX 0 dX7_taken_52 rfl ?_
                refine g_if_eq hX 78 dX7_taken_54 (by decide) (fun c9 => ?_) (fun c9 => ?_)
                · -- jump 78
                  refine g_iconst hX 0 dX7_taken_78 (by decide) ?_
                  refine g_iadd hX dX7_taken_79 ?_
                  refine g_istore_n hX [(3, .int ((sm (fun a => if takesP z a ∧ onP z a r d then z 14 a else 0) k) + 0)), (6, .int 0), (5, .int (z 15 k)), (0, .ref (G.2.2 0)), (1, .int r), (2, .int d), (4, .int (nI k))] dX7_taken_80 (by decide) rfl ?_
                  refine g_iinc hX (nI (k + 1)) 6 [(4, .int (nI (k + 1))), (3, .int ((sm (fun a => if takesP z a ∧ onP z a r d then z 14 a else 0) k) + 0)), (6, .int 0), (5, .int (z 15 k)), (0, .ref (G.2.2 0)), (1, .int r), (2, .int d)] dX7_taken_81 rfl (nI_1 k) (by decide) rfl ?_
                  refine g_goto hX 5 dX7_taken_84 (by decide) ?_
                  -- back to 5
                  refine g_sub [4, 5, 6, 1, 0] [(0, .ref (G.2.2 0)), (1, .int r), (2, .int d), (3, .int ((sm (fun a => if takesP z a ∧ onP z a r d then z 14 a else 0) k) + 0)), (4, .int (nI (k + 1)))] rfl ?_
                  have e3 : ((sm (fun a => if takesP z a ∧ onP z a r d then z 14 a else 0) k) + 0 : Int32) = sm (fun a => if takesP z a ∧ onP z a r d then z 14 a else 0) (k + 1) := by
                    exact (by rw [Int32.add_zero]; exact sm_f (by grind))
                  refine g_lv (lv' := [(0, .ref (G.2.2 0)), (1, .int r), (2, .int d), (3, .int (sm (fun a => if takesP z a ∧ onP z a r d then z 14 a else 0) (k + 1))), (4, .int (nI (k + 1)))]) (by rw [e3]) ?_
                  exact ih (k + 1) (by omega) (by omega)
                · -- on 57
                  exact absurd c9 (by decide)
              · -- on 44
                refine g_iconst hX 1 dX7_taken_44 (by decide) ?_
                refine g_goto hX 49 dX7_taken_45 (by decide) ?_
                refine g_istore hX [(6, .int 1), (5, .int (z 15 k)), (0, .ref (G.2.2 0)), (1, .int r), (2, .int d), (3, .int (sm (fun a => if takesP z a ∧ onP z a r d then z 14 a else 0) k)), (4, .int (nI k))] dX7_taken_49 (by decide) rfl ?_
                refine g_iload_n hX 5 dX7_taken_51 rfl ?_
                refine g_iload hX 0 dX7_taken_52 rfl ?_
                refine g_if_eq hX 78 dX7_taken_54 (by decide) (fun c10 => ?_) (fun c10 => ?_)
                · -- jump 78
                  exact absurd c10 (by decide)
                · -- on 57
                  refine g_aload_n hX 2 dX7_taken_57 rfl ?_
                  refine g_iload hX 6 dX7_taken_58 rfl ?_
                  refine g_iload_n hX 3 dX7_taken_60 rfl ?_
                  refine g_iload_n hX 4 dX7_taken_61 rfl ?_
                  refine g_cvE hX (As := [.int (nI k), .int r, .int d]) (rest := [.int (sm (fun a => if takesP z a ∧ onP z a r d then z 14 a else 0) k)]) (c_X7_isOn l G z (a := k) (r := r) (d := d) (ha := (by omega))) k_X7_taken_X7_isOn rc_Model rfl rfl (Nat.le_of_ble_eq_true rfl) dX7_taken_62 ?_
                  refine g_bi_eq hX 78 dX7_taken_65 (by decide) (fun c11 => ?_) (fun c11 => ?_)
                  · -- jump 78
                    refine g_iconst hX 0 dX7_taken_78 (by decide) ?_
                    refine g_iadd hX dX7_taken_79 ?_
                    refine g_istore_n hX [(3, .int ((sm (fun a => if takesP z a ∧ onP z a r d then z 14 a else 0) k) + 0)), (6, .int 1), (5, .int (z 15 k)), (0, .ref (G.2.2 0)), (1, .int r), (2, .int d), (4, .int (nI k))] dX7_taken_80 (by decide) rfl ?_
                    refine g_iinc hX (nI (k + 1)) 6 [(4, .int (nI (k + 1))), (3, .int ((sm (fun a => if takesP z a ∧ onP z a r d then z 14 a else 0) k) + 0)), (6, .int 1), (5, .int (z 15 k)), (0, .ref (G.2.2 0)), (1, .int r), (2, .int d)] dX7_taken_81 rfl (nI_1 k) (by decide) rfl ?_
                    refine g_goto hX 5 dX7_taken_84 (by decide) ?_
                    -- back to 5
                    refine g_sub [4, 5, 6, 1, 0] [(0, .ref (G.2.2 0)), (1, .int r), (2, .int d), (3, .int ((sm (fun a => if takesP z a ∧ onP z a r d then z 14 a else 0) k) + 0)), (4, .int (nI (k + 1)))] rfl ?_
                    have e3 : ((sm (fun a => if takesP z a ∧ onP z a r d then z 14 a else 0) k) + 0 : Int32) = sm (fun a => if takesP z a ∧ onP z a r d then z 14 a else 0) (k + 1) := by
                      exact (by rw [Int32.add_zero]; exact sm_f (by grind))
                    refine g_lv (lv' := [(0, .ref (G.2.2 0)), (1, .int r), (2, .int d), (3, .int (sm (fun a => if takesP z a ∧ onP z a r d then z 14 a else 0) (k + 1))), (4, .int (nI (k + 1)))]) (by rw [e3]) ?_
                    exact ih (k + 1) (by omega) (by omega)
                  · -- on 68
                    refine g_aload_n hX 2 dX7_taken_68 rfl ?_
                    refine g_iload hX 6 dX7_taken_69 rfl ?_
                    refine g_iconst hX 3 dX7_taken_71 (by decide) ?_
                    refine g_cvE hX (As := [.int (nI k), .int 3]) (rest := [.int (sm (fun a => if takesP z a ∧ onP z a r d then z 14 a else 0) k)]) (c_X7_of l G z (a := k) (w := 3) (ha := (by omega)) (hw := (by decide))) k_X7_taken_X7_of rc_Model rfl rfl (Nat.le_of_ble_eq_true rfl) dX7_taken_72 ?_
                    refine g_top (z 14 k) rfl ?_
                    refine g_goto hX 79 dX7_taken_75 (by decide) ?_
                    refine g_iadd hX dX7_taken_79 ?_
                    refine g_istore_n hX [(3, .int ((sm (fun a => if takesP z a ∧ onP z a r d then z 14 a else 0) k) + (z 14 k))), (6, .int 1), (5, .int (z 15 k)), (0, .ref (G.2.2 0)), (1, .int r), (2, .int d), (4, .int (nI k))] dX7_taken_80 (by decide) rfl ?_
                    refine g_iinc hX (nI (k + 1)) 6 [(4, .int (nI (k + 1))), (3, .int ((sm (fun a => if takesP z a ∧ onP z a r d then z 14 a else 0) k) + (z 14 k))), (6, .int 1), (5, .int (z 15 k)), (0, .ref (G.2.2 0)), (1, .int r), (2, .int d)] dX7_taken_81 rfl (nI_1 k) (by decide) rfl ?_
                    refine g_goto hX 5 dX7_taken_84 (by decide) ?_
                    -- back to 5
                    refine g_sub [4, 5, 6, 1, 0] [(0, .ref (G.2.2 0)), (1, .int r), (2, .int d), (3, .int ((sm (fun a => if takesP z a ∧ onP z a r d then z 14 a else 0) k) + (z 14 k))), (4, .int (nI (k + 1)))] rfl ?_
                    have e3 : ((sm (fun a => if takesP z a ∧ onP z a r d then z 14 a else 0) k) + (z 14 k) : Int32) = sm (fun a => if takesP z a ∧ onP z a r d then z 14 a else 0) (k + 1) := by
                      exact sm_t (by grind)
                    refine g_lv (lv' := [(0, .ref (G.2.2 0)), (1, .int r), (2, .int d), (3, .int (sm (fun a => if takesP z a ∧ onP z a r d then z 14 a else 0) (k + 1))), (4, .int (nI (k + 1)))]) (by rw [e3]) ?_
                    exact ih (k + 1) (by omega) (by omega)
    refine g_sub [2, 3, 4, 1, 0] [(0, .ref (G.2.2 0)), (1, .int r), (2, .int d), (3, .int 0), (4, .int 0)] rfl ?_
    exact loop5 (nA z + 1) 0 (by omega) (Nat.zero_le _)
def rm_X7_left : Room := { frames := 3, cells := 0, slots := 0, locals := 71 }
theorem k_X7_left_X7_bufferOf : CW rm_X7_left wsX7_left RX7 RX7 51 yX7_bufferOf cX7_bufferOf 2 (some .int) wsX7_bufferOf rm_X7_bufferOf 1 := ⟨gX7_left_X7_bufferOf, ⟨_, rfl⟩, rfl, rfl, ⟨rfl, by decide +kernel, by decide +kernel, by decide +kernel⟩, by decide, by decide⟩
theorem k_X7_left_X7_limitOf : CW rm_X7_left wsX7_left RX7 RX7 47 yX7_limitOf cX7_limitOf 2 (some .int) wsX7_limitOf rm_X7_limitOf 1 := ⟨gX7_left_X7_limitOf, ⟨_, rfl⟩, rfl, rfl, ⟨rfl, by decide +kernel, by decide +kernel, by decide +kernel⟩, by decide, by decide⟩
theorem k_X7_left_X7_taken : CW rm_X7_left wsX7_left RX7 RX7 72 yX7_taken cX7_taken 7 (some .int) wsX7_taken rm_X7_taken 2 := ⟨gX7_left_X7_taken, ⟨_, rfl⟩, rfl, rfl, ⟨rfl, by decide +kernel, by decide +kernel, by decide +kernel⟩, by decide, by decide⟩
set_option maxHeartbeats 4000000 in
set_option maxRecDepth 100000 in
theorem c_X7_left (l : Launch) (G : MG) (z : St) {q : Nat} {d : Int32} (hq : q < 6) (hI : IO z) : CIm l G yX7_left wsX7_left rm_X7_left [.ref (G.2.2 0), .int (nI q), .int d] z (fun ρ ζ => ρ = leftP z (nI q) d ∧ ζ = z) := by
  refine ci_of (own := RX7) (cc := cX7_left) (maxL := 3) (ret := .int) (by decide +kernel) rfl rfl ?_ (Nat.le_of_ble_eq_true rfl) (KQ_mv (ExM_mv G)) ?_
  · intro v z' _; rfl
  · intro X hX ret
    refine g_lv (lv' := [(0, .ref (G.2.2 0)), (1, .int (nI q)), (2, .int d)]) rfl ?_
    refine g_aload_n hX 0 dX7_left_0 rfl ?_
    refine g_iload_n hX 1 dX7_left_1 rfl ?_
    refine g_cvE hX (As := [.int (nI q)]) (rest := []) (c_X7_limitOf l G z (r := q) (hr6 := (by omega))) k_X7_left_X7_limitOf rc_Model rfl rfl (Nat.le_of_ble_eq_true rfl) dX7_left_2 ?_
    refine g_aload_n hX 0 dX7_left_5 rfl ?_
    refine g_iload_n hX 1 dX7_left_6 rfl ?_
    refine g_cvE hX (As := [.int (nI q)]) (rest := [.int (z 5 q)]) (c_X7_bufferOf l G z (r := q) (hr6 := (by omega))) k_X7_left_X7_bufferOf rc_Model rfl rfl (Nat.le_of_ble_eq_true rfl) dX7_left_7 ?_
    refine g_isub hX dX7_left_10 ?_
    refine g_aload_n hX 0 dX7_left_11 rfl ?_
    refine g_iload_n hX 1 dX7_left_12 rfl ?_
    refine g_iload_n hX 2 dX7_left_13 rfl ?_
    refine g_cvE hX (As := [.int (nI q), .int d]) (rest := [.int ((z 5 q) - (z 6 q))]) (c_X7_taken l G z (r := (nI q)) (d := d) (hI := (by assumption))) k_X7_left_X7_taken rc_Model rfl rfl (Nat.le_of_ble_eq_true rfl) dX7_left_14 ?_
    refine g_isub hX dX7_left_17 ?_
    refine ret _ _ _ _ dX7_left_18 ?_
    refine ⟨?_, rfl⟩
    rw [leftP, freeP, cn_nI (by omega)]; grind
def rm_X7_inState : Room := { frames := 2, cells := 0, slots := 0, locals := 45 }
theorem i_X7_inState_wsX70 : ∀ w ∈ wsX70, w ∈ wsX7_inState := fun w h => List.mem_cons_of_mem _ (List.mem_append_right _ h)
theorem k_X7_inState_X7_isOn : CW rm_X7_inState wsX7_inState RX7 RX7 69 yX7_isOn cX7_isOn 4 (some .boolean) wsX7_isOn rm_X7_isOn 3 := ⟨gX7_inState_X7_isOn, ⟨_, rfl⟩, rfl, rfl, ⟨rfl, by decide +kernel, by decide +kernel, by decide +kernel⟩, by decide, by decide⟩
theorem k_X7_inState_X7_of : CW rm_X7_inState wsX7_inState RX7 RX7 66 yX7_of cX7_of 3 (some .int) wsX7_of rm_X7_of 2 := ⟨gX7_inState_X7_of, ⟨_, rfl⟩, rfl, rfl, ⟨rfl, by decide +kernel, by decide +kernel, by decide +kernel⟩, by decide, by decide⟩
set_option maxHeartbeats 4000000 in
set_option maxRecDepth 100000 in
theorem c_X7_inState (l : Launch) (G : MG) (z : St) {r : Int32} {d : Int32} {s : Int32} (hI : IO z) : CIm l G yX7_inState wsX7_inState rm_X7_inState [.ref (G.2.2 0), .int r, .int d, .int s] z (fun ρ ζ => ρ = inSt z r d s ∧ ζ = z) := by
  refine ci_of (own := RX7) (cc := cX7_inState) (maxL := 6) (ret := .int) (by decide +kernel) rfl rfl ?_ (Nat.le_of_ble_eq_true rfl) (KQ_mv (ExM_mv G)) ?_
  · intro v z' _; rfl
  · intro X hX ret
    refine g_lv (lv' := [(0, .ref (G.2.2 0)), (1, .int r), (2, .int d), (3, .int s)]) rfl ?_
    obtain ⟨e3, h40⟩ := iNa hI
    refine g_iconst hX 0 dX7_inState_0 (by decide) ?_
    refine g_istore hX [(4, .int 0), (0, .ref (G.2.2 0)), (1, .int r), (2, .int d), (3, .int s)] dX7_inState_1 (by decide) rfl ?_
    refine g_iconst hX 0 dX7_inState_3 (by decide) ?_
    refine g_istore hX [(5, .int 0), (4, .int 0), (0, .ref (G.2.2 0)), (1, .int r), (2, .int d), (3, .int s)] dX7_inState_4 (by decide) rfl ?_
    have loop6 : ∀ (nf : Nat) (k : Nat), (nA z < k + nf) → (k ≤ nA z) → Go X (z) 6 [(0, .ref (G.2.2 0)), (1, .int r), (2, .int d), (3, .int s), (4, .int (sm (fun a => if onP z a r d ∧ z 15 a = s then 1 else 0) k)), (5, .int (nI k))] [] := by
      intro nf
      induction nf with
      | zero =>
        intro k hmu hk
        exfalso; omega
      | succ nf ih =>
        intro k hmu hk
        refine g_iload hX 5 dX7_inState_6 rfl ?_
        refine g_aload_n hX 0 dX7_inState_8 rfl ?_
        refine m_g_0 hX i_X7_inState_wsX70 (List.mem_of_getElem? (i := 1) rfl) dX7_inState_9 ?_
        refine g_iconst hX 3 dX7_inState_12 (by decide) ?_
        refine m_ld_at hX 3 rfl (by decide) dX7_inState_13 (v := z 3 0) rfl ?_
        refine g_ic_ge hX 55 dX7_inState_14 (by decide) (fun c1 => ?_) (fun c1 => ?_)
        · -- jump 55
          have hke : k = nA z := by
            rw [e3] at c1; have := (nI_leI (by omega) (by omega)).mp c1; omega
          refine g_iload hX 4 dX7_inState_55 rfl ?_
          refine ret _ _ _ _ dX7_inState_57 ?_
          exact ⟨by rw [hke]; rfl, rfl⟩
        · -- on 17
          have hkn : k < nA z := by
            rw [e3] at c1; exact Nat.lt_of_not_le (fun q => c1 (nI_le q (by omega)))
          refine g_iload hX 4 dX7_inState_17 rfl ?_
          refine g_aload_n hX 0 dX7_inState_19 rfl ?_
          refine g_iload hX 5 dX7_inState_20 rfl ?_
          refine g_iload_n hX 1 dX7_inState_22 rfl ?_
          refine g_iload_n hX 2 dX7_inState_23 rfl ?_
          refine g_cvE hX (As := [.int (nI k), .int r, .int d]) (rest := [.int (sm (fun a => if onP z a r d ∧ z 15 a = s then 1 else 0) k)]) (c_X7_isOn l G z (a := k) (r := r) (d := d) (ha := (by omega))) k_X7_inState_X7_isOn rc_Model rfl rfl (Nat.le_of_ble_eq_true rfl) dX7_inState_24 ?_
          refine g_bi_eq hX 45 dX7_inState_27 (by decide) (fun c2 => ?_) (fun c2 => ?_)
          · -- jump 45
            refine g_iconst hX 0 dX7_inState_45 (by decide) ?_
            refine g_iadd hX dX7_inState_46 ?_
            refine g_istore hX [(4, .int ((sm (fun a => if onP z a r d ∧ z 15 a = s then 1 else 0) k) + 0)), (0, .ref (G.2.2 0)), (1, .int r), (2, .int d), (3, .int s), (5, .int (nI k))] dX7_inState_47 (by decide) rfl ?_
            refine g_iinc hX (nI (k + 1)) 5 [(5, .int (nI (k + 1))), (4, .int ((sm (fun a => if onP z a r d ∧ z 15 a = s then 1 else 0) k) + 0)), (0, .ref (G.2.2 0)), (1, .int r), (2, .int d), (3, .int s)] dX7_inState_49 rfl (nI_1 k) (by decide) rfl ?_
            refine g_goto hX 6 dX7_inState_52 (by decide) ?_
            -- back to 6
            refine g_sub [2, 3, 4, 5, 1, 0] [(0, .ref (G.2.2 0)), (1, .int r), (2, .int d), (3, .int s), (4, .int ((sm (fun a => if onP z a r d ∧ z 15 a = s then 1 else 0) k) + 0)), (5, .int (nI (k + 1)))] rfl ?_
            have e4 : ((sm (fun a => if onP z a r d ∧ z 15 a = s then 1 else 0) k) + 0 : Int32) = sm (fun a => if onP z a r d ∧ z 15 a = s then 1 else 0) (k + 1) := by
              exact (by rw [Int32.add_zero]; exact sm_f (by grind))
            refine g_lv (lv' := [(0, .ref (G.2.2 0)), (1, .int r), (2, .int d), (3, .int s), (4, .int (sm (fun a => if onP z a r d ∧ z 15 a = s then 1 else 0) (k + 1))), (5, .int (nI (k + 1)))]) (by rw [e4]) ?_
            exact ih (k + 1) (by omega) (by omega)
          · -- on 30
            refine g_aload_n hX 0 dX7_inState_30 rfl ?_
            refine g_iload hX 5 dX7_inState_31 rfl ?_
            refine g_iconst hX 4 dX7_inState_33 (by decide) ?_
            refine g_cvE hX (As := [.int (nI k), .int 4]) (rest := [.int (sm (fun a => if onP z a r d ∧ z 15 a = s then 1 else 0) k)]) (c_X7_of l G z (a := k) (w := 4) (ha := (by omega)) (hw := (by decide))) k_X7_inState_X7_of rc_Model rfl rfl (Nat.le_of_ble_eq_true rfl) dX7_inState_34 ?_
            refine g_top (z 15 k) rfl ?_
            refine g_iload_n hX 3 dX7_inState_37 rfl ?_
            refine g_ic_ne hX 45 dX7_inState_38 (by decide) (fun c3 => ?_) (fun c3 => ?_)
            · -- jump 45
              refine g_iconst hX 0 dX7_inState_45 (by decide) ?_
              refine g_iadd hX dX7_inState_46 ?_
              refine g_istore hX [(4, .int ((sm (fun a => if onP z a r d ∧ z 15 a = s then 1 else 0) k) + 0)), (0, .ref (G.2.2 0)), (1, .int r), (2, .int d), (3, .int s), (5, .int (nI k))] dX7_inState_47 (by decide) rfl ?_
              refine g_iinc hX (nI (k + 1)) 5 [(5, .int (nI (k + 1))), (4, .int ((sm (fun a => if onP z a r d ∧ z 15 a = s then 1 else 0) k) + 0)), (0, .ref (G.2.2 0)), (1, .int r), (2, .int d), (3, .int s)] dX7_inState_49 rfl (nI_1 k) (by decide) rfl ?_
              refine g_goto hX 6 dX7_inState_52 (by decide) ?_
              -- back to 6
              refine g_sub [2, 3, 4, 5, 1, 0] [(0, .ref (G.2.2 0)), (1, .int r), (2, .int d), (3, .int s), (4, .int ((sm (fun a => if onP z a r d ∧ z 15 a = s then 1 else 0) k) + 0)), (5, .int (nI (k + 1)))] rfl ?_
              have e4 : ((sm (fun a => if onP z a r d ∧ z 15 a = s then 1 else 0) k) + 0 : Int32) = sm (fun a => if onP z a r d ∧ z 15 a = s then 1 else 0) (k + 1) := by
                exact (by rw [Int32.add_zero]; exact sm_f (by grind))
              refine g_lv (lv' := [(0, .ref (G.2.2 0)), (1, .int r), (2, .int d), (3, .int s), (4, .int (sm (fun a => if onP z a r d ∧ z 15 a = s then 1 else 0) (k + 1))), (5, .int (nI (k + 1)))]) (by rw [e4]) ?_
              exact ih (k + 1) (by omega) (by omega)
            · -- on 41
              refine g_iconst hX 1 dX7_inState_41 (by decide) ?_
              refine g_goto hX 46 dX7_inState_42 (by decide) ?_
              refine g_iadd hX dX7_inState_46 ?_
              refine g_istore hX [(4, .int ((sm (fun a => if onP z a r d ∧ z 15 a = s then 1 else 0) k) + 1)), (0, .ref (G.2.2 0)), (1, .int r), (2, .int d), (3, .int s), (5, .int (nI k))] dX7_inState_47 (by decide) rfl ?_
              refine g_iinc hX (nI (k + 1)) 5 [(5, .int (nI (k + 1))), (4, .int ((sm (fun a => if onP z a r d ∧ z 15 a = s then 1 else 0) k) + 1)), (0, .ref (G.2.2 0)), (1, .int r), (2, .int d), (3, .int s)] dX7_inState_49 rfl (nI_1 k) (by decide) rfl ?_
              refine g_goto hX 6 dX7_inState_52 (by decide) ?_
              -- back to 6
              refine g_sub [2, 3, 4, 5, 1, 0] [(0, .ref (G.2.2 0)), (1, .int r), (2, .int d), (3, .int s), (4, .int ((sm (fun a => if onP z a r d ∧ z 15 a = s then 1 else 0) k) + 1)), (5, .int (nI (k + 1)))] rfl ?_
              have e4 : ((sm (fun a => if onP z a r d ∧ z 15 a = s then 1 else 0) k) + 1 : Int32) = sm (fun a => if onP z a r d ∧ z 15 a = s then 1 else 0) (k + 1) := by
                exact sm_t (by grind)
              refine g_lv (lv' := [(0, .ref (G.2.2 0)), (1, .int r), (2, .int d), (3, .int s), (4, .int (sm (fun a => if onP z a r d ∧ z 15 a = s then 1 else 0) (k + 1))), (5, .int (nI (k + 1)))]) (by rw [e4]) ?_
              exact ih (k + 1) (by omega) (by omega)
    refine g_sub [2, 3, 4, 5, 1, 0] [(0, .ref (G.2.2 0)), (1, .int r), (2, .int d), (3, .int s), (4, .int 0), (5, .int 0)] rfl ?_
    exact loop6 (nA z + 1) 0 (by omega) (Nat.zero_le _)
def rm_X7_permit : Room := { frames := 1, cells := 0, slots := 0, locals := 23 }
theorem k_X7_permit_X7_lay : CW rm_X7_permit wsX7_permit RX7 RX7 75 yX7_lay cX7_lay 4 none wsX7_lay rm_X7_lay 3 := ⟨gX7_permit_X7_lay, ⟨_, rfl⟩, rfl, rfl, ⟨rfl, by decide +kernel, by decide +kernel, by decide +kernel⟩, by decide, by decide⟩
theorem k_X7_permit_X7_of : CW rm_X7_permit wsX7_permit RX7 RX7 66 yX7_of cX7_of 3 (some .int) wsX7_of rm_X7_of 2 := ⟨gX7_permit_X7_of, ⟨_, rfl⟩, rfl, rfl, ⟨rfl, by decide +kernel, by decide +kernel, by decide +kernel⟩, by decide, by decide⟩
theorem k_X7_permit_X7_setting : CW rm_X7_permit wsX7_permit RX7 RX7 63 yX7_setting cX7_setting 2 (some .int) wsX7_setting rm_X7_setting 1 := ⟨gX7_permit_X7_setting, ⟨_, rfl⟩, rfl, rfl, ⟨rfl, by decide +kernel, by decide +kernel, by decide +kernel⟩, by decide, by decide⟩
set_option maxHeartbeats 4000000 in
set_option maxRecDepth 100000 in
theorem c_X7_permit (l : Launch) (G : MG) (hA : Ap 9 G.2.2) (z : St) {a : Nat} (ha : a < 40) (hp : z 16 a = 0) : CIm l G yX7_permit wsX7_permit rm_X7_permit [.ref (G.2.2 0), .int (nI a)] z (fun ρ ζ => ρ = z 4 0 * z 14 a ∧ ζ = permit z a) := by
  refine ci_of (own := RX7) (cc := cX7_permit) (maxL := 3) (ret := .int) (by decide +kernel) rfl rfl ?_ (Nat.le_of_ble_eq_true rfl) (KQ_mv (ExM_mv G)) ?_
  · intro v z' _; rfl
  · intro X hX ret
    refine g_lv (lv' := [(0, .ref (G.2.2 0)), (1, .int (nI a))]) rfl ?_
    refine g_aload_n hX 0 dX7_permit_0 rfl ?_
    refine g_iconst hX 0 dX7_permit_1 (by decide) ?_
    refine g_cvE hX (As := [.int 0]) (rest := []) (c_X7_setting l G z (w := 0) (hw := (by decide))) k_X7_permit_X7_setting rc_Model rfl rfl (Nat.le_of_ble_eq_true rfl) dX7_permit_2 ?_
    refine g_aload_n hX 0 dX7_permit_5 rfl ?_
    refine g_iload_n hX 1 dX7_permit_6 rfl ?_
    refine g_iconst hX 3 dX7_permit_7 (by decide) ?_
    refine g_cvE hX (As := [.int (nI a), .int 3]) (rest := [.int (z 4 0)]) (c_X7_of l G z (a := a) (w := 3) (ha := (by omega)) (hw := (by decide))) k_X7_permit_X7_of rc_Model rfl rfl (Nat.le_of_ble_eq_true rfl) dX7_permit_8 ?_
    refine g_top (z 14 a) rfl ?_
    refine g_imul hX dX7_permit_11 ?_
    refine g_istore_n hX [(2, .int ((z 4 0) * (z 14 a))), (0, .ref (G.2.2 0)), (1, .int (nI a))] dX7_permit_12 (by decide) rfl ?_
    refine g_aload_n hX 1 dX7_permit_13 rfl ?_
    refine g_iload_n hX 2 dX7_permit_14 rfl ?_
    refine g_iconst hX 4 dX7_permit_15 (by decide) ?_
    refine g_iconst hX 1 dX7_permit_16 (by decide) ?_
    refine g_cvvE hX (As := [.int (nI a), .int 4, .int 1]) (rest := []) (c_X7_lay l G hA z (a := a) (w := 4) (v := 1) (ha := (by omega)) (hw := (by decide))) k_X7_permit_X7_lay rc_Model rfl rfl (Nat.le_of_ble_eq_true rfl) dX7_permit_17 ?_
    refine g_z (z2 := u2 z 15 a 1) rfl ?_
    refine g_aload_n hX 1 dX7_permit_20 rfl ?_
    refine g_iload_n hX 2 dX7_permit_21 rfl ?_
    refine g_iconst hX 5 dX7_permit_22 (by decide) ?_
    refine g_aload_n hX 1 dX7_permit_23 rfl ?_
    refine g_iload_n hX 2 dX7_permit_24 rfl ?_
    refine g_iconst hX 5 dX7_permit_25 (by decide) ?_
    refine g_cvE hX (As := [.int (nI a), .int 5]) (rest := [.int 5, .int (nI a), .ref (G.2.2 0)]) (c_X7_of l G (u2 z 15 a 1) (a := a) (w := 5) (ha := (by omega)) (hw := (by decide))) k_X7_permit_X7_of rc_Model rfl rfl (Nat.le_of_ble_eq_true rfl) dX7_permit_26 ?_
    refine g_top ((u2 z 15 a 1) 16 a) rfl ?_
    refine g_top (z 16 a) (by simp [u2]) ?_
    refine g_iload_n hX 0 dX7_permit_29 rfl ?_
    refine g_iadd hX dX7_permit_30 ?_
    refine g_cvvE hX (As := [.int (nI a), .int 5, .int ((z 16 a) + ((z 4 0) * (z 14 a)))]) (rest := []) (c_X7_lay l G hA (u2 z 15 a 1) (a := a) (w := 5) (v := ((z 16 a) + ((z 4 0) * (z 14 a)))) (ha := (by omega)) (hw := (by decide))) k_X7_permit_X7_lay rc_Model rfl rfl (Nat.le_of_ble_eq_true rfl) dX7_permit_31 ?_
    refine g_z (z2 := u2 (u2 z 15 a 1) 16 a ((z 16 a) + ((z 4 0) * (z 14 a)))) rfl ?_
    refine g_iload_n hX 0 dX7_permit_34 rfl ?_
    refine ret _ _ _ _ dX7_permit_35 ?_
    refine ⟨rfl, ?_⟩
    rw [hp, Int32.zero_add]; rfl
def rm_X7_hasOne : Room := { frames := 2, cells := 0, slots := 0, locals := 45 }
theorem i_X7_hasOne_wsX70 : ∀ w ∈ wsX70, w ∈ wsX7_hasOne := fun w h => List.mem_cons_of_mem _ (List.mem_append_right _ h)
theorem k_X7_hasOne_X7_in : CS rm_X7_hasOne wsX7_hasOne RX7 35 yX7_in cX7_in 3 (some .boolean) wsX7_in rm_X7_in 3 := ⟨gX7_hasOne_X7_in, ⟨_, rfl⟩, rfl, rfl, ⟨rfl, by decide +kernel, by decide +kernel, by decide +kernel⟩, by decide, by decide⟩
theorem k_X7_hasOne_X7_isOn : CW rm_X7_hasOne wsX7_hasOne RX7 RX7 69 yX7_isOn cX7_isOn 4 (some .boolean) wsX7_isOn rm_X7_isOn 3 := ⟨gX7_hasOne_X7_isOn, ⟨_, rfl⟩, rfl, rfl, ⟨rfl, by decide +kernel, by decide +kernel, by decide +kernel⟩, by decide, by decide⟩
theorem k_X7_hasOne_X7_of : CW rm_X7_hasOne wsX7_hasOne RX7 RX7 66 yX7_of cX7_of 3 (some .int) wsX7_of rm_X7_of 2 := ⟨gX7_hasOne_X7_of, ⟨_, rfl⟩, rfl, rfl, ⟨rfl, by decide +kernel, by decide +kernel, by decide +kernel⟩, by decide, by decide⟩
set_option maxHeartbeats 4000000 in
set_option maxRecDepth 100000 in
theorem c_X7_hasOne (l : Launch) (G : MG) (z : St) {c : Int32} {r : Int32} {d : Int32} (hI : IO z) (hst : ∀ a, a < nA z → ∃ s, s < 7 ∧ z 15 a = nI s) : CIm l G yX7_hasOne wsX7_hasOne rm_X7_hasOne [.ref (G.2.2 0), .int c, .int r, .int d] z (fun ρ ζ => ρ = bi (hasOne z c r d = true) ∧ ζ = z) := by
  refine ci_of (own := RX7) (cc := cX7_hasOne) (maxL := 6) (ret := .boolean) (by decide +kernel) rfl rfl ?_ (Nat.le_of_ble_eq_true rfl) (KQ_mv (ExM_mv G)) ?_
  · rintro v z' ⟨rfl, -⟩; exact nz_bi _
  · intro X hX ret
    refine g_lv (lv' := [(0, .ref (G.2.2 0)), (1, .int c), (2, .int r), (3, .int d)]) rfl ?_
    obtain ⟨e3, h40⟩ := iNa hI
    refine g_iconst hX 0 dX7_hasOne_0 (by decide) ?_
    refine g_istore hX [(4, .int 0), (0, .ref (G.2.2 0)), (1, .int c), (2, .int r), (3, .int d)] dX7_hasOne_1 (by decide) rfl ?_
    refine g_iconst hX 0 dX7_hasOne_3 (by decide) ?_
    refine g_istore hX [(5, .int 0), (4, .int 0), (0, .ref (G.2.2 0)), (1, .int c), (2, .int r), (3, .int d)] dX7_hasOne_4 (by decide) rfl ?_
    have loop6 : ∀ (nf : Nat) (k : Nat), (nA z < k + nf) → (k ≤ nA z) → (∀ a, a < nA z → ∃ s, s < 7 ∧ z 15 a = nI s) → Go X (z) 6 [(0, .ref (G.2.2 0)), (1, .int c), (2, .int r), (3, .int d), (4, .int (bi (anyN (fun a => decide (z 11 a = c ∧ onP z a r d ∧ aliveP z a)) k = true))), (5, .int (nI k))] [] := by
      intro nf
      induction nf with
      | zero =>
        intro k hmu hk hst
        exfalso; omega
      | succ nf ih =>
        intro k hmu hk hst
        refine g_iload hX 5 dX7_hasOne_6 rfl ?_
        refine g_aload_n hX 0 dX7_hasOne_8 rfl ?_
        refine m_g_0 hX i_X7_hasOne_wsX70 (List.mem_of_getElem? (i := 1) rfl) dX7_hasOne_9 ?_
        refine g_iconst hX 3 dX7_hasOne_12 (by decide) ?_
        refine m_ld_at hX 3 rfl (by decide) dX7_hasOne_13 (v := z 3 0) rfl ?_
        refine g_ic_ge hX 72 dX7_hasOne_14 (by decide) (fun c1 => ?_) (fun c1 => ?_)
        · -- jump 72
          have hke : k = nA z := by
            rw [e3] at c1; have := (nI_leI (by omega) (by omega)).mp c1; omega
          refine g_iload hX 4 dX7_hasOne_72 rfl ?_
          refine ret _ _ _ _ dX7_hasOne_74 ?_
          exact ⟨by rw [hke]; rfl, rfl⟩
        · -- on 17
          have hkn : k < nA z := by
            rw [e3] at c1; exact Nat.lt_of_not_le (fun q => c1 (nI_le q (by omega)))
          refine g_iload hX 4 dX7_hasOne_17 rfl ?_
          refine g_bi_ne hX 59 dX7_hasOne_19 (by decide) (fun c2 => ?_) (fun c2 => ?_)
          · -- jump 59
            refine g_iconst hX 1 dX7_hasOne_59 (by decide) ?_
            refine g_goto hX 64 dX7_hasOne_60 (by decide) ?_
            refine g_istore hX [(4, .int 1), (0, .ref (G.2.2 0)), (1, .int c), (2, .int r), (3, .int d), (5, .int (nI k))] dX7_hasOne_64 (by decide) rfl ?_
            refine g_iinc hX (nI (k + 1)) 5 [(5, .int (nI (k + 1))), (4, .int 1), (0, .ref (G.2.2 0)), (1, .int c), (2, .int r), (3, .int d)] dX7_hasOne_66 rfl (nI_1 k) (by decide) rfl ?_
            refine g_goto hX 6 dX7_hasOne_69 (by decide) ?_
            -- back to 6
            refine g_sub [2, 3, 4, 5, 1, 0] [(0, .ref (G.2.2 0)), (1, .int c), (2, .int r), (3, .int d), (4, .int 1), (5, .int (nI (k + 1)))] rfl ?_
            have e4 : (1 : Int32) = bi (anyN (fun a => decide (z 11 a = c ∧ onP z a r d ∧ aliveP z a)) (k + 1) = true) := by
              exact (bi_t (by rw [anyN]; grind)).symm
            refine g_lv (lv' := [(0, .ref (G.2.2 0)), (1, .int c), (2, .int r), (3, .int d), (4, .int (bi (anyN (fun a => decide (z 11 a = c ∧ onP z a r d ∧ aliveP z a)) (k + 1) = true))), (5, .int (nI (k + 1)))]) (by rw [← e4]) ?_
            exact ih (k + 1) (by omega) (by omega) hst
          · -- on 22
            refine g_aload_n hX 0 dX7_hasOne_22 rfl ?_
            refine g_iload hX 5 dX7_hasOne_23 rfl ?_
            refine g_iconst hX 0 dX7_hasOne_25 (by decide) ?_
            refine g_cvE hX (As := [.int (nI k), .int 0]) (rest := []) (c_X7_of l G z (a := k) (w := 0) (ha := (by omega)) (hw := (by decide))) k_X7_hasOne_X7_of rc_Model rfl rfl (Nat.le_of_ble_eq_true rfl) dX7_hasOne_26 ?_
            refine g_top (z 11 k) rfl ?_
            refine g_iload_n hX 1 dX7_hasOne_29 rfl ?_
            refine g_ic_ne hX 63 dX7_hasOne_30 (by decide) (fun c3 => ?_) (fun c3 => ?_)
            · -- jump 63
              refine g_iconst hX 0 dX7_hasOne_63 (by decide) ?_
              refine g_istore hX [(4, .int 0), (0, .ref (G.2.2 0)), (1, .int c), (2, .int r), (3, .int d), (5, .int (nI k))] dX7_hasOne_64 (by decide) rfl ?_
              refine g_iinc hX (nI (k + 1)) 5 [(5, .int (nI (k + 1))), (4, .int 0), (0, .ref (G.2.2 0)), (1, .int c), (2, .int r), (3, .int d)] dX7_hasOne_66 rfl (nI_1 k) (by decide) rfl ?_
              refine g_goto hX 6 dX7_hasOne_69 (by decide) ?_
              -- back to 6
              refine g_sub [2, 3, 4, 5, 1, 0] [(0, .ref (G.2.2 0)), (1, .int c), (2, .int r), (3, .int d), (4, .int 0), (5, .int (nI (k + 1)))] rfl ?_
              have e4 : (0 : Int32) = bi (anyN (fun a => decide (z 11 a = c ∧ onP z a r d ∧ aliveP z a)) (k + 1) = true) := by
                exact (bi_f (by rw [anyN]; grind)).symm
              refine g_lv (lv' := [(0, .ref (G.2.2 0)), (1, .int c), (2, .int r), (3, .int d), (4, .int (bi (anyN (fun a => decide (z 11 a = c ∧ onP z a r d ∧ aliveP z a)) (k + 1) = true))), (5, .int (nI (k + 1)))]) (by rw [← e4]) ?_
              exact ih (k + 1) (by omega) (by omega) hst
            · -- on 33
              refine g_aload_n hX 0 dX7_hasOne_33 rfl ?_
              refine g_iload hX 5 dX7_hasOne_34 rfl ?_
              refine g_iload_n hX 2 dX7_hasOne_36 rfl ?_
              refine g_iload_n hX 3 dX7_hasOne_37 rfl ?_
              refine g_cvE hX (As := [.int (nI k), .int r, .int d]) (rest := []) (c_X7_isOn l G z (a := k) (r := r) (d := d) (ha := (by omega))) k_X7_hasOne_X7_isOn rc_Model rfl rfl (Nat.le_of_ble_eq_true rfl) dX7_hasOne_38 ?_
              refine g_bi_eq hX 63 dX7_hasOne_41 (by decide) (fun c4 => ?_) (fun c4 => ?_)
              · -- jump 63
                refine g_iconst hX 0 dX7_hasOne_63 (by decide) ?_
                refine g_istore hX [(4, .int 0), (0, .ref (G.2.2 0)), (1, .int c), (2, .int r), (3, .int d), (5, .int (nI k))] dX7_hasOne_64 (by decide) rfl ?_
                refine g_iinc hX (nI (k + 1)) 5 [(5, .int (nI (k + 1))), (4, .int 0), (0, .ref (G.2.2 0)), (1, .int c), (2, .int r), (3, .int d)] dX7_hasOne_66 rfl (nI_1 k) (by decide) rfl ?_
                refine g_goto hX 6 dX7_hasOne_69 (by decide) ?_
                -- back to 6
                refine g_sub [2, 3, 4, 5, 1, 0] [(0, .ref (G.2.2 0)), (1, .int c), (2, .int r), (3, .int d), (4, .int 0), (5, .int (nI (k + 1)))] rfl ?_
                have e4 : (0 : Int32) = bi (anyN (fun a => decide (z 11 a = c ∧ onP z a r d ∧ aliveP z a)) (k + 1) = true) := by
                  exact (bi_f (by rw [anyN]; grind)).symm
                refine g_lv (lv' := [(0, .ref (G.2.2 0)), (1, .int c), (2, .int r), (3, .int d), (4, .int (bi (anyN (fun a => decide (z 11 a = c ∧ onP z a r d ∧ aliveP z a)) (k + 1) = true))), (5, .int (nI (k + 1)))]) (by rw [← e4]) ?_
                exact ih (k + 1) (by omega) (by omega) hst
              · -- on 44
                refine g_aload_n hX 0 dX7_hasOne_44 rfl ?_
                refine g_iload hX 5 dX7_hasOne_45 rfl ?_
                refine g_iconst hX 4 dX7_hasOne_47 (by decide) ?_
                refine g_cvE hX (As := [.int (nI k), .int 4]) (rest := []) (c_X7_of l G z (a := k) (w := 4) (ha := (by omega)) (hw := (by decide))) k_X7_hasOne_X7_of rc_Model rfl rfl (Nat.le_of_ble_eq_true rfl) dX7_hasOne_48 ?_
                refine g_top (z 15 k) rfl ?_
                refine g_iconst hX 0 dX7_hasOne_51 (by decide) ?_
                refine g_iconst hX 2 dX7_hasOne_52 (by decide) ?_
                refine g_csE hX (As := [.int (z 15 k), .int 0, .int 2]) (rest := []) (c_X7_in l G z (x := (z 15 k)) (lo := 0) (hi := 2) ) k_X7_hasOne_X7_in rfl rfl (Nat.le_of_ble_eq_true rfl) dX7_hasOne_53 ?_
                have hal := st_alive (hst k hkn)
                refine g_bi_eq hX 63 dX7_hasOne_56 (by decide) (fun c5 => ?_) (fun c5 => ?_)
                · -- jump 63
                  refine g_iconst hX 0 dX7_hasOne_63 (by decide) ?_
                  refine g_istore hX [(4, .int 0), (0, .ref (G.2.2 0)), (1, .int c), (2, .int r), (3, .int d), (5, .int (nI k))] dX7_hasOne_64 (by decide) rfl ?_
                  refine g_iinc hX (nI (k + 1)) 5 [(5, .int (nI (k + 1))), (4, .int 0), (0, .ref (G.2.2 0)), (1, .int c), (2, .int r), (3, .int d)] dX7_hasOne_66 rfl (nI_1 k) (by decide) rfl ?_
                  refine g_goto hX 6 dX7_hasOne_69 (by decide) ?_
                  -- back to 6
                  refine g_sub [2, 3, 4, 5, 1, 0] [(0, .ref (G.2.2 0)), (1, .int c), (2, .int r), (3, .int d), (4, .int 0), (5, .int (nI (k + 1)))] rfl ?_
                  have e4 : (0 : Int32) = bi (anyN (fun a => decide (z 11 a = c ∧ onP z a r d ∧ aliveP z a)) (k + 1) = true) := by
                    exact (bi_f (by rw [anyN]; grind)).symm
                  refine g_lv (lv' := [(0, .ref (G.2.2 0)), (1, .int c), (2, .int r), (3, .int d), (4, .int (bi (anyN (fun a => decide (z 11 a = c ∧ onP z a r d ∧ aliveP z a)) (k + 1) = true))), (5, .int (nI (k + 1)))]) (by rw [← e4]) ?_
                  exact ih (k + 1) (by omega) (by omega) hst
                · -- on 59
                  refine g_iconst hX 1 dX7_hasOne_59 (by decide) ?_
                  refine g_goto hX 64 dX7_hasOne_60 (by decide) ?_
                  refine g_istore hX [(4, .int 1), (0, .ref (G.2.2 0)), (1, .int c), (2, .int r), (3, .int d), (5, .int (nI k))] dX7_hasOne_64 (by decide) rfl ?_
                  refine g_iinc hX (nI (k + 1)) 5 [(5, .int (nI (k + 1))), (4, .int 1), (0, .ref (G.2.2 0)), (1, .int c), (2, .int r), (3, .int d)] dX7_hasOne_66 rfl (nI_1 k) (by decide) rfl ?_
                  refine g_goto hX 6 dX7_hasOne_69 (by decide) ?_
                  -- back to 6
                  refine g_sub [2, 3, 4, 5, 1, 0] [(0, .ref (G.2.2 0)), (1, .int c), (2, .int r), (3, .int d), (4, .int 1), (5, .int (nI (k + 1)))] rfl ?_
                  have e4 : (1 : Int32) = bi (anyN (fun a => decide (z 11 a = c ∧ onP z a r d ∧ aliveP z a)) (k + 1) = true) := by
                    exact (bi_t (by rw [anyN]; grind)).symm
                  refine g_lv (lv' := [(0, .ref (G.2.2 0)), (1, .int c), (2, .int r), (3, .int d), (4, .int (bi (anyN (fun a => decide (z 11 a = c ∧ onP z a r d ∧ aliveP z a)) (k + 1) = true))), (5, .int (nI (k + 1)))]) (by rw [← e4]) ?_
                  exact ih (k + 1) (by omega) (by omega) hst
    refine g_sub [2, 3, 4, 5, 1, 0] [(0, .ref (G.2.2 0)), (1, .int c), (2, .int r), (3, .int d), (4, .int 0), (5, .int 0)] rfl ?_
    have e4 : (0 : Int32) = bi (anyN (fun a => decide (z 11 a = c ∧ onP z a r d ∧ aliveP z a)) 0 = true) := by
      rfl
    refine g_lv (lv' := [(0, .ref (G.2.2 0)), (1, .int c), (2, .int r), (3, .int d), (4, .int (bi (anyN (fun a => decide (z 11 a = c ∧ onP z a r d ∧ aliveP z a)) 0 = true))), (5, .int 0)]) (by rw [← e4]) ?_
    exact loop6 (nA z + 1) 0 (by omega) (Nat.zero_le _) hst
