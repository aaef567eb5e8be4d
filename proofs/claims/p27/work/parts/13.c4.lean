def rm_X2_entryOf : Room := { frames := 0, cells := 0, slots := 0, locals := 0 }
theorem i_X2_entryOf_wsX20 : ∀ w ∈ wsX20, w ∈ wsX2_entryOf := fun w h => List.mem_cons_of_mem _ (List.mem_append_right _ h)
set_option maxHeartbeats 4000000 in
set_option maxRecDepth 100000 in
theorem c_X2_entryOf (l : Launch) (G : MG) (z : St) {x : Int32} (hE : z 66 0 = nI (cn (z 66 0)) ∧ cn (z 66 0) ≤ 40) : CIc l G yX2_entryOf wsX2_entryOf rm_X2_entryOf [.ref (G.2.2 195), .int x] z (fun ρ ζ => ρ = entOf z x ∧ ζ = z) := by
  refine ci_of (own := RX2) (cc := cX2_entryOf) (maxL := 3) (ret := .int) (by decide +kernel) rfl rfl ?_ (Nat.le_of_ble_eq_true rfl) (KQ_mv (ExC_mv G)) ?_
  · intro v z' _; rfl
  · intro X hX ret
    refine g_lv (lv' := [(0, .ref (G.2.2 195)), (1, .int x)]) rfl ?_
    refine g_iconst hX 0 dX2_entryOf_0 (by decide) ?_
    refine g_istore_n hX [(2, .int 0), (0, .ref (G.2.2 195)), (1, .int x)] dX2_entryOf_1 (by decide) rfl ?_
    have loop2 : ∀ (nf : Nat) (k : Nat), (cn (z 66 0) < k + nf) → (k ≤ cn (z 66 0)) → (fstF (fun e => decide (z 61 e = x)) (cn (z 66 0) - k) k = entOf z x) → Go X (z) 2 [(0, .ref (G.2.2 195)), (1, .int x), (2, .int (nI k))] [] := by
      intro nf
      induction nf with
      | zero =>
        intro k hmu hk hs
        exfalso; omega
      | succ nf ih =>
        intro k hmu hk hs
        refine g_iload_n hX 2 dX2_entryOf_2 rfl ?_
        refine g_aload_n hX 0 dX2_entryOf_3 rfl ?_
        refine c_g_Draw_5 hX i_X2_entryOf_wsX20 (List.mem_of_getElem? (i := 1) rfl) dX2_entryOf_4 ?_
        refine g_ic_ge hX 28 dX2_entryOf_7 (by decide) (fun c1 => ?_) (fun c1 => ?_)
        · -- jump 28
          have hke : k = cn (z 66 0) := by
            rw [hE.1] at c1; have := (nI_leI (by omega) (by omega)).mp c1; omega
          refine g_bipush hX (-6) dX2_entryOf_28 (by decide) ?_
          refine ret _ _ _ _ dX2_entryOf_30 ?_
          refine ⟨?_, rfl⟩
          rw [← hs, hke, Nat.sub_self]; rfl
        · -- on 10
          have hkn : k < cn (z 66 0) := by
            rw [hE.1] at c1; exact Nat.lt_of_not_le (fun q => c1 (nI_le q (by omega)))
          refine g_aload_n hX 0 dX2_entryOf_10 rfl ?_
          refine c_g_Draw_0 hX i_X2_entryOf_wsX20 (List.mem_of_getElem? (i := 2) rfl) dX2_entryOf_11 ?_
          refine g_iload_n hX 2 dX2_entryOf_14 rfl ?_
          refine c_ld_numbers hX k rfl (by omega) dX2_entryOf_15 ?_
          refine g_iload_n hX 1 dX2_entryOf_16 rfl ?_
          refine g_ic_ne hX 22 dX2_entryOf_17 (by decide) (fun c2 => ?_) (fun c2 => ?_)
          · -- jump 22
            refine g_iinc hX (nI (k + 1)) 2 [(2, .int (nI (k + 1))), (0, .ref (G.2.2 195)), (1, .int x)] dX2_entryOf_22 rfl (nI_1 k) (by decide) rfl ?_
            refine g_goto hX 2 dX2_entryOf_25 (by decide) ?_
            -- back to 2
            refine g_sub [1, 2, 0] [(0, .ref (G.2.2 195)), (1, .int x), (2, .int (nI (k + 1)))] rfl ?_
            exact ih (k + 1) (by omega) (by omega) (by rw [← hs, show cn (z 66 0) - k = (cn (z 66 0) - (k + 1)) + 1 from by omega, fstF, if_neg (by simpa using c2)])
          · -- on 20
            refine g_iload_n hX 2 dX2_entryOf_20 rfl ?_
            refine ret _ _ _ _ dX2_entryOf_21 ?_
            refine ⟨?_, rfl⟩
            rw [← hs, show cn (z 66 0) - k = (cn (z 66 0) - (k + 1)) + 1 from by omega, fstF, if_pos (by simpa using c2)]
    refine g_sub [1, 2, 0] [(0, .ref (G.2.2 195)), (1, .int x), (2, .int 0)] rfl ?_
    exact loop2 (cn (z 66 0) + 1) 0 (by omega) (Nat.zero_le _) rfl
def rm_X2_seedBehind : Room := { frames := 0, cells := 0, slots := 0, locals := 0 }
set_option maxHeartbeats 4000000 in
set_option maxRecDepth 100000 in
theorem c_X2_seedBehind (l : Launch) (G : MG) (z : St) {s : Int32}  : CIc l G yX2_seedBehind wsX2_seedBehind rm_X2_seedBehind [.int s] z (fun ρ ζ => ρ = seedN s ∧ ζ = z) := by
  refine ci_of (own := RX2) (cc := cX2_seedBehind) (maxL := 2) (ret := .int) (by decide +kernel) rfl rfl ?_ (Nat.le_of_ble_eq_true rfl) (KQ_mv (ExC_mv G)) ?_
  · intro v z' _; rfl
  · intro X hX ret
    refine g_lv (lv' := [(0, .int s)]) rfl ?_
    refine g_bipush hX 75 dX2_seedBehind_0 (by decide) ?_
    refine g_iload_n hX 0 dX2_seedBehind_2 rfl ?_
    refine g_imul hX dX2_seedBehind_3 ?_
    refine g_bipush hX 74 dX2_seedBehind_4 (by decide) ?_
    refine g_iadd hX dX2_seedBehind_6 ?_
    refine g_ldc hX 65537 dX2_seedBehind_7 (List.mem_of_getElem? (i := 1) rfl) ?_
    refine g_irem hX dX2_seedBehind_9 (by decide) ?_
    refine g_istore_n hX [(1, .int (((75 * s) + 74) - ((75 * s) + 74) / 65537 * 65537)), (0, .int s)] dX2_seedBehind_10 (by decide) rfl ?_
    refine g_iload_n hX 0 dX2_seedBehind_11 rfl ?_
    refine g_ldc hX 65536 dX2_seedBehind_12 (List.mem_of_getElem? (i := 2) rfl) ?_
    refine g_ic_ne hX 21 dX2_seedBehind_14 (by decide) (fun c1 => ?_) (fun c1 => ?_)
    · -- jump 21
      refine g_iload_n hX 0 dX2_seedBehind_21 rfl ?_
      refine ret _ _ _ _ dX2_seedBehind_22 ?_
      refine ⟨?_, rfl⟩
      simp [seedN, c1]
    · -- on 17
      refine g_iconst hX 0 dX2_seedBehind_17 (by decide) ?_
      refine g_goto hX 22 dX2_seedBehind_18 (by decide) ?_
      refine ret _ _ _ _ dX2_seedBehind_22 ?_
      refine ⟨?_, rfl⟩
      simp [seedN, c1]
def rm_X2_entryAt : Room := { frames := 0, cells := 0, slots := 0, locals := 0 }
theorem i_X2_entryAt_wsX20 : ∀ w ∈ wsX20, w ∈ wsX2_entryAt := fun w h => List.mem_cons_of_mem _ (List.mem_append_right _ h)
set_option maxHeartbeats 4000000 in
set_option maxRecDepth 100000 in
theorem c_X2_entryAt (l : Launch) (G : MG) (z : St) {x : Int32} (hE : z 66 0 = nI (cn (z 66 0)) ∧ cn (z 66 0) ≤ 40) : CIc l G yX2_entryAt wsX2_entryAt rm_X2_entryAt [.ref (G.2.2 195), .int x] z (fun ρ ζ => ρ = (entS z x (cn (z 66 0))).2 ∧ ζ = z) := by
  refine ci_of (own := RX2) (cc := cX2_entryAt) (maxL := 5) (ret := .int) (by decide +kernel) rfl rfl ?_ (Nat.le_of_ble_eq_true rfl) (KQ_mv (ExC_mv G)) ?_
  · intro v z' _; rfl
  · intro X hX ret
    refine g_lv (lv' := [(0, .ref (G.2.2 195)), (1, .int x)]) rfl ?_
    refine g_iconst hX 0 dX2_entryAt_0 (by decide) ?_
    refine g_istore_n hX [(2, .int 0), (0, .ref (G.2.2 195)), (1, .int x)] dX2_entryAt_1 (by decide) rfl ?_
    refine g_iconst hX 0 dX2_entryAt_2 (by decide) ?_
    refine g_istore_n hX [(3, .int 0), (2, .int 0), (0, .ref (G.2.2 195)), (1, .int x)] dX2_entryAt_3 (by decide) rfl ?_
    refine g_iconst hX 0 dX2_entryAt_4 (by decide) ?_
    refine g_istore hX [(4, .int 0), (3, .int 0), (2, .int 0), (0, .ref (G.2.2 195)), (1, .int x)] dX2_entryAt_5 (by decide) rfl ?_
    have loop7 : ∀ (nf : Nat) (k : Nat), (cn (z 66 0) < k + nf) → (k ≤ cn (z 66 0)) → Go X (z) 7 [(0, .ref (G.2.2 195)), (1, .int x), (2, .int ((entS z x k).1)), (3, .int ((entS z x k).2)), (4, .int (nI k))] [] := by
      intro nf
      induction nf with
      | zero =>
        intro k hmu hk
        exfalso; omega
      | succ nf ih =>
        intro k hmu hk
        refine g_iload hX 4 dX2_entryAt_7 rfl ?_
        refine g_aload_n hX 0 dX2_entryAt_9 rfl ?_
        refine c_g_Draw_5 hX i_X2_entryAt_wsX20 (List.mem_of_getElem? (i := 1) rfl) dX2_entryAt_10 ?_
        refine g_ic_ge hX 50 dX2_entryAt_13 (by decide) (fun c1 => ?_) (fun c1 => ?_)
        · -- jump 50
          have hke : k = cn (z 66 0) := by
            rw [hE.1] at c1; have := (nI_leI (by omega) (by omega)).mp c1; omega
          refine g_iload_n hX 3 dX2_entryAt_50 rfl ?_
          refine ret _ _ _ _ dX2_entryAt_51 ?_
          refine ⟨?_, rfl⟩
          first | exact hke | (rw [hke])
        · -- on 16
          have hkn : k < cn (z 66 0) := by
            rw [hE.1] at c1; exact Nat.lt_of_not_le (fun q => c1 (nI_le q (by omega)))
          refine g_iload_n hX 2 dX2_entryAt_16 rfl ?_
          refine g_iload_n hX 1 dX2_entryAt_17 rfl ?_
          refine g_ic_gt hX 50 dX2_entryAt_18 (by decide) (fun c2 => ?_) (fun c2 => ?_)
          · -- jump 50
            have hke : (entS z x k).2 = (entS z x (cn (z 66 0))).2 := by rw [entS_stop (k := k) (by simpa using c2) _ hk]
            refine g_iload_n hX 3 dX2_entryAt_50 rfl ?_
            refine ret _ _ _ _ dX2_entryAt_51 ?_
            refine ⟨?_, rfl⟩
            first | exact hke | (rw [hke])
          · -- on 21
            refine g_aload_n hX 0 dX2_entryAt_21 rfl ?_
            refine c_g_Draw_3 hX i_X2_entryAt_wsX20 (List.mem_of_getElem? (i := 2) rfl) dX2_entryAt_22 ?_
            refine g_iload hX 4 dX2_entryAt_25 rfl ?_
            refine c_ld_drawn hX k rfl (by omega) dX2_entryAt_27 ?_
            refine g_if_ne hX 44 dX2_entryAt_28 (by decide) (fun c3 => ?_) (fun c3 => ?_)
            · -- jump 44
              refine g_iinc hX (nI (k + 1)) 4 [(4, .int (nI (k + 1))), (0, .ref (G.2.2 195)), (1, .int x), (2, .int ((entS z x k).1)), (3, .int ((entS z x k).2))] dX2_entryAt_44 rfl (nI_1 k) (by decide) rfl ?_
              refine g_goto hX 7 dX2_entryAt_47 (by decide) ?_
              -- back to 7
              refine g_sub [1, 2, 3, 4, 0] [(0, .ref (G.2.2 195)), (1, .int x), (2, .int ((entS z x k).1)), (3, .int ((entS z x k).2)), (4, .int (nI (k + 1)))] rfl ?_
              have e2 : ((entS z x k).1 : Int32) = (entS z x (k + 1)).1 := by
                rw [entS, if_neg (by grind)]
              refine g_lv (lv' := [(0, .ref (G.2.2 195)), (1, .int x), (2, .int ((entS z x (k + 1)).1)), (3, .int ((entS z x k).2)), (4, .int (nI (k + 1)))]) (by rw [e2]) ?_
              have e3 : ((entS z x k).2 : Int32) = (entS z x (k + 1)).2 := by
                rw [entS, if_neg (by grind)]
              refine g_lv (lv' := [(0, .ref (G.2.2 195)), (1, .int x), (2, .int ((entS z x (k + 1)).1)), (3, .int ((entS z x (k + 1)).2)), (4, .int (nI (k + 1)))]) (by rw [e3]) ?_
              exact ih (k + 1) (by omega) (by omega)
            · -- on 31
              refine g_iload_n hX 2 dX2_entryAt_31 rfl ?_
              refine g_aload_n hX 0 dX2_entryAt_32 rfl ?_
              refine c_g_Draw_2 hX i_X2_entryAt_wsX20 (List.mem_of_getElem? (i := 3) rfl) dX2_entryAt_33 ?_
              refine g_iload hX 4 dX2_entryAt_36 rfl ?_
              refine c_ld_tickets hX k rfl (by omega) dX2_entryAt_38 ?_
              refine g_iadd hX dX2_entryAt_39 ?_
              refine g_istore_n hX [(2, .int (((entS z x k).1) + (z 63 k))), (0, .ref (G.2.2 195)), (1, .int x), (3, .int ((entS z x k).2)), (4, .int (nI k))] dX2_entryAt_40 (by decide) rfl ?_
              refine g_iload hX 4 dX2_entryAt_41 rfl ?_
              refine g_istore_n hX [(3, .int (nI k)), (2, .int (((entS z x k).1) + (z 63 k))), (0, .ref (G.2.2 195)), (1, .int x), (4, .int (nI k))] dX2_entryAt_43 (by decide) rfl ?_
              refine g_iinc hX (nI (k + 1)) 4 [(4, .int (nI (k + 1))), (3, .int (nI k)), (2, .int (((entS z x k).1) + (z 63 k))), (0, .ref (G.2.2 195)), (1, .int x)] dX2_entryAt_44 rfl (nI_1 k) (by decide) rfl ?_
              refine g_goto hX 7 dX2_entryAt_47 (by decide) ?_
              -- back to 7
              refine g_sub [3, 4, 2, 1, 0] [(0, .ref (G.2.2 195)), (1, .int x), (2, .int (((entS z x k).1) + (z 63 k))), (3, .int (nI k)), (4, .int (nI (k + 1)))] rfl ?_
              have e2 : (((entS z x k).1) + (z 63 k) : Int32) = (entS z x (k + 1)).1 := by
                rw [entS, if_pos (by grind)]
              refine g_lv (lv' := [(0, .ref (G.2.2 195)), (1, .int x), (2, .int ((entS z x (k + 1)).1)), (3, .int (nI k)), (4, .int (nI (k + 1)))]) (by rw [e2]) ?_
              have e3 : (nI k : Int32) = (entS z x (k + 1)).2 := by
                rw [entS, if_pos (by grind)]
              refine g_lv (lv' := [(0, .ref (G.2.2 195)), (1, .int x), (2, .int ((entS z x (k + 1)).1)), (3, .int ((entS z x (k + 1)).2)), (4, .int (nI (k + 1)))]) (by rw [e3]) ?_
              exact ih (k + 1) (by omega) (by omega)
    refine g_sub [3, 4, 2, 1, 0] [(0, .ref (G.2.2 195)), (1, .int x), (2, .int 0), (3, .int 0), (4, .int 0)] rfl ?_
    exact loop7 (cn (z 66 0) + 1) 0 (by omega) (Nat.zero_le _)
def rm_X2_hold : Room := { frames := 1, cells := 0, slots := 0, locals := 24 }
theorem i_X2_hold_wsX20 : ∀ w ∈ wsX20, w ∈ wsX2_hold := fun w h => List.mem_cons_of_mem _ (List.mem_append_right _ h)
theorem k_X2_hold_X2_entryAt : CW rm_X2_hold wsX2_hold RX2 RX2 68 yX2_entryAt cX2_entryAt 5 (some .int) wsX2_entryAt rm_X2_entryAt 1 := ⟨gX2_hold_X2_entryAt, ⟨_, rfl⟩, rfl, rfl, ⟨rfl, by decide +kernel, by decide +kernel, by decide +kernel⟩, by decide, by decide⟩
theorem k_X2_hold_X2_seedBehind : CS rm_X2_hold wsX2_hold RX2 64 yX2_seedBehind cX2_seedBehind 2 (some .int) wsX2_seedBehind rm_X2_seedBehind 1 := ⟨gX2_hold_X2_seedBehind, ⟨_, rfl⟩, rfl, rfl, ⟨rfl, by decide +kernel, by decide +kernel, by decide +kernel⟩, by decide, by decide⟩
set_option maxHeartbeats 4000000 in
set_option maxRecDepth 100000 in
theorem c_X2_hold (l : Launch) (G : MG) (hA : Ap 203 G.2.2) (z : St) {s : Int32} {p : Int32} (hE : z 66 0 = nI (cn (z 66 0)) ∧ cn (z 66 0) ≤ 40) : CIc l G yX2_hold wsX2_hold rm_X2_hold [.ref (G.2.2 195), .int s, .int p] z (fun ρ ζ => ρ = (hq z s p (cn (z 66 0))).2.1 ∧ ζ = (hq z s p (cn (z 66 0))).1) := by
  refine ci_of (own := RX2) (cc := cX2_hold) (maxL := 8) (ret := .int) (by decide +kernel) rfl rfl ?_ (Nat.le_of_ble_eq_true rfl) (KQ_mv (ExC_mv G)) ?_
  · intro v z' _; rfl
  · intro X hX ret
    refine g_lv (lv' := [(0, .ref (G.2.2 195)), (1, .int s), (2, .int p)]) rfl ?_
    refine g_iload_n hX 1 dX2_hold_0 rfl ?_
    refine g_istore_n hX [(3, .int s), (0, .ref (G.2.2 195)), (1, .int s), (2, .int p)] dX2_hold_1 (by decide) rfl ?_
    refine g_iload_n hX 3 dX2_hold_2 rfl ?_
    refine g_istore hX [(4, .int p), (3, .int s), (0, .ref (G.2.2 195)), (1, .int s), (2, .int p)] dX2_hold_3 (by decide) rfl ?_
    refine g_aload_n hX 2 dX2_hold_5 rfl ?_
    refine c_g_Draw_6 hX i_X2_hold_wsX20 (List.mem_of_getElem? (i := 1) rfl) dX2_hold_6 ?_
    refine g_istore hX [(5, .int (z 67 0)), (4, .int p), (3, .int s), (0, .ref (G.2.2 195)), (1, .int s), (2, .int p)] dX2_hold_9 (by decide) rfl ?_
    refine g_iconst hX 0 dX2_hold_11 (by decide) ?_
    refine g_istore hX [(6, .int 0), (5, .int (z 67 0)), (4, .int p), (3, .int s), (0, .ref (G.2.2 195)), (1, .int s), (2, .int p)] dX2_hold_12 (by decide) rfl ?_
    have loop14 : ∀ (nf : Nat) (k : Nat), (cn (z 66 0) < k + nf) → (k ≤ cn (z 66 0)) → Go X (clrD z k) 14 [(0, .ref (G.2.2 195)), (1, .int s), (2, .int p), (3, .int s), (4, .int p), (5, .int (z 67 0)), (6, .int (nI k))] [] := by
      intro nf
      induction nf with
      | zero =>
        intro k hmu hk
        exfalso; omega
      | succ nf ih =>
        intro k hmu hk
        refine g_iload hX 6 dX2_hold_14 rfl ?_
        refine g_aload_n hX 0 dX2_hold_16 rfl ?_
        refine c_g_Draw_5 hX i_X2_hold_wsX20 (List.mem_of_getElem? (i := 2) rfl) dX2_hold_17 ?_
        refine g_ic_ge hX 37 dX2_hold_20 (by decide) (fun c1 => ?_) (fun c1 => ?_)
        · -- jump 37
          have hke : k = cn (z 66 0) := by
            rw [clrD_lo (by decide), hE.1] at c1; have := (nI_leI (by omega) (by omega)).mp c1; omega
          subst hke
          refine g_iconst hX 0 dX2_hold_37 (by decide) ?_
          refine g_istore hX [(6, .int 0), (0, .ref (G.2.2 195)), (1, .int s), (2, .int p), (3, .int s), (4, .int p), (5, .int (z 67 0))] dX2_hold_38 (by decide) rfl ?_
          have loop40 : ∀ (nf : Nat) (k : Nat) (y : St) (sd : Int32) (pl : Int32) (lf : Int32), (cn (z 66 0) < k + nf) → (k ≤ cn (z 66 0)) → (hq z s p k = (y, sd, pl, lf)) → Go X (y) 40 [(0, .ref (G.2.2 195)), (1, .int s), (2, .int p), (3, .int sd), (4, .int pl), (5, .int lf), (6, .int (nI k))] [] := by
            intro nf
            induction nf with
            | zero =>
              intro k y sd pl lf hmu hk he
              exfalso; omega
            | succ nf ih =>
              intro k y sd pl lf hmu hk he
              have hlo : ∀ f, f ≠ 64 ∧ f ≠ 65 → y f = z f := fun f hf => by have h := hq_lo z s p k hf; rw [he] at h; exact h
              have h66 : y 66 0 = z 66 0 := by rw [hlo 66 (by decide)]
              refine g_iload hX 6 dX2_hold_40 rfl ?_
              refine g_aload_n hX 0 dX2_hold_42 rfl ?_
              refine c_g_Draw_5 hX i_X2_hold_wsX20 (List.mem_of_getElem? (i := 2) rfl) dX2_hold_43 ?_
              refine g_ic_ge hX 141 dX2_hold_46 (by decide) (fun c2 => ?_) (fun c2 => ?_)
              · -- jump 141
                have hke : hq z s p (cn (z 66 0)) = (y, sd, pl, lf) := by
                  rw [h66, hE.1] at c2; have := (nI_leI (by omega) (by omega)).mp c2; rw [show cn (z 66 0) = k from by omega]; exact he
                refine g_iload_n hX 3 dX2_hold_141 rfl ?_
                refine ret _ _ _ _ dX2_hold_142 ?_
                rw [hke]; exact ⟨rfl, rfl⟩
              · -- on 49
                have hkn : k < cn (z 66 0) := by
                  rw [h66, hE.1] at c2; exact Nat.lt_of_not_le (fun q => c2 (nI_le q (by omega)))
                refine g_iload hX 5 dX2_hold_49 rfl ?_
                refine g_if_le hX 141 dX2_hold_51 (by decide) (fun c3 => ?_) (fun c3 => ?_)
                · -- jump 141
                  have hke : hq z s p (cn (z 66 0)) = (y, sd, pl, lf) := by
                    rw [← he]; exact holdK_stop (by show (hq z s p k).2.2.2 ≤ 0; rw [he]; exact c3) _ hk
                  refine g_iload_n hX 3 dX2_hold_141 rfl ?_
                  refine ret _ _ _ _ dX2_hold_142 ?_
                  rw [hke]; exact ⟨rfl, rfl⟩
                · -- on 54
                  have hlf : ¬ lf ≤ 0 := c3
                  have hne : ¬ lf = 0 := fun e => c3 (by rw [e]; exact Int32.le_refl 0)
                  refine g_iload_n hX 3 dX2_hold_54 rfl ?_
                  refine g_csE hX (As := [.int sd]) (rest := []) (c_X2_seedBehind l G y (s := sd) ) k_X2_hold_X2_seedBehind rfl rfl (Nat.le_of_ble_eq_true rfl) dX2_hold_55 ?_
                  refine g_istore_n hX [(3, .int (seedN sd)), (0, .ref (G.2.2 195)), (1, .int s), (2, .int p), (4, .int pl), (5, .int lf), (6, .int (nI k))] dX2_hold_58 (by decide) rfl ?_
                  refine g_aload_n hX 1 dX2_hold_59 rfl ?_
                  refine g_iload_n hX 0 dX2_hold_60 rfl ?_
                  refine g_iload hX 5 dX2_hold_61 rfl ?_
                  refine g_irem hX dX2_hold_63 hne ?_
                  refine g_cvE hX (As := [.int ((seedN sd) - (seedN sd) / lf * lf)]) (rest := []) (c_X2_entryAt l G y (x := ((seedN sd) - (seedN sd) / lf * lf)) (hE := (by rw [h66]; exact hE))) k_X2_hold_X2_entryAt rc_Draw rfl rfl (Nat.le_of_ble_eq_true rfl) dX2_hold_64 ?_
                  have hj := entS_in y (seedN sd - seedN sd / lf * lf) (E := cn (z 66 0)) (by omega) (by omega)
                  refine g_top ((entS y (seedN sd - seedN sd / lf * lf) (cn (z 66 0))).2) (by rw [h66]) ?_
                  refine g_istore hX [(7, .int ((entS y (seedN sd - seedN sd / lf * lf) (cn (z 66 0))).2)), (3, .int (seedN sd)), (0, .ref (G.2.2 195)), (1, .int s), (2, .int p), (4, .int pl), (5, .int lf), (6, .int (nI k))] dX2_hold_67 (by decide) rfl ?_
                  refine g_aload_n hX 2 dX2_hold_69 rfl ?_
                  refine c_g_Draw_3 hX i_X2_hold_wsX20 (List.mem_of_getElem? (i := 3) rfl) dX2_hold_70 ?_
                  refine g_iload hX 0 dX2_hold_73 rfl ?_
                  refine g_iconst hX 1 dX2_hold_75 (by decide) ?_
                  refine c_st_drawn hX hA (cn (entS y (seedN sd - seedN sd / lf * lf) (cn (z 66 0))).2) hj.1 (by omega) (Or.inr rfl) dX2_hold_76 ?_
                  refine g_iload hX 6 dX2_hold_77 rfl ?_
                  refine g_aload_n hX 2 dX2_hold_79 rfl ?_
                  refine c_g_Draw_2 hX i_X2_hold_wsX20 (List.mem_of_getElem? (i := 4) rfl) dX2_hold_80 ?_
                  refine g_iload hX 0 dX2_hold_83 rfl ?_
                  refine c_ld_tickets hX (cn (entS y (seedN sd - seedN sd / lf * lf) (cn (z 66 0))).2) hj.1 (by omega) dX2_hold_85 ?_
                  refine g_top (y 63 (cn (entS y (seedN sd - seedN sd / lf * lf) (cn (z 66 0))).2)) (by simp [u2]) ?_
                  refine g_isub hX dX2_hold_86 ?_
                  refine g_istore hX [(5, .int (lf - (y 63 (cn (entS y (seedN sd - seedN sd / lf * lf) (cn (z 66 0))).2)))), (7, .int ((entS y (seedN sd - seedN sd / lf * lf) (cn (z 66 0))).2)), (3, .int (seedN sd)), (0, .ref (G.2.2 195)), (1, .int s), (2, .int p), (4, .int pl), (6, .int (nI k))] dX2_hold_87 (by decide) rfl ?_
                  refine g_aload_n hX 3 dX2_hold_89 rfl ?_
                  refine c_g_Draw_4 hX i_X2_hold_wsX20 (List.mem_of_getElem? (i := 5) rfl) dX2_hold_90 ?_
                  refine g_iload hX 1 dX2_hold_93 rfl ?_
                  refine g_aload_n hX 3 dX2_hold_95 rfl ?_
                  refine c_g_Draw_1 hX i_X2_hold_wsX20 (List.mem_of_getElem? (i := 6) rfl) dX2_hold_96 ?_
                  refine g_iload hX 1 dX2_hold_99 rfl ?_
                  refine c_ld_parties hX (cn (entS y (seedN sd - seedN sd / lf * lf) (cn (z 66 0))).2) hj.1 (by omega) dX2_hold_101 ?_
                  refine g_top (y 62 (cn (entS y (seedN sd - seedN sd / lf * lf) (cn (z 66 0))).2)) (by simp [u2]) ?_
                  refine g_iload hX 6 dX2_hold_102 rfl ?_
                  refine g_ic_gt hX 111 dX2_hold_104 (by decide) (fun c4 => ?_) (fun c4 => ?_)
                  · -- jump 111
                    have hw := Int32.not_le.mpr c4
                    refine g_iconst hX 0 dX2_hold_111 (by decide) ?_
                    refine c_st_won hX hA (cn (entS y (seedN sd - seedN sd / lf * lf) (cn (z 66 0))).2) hj.1 (by omega) (Or.inl rfl) dX2_hold_112 ?_
                    refine g_aload_n hX 3 dX2_hold_113 rfl ?_
                    refine c_g_Draw_4 hX i_X2_hold_wsX20 (List.mem_of_getElem? (i := 5) rfl) dX2_hold_114 ?_
                    refine g_iload hX 1 dX2_hold_117 rfl ?_
                    refine c_ld_won hX (cn (entS y (seedN sd - seedN sd / lf * lf) (cn (z 66 0))).2) hj.1 (by omega) dX2_hold_119 ?_
                    refine g_top (0) (by simp [u2]) ?_
                    refine g_if_eq hX 135 dX2_hold_120 (by decide) (fun c5 => ?_) (fun c5 => ?_)
                    · -- jump 135
                      refine g_iinc hX (nI (k + 1)) 7 [(6, .int (nI (k + 1))), (5, .int (lf - (y 63 (cn (entS y (seedN sd - seedN sd / lf * lf) (cn (z 66 0))).2)))), (7, .int ((entS y (seedN sd - seedN sd / lf * lf) (cn (z 66 0))).2)), (3, .int (seedN sd)), (0, .ref (G.2.2 195)), (1, .int s), (2, .int p), (4, .int pl)] dX2_hold_135 rfl (nI_1 k) (by decide) rfl ?_
                      refine g_goto hX 40 dX2_hold_138 (by decide) ?_
                      -- back to 40
                      refine g_sub [4, 5, 6, 3, 7, 1, 0] [(0, .ref (G.2.2 195)), (1, .int s), (2, .int p), (3, .int (seedN sd)), (4, .int pl), (5, .int (lf - (y 63 (cn (entS y (seedN sd - seedN sd / lf * lf) (cn (z 66 0))).2)))), (6, .int (nI (k + 1)))] rfl ?_
                      exact ih (k + 1) (u2 (u2 y 64 (cn (entS y (seedN sd - seedN sd / lf * lf) (cn (z 66 0))).2) 1) 65 (cn (entS y (seedN sd - seedN sd / lf * lf) (cn (z 66 0))).2) 0) (seedN sd) pl (lf - (y 63 (cn (entS y (seedN sd - seedN sd / lf * lf) (cn (z 66 0))).2))) (by omega) (by omega) (by show hstp _ (hq z s p k) = _; rw [he]; simp [hstp, bi, hlf, hw])
                    · -- on 123
                      exact absurd c5 (by decide)
                  · -- on 107
                    have hw := Int32.not_lt.mp c4
                    refine g_iconst hX 1 dX2_hold_107 (by decide) ?_
                    refine g_goto hX 112 dX2_hold_108 (by decide) ?_
                    refine c_st_won hX hA (cn (entS y (seedN sd - seedN sd / lf * lf) (cn (z 66 0))).2) hj.1 (by omega) (Or.inr rfl) dX2_hold_112 ?_
                    refine g_aload_n hX 3 dX2_hold_113 rfl ?_
                    refine c_g_Draw_4 hX i_X2_hold_wsX20 (List.mem_of_getElem? (i := 5) rfl) dX2_hold_114 ?_
                    refine g_iload hX 1 dX2_hold_117 rfl ?_
                    refine c_ld_won hX (cn (entS y (seedN sd - seedN sd / lf * lf) (cn (z 66 0))).2) hj.1 (by omega) dX2_hold_119 ?_
                    refine g_top (1) (by simp [u2]) ?_
                    refine g_if_eq hX 135 dX2_hold_120 (by decide) (fun c6 => ?_) (fun c6 => ?_)
                    · -- jump 135
                      exact absurd c6 (by decide)
                    · -- on 123
                      refine g_iload hX 6 dX2_hold_123 rfl ?_
                      refine g_aload_n hX 3 dX2_hold_125 rfl ?_
                      refine c_g_Draw_1 hX i_X2_hold_wsX20 (List.mem_of_getElem? (i := 6) rfl) dX2_hold_126 ?_
                      refine g_iload hX 1 dX2_hold_129 rfl ?_
                      refine c_ld_parties hX (cn (entS y (seedN sd - seedN sd / lf * lf) (cn (z 66 0))).2) hj.1 (by omega) dX2_hold_131 ?_
                      refine g_top (y 62 (cn (entS y (seedN sd - seedN sd / lf * lf) (cn (z 66 0))).2)) (by simp [u2]) ?_
                      refine g_isub hX dX2_hold_132 ?_
                      refine g_istore hX [(4, .int (pl - (y 62 (cn (entS y (seedN sd - seedN sd / lf * lf) (cn (z 66 0))).2)))), (5, .int (lf - (y 63 (cn (entS y (seedN sd - seedN sd / lf * lf) (cn (z 66 0))).2)))), (7, .int ((entS y (seedN sd - seedN sd / lf * lf) (cn (z 66 0))).2)), (3, .int (seedN sd)), (0, .ref (G.2.2 195)), (1, .int s), (2, .int p), (6, .int (nI k))] dX2_hold_133 (by decide) rfl ?_
                      refine g_iinc hX (nI (k + 1)) 7 [(6, .int (nI (k + 1))), (4, .int (pl - (y 62 (cn (entS y (seedN sd - seedN sd / lf * lf) (cn (z 66 0))).2)))), (5, .int (lf - (y 63 (cn (entS y (seedN sd - seedN sd / lf * lf) (cn (z 66 0))).2)))), (7, .int ((entS y (seedN sd - seedN sd / lf * lf) (cn (z 66 0))).2)), (3, .int (seedN sd)), (0, .ref (G.2.2 195)), (1, .int s), (2, .int p)] dX2_hold_135 rfl (nI_1 k) (by decide) rfl ?_
                      refine g_goto hX 40 dX2_hold_138 (by decide) ?_
                      -- back to 40
                      refine g_sub [5, 6, 7, 4, 1, 2, 0] [(0, .ref (G.2.2 195)), (1, .int s), (2, .int p), (3, .int (seedN sd)), (4, .int (pl - (y 62 (cn (entS y (seedN sd - seedN sd / lf * lf) (cn (z 66 0))).2)))), (5, .int (lf - (y 63 (cn (entS y (seedN sd - seedN sd / lf * lf) (cn (z 66 0))).2)))), (6, .int (nI (k + 1)))] rfl ?_
                      exact ih (k + 1) (u2 (u2 y 64 (cn (entS y (seedN sd - seedN sd / lf * lf) (cn (z 66 0))).2) 1) 65 (cn (entS y (seedN sd - seedN sd / lf * lf) (cn (z 66 0))).2) 1) (seedN sd) (pl - (y 62 (cn (entS y (seedN sd - seedN sd / lf * lf) (cn (z 66 0))).2))) (lf - (y 63 (cn (entS y (seedN sd - seedN sd / lf * lf) (cn (z 66 0))).2))) (by omega) (by omega) (by show hstp _ (hq z s p k) = _; rw [he]; simp [hstp, bi, hlf, hw])
          refine g_sub [1, 2, 3, 4, 5, 6, 0] [(0, .ref (G.2.2 195)), (1, .int s), (2, .int p), (3, .int s), (4, .int p), (5, .int (z 67 0)), (6, .int 0)] rfl ?_
          exact loop40 (cn (z 66 0) + 1) 0 (clrD z (cn (z 66 0))) s p (z 67 0) (by omega) (Nat.zero_le _) rfl
        · -- on 23
          have hkn : k < cn (z 66 0) := by
            rw [clrD_lo (by decide), hE.1] at c1; exact Nat.lt_of_not_le (fun q => c1 (nI_le q (by omega)))
          refine g_aload_n hX 0 dX2_hold_23 rfl ?_
          refine c_g_Draw_3 hX i_X2_hold_wsX20 (List.mem_of_getElem? (i := 3) rfl) dX2_hold_24 ?_
          refine g_iload hX 6 dX2_hold_27 rfl ?_
          refine g_iconst hX 0 dX2_hold_29 (by decide) ?_
          refine c_st_drawn hX hA k rfl (by omega) (Or.inl rfl) dX2_hold_30 ?_
          refine g_iinc hX (nI (k + 1)) 6 [(6, .int (nI (k + 1))), (0, .ref (G.2.2 195)), (1, .int s), (2, .int p), (3, .int s), (4, .int p), (5, .int (z 67 0))] dX2_hold_31 rfl (nI_1 k) (by decide) rfl ?_
          refine g_goto hX 14 dX2_hold_34 (by decide) ?_
          -- back to 14
          refine g_sub [1, 2, 3, 4, 5, 6, 0] [(0, .ref (G.2.2 195)), (1, .int s), (2, .int p), (3, .int s), (4, .int p), (5, .int (z 67 0)), (6, .int (nI (k + 1)))] rfl ?_
          have ez : u2 (clrD z k) 64 k 0 = clrD z (k + 1) := by
            exact clrD_u2 z k
          refine g_z ez ?_
          exact ih (k + 1) (by omega) (by omega)
    refine g_sub [4, 5, 6, 3, 2, 1, 0] [(0, .ref (G.2.2 195)), (1, .int s), (2, .int p), (3, .int s), (4, .int p), (5, .int (z 67 0)), (6, .int 0)] rfl ?_
    have ez : z = clrD z 0 := by
      exact (clrD_0 z).symm
    refine g_z ez ?_
    exact loop14 (cn (z 66 0) + 1) 0 (by omega) (Nat.zero_le _)
def rm_X2_settle : Room := { frames := 1, cells := 0, slots := 0, locals := 21 }
theorem i_X2_settle_wsX00 : ∀ w ∈ wsX00, w ∈ wsX2_settle := fun w h => List.mem_cons_of_mem _ (List.mem_append_left _ (List.mem_append_right _ h))
theorem i_X2_settle_wsX10 : ∀ w ∈ wsX10, w ∈ wsX2_settle := fun w h => List.mem_cons_of_mem _ (List.mem_append_right _ h)
theorem i_X2_settle_wsX20 : ∀ w ∈ wsX20, w ∈ wsX2_settle := fun w h => List.mem_cons_of_mem _ (List.mem_append_left _ (List.mem_append_left _ (List.mem_append_left _ (List.mem_append_right _ h))))
theorem i_X2_settle_wsX30 : ∀ w ∈ wsX30, w ∈ wsX2_settle := fun w h => List.mem_cons_of_mem _ (List.mem_append_left _ (List.mem_append_left _ (List.mem_append_right _ h)))
theorem k_X2_settle_X3_givePermit : CW rm_X2_settle wsX2_settle RX2 RX3 73 yX3_givePermit cX3_givePermit 2 none wsX3_givePermit rm_X3_givePermit 1 := ⟨gX2_settle_X3_givePermit, ⟨_, rfl⟩, rfl, rfl, ⟨rfl, by decide +kernel, by decide +kernel, by decide +kernel⟩, by decide, by decide⟩
set_option maxHeartbeats 4000000 in
set_option maxRecDepth 100000 in
theorem c_X2_settle (l : Launch) (G : MG) (hA : Ap 203 G.2.2) (z : St)  (hE : z 66 0 = nI (cn (z 66 0)) ∧ cn (z 66 0) ≤ 40) (hN : ∀ e, e < cn (z 66 0) → ∃ a, a < nA z ∧ z 61 e = nI a) (hI : IO z) : CIc l G yX2_settle wsX2_settle rm_X2_settle [.ref (G.2.2 195), .ref (G.2.2 0)] z (fun ρ ζ => ρ = wonK z (cn (z 66 0)) ∧ ζ = settleK z (cn (z 66 0))) := by
  refine ci_of (own := RX2) (cc := cX2_settle) (maxL := 5) (ret := .int) (by decide +kernel) rfl rfl ?_ (Nat.le_of_ble_eq_true rfl) (KQ_mv (ExC_mv G)) ?_
  · intro v z' _; rfl
  · intro X hX ret
    refine g_lv (lv' := [(0, .ref (G.2.2 195)), (1, .ref (G.2.2 0))]) rfl ?_
    have h40 := (iNa hI).2
    refine g_iconst hX 0 dX2_settle_0 (by decide) ?_
    refine g_istore_n hX [(2, .int 0), (0, .ref (G.2.2 195)), (1, .ref (G.2.2 0))] dX2_settle_1 (by decide) rfl ?_
    refine g_iconst hX 0 dX2_settle_2 (by decide) ?_
    refine g_istore_n hX [(3, .int 0), (2, .int 0), (0, .ref (G.2.2 195)), (1, .ref (G.2.2 0))] dX2_settle_3 (by decide) rfl ?_
    have loop4 : ∀ (nf : Nat) (k : Nat) (y : St), (cn (z 66 0) < k + nf) → (k ≤ cn (z 66 0)) → (IO y) → (nA y = nA z) → (y = settleK z k) → Go X (y) 4 [(0, .ref (G.2.2 195)), (1, .ref (G.2.2 0)), (2, .int (wonK z k)), (3, .int (nI k))] [] := by
      intro nf
      induction nf with
      | zero =>
        intro k y hmu hk hIy hny hy
        exfalso; omega
      | succ nf ih =>
        intro k y hmu hk hIy hny hy
        have hlo : ∀ f, f ≠ 8 ∧ f ≠ 15 ∧ f ≠ 16 → y f = z f := fun f hf => by rw [hy]; exact settleK_lo z k hf
        have h66 : y 66 0 = z 66 0 := by rw [hlo 66 (by decide)]
        have h61 : y 61 = z 61 := hlo 61 (by decide)
        have h65 : y 65 = z 65 := hlo 65 (by decide)
        refine g_iload_n hX 3 dX2_settle_4 rfl ?_
        refine g_aload_n hX 0 dX2_settle_5 rfl ?_
        refine c_g_Draw_5 hX i_X2_settle_wsX20 (List.mem_of_getElem? (i := 1) rfl) dX2_settle_6 ?_
        refine g_ic_ge hX 85 dX2_settle_9 (by decide) (fun c1 => ?_) (fun c1 => ?_)
        · -- jump 85
          have hke : k = cn (z 66 0) := by
            rw [h66, hE.1] at c1; have := (nI_leI (by omega) (by omega)).mp c1; omega
          refine g_iload_n hX 2 dX2_settle_85 rfl ?_
          refine ret _ _ _ _ dX2_settle_86 ?_
          exact ⟨by rw [hke], by rw [hy, hke]⟩
        · -- on 12
          have hkn : k < cn (z 66 0) := by
            rw [h66, hE.1] at c1; exact Nat.lt_of_not_le (fun q => c1 (nI_le q (by omega)))
          have hN1 : y 61 k = nI (cn (y 61 k)) ∧ cn (y 61 k) < nA z := by
            obtain ⟨a, h1, h2⟩ := hN k hkn
            rw [h61, h2, cn_nI (by omega)]; exact ⟨rfl, h1⟩
          refine g_aload_n hX 1 dX2_settle_12 rfl ?_
          refine c_g_Office_6 hX i_X2_settle_wsX30 (List.mem_of_getElem? (i := 2) rfl) dX2_settle_13 ?_
          refine g_aload_n hX 0 dX2_settle_16 rfl ?_
          refine c_g_Draw_0 hX i_X2_settle_wsX20 (List.mem_of_getElem? (i := 3) rfl) dX2_settle_17 ?_
          refine g_iload_n hX 3 dX2_settle_20 rfl ?_
          refine c_ld_numbers hX k rfl (by omega) dX2_settle_21 ?_
          refine c_ld_applications hX (cn (y 61 k)) hN1.1 (by omega) dX2_settle_22 ?_
          refine g_astore hX [(4, .ref (G.2.2 (24 + (cn (y 61 k))))), (0, .ref (G.2.2 195)), (1, .ref (G.2.2 0)), (2, .int (wonK z k)), (3, .int (nI k))] dX2_settle_23 (by decide) rfl ?_
          refine g_aload_n hX 1 dX2_settle_25 rfl ?_
          refine c_g_Draw_4 hX i_X2_settle_wsX20 (List.mem_of_getElem? (i := 4) rfl) dX2_settle_26 ?_
          refine g_iload_n hX 4 dX2_settle_29 rfl ?_
          refine c_ld_won hX k rfl (by omega) dX2_settle_30 ?_
          refine g_if_eq hX 60 dX2_settle_31 (by decide) (fun c2 => ?_) (fun c2 => ?_)
          · -- jump 60
            refine g_aload_n hX 2 dX2_settle_60 rfl ?_
            refine c_g_Office_5 hX i_X2_settle_wsX30 (List.mem_of_getElem? (i := 5) rfl) dX2_settle_61 ?_
            refine g_aload hX 0 dX2_settle_64 rfl ?_
            refine c_g_Application_0 hX (by omega) i_X2_settle_wsX00 (List.mem_of_getElem? (i := 6) rfl) dX2_settle_66 ?_
            refine c_ld_climbers hX (cn (y 11 (cn (y 61 k)))) (iC hIy (by omega)).1 (iC hIy (by omega)).2 dX2_settle_69 ?_
            refine g_dup hX dX2_settle_70 rfl ?_
            refine c_g_Climber_0 hX (iC hIy (by omega)).2 i_X2_settle_wsX10 (List.mem_of_getElem? (i := 7) rfl) dX2_settle_71 ?_
            refine g_iconst hX 1 dX2_settle_74 (by decide) ?_
            refine g_iadd hX dX2_settle_75 ?_
            refine c_p_Climber_0 hX hA (iC hIy (by omega)).2 i_X2_settle_wsX10 (List.mem_of_getElem? (i := 7) rfl) dX2_settle_76 ?_
            refine g_iinc hX (nI (k + 1)) 4 [(3, .int (nI (k + 1))), (4, .ref (G.2.2 (24 + (cn (y 61 k))))), (0, .ref (G.2.2 195)), (1, .ref (G.2.2 0)), (2, .int (wonK z k))] dX2_settle_79 rfl (nI_1 k) (by decide) rfl ?_
            refine g_goto hX 4 dX2_settle_82 (by decide) ?_
            -- back to 4
            refine g_sub [2, 3, 4, 0] [(0, .ref (G.2.2 195)), (1, .ref (G.2.2 0)), (2, .int (wonK z k)), (3, .int (nI (k + 1)))] rfl ?_
            have hm1 : u2 y 8 (cn (y 11 (cn (y 61 k)))) ((y 8 (cn (y 11 (cn (y 61 k))))) + 1) = settle1 y k := by simp [settle1, c1, c2]
            have e2 : (wonK z k : Int32) = wonK z (k + 1) := by
              simp [wonK, ← h65, c1, c2]
            refine g_lv (lv' := [(0, .ref (G.2.2 195)), (1, .ref (G.2.2 0)), (2, .int (wonK z (k + 1))), (3, .int (nI (k + 1)))]) (by rw [e2]) ?_
            exact ih (k + 1) (u2 y 8 (cn (y 11 (cn (y 61 k)))) ((y 8 (cn (y 11 (cn (y 61 k))))) + 1)) (by omega) (by omega) (by rw [hm1]; exact IO_of hIy (fun f hf => settle1_lo y k (by omega))) (by rw [hm1]; exact (nA_of (settle1_lo y k (by omega))).trans hny) (by rw [hm1, settleK, ← hy])
          · -- on 34
            refine g_aload_n hX 2 dX2_settle_34 rfl ?_
            refine g_aload hX 0 dX2_settle_35 rfl ?_
            refine g_cvvE hX (As := [.ref (G.2.2 (24 + (cn (y 61 k))))]) (rest := []) (c_X3_givePermit l G hA y (a := (cn (y 61 k))) (ha := (by omega))) k_X2_settle_X3_givePermit rc_Office0 rfl rfl (Nat.le_of_ble_eq_true rfl) dX2_settle_37 ?_
            refine g_aload_n hX 2 dX2_settle_40 rfl ?_
            refine c_g_Office_5 hX i_X2_settle_wsX30 (List.mem_of_getElem? (i := 5) rfl) dX2_settle_41 ?_
            refine g_aload hX 0 dX2_settle_44 rfl ?_
            refine c_g_Application_0 hX (by omega) i_X2_settle_wsX00 (List.mem_of_getElem? (i := 6) rfl) dX2_settle_46 ?_
            refine g_top (y 11 (cn (y 61 k))) (by simp [permit, u2]) ?_
            refine c_ld_climbers hX (cn (y 11 (cn (y 61 k)))) (iC hIy (by omega)).1 (iC hIy (by omega)).2 dX2_settle_49 ?_
            refine g_iconst hX 0 dX2_settle_50 (by decide) ?_
            refine c_p_Climber_0 hX hA (iC hIy (by omega)).2 i_X2_settle_wsX10 (List.mem_of_getElem? (i := 7) rfl) dX2_settle_51 ?_
            refine g_iinc hX ((wonK z k) + 1) 3 [(2, .int ((wonK z k) + 1)), (4, .ref (G.2.2 (24 + (cn (y 61 k))))), (0, .ref (G.2.2 195)), (1, .ref (G.2.2 0)), (3, .int (nI k))] dX2_settle_54 rfl rfl (by decide) rfl ?_
            refine g_goto hX 79 dX2_settle_57 (by decide) ?_
            refine g_iinc hX (nI (k + 1)) 4 [(3, .int (nI (k + 1))), (2, .int ((wonK z k) + 1)), (4, .ref (G.2.2 (24 + (cn (y 61 k))))), (0, .ref (G.2.2 195)), (1, .ref (G.2.2 0))] dX2_settle_79 rfl (nI_1 k) (by decide) rfl ?_
            refine g_goto hX 4 dX2_settle_82 (by decide) ?_
            -- back to 4
            refine g_sub [3, 4, 1, 0] [(0, .ref (G.2.2 195)), (1, .ref (G.2.2 0)), (2, .int ((wonK z k) + 1)), (3, .int (nI (k + 1)))] rfl ?_
            have hm1 : u2 (permit y (cn (y 61 k))) 8 (cn (y 11 (cn (y 61 k)))) 0 = settle1 y k := by simp [settle1, c1, c2]
            have e2 : ((wonK z k) + 1 : Int32) = wonK z (k + 1) := by
              simp [wonK, ← h65, c1, c2]
            refine g_lv (lv' := [(0, .ref (G.2.2 195)), (1, .ref (G.2.2 0)), (2, .int (wonK z (k + 1))), (3, .int (nI (k + 1)))]) (by rw [e2]) ?_
            exact ih (k + 1) (u2 (permit y (cn (y 61 k))) 8 (cn (y 11 (cn (y 61 k)))) 0) (by omega) (by omega) (by rw [hm1]; exact IO_of hIy (fun f hf => settle1_lo y k (by omega))) (by rw [hm1]; exact (nA_of (settle1_lo y k (by omega))).trans hny) (by rw [hm1, settleK, ← hy])
    refine g_sub [2, 3, 1, 0] [(0, .ref (G.2.2 195)), (1, .ref (G.2.2 0)), (2, .int 0), (3, .int 0)] rfl ?_
    exact loop4 (cn (z 66 0) + 1) 0 z (by omega) (Nat.zero_le _) hI rfl rfl
