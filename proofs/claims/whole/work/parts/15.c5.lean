def rm_X4_digitHere : Room := { frames := 0, cells := 0, slots := 0, locals := 0 }
theorem i_X4_digitHere_wsX40 : ∀ w ∈ wsX40, w ∈ wsX4_digitHere := fun w h => List.mem_cons_of_mem _ (List.mem_append_right _ h)
set_option maxHeartbeats 4000000 in
set_option maxRecDepth 100000 in
theorem c_X4_digitHere (l : Launch) (G : MG) (z : St) {p : Nat} (hP : PO z) (hp : z 70 0 = nI p) (hpl : p ≤ lenN z) : CIc l G yX4_digitHere wsX4_digitHere rm_X4_digitHere [.ref (G.2.2 201)] z (fun r z' => r = digP z p ∧ z' = z) := by
  refine ci_of (own := RX4) (cc := cX4_digitHere) (maxL := 1) (ret := .int) (by decide +kernel) rfl rfl ?_ (Nat.le_of_ble_eq_true rfl) (KQ_mv (ExC_mv G)) ?_
  · intro v z' _; rfl
  · intro X hX ret
    refine g_lv (lv' := [(0, .ref (G.2.2 201))]) rfl ?_
    obtain ⟨e69, h60⟩ := pL hP
    refine g_aload_n hX 0 dX4_digitHere_0 rfl ?_
    refine c_g_Pad_2 hX i_X4_digitHere_wsX40 (List.mem_of_getElem? (i := 1) rfl) dX4_digitHere_1 ?_
    refine g_aload_n hX 0 dX4_digitHere_4 rfl ?_
    refine c_g_Pad_1 hX i_X4_digitHere_wsX40 (List.mem_of_getElem? (i := 2) rfl) dX4_digitHere_5 ?_
    refine g_ic_ge hX 39 dX4_digitHere_8 (by decide) (fun c1 => ?_) (fun c1 => ?_)
    · -- jump 39
      have hge : ¬ p < lenN z := by
        rw [hp, e69] at c1; have := (nI_leI (by omega) (by omega)).mp c1; omega
      refine g_iconst hX (-1) dX4_digitHere_39 (by decide) ?_
      refine ret _ _ _ _ dX4_digitHere_40 ?_
      refine ⟨?_, rfl⟩
      first | (simp [digP, c1, hlt, ← Int32.not_lt]; done) | (simp [digP, hge]; done) | (unfold digP; simp [hlt, c1]; done) | (unfold digP; grind)
    · -- on 11
      have hlt : p < lenN z := by
        rw [hp, e69] at c1; exact Nat.lt_of_not_le (fun q => c1 (nI_le q (by omega)))
      refine g_aload_n hX 0 dX4_digitHere_11 rfl ?_
      refine c_g_Pad_0 hX i_X4_digitHere_wsX40 (List.mem_of_getElem? (i := 3) rfl) dX4_digitHere_12 ?_
      refine g_aload_n hX 0 dX4_digitHere_15 rfl ?_
      refine c_g_Pad_2 hX i_X4_digitHere_wsX40 (List.mem_of_getElem? (i := 1) rfl) dX4_digitHere_16 ?_
      refine c_ld_signs hX p hp (by omega) dX4_digitHere_19 ?_
      refine g_bipush hX 48 dX4_digitHere_20 (by decide) ?_
      refine g_ic_lt hX 39 dX4_digitHere_22 (by decide) (fun c2 => ?_) (fun c2 => ?_)
      · -- jump 39
        refine g_iconst hX (-1) dX4_digitHere_39 (by decide) ?_
        refine ret _ _ _ _ dX4_digitHere_40 ?_
        refine ⟨?_, rfl⟩
        first | (simp [digP, c1, c2, hlt, ← Int32.not_lt]; done) | (simp [digP, hge]; done) | (unfold digP; simp [hlt, c1, c2]; done) | (unfold digP; grind)
      · -- on 25
        refine g_aload_n hX 0 dX4_digitHere_25 rfl ?_
        refine c_g_Pad_0 hX i_X4_digitHere_wsX40 (List.mem_of_getElem? (i := 3) rfl) dX4_digitHere_26 ?_
        refine g_aload_n hX 0 dX4_digitHere_29 rfl ?_
        refine c_g_Pad_2 hX i_X4_digitHere_wsX40 (List.mem_of_getElem? (i := 1) rfl) dX4_digitHere_30 ?_
        refine c_ld_signs hX p hp (by omega) dX4_digitHere_33 ?_
        refine g_bipush hX 57 dX4_digitHere_34 (by decide) ?_
        refine g_ic_le hX 41 dX4_digitHere_36 (by decide) (fun c3 => ?_) (fun c3 => ?_)
        · -- jump 41
          refine g_aload_n hX 0 dX4_digitHere_41 rfl ?_
          refine c_g_Pad_0 hX i_X4_digitHere_wsX40 (List.mem_of_getElem? (i := 3) rfl) dX4_digitHere_42 ?_
          refine g_aload_n hX 0 dX4_digitHere_45 rfl ?_
          refine c_g_Pad_2 hX i_X4_digitHere_wsX40 (List.mem_of_getElem? (i := 1) rfl) dX4_digitHere_46 ?_
          refine c_ld_signs hX p hp (by omega) dX4_digitHere_49 ?_
          refine g_bipush hX 48 dX4_digitHere_50 (by decide) ?_
          refine g_isub hX dX4_digitHere_52 ?_
          refine ret _ _ _ _ dX4_digitHere_53 ?_
          refine ⟨?_, rfl⟩
          first | (simp [digP, c1, c2, c3, hlt, ← Int32.not_lt]; done) | (simp [digP, hge]; done) | (unfold digP; simp [hlt, c1, c2, c3]; done) | (unfold digP; grind)
        · -- on 39
          refine g_iconst hX (-1) dX4_digitHere_39 (by decide) ?_
          refine ret _ _ _ _ dX4_digitHere_40 ?_
          refine ⟨?_, rfl⟩
          first | (simp [digP, c1, c2, c3, hlt, ← Int32.not_lt]; done) | (simp [digP, hge]; done) | (unfold digP; simp [hlt, c1, c2, c3]; done) | (unfold digP; grind)
def rm_X4_readSign : Room := { frames := 0, cells := 0, slots := 0, locals := 0 }
theorem i_X4_readSign_wsX40 : ∀ w ∈ wsX40, w ∈ wsX4_readSign := fun w h => List.mem_cons_of_mem _ (List.mem_append_right _ h)
set_option maxHeartbeats 4000000 in
set_option maxRecDepth 100000 in
theorem c_X4_readSign (l : Launch) (G : MG) (hA : Ap 203 G.2.2) (z : St) {s : Int32} {p : Nat} (hP : PO z) (hp : z 70 0 = nI p) (hpl : p ≤ lenN z) : CIc l G yX4_readSign wsX4_readSign rm_X4_readSign [.ref (G.2.2 201), .int s] z (fun r z' => r = bi (sgnP z s p) ∧ z' = (if sgnP z s p then u2 z 70 0 (nI (p + 1)) else z)) := by
  refine ci_of (own := RX4) (cc := cX4_readSign) (maxL := 2) (ret := .boolean) (by decide +kernel) rfl rfl ?_ (Nat.le_of_ble_eq_true rfl) (KQ_mv (ExC_mv G)) ?_
  · rintro v z' ⟨rfl, -⟩; exact nz_bi _
  · intro X hX ret
    refine g_lv (lv' := [(0, .ref (G.2.2 201)), (1, .int s)]) rfl ?_
    obtain ⟨e69, h60⟩ := pL hP
    refine g_aload_n hX 0 dX4_readSign_0 rfl ?_
    refine c_g_Pad_2 hX i_X4_readSign_wsX40 (List.mem_of_getElem? (i := 1) rfl) dX4_readSign_1 ?_
    refine g_aload_n hX 0 dX4_readSign_4 rfl ?_
    refine c_g_Pad_1 hX i_X4_readSign_wsX40 (List.mem_of_getElem? (i := 2) rfl) dX4_readSign_5 ?_
    refine g_ic_ge hX 24 dX4_readSign_8 (by decide) (fun c1 => ?_) (fun c1 => ?_)
    · -- jump 24
      have hge : ¬ p < lenN z := by
        rw [hp, e69] at c1; have := (nI_leI (by omega) (by omega)).mp c1; omega
      refine g_iconst hX 0 dX4_readSign_24 (by decide) ?_
      refine ret _ _ _ _ dX4_readSign_25 ?_
      first | (rw [bi_f, if_neg] <;> first | exact ⟨rfl, rfl⟩ | (intro h; exact hge h.1)) | (rw [bi_f, if_neg] <;> first | exact ⟨rfl, rfl⟩ | (intro h; exact c2 h.2)) | (rw [bi_t ⟨hlt, by simpa using c2⟩, if_pos ⟨hlt, by simpa using c2⟩]; exact ⟨rfl, by rw [hp]; congr 1; exact nI_1 p⟩)
    · -- on 11
      have hlt : p < lenN z := by
        rw [hp, e69] at c1; exact Nat.lt_of_not_le (fun q => c1 (nI_le q (by omega)))
      refine g_aload_n hX 0 dX4_readSign_11 rfl ?_
      refine c_g_Pad_0 hX i_X4_readSign_wsX40 (List.mem_of_getElem? (i := 3) rfl) dX4_readSign_12 ?_
      refine g_aload_n hX 0 dX4_readSign_15 rfl ?_
      refine c_g_Pad_2 hX i_X4_readSign_wsX40 (List.mem_of_getElem? (i := 1) rfl) dX4_readSign_16 ?_
      refine c_ld_signs hX p hp (by omega) dX4_readSign_19 ?_
      refine g_iload_n hX 1 dX4_readSign_20 rfl ?_
      refine g_ic_eq hX 26 dX4_readSign_21 (by decide) (fun c2 => ?_) (fun c2 => ?_)
      · -- jump 26
        refine g_aload_n hX 0 dX4_readSign_26 rfl ?_
        refine g_dup hX dX4_readSign_27 rfl ?_
        refine c_g_Pad_2 hX i_X4_readSign_wsX40 (List.mem_of_getElem? (i := 1) rfl) dX4_readSign_28 ?_
        refine g_iconst hX 1 dX4_readSign_31 (by decide) ?_
        refine g_iadd hX dX4_readSign_32 ?_
        refine c_p_Pad_2 hX hA i_X4_readSign_wsX40 (List.mem_of_getElem? (i := 1) rfl) dX4_readSign_33 ?_
        refine g_iconst hX 1 dX4_readSign_36 (by decide) ?_
        refine ret _ _ _ _ dX4_readSign_37 ?_
        first | (rw [bi_f, if_neg] <;> first | exact ⟨rfl, rfl⟩ | (intro h; exact hge h.1)) | (rw [bi_f, if_neg] <;> first | exact ⟨rfl, rfl⟩ | (intro h; exact c2 h.2)) | (rw [bi_t ⟨hlt, by simpa using c2⟩, if_pos ⟨hlt, by simpa using c2⟩]; exact ⟨rfl, by rw [hp]; congr 1; exact nI_1 p⟩)
      · -- on 24
        refine g_iconst hX 0 dX4_readSign_24 (by decide) ?_
        refine ret _ _ _ _ dX4_readSign_25 ?_
        first | (rw [bi_f, if_neg] <;> first | exact ⟨rfl, rfl⟩ | (intro h; exact hge h.1)) | (rw [bi_f, if_neg] <;> first | exact ⟨rfl, rfl⟩ | (intro h; exact c2 h.2)) | (rw [bi_t ⟨hlt, by simpa using c2⟩, if_pos ⟨hlt, by simpa using c2⟩]; exact ⟨rfl, by rw [hp]; congr 1; exact nI_1 p⟩)
def rm_X4_readNumber : Room := { frames := 1, cells := 0, slots := 0, locals := 20 }
theorem i_X4_readNumber_wsX40 : ∀ w ∈ wsX40, w ∈ wsX4_readNumber := fun w h => List.mem_cons_of_mem _ (List.mem_append_right _ h)
theorem k_X4_readNumber_X4_digitHere : CW rm_X4_readNumber wsX4_readNumber RX4 RX4 52 yX4_digitHere cX4_digitHere 1 (some .int) wsX4_digitHere rm_X4_digitHere 0 := ⟨gX4_readNumber_X4_digitHere, ⟨_, rfl⟩, rfl, rfl, ⟨rfl, by decide +kernel, by decide +kernel, by decide +kernel⟩, by decide, by decide⟩
set_option maxHeartbeats 4000000 in
set_option maxRecDepth 100000 in
theorem c_X4_readNumber (l : Launch) (G : MG) (hA : Ap 203 G.2.2) (z : St) {lo : Int32} {hi : Int32} {p : Nat} (hP : PO z) (hp : z 70 0 = nI p) (hpl : p ≤ lenN z) : CIc l G yX4_readNumber wsX4_readNumber rm_X4_readNumber [.ref (G.2.2 201), .int lo, .int hi] z (fun r z' => r = (numP z lo hi p).1 ∧ z' = u2 z 70 0 (nI (numP z lo hi p).2)) := by
  refine ci_of (own := RX4) (cc := cX4_readNumber) (maxL := 6) (ret := .int) (by decide +kernel) rfl rfl ?_ (Nat.le_of_ble_eq_true rfl) (KQ_mv (ExC_mv G)) ?_
  · intro v z' _; rfl
  · intro X hX ret
    refine g_lv (lv' := [(0, .ref (G.2.2 201)), (1, .int lo), (2, .int hi)]) rfl ?_
    obtain ⟨e69, h60⟩ := pL hP
    have hself : z = u2 z 70 0 (nI p) := by funext f i; unfold u2; split
                                                   · rename_i h; rw [h.1, h.2, hp]
                                                   · rfl
    refine g_aload_n hX 0 dX4_readNumber_0 rfl ?_
    refine g_cv hX (As := []) (rest := []) (c_X4_digitHere l G z (p := p) (hP := (by assumption)) (hp := (by assumption)) (hpl := (by omega))) k_X4_readNumber_X4_digitHere rc_Pad rfl rfl (by decide) dX4_readNumber_1 (fun _ _ hp => ?_)
    obtain ⟨rfl, rfl⟩ := hp
    refine g_istore_n hX [(3, .int (digP z p)), (0, .ref (G.2.2 201)), (1, .int lo), (2, .int hi)] dX4_readNumber_4 (by decide) rfl ?_
    refine g_iload_n hX 0 dX4_readNumber_5 rfl ?_
    refine g_iconst hX (-1) dX4_readNumber_6 (by decide) ?_
    refine g_ic_eq hX 20 dX4_readNumber_7 (by decide) (fun c1 => ?_) (fun c1 => ?_)
    · -- jump 20
      refine g_iconst hX (-1) dX4_readNumber_20 (by decide) ?_
      refine ret _ _ _ _ dX4_readNumber_21 ?_
      first | (unfold numP; rw [if_pos (by simp [c1])]; exact ⟨rfl, hself⟩)
    · -- on 10
      refine g_iload_n hX 0 dX4_readNumber_10 rfl ?_
      refine g_iload_n hX 2 dX4_readNumber_11 rfl ?_
      refine g_ic_lt hX 20 dX4_readNumber_12 (by decide) (fun c2 => ?_) (fun c2 => ?_)
      · -- jump 20
        refine g_iconst hX (-1) dX4_readNumber_20 (by decide) ?_
        refine ret _ _ _ _ dX4_readNumber_21 ?_
        first | (unfold numP; rw [if_pos (by simp [c1, c2])]; exact ⟨rfl, hself⟩)
      · -- on 15
        refine g_iload_n hX 0 dX4_readNumber_15 rfl ?_
        refine g_iload_n hX 3 dX4_readNumber_16 rfl ?_
        refine g_ic_le hX 22 dX4_readNumber_17 (by decide) (fun c3 => ?_) (fun c3 => ?_)
        · -- jump 22
          refine g_aload_n hX 1 dX4_readNumber_22 rfl ?_
          refine g_dup hX dX4_readNumber_23 rfl ?_
          refine c_g_Pad_2 hX i_X4_readNumber_wsX40 (List.mem_of_getElem? (i := 1) rfl) dX4_readNumber_24 ?_
          refine g_iconst hX 1 dX4_readNumber_27 (by decide) ?_
          refine g_iadd hX dX4_readNumber_28 ?_
          refine c_p_Pad_2 hX hA i_X4_readNumber_wsX40 (List.mem_of_getElem? (i := 1) rfl) dX4_readNumber_29 ?_
          refine g_aload_n hX 1 dX4_readNumber_32 rfl ?_
          refine c_g_Pad_2 hX i_X4_readNumber_wsX40 (List.mem_of_getElem? (i := 1) rfl) dX4_readNumber_33 ?_
          refine g_top ((z 70 0) + 1) (by simp [u2]) ?_
          refine g_istore hX [(4, .int ((z 70 0) + 1)), (3, .int (digP z p)), (0, .ref (G.2.2 201)), (1, .int lo), (2, .int hi)] dX4_readNumber_36 (by decide) rfl ?_
          have loop38 : ∀ (n : Nat) (v : Int32) (k : Nat) (f : Nat) (y : St), (61 < k + n) → (k ≤ lenN z) → (61 ≤ f + k) → (y = u2 z 70 0 (nI k)) → (numL z hi f v k = numP z lo hi p) → Go X (y) 38 [(0, .ref (G.2.2 201)), (1, .int lo), (2, .int hi), (3, .int v), (4, .int (nI k))] [] := by
            intro n
            induction n with
            | zero =>
              intro v k f y hmu hk hf hy hr
              exfalso; omega
            | succ n ih =>
              intro v k f y hmu hk hf hy hr
              have hyP : PO y := PO_of hP (by rw [hy, u2_f (by decide)]) (by rw [hy, u2_f (by decide)])
              have hyl : lenN y = lenN z := by unfold lenN; rw [hy, u2_f (by decide)]
              have hyp : y 70 0 = nI k := by rw [hy, u2_s]
              have hyd : digP y k = digP z k := by unfold digP lenN; rw [hy, u2_f (by decide), u2_f (by decide)]
              have hy69 : y 69 0 = nI (lenN z) := by rw [hy, u2_f (by decide)]; exact e69
              refine g_iload_n hX 3 dX4_readNumber_38 rfl ?_
              refine g_if_le hX 102 dX4_readNumber_39 (by decide) (fun c4 => ?_) (fun c4 => ?_)
              · -- jump 102
                refine g_iload_n hX 3 dX4_readNumber_102 rfl ?_
                refine ret _ _ _ _ dX4_readNumber_103 ?_
                sorry
              · -- on 42
                refine g_iload hX 4 dX4_readNumber_42 rfl ?_
                refine g_aload_n hX 0 dX4_readNumber_44 rfl ?_
                refine c_g_Pad_1 hX i_X4_readNumber_wsX40 (List.mem_of_getElem? (i := 2) rfl) dX4_readNumber_45 ?_
                refine g_ic_ge hX 102 dX4_readNumber_48 (by decide) (fun c5 => ?_) (fun c5 => ?_)
                · -- jump 102
                  have hge : ¬ k < lenN z := by
                    rw [hy69] at c5; have := (nI_leI (by omega) (by omega)).mp c5; omega
                  refine g_iload_n hX 3 dX4_readNumber_102 rfl ?_
                  refine ret _ _ _ _ dX4_readNumber_103 ?_
                  sorry
                · -- on 51
                  have hkn : k < lenN z := by
                    rw [hy69] at c5; exact Nat.lt_of_not_le (fun q => c5 (nI_le q (by omega)))
                  refine g_aload_n hX 0 dX4_readNumber_51 rfl ?_
                  refine g_cv hX (As := []) (rest := []) (c_X4_digitHere l G y (p := k) (hP := hyP) (hp := hyp) (hpl := (by omega))) k_X4_readNumber_X4_digitHere rc_Pad rfl rfl (by decide) dX4_readNumber_52 (fun _ _ hp => ?_)
                  obtain ⟨rfl, rfl⟩ := hp
                  refine g_top (digP z k) (hyd) ?_
                  refine g_istore hX [(5, .int (digP z k)), (0, .ref (G.2.2 201)), (1, .int lo), (2, .int hi), (3, .int v), (4, .int (nI k))] dX4_readNumber_55 (by decide) rfl ?_
                  refine g_iload hX 0 dX4_readNumber_57 rfl ?_
                  refine g_iconst hX (-1) dX4_readNumber_59 (by decide) ?_
                  refine g_ic_ne hX 65 dX4_readNumber_60 (by decide) (fun c6 => ?_) (fun c6 => ?_)
                  · -- jump 65
                    refine g_bipush hX 10 dX4_readNumber_65 (by decide) ?_
                    refine g_iload_n hX 4 dX4_readNumber_67 rfl ?_
                    refine g_imul hX dX4_readNumber_68 ?_
                    refine g_iload hX 0 dX4_readNumber_69 rfl ?_
                    refine g_iadd hX dX4_readNumber_71 ?_
                    refine g_iload_n hX 3 dX4_readNumber_72 rfl ?_
                    refine g_ic_le hX 78 dX4_readNumber_73 (by decide) (fun c7 => ?_) (fun c7 => ?_)
                    · -- jump 78
                      refine g_bipush hX 10 dX4_readNumber_78 (by decide) ?_
                      refine g_iload_n hX 4 dX4_readNumber_80 rfl ?_
                      refine g_imul hX dX4_readNumber_81 ?_
                      refine g_iload hX 0 dX4_readNumber_82 rfl ?_
                      refine g_iadd hX dX4_readNumber_84 ?_
                      refine g_istore_n hX [(3, .int ((10 * v) + (digP z k))), (5, .int (digP z k)), (0, .ref (G.2.2 201)), (1, .int lo), (2, .int hi), (4, .int (nI k))] dX4_readNumber_85 (by decide) rfl ?_
                      refine g_aload_n hX 2 dX4_readNumber_86 rfl ?_
                      refine g_dup hX dX4_readNumber_87 rfl ?_
                      refine c_g_Pad_2 hX i_X4_readNumber_wsX40 (List.mem_of_getElem? (i := 1) rfl) dX4_readNumber_88 ?_
                      refine g_iconst hX 1 dX4_readNumber_91 (by decide) ?_
                      refine g_iadd hX dX4_readNumber_92 ?_
                      refine c_p_Pad_2 hX hA i_X4_readNumber_wsX40 (List.mem_of_getElem? (i := 1) rfl) dX4_readNumber_93 ?_
                      refine g_iinc hX (nI (k + 1)) 5 [(4, .int (nI (k + 1))), (3, .int ((10 * v) + (digP z k))), (5, .int (digP z k)), (0, .ref (G.2.2 201)), (1, .int lo), (2, .int hi)] dX4_readNumber_96 rfl (nI_1 k) (by decide) rfl ?_
                      refine g_goto hX 38 dX4_readNumber_99 (by decide) ?_
                      -- back to 38
                      refine g_sub [3, 4, 5, 1, 0] [(0, .ref (G.2.2 201)), (1, .int lo), (2, .int hi), (3, .int ((10 * v) + (digP z k))), (4, .int (nI (k + 1)))] rfl ?_
                      exact ih ((10 * v) + (digP z k)) (k + 1) (f - 1) (u2 y 70 0 ((y 70 0) + 1)) (by omega) (by omega) (by omega) (by rw [hyp, hy]; funext g i; unfold u2; split
                · rw [nI_1]
                · rfl) (by rw [← hr, show f = (f - 1) + 1 from by omega, numL, if_pos ⟨by simpa using c4, hkn⟩, if_neg, if_neg]
                · rfl
                · rw [← hyd]; simpa using c7
                · rw [← hyd]; simpa using c6)
                    · -- on 76
                      refine g_iconst hX (-1) dX4_readNumber_76 (by decide) ?_
                      refine ret _ _ _ _ dX4_readNumber_77 ?_
                      sorry
                  · -- on 63
                    refine g_iload_n hX 4 dX4_readNumber_63 rfl ?_
                    refine ret _ _ _ _ dX4_readNumber_64 ?_
                    sorry
          refine g_sub [2, 3, 4, 1, 0] [(0, .ref (G.2.2 201)), (1, .int lo), (2, .int hi), (3, .int (digP z p)), (4, .int ((z 70 0) + 1))] rfl ?_
          have e4 : ((z 70 0) + 1 : Int32) = nI (p + 1) := by
            rw [hp]; exact nI_1 p
          refine g_lv (lv' := [(0, .ref (G.2.2 201)), (1, .int lo), (2, .int hi), (3, .int (digP z p)), (4, .int (nI (p + 1)))]) (by rw [e4]) ?_
          exact loop38 (61 + 1) (digP z p) (p + 1) (61 - p - 1 + 1) (u2 z 70 0 ((z 70 0) + 1)) (by omega) (by omega) (by omega) (by congr 1; rw [hp]; exact nI_1 p) (by unfold numP; rw [if_neg (by simp [c1, c2, c3, ← Int32.not_lt])]; congr 1; omega)
        · -- on 20
          refine g_iconst hX (-1) dX4_readNumber_20 (by decide) ?_
          refine ret _ _ _ _ dX4_readNumber_21 ?_
          first | (unfold numP; rw [if_pos (by simp [c1, c2, c3])]; exact ⟨rfl, hself⟩)
