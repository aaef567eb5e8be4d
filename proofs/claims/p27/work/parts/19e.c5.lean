def rm_X4_digitHere : Room := { frames := 0, cells := 0, slots := 0, locals := 0 }
theorem i_X4_digitHere_wsX40 : ∀ w ∈ wsX40, w ∈ wsX4_digitHere := fun w h => List.mem_cons_of_mem _ (List.mem_append_right _ h)
set_option maxHeartbeats 4000000 in
set_option maxRecDepth 100000 in
theorem c_X4_digitHere (l : Launch) (G : MG) (z : St) {p : Nat} (hP : PO z) (hp : z 70 0 = nI p) (hpl : p ≤ lenN z) : CIc l G yX4_digitHere wsX4_digitHere rm_X4_digitHere [.ref (G.2.2 201)] z (fun ρ ζ => ρ = digP z p ∧ ζ = z) := by
  refine ci_of (own := RX4) (cc := cX4_digitHere) (maxL := 1) (ret := .int) (by decide +kernel) rfl rfl ?_ (Nat.le_of_ble_eq_true rfl) (KQ_mv (ExC_mv G)) ?_
  · intro v z' _; rfl
  · intro X hX ret
    refine g_lv (lv' := [(0, .ref (G.2.2 201))]) rfl ?_
    obtain ⟨e69, h60⟩ := pL hP
    refine g_aload_n hX 0 dX4_digitHere_0 rfl ?_
    refine c_g_Pad_2 hX i_X4_digitHere_wsX40 (List.mem_of_getElem? (i := 1) rfl) dX4_digitHere_1 ?_
    refine g_aload_n hX 0 dX4_digitHere_4 rfl ?_
    refine c_g_Pad_1 hX i_X4_digitHere_wsX40 (List.mem_of_getElem? (i := 2) rfl) dX4_digitHere_5 ?_
    refine g_ic_ge hX 39 dX4_digitHere_8 (by decide) (fun c1 => ?_) (fun c1 => ?_)
    · -- jump 39
      have hge : ¬ p < lenN z := by
        rw [hp, e69] at c1; have := (nI_leI (by omega) (by omega)).mp c1; omega
      refine g_iconst hX (-1) dX4_digitHere_39 (by decide) ?_
      refine ret _ _ _ _ dX4_digitHere_40 ?_
      refine ⟨?_, rfl⟩
      first | (simp [digP, c1, hlt, ← Int32.not_lt]; done) | (simp [digP, hge]; done) | (unfold digP; simp [hlt, c1]; done) | (unfold digP; grind)
    · -- on 11
      have hlt : p < lenN z := by
        rw [hp, e69] at c1; exact Nat.lt_of_not_le (fun q => c1 (nI_le q (by omega)))
      refine g_aload_n hX 0 dX4_digitHere_11 rfl ?_
      refine c_g_Pad_0 hX i_X4_digitHere_wsX40 (List.mem_of_getElem? (i := 3) rfl) dX4_digitHere_12 ?_
      refine g_aload_n hX 0 dX4_digitHere_15 rfl ?_
      refine c_g_Pad_2 hX i_X4_digitHere_wsX40 (List.mem_of_getElem? (i := 1) rfl) dX4_digitHere_16 ?_
      refine c_ld_signs hX p hp (by omega) dX4_digitHere_19 ?_
      refine g_bipush hX 48 dX4_digitHere_20 (by decide) ?_
      refine g_ic_lt hX 39 dX4_digitHere_22 (by decide) (fun c2 => ?_) (fun c2 => ?_)
      · -- jump 39
        refine g_iconst hX (-1) dX4_digitHere_39 (by decide) ?_
        refine ret _ _ _ _ dX4_digitHere_40 ?_
        refine ⟨?_, rfl⟩
        first | (simp [digP, c1, c2, hlt, ← Int32.not_lt]; done) | (simp [digP, hge]; done) | (unfold digP; simp [hlt, c1, c2]; done) | (unfold digP; grind)
      · -- on 25
        refine g_aload_n hX 0 dX4_digitHere_25 rfl ?_
        refine c_g_Pad_0 hX i_X4_digitHere_wsX40 (List.mem_of_getElem? (i := 3) rfl) dX4_digitHere_26 ?_
        refine g_aload_n hX 0 dX4_digitHere_29 rfl ?_
        refine c_g_Pad_2 hX i_X4_digitHere_wsX40 (List.mem_of_getElem? (i := 1) rfl) dX4_digitHere_30 ?_
        refine c_ld_signs hX p hp (by omega) dX4_digitHere_33 ?_
        refine g_bipush hX 57 dX4_digitHere_34 (by decide) ?_
        refine g_ic_le hX 41 dX4_digitHere_36 (by decide) (fun c3 => ?_) (fun c3 => ?_)
        · -- jump 41
          refine g_aload_n hX 0 dX4_digitHere_41 rfl ?_
          refine c_g_Pad_0 hX i_X4_digitHere_wsX40 (List.mem_of_getElem? (i := 3) rfl) dX4_digitHere_42 ?_
          refine g_aload_n hX 0 dX4_digitHere_45 rfl ?_
          refine c_g_Pad_2 hX i_X4_digitHere_wsX40 (List.mem_of_getElem? (i := 1) rfl) dX4_digitHere_46 ?_
          refine c_ld_signs hX p hp (by omega) dX4_digitHere_49 ?_
          refine g_bipush hX 48 dX4_digitHere_50 (by decide) ?_
          refine g_isub hX dX4_digitHere_52 ?_
          refine ret _ _ _ _ dX4_digitHere_53 ?_
          refine ⟨?_, rfl⟩
          first | (simp [digP, c1, c2, c3, hlt, ← Int32.not_lt]; done) | (simp [digP, hge]; done) | (unfold digP; simp [hlt, c1, c2, c3]; done) | (unfold digP; grind)
        · -- on 39
          refine g_iconst hX (-1) dX4_digitHere_39 (by decide) ?_
          refine ret _ _ _ _ dX4_digitHere_40 ?_
          refine ⟨?_, rfl⟩
          first | (simp [digP, c1, c2, c3, hlt, ← Int32.not_lt]; done) | (simp [digP, hge]; done) | (unfold digP; simp [hlt, c1, c2, c3]; done) | (unfold digP; grind)
def rm_X4_readSign : Room := { frames := 0, cells := 0, slots := 0, locals := 0 }
theorem i_X4_readSign_wsX40 : ∀ w ∈ wsX40, w ∈ wsX4_readSign := fun w h => List.mem_cons_of_mem _ (List.mem_append_right _ h)
set_option maxHeartbeats 4000000 in
set_option maxRecDepth 100000 in
theorem c_X4_readSign (l : Launch) (G : MG) (hA : Ap 203 G.2.2) (z : St) {s : Int32} {p : Nat} (hP : PO z) (hp : z 70 0 = nI p) (hpl : p ≤ lenN z) : CIc l G yX4_readSign wsX4_readSign rm_X4_readSign [.ref (G.2.2 201), .int s] z (fun ρ ζ => ρ = bi (sgnP z s p) ∧ ζ = (if sgnP z s p then u2 z 70 0 (nI (p + 1)) else z)) := by
  refine ci_of (own := RX4) (cc := cX4_readSign) (maxL := 2) (ret := .boolean) (by decide +kernel) rfl rfl ?_ (Nat.le_of_ble_eq_true rfl) (KQ_mv (ExC_mv G)) ?_
  · rintro v z' ⟨rfl, -⟩; exact nz_bi _
  · intro X hX ret
    refine g_lv (lv' := [(0, .ref (G.2.2 201)), (1, .int s)]) rfl ?_
    obtain ⟨e69, h60⟩ := pL hP
    refine g_aload_n hX 0 dX4_readSign_0 rfl ?_
    refine c_g_Pad_2 hX i_X4_readSign_wsX40 (List.mem_of_getElem? (i := 1) rfl) dX4_readSign_1 ?_
    refine g_aload_n hX 0 dX4_readSign_4 rfl ?_
    refine c_g_Pad_1 hX i_X4_readSign_wsX40 (List.mem_of_getElem? (i := 2) rfl) dX4_readSign_5 ?_
    refine g_ic_ge hX 24 dX4_readSign_8 (by decide) (fun c1 => ?_) (fun c1 => ?_)
    · -- jump 24
      have hge : ¬ p < lenN z := by
        rw [hp, e69] at c1; have := (nI_leI (by omega) (by omega)).mp c1; omega
      refine g_iconst hX 0 dX4_readSign_24 (by decide) ?_
      refine ret _ _ _ _ dX4_readSign_25 ?_
      first | (rw [bi_f, if_neg] <;> first | exact ⟨rfl, rfl⟩ | (intro h; exact hge h.1)) | (rw [bi_f, if_neg] <;> first | exact ⟨rfl, rfl⟩ | (intro h; exact c2 h.2)) | (rw [bi_t ⟨hlt, by simpa using c2⟩, if_pos ⟨hlt, by simpa using c2⟩]; exact ⟨rfl, by rw [hp]; congr 1; exact nI_1 p⟩)
    · -- on 11
      have hlt : p < lenN z := by
        rw [hp, e69] at c1; exact Nat.lt_of_not_le (fun q => c1 (nI_le q (by omega)))
      refine g_aload_n hX 0 dX4_readSign_11 rfl ?_
      refine c_g_Pad_0 hX i_X4_readSign_wsX40 (List.mem_of_getElem? (i := 3) rfl) dX4_readSign_12 ?_
      refine g_aload_n hX 0 dX4_readSign_15 rfl ?_
      refine c_g_Pad_2 hX i_X4_readSign_wsX40 (List.mem_of_getElem? (i := 1) rfl) dX4_readSign_16 ?_
      refine c_ld_signs hX p hp (by omega) dX4_readSign_19 ?_
      refine g_iload_n hX 1 dX4_readSign_20 rfl ?_
      refine g_ic_eq hX 26 dX4_readSign_21 (by decide) (fun c2 => ?_) (fun c2 => ?_)
      · -- jump 26
        refine g_aload_n hX 0 dX4_readSign_26 rfl ?_
        refine g_dup hX dX4_readSign_27 rfl ?_
        refine c_g_Pad_2 hX i_X4_readSign_wsX40 (List.mem_of_getElem? (i := 1) rfl) dX4_readSign_28 ?_
        refine g_iconst hX 1 dX4_readSign_31 (by decide) ?_
        refine g_iadd hX dX4_readSign_32 ?_
        refine c_p_Pad_2 hX hA i_X4_readSign_wsX40 (List.mem_of_getElem? (i := 1) rfl) dX4_readSign_33 ?_
        refine g_iconst hX 1 dX4_readSign_36 (by decide) ?_
        refine ret _ _ _ _ dX4_readSign_37 ?_
        first | (rw [bi_f, if_neg] <;> first | exact ⟨rfl, rfl⟩ | (intro h; exact hge h.1)) | (rw [bi_f, if_neg] <;> first | exact ⟨rfl, rfl⟩ | (intro h; exact c2 h.2)) | (rw [bi_t ⟨hlt, by simpa using c2⟩, if_pos ⟨hlt, by simpa using c2⟩]; exact ⟨rfl, by rw [hp]; congr 1; exact nI_1 p⟩)
      · -- on 24
        refine g_iconst hX 0 dX4_readSign_24 (by decide) ?_
        refine ret _ _ _ _ dX4_readSign_25 ?_
        first | (rw [bi_f, if_neg] <;> first | exact ⟨rfl, rfl⟩ | (intro h; exact hge h.1)) | (rw [bi_f, if_neg] <;> first | exact ⟨rfl, rfl⟩ | (intro h; exact c2 h.2)) | (rw [bi_t ⟨hlt, by simpa using c2⟩, if_pos ⟨hlt, by simpa using c2⟩]; exact ⟨rfl, by rw [hp]; congr 1; exact nI_1 p⟩)
def rm_X4_readNumber : Room := { frames := 1, cells := 0, slots := 0, locals := 20 }
theorem i_X4_readNumber_wsX40 : ∀ w ∈ wsX40, w ∈ wsX4_readNumber := fun w h => List.mem_cons_of_mem _ (List.mem_append_right _ h)
theorem k_X4_readNumber_X4_digitHere : CW rm_X4_readNumber wsX4_readNumber RX4 RX4 52 yX4_digitHere cX4_digitHere 1 (some .int) wsX4_digitHere rm_X4_digitHere 0 := ⟨gX4_readNumber_X4_digitHere, ⟨_, rfl⟩, rfl, rfl, ⟨rfl, by decide +kernel, by decide +kernel, by decide +kernel⟩, by decide, by decide⟩
set_option maxHeartbeats 4000000 in
set_option maxRecDepth 100000 in
theorem c_X4_readNumber (l : Launch) (G : MG) (hA : Ap 203 G.2.2) (z : St) {lo : Int32} {hi : Int32} {p : Nat} (hP : PO z) (hp : z 70 0 = nI p) (hpl : p ≤ lenN z) : CIc l G yX4_readNumber wsX4_readNumber rm_X4_readNumber [.ref (G.2.2 201), .int lo, .int hi] z (fun ρ ζ => ρ = (numP z lo hi p).1 ∧ ζ = u2 z 70 0 (nI (numP z lo hi p).2)) := by
  refine ci_of (own := RX4) (cc := cX4_readNumber) (maxL := 6) (ret := .int) (by decide +kernel) rfl rfl ?_ (Nat.le_of_ble_eq_true rfl) (KQ_mv (ExC_mv G)) ?_
  · intro v z' _; rfl
  · intro X hX ret
    refine g_lv (lv' := [(0, .ref (G.2.2 201)), (1, .int lo), (2, .int hi)]) rfl ?_
    obtain ⟨e69, h60⟩ := pL hP
    have hself : z = u2 z 70 0 (nI p) := (u2_self hp).symm
    refine g_aload_n hX 0 dX4_readNumber_0 rfl ?_
    refine g_cvE hX (As := []) (rest := []) (c_X4_digitHere l G z (p := p) (hP := (by assumption)) (hp := (by assumption)) (hpl := (by omega))) k_X4_readNumber_X4_digitHere rc_Pad rfl rfl (Nat.le_of_ble_eq_true rfl) dX4_readNumber_1 ?_
    refine g_istore_n hX [(3, .int (digP z p)), (0, .ref (G.2.2 201)), (1, .int lo), (2, .int hi)] dX4_readNumber_4 (by decide) rfl ?_
    refine g_iload_n hX 0 dX4_readNumber_5 rfl ?_
    refine g_iconst hX (-1) dX4_readNumber_6 (by decide) ?_
    refine g_ic_eq hX 20 dX4_readNumber_7 (by decide) (fun c1 => ?_) (fun c1 => ?_)
    · -- jump 20
      refine g_iconst hX (-1) dX4_readNumber_20 (by decide) ?_
      refine ret _ _ _ _ dX4_readNumber_21 ?_
      first | (unfold numP; rw [if_pos (by grind)]; exact ⟨rfl, hself⟩)
    · -- on 10
      refine g_iload_n hX 0 dX4_readNumber_10 rfl ?_
      refine g_iload_n hX 2 dX4_readNumber_11 rfl ?_
      refine g_ic_lt hX 20 dX4_readNumber_12 (by decide) (fun c2 => ?_) (fun c2 => ?_)
      · -- jump 20
        refine g_iconst hX (-1) dX4_readNumber_20 (by decide) ?_
        refine ret _ _ _ _ dX4_readNumber_21 ?_
        first | (unfold numP; rw [if_pos (by grind)]; exact ⟨rfl, hself⟩)
      · -- on 15
        refine g_iload_n hX 0 dX4_readNumber_15 rfl ?_
        refine g_iload_n hX 3 dX4_readNumber_16 rfl ?_
        refine g_ic_le hX 22 dX4_readNumber_17 (by decide) (fun c3 => ?_) (fun c3 => ?_)
        · -- jump 22
          refine g_aload_n hX 1 dX4_readNumber_22 rfl ?_
          refine g_dup hX dX4_readNumber_23 rfl ?_
          refine c_g_Pad_2 hX i_X4_readNumber_wsX40 (List.mem_of_getElem? (i := 1) rfl) dX4_readNumber_24 ?_
          refine g_iconst hX 1 dX4_readNumber_27 (by decide) ?_
          refine g_iadd hX dX4_readNumber_28 ?_
          refine c_p_Pad_2 hX hA i_X4_readNumber_wsX40 (List.mem_of_getElem? (i := 1) rfl) dX4_readNumber_29 ?_
          refine g_aload_n hX 1 dX4_readNumber_32 rfl ?_
          refine c_g_Pad_2 hX i_X4_readNumber_wsX40 (List.mem_of_getElem? (i := 1) rfl) dX4_readNumber_33 ?_
          refine g_top ((z 70 0) + 1) (by simp [u2]) ?_
          refine g_istore hX [(4, .int ((z 70 0) + 1)), (3, .int (digP z p)), (0, .ref (G.2.2 201)), (1, .int lo), (2, .int hi)] dX4_readNumber_36 (by decide) rfl ?_
          have loop38 : ∀ (nf : Nat) (v : Int32) (k : Nat) (f : Nat) (y : St), (61 < k + nf) → (k ≤ lenN z) → (61 ≤ f + k) → (y = u2 z 70 0 (nI k)) → (numL z hi f v k = numP z lo hi p) → Go X (y) 38 [(0, .ref (G.2.2 201)), (1, .int lo), (2, .int hi), (3, .int v), (4, .int (nI k))] [] := by
            intro nf
            induction nf with
            | zero =>
              intro v k f y hmu hk hf hy hr
              exfalso; omega
            | succ nf ih =>
              intro v k f y hmu hk hf hy hr
              have hyP : PO y := PO_of hP (by rw [hy, u2_f (by decide)]) (by rw [hy, u2_f (by decide)])
              have hyl : lenN y = lenN z := by unfold lenN; rw [hy, u2_f (by decide)]
              have hyp : y 70 0 = nI k := by rw [hy, u2_s]
              have hyd : digP y k = digP z k := by unfold digP lenN; rw [hy, u2_f (by decide), u2_f (by decide)]
              have hy69 : y 69 0 = nI (lenN z) := by rw [hy, u2_f (by decide)]; exact e69
              refine g_iload_n hX 3 dX4_readNumber_38 rfl ?_
              refine g_if_le hX 102 dX4_readNumber_39 (by decide) (fun c4 => ?_) (fun c4 => ?_)
              · -- jump 102
                refine g_iload_n hX 3 dX4_readNumber_102 rfl ?_
                refine ret _ _ _ _ dX4_readNumber_103 ?_
                obtain ⟨m, rfl⟩ : ∃ m, f = m + 1 := ⟨f - 1, by omega⟩
                rw [← hr, numL]
                first | (rw [if_neg (by grind)]; exact ⟨rfl, hy⟩) | (rw [if_pos (by grind), if_pos (by grind)]; exact ⟨rfl, hy⟩) | (rw [if_pos (by grind), if_neg (by grind), if_pos (by grind)]; exact ⟨rfl, hy⟩)
              · -- on 42
                refine g_iload hX 4 dX4_readNumber_42 rfl ?_
                refine g_aload_n hX 0 dX4_readNumber_44 rfl ?_
                refine c_g_Pad_1 hX i_X4_readNumber_wsX40 (List.mem_of_getElem? (i := 2) rfl) dX4_readNumber_45 ?_
                refine g_ic_ge hX 102 dX4_readNumber_48 (by decide) (fun c5 => ?_) (fun c5 => ?_)
                · -- jump 102
                  have hge : ¬ k < lenN z := by
                    rw [hy69] at c5; have := (nI_leI (by omega) (by omega)).mp c5; omega
                  refine g_iload_n hX 3 dX4_readNumber_102 rfl ?_
                  refine ret _ _ _ _ dX4_readNumber_103 ?_
                  obtain ⟨m, rfl⟩ : ∃ m, f = m + 1 := ⟨f - 1, by omega⟩
                  rw [← hr, numL]
                  first | (rw [if_neg (by grind)]; exact ⟨rfl, hy⟩) | (rw [if_pos (by grind), if_pos (by grind)]; exact ⟨rfl, hy⟩) | (rw [if_pos (by grind), if_neg (by grind), if_pos (by grind)]; exact ⟨rfl, hy⟩)
                · -- on 51
                  have hkn : k < lenN z := by
                    rw [hy69] at c5; exact Nat.lt_of_not_le (fun q => c5 (nI_le q (by omega)))
                  refine g_aload_n hX 0 dX4_readNumber_51 rfl ?_
                  refine g_cvE hX (As := []) (rest := []) (c_X4_digitHere l G y (p := k) (hP := hyP) (hp := hyp) (hpl := (by omega))) k_X4_readNumber_X4_digitHere rc_Pad rfl rfl (Nat.le_of_ble_eq_true rfl) dX4_readNumber_52 ?_
                  refine g_top (digP z k) (hyd) ?_
                  refine g_istore hX [(5, .int (digP z k)), (0, .ref (G.2.2 201)), (1, .int lo), (2, .int hi), (3, .int v), (4, .int (nI k))] dX4_readNumber_55 (by decide) rfl ?_
                  refine g_iload hX 0 dX4_readNumber_57 rfl ?_
                  refine g_iconst hX (-1) dX4_readNumber_59 (by decide) ?_
                  refine g_ic_ne hX 65 dX4_readNumber_60 (by decide) (fun c6 => ?_) (fun c6 => ?_)
                  · -- jump 65
                    refine g_bipush hX 10 dX4_readNumber_65 (by decide) ?_
                    refine g_iload_n hX 4 dX4_readNumber_67 rfl ?_
                    refine g_imul hX dX4_readNumber_68 ?_
                    refine g_iload hX 0 dX4_readNumber_69 rfl ?_
                    refine g_iadd hX dX4_readNumber_71 ?_
                    refine g_iload_n hX 3 dX4_readNumber_72 rfl ?_
                    refine g_ic_le hX 78 dX4_readNumber_73 (by decide) (fun c7 => ?_) (fun c7 => ?_)
                    · -- jump 78
                      refine g_bipush hX 10 dX4_readNumber_78 (by decide) ?_
                      refine g_iload_n hX 4 dX4_readNumber_80 rfl ?_
                      refine g_imul hX dX4_readNumber_81 ?_
                      refine g_iload hX 0 dX4_readNumber_82 rfl ?_
                      refine g_iadd hX dX4_readNumber_84 ?_
                      refine g_istore_n hX [(3, .int ((10 * v) + (digP z k))), (5, .int (digP z k)), (0, .ref (G.2.2 201)), (1, .int lo), (2, .int hi), (4, .int (nI k))] dX4_readNumber_85 (by decide) rfl ?_
                      refine g_aload_n hX 2 dX4_readNumber_86 rfl ?_
                      refine g_dup hX dX4_readNumber_87 rfl ?_
                      refine c_g_Pad_2 hX i_X4_readNumber_wsX40 (List.mem_of_getElem? (i := 1) rfl) dX4_readNumber_88 ?_
                      refine g_iconst hX 1 dX4_readNumber_91 (by decide) ?_
                      refine g_iadd hX dX4_readNumber_92 ?_
                      refine c_p_Pad_2 hX hA i_X4_readNumber_wsX40 (List.mem_of_getElem? (i := 1) rfl) dX4_readNumber_93 ?_
                      refine g_iinc hX (nI (k + 1)) 5 [(4, .int (nI (k + 1))), (3, .int ((10 * v) + (digP z k))), (5, .int (digP z k)), (0, .ref (G.2.2 201)), (1, .int lo), (2, .int hi)] dX4_readNumber_96 rfl (nI_1 k) (by decide) rfl ?_
                      refine g_goto hX 38 dX4_readNumber_99 (by decide) ?_
                      -- back to 38
                      refine g_sub [3, 4, 5, 1, 0] [(0, .ref (G.2.2 201)), (1, .int lo), (2, .int hi), (3, .int ((10 * v) + (digP z k))), (4, .int (nI (k + 1)))] rfl ?_
                      exact ih ((10 * v) + (digP z k)) (k + 1) (f - 1) (u2 y 70 0 ((y 70 0) + 1)) (by omega) (by omega) (by omega) (by rw [hyp, nI_1]; conv => lhs; rw [hy, u2_u2]) (by rw [← hr]; obtain ⟨m, rfl⟩ : ∃ m, f = m + 1 := ⟨f - 1, by omega⟩; rw [Nat.add_sub_cancel]; conv => rhs; rw [numL, if_pos ⟨by grind, hkn⟩, if_neg (by assumption), if_neg (by grind)])
                    · -- on 76
                      refine g_iconst hX (-1) dX4_readNumber_76 (by decide) ?_
                      refine ret _ _ _ _ dX4_readNumber_77 ?_
                      obtain ⟨m, rfl⟩ : ∃ m, f = m + 1 := ⟨f - 1, by omega⟩
                      rw [← hr, numL]
                      first | (rw [if_neg (by grind)]; exact ⟨rfl, hy⟩) | (rw [if_pos (by grind), if_pos (by grind)]; exact ⟨rfl, hy⟩) | (rw [if_pos (by grind), if_neg (by grind), if_pos (by grind)]; exact ⟨rfl, hy⟩)
                  · -- on 63
                    refine g_iload_n hX 4 dX4_readNumber_63 rfl ?_
                    refine ret _ _ _ _ dX4_readNumber_64 ?_
                    obtain ⟨m, rfl⟩ : ∃ m, f = m + 1 := ⟨f - 1, by omega⟩
                    rw [← hr, numL]
                    first | (rw [if_neg (by grind)]; exact ⟨rfl, hy⟩) | (rw [if_pos (by grind), if_pos (by grind)]; exact ⟨rfl, hy⟩) | (rw [if_pos (by grind), if_neg (by grind), if_pos (by grind)]; exact ⟨rfl, hy⟩)
          refine g_sub [2, 3, 4, 1, 0] [(0, .ref (G.2.2 201)), (1, .int lo), (2, .int hi), (3, .int (digP z p)), (4, .int ((z 70 0) + 1))] rfl ?_
          have e4 : ((z 70 0) + 1 : Int32) = nI (p + 1) := by
            rw [hp]; exact nI_1 p
          refine g_lv (lv' := [(0, .ref (G.2.2 201)), (1, .int lo), (2, .int hi), (3, .int (digP z p)), (4, .int (nI (p + 1)))]) (by rw [e4]) ?_
          exact loop38 (61 + 1) (digP z p) (p + 1) (61 - p - 1 + 1) (u2 z 70 0 ((z 70 0) + 1)) (by omega) (by have := digP_lt (z := z) (p := p) (by grind); omega) (by omega) (by rw [hp, nI_1]) (by unfold numP; rw [if_neg (by grind), show 61 - p - 1 + 1 = 61 - p from by omega])
        · -- on 20
          refine g_iconst hX (-1) dX4_readNumber_20 (by decide) ?_
          refine ret _ _ _ _ dX4_readNumber_21 ?_
          first | (unfold numP; rw [if_pos (by grind)]; exact ⟨rfl, hself⟩)
def rm_X4_readApplication : Room := { frames := 2, cells := 0, slots := 0, locals := 45 }
theorem i_X4_readApplication_wsX40 : ∀ w ∈ wsX40, w ∈ wsX4_readApplication := fun w h => List.mem_cons_of_mem _ (List.mem_append_right _ h)
theorem k_X4_readApplication_X4_readNumber : CW rm_X4_readApplication wsX4_readApplication RX4 RX4 36 yX4_readNumber cX4_readNumber 6 (some .int) wsX4_readNumber rm_X4_readNumber 2 := ⟨gX4_readApplication_X4_readNumber, ⟨_, rfl⟩, rfl, rfl, ⟨rfl, by decide +kernel, by decide +kernel, by decide +kernel⟩, by decide, by decide⟩
theorem k_X4_readApplication_X4_readSign : CW rm_X4_readApplication wsX4_readApplication RX4 RX4 32 yX4_readSign cX4_readSign 2 (some .boolean) wsX4_readSign rm_X4_readSign 1 := ⟨gX4_readApplication_X4_readSign, ⟨_, rfl⟩, rfl, rfl, ⟨rfl, by decide +kernel, by decide +kernel, by decide +kernel⟩, by decide, by decide⟩
set_option maxHeartbeats 4000000 in
set_option maxRecDepth 100000 in
theorem c_X4_readApplication (l : Launch) (G : MG) (hA : Ap 203 G.2.2) (z : St) {p : Nat} (hP : PO z) (hp : z 70 0 = nI p) (hpl : p ≤ lenN z) : CIc l G yX4_readApplication wsX4_readApplication rm_X4_readApplication [.ref (G.2.2 201)] z (fun ρ ζ => ρ = (apR z p).1 ∧ ζ = (apR z p).2) := by
  refine ci_of (own := RX4) (cc := cX4_readApplication) (maxL := 1) (ret := .boolean) (by decide +kernel) rfl rfl ?_ (Nat.le_of_ble_eq_true rfl) (KQ_mv (ExC_mv G)) ?_
  · rintro v z' ⟨rfl, -⟩; exact nz_01 (apR_01 z p)
  · intro X hX ret
    refine g_lv (lv' := [(0, .ref (G.2.2 201))]) rfl ?_
    obtain ⟨e69, h60⟩ := pL hP
    refine g_z (z2 := PS z p (z 71 0) (z 72 0) (z 73 0) (z 74 0)) (PS_self hp) ?_
    refine g_aload_n hX 0 dX4_readApplication_0 rfl ?_
    refine g_bipush hX 99 dX4_readApplication_1 (by decide) ?_
    refine g_cvE hX (As := [.int 99]) (rest := []) (c_X4_readSign l G hA (PS z p (z 71 0) (z 72 0) (z 73 0) (z 74 0)) (s := 99) (p := p) (hP := (PO_PS hP _ _ _ _ _)) (hp := (PS_70 _ _ _ _ _ _)) (hpl := (by rw [len_PS]; omega))) k_X4_readApplication_X4_readSign rc_Pad rfl rfl (Nat.le_of_ble_eq_true rfl) dX4_readApplication_3 ?_
    refine g_z (z2 := if sgnP z 99 p then PS z (p + 1) (z 71 0) (z 72 0) (z 73 0) (z 74 0) else PS z p (z 71 0) (z 72 0) (z 73 0) (z 74 0)) (by simp only [sgn_PS, PS_u70]) ?_
    refine g_top (bi (sgnP z 99 p)) (by simp only [sgn_PS]) ?_
    refine g_bi_ne hX 11 dX4_readApplication_6 (by decide) (fun c1 => ?_) (fun c1 => ?_)
    · -- jump 11
      have hl0 : p < lenN z := c1.1
      refine g_z (z2 := PS z (p + 1) (z 71 0) (z 72 0) (z 73 0) (z 74 0)) (if_pos c1) ?_
      refine g_aload_n hX 0 dX4_readApplication_11 rfl ?_
      refine g_aload_n hX 0 dX4_readApplication_12 rfl ?_
      refine g_iconst hX 0 dX4_readApplication_13 (by decide) ?_
      refine g_bipush hX 11 dX4_readApplication_14 (by decide) ?_
      refine g_cvE hX (As := [.int 0, .int 11]) (rest := [.ref (G.2.2 201)]) (c_X4_readNumber l G hA (PS z (p + 1) (z 71 0) (z 72 0) (z 73 0) (z 74 0)) (lo := 0) (hi := 11) (p := (p + 1)) (hP := (PO_PS hP _ _ _ _ _)) (hp := (PS_70 _ _ _ _ _ _)) (hpl := (by rw [len_PS]; omega))) k_X4_readApplication_X4_readNumber rc_Pad rfl rfl (Nat.le_of_ble_eq_true rfl) dX4_readApplication_16 ?_
      have hl1 : (q1 z p).2 ≤ lenN z := (numP_le z 0 11 (p := p + 1) (by omega)).2
      refine g_z (z2 := PS z ((q1 z p).2) (z 71 0) (z 72 0) (z 73 0) (z 74 0)) (by rw [numP_PS, PS_u70]; rfl) ?_
      refine g_top ((q1 z p).1) (by rw [numP_PS]; rfl) ?_
      refine c_p_Pad_3 hX hA i_X4_readApplication_wsX40 (List.mem_of_getElem? (i := 1) rfl) dX4_readApplication_19 ?_
      refine g_z (z2 := PS z ((q1 z p).2) ((q1 z p).1) (z 72 0) (z 73 0) (z 74 0)) (PS_u71 _ _ _ _ _ _ _) ?_
      refine g_aload_n hX 0 dX4_readApplication_22 rfl ?_
      refine c_g_Pad_3 hX i_X4_readApplication_wsX40 (List.mem_of_getElem? (i := 1) rfl) dX4_readApplication_23 ?_
      refine g_top ((q1 z p).1) (rfl) ?_
      refine g_iconst hX (-1) dX4_readApplication_26 (by decide) ?_
      refine g_ic_eq hX 39 dX4_readApplication_27 (by decide) (fun c2 => ?_) (fun c2 => ?_)
      · -- jump 39
        refine g_iconst hX 0 dX4_readApplication_39 (by decide) ?_
        refine ret _ _ _ _ dX4_readApplication_40 ?_
        first | (simp [apR, c1, c2]; done) | grind [apR]
      · -- on 30
        refine g_aload_n hX 0 dX4_readApplication_30 rfl ?_
        refine g_bipush hX 114 dX4_readApplication_31 (by decide) ?_
        refine g_cvE hX (As := [.int 114]) (rest := []) (c_X4_readSign l G hA (PS z ((q1 z p).2) ((q1 z p).1) (z 72 0) (z 73 0) (z 74 0)) (s := 114) (p := ((q1 z p).2)) (hP := (PO_PS hP _ _ _ _ _)) (hp := (PS_70 _ _ _ _ _ _)) (hpl := (by rw [len_PS]; omega))) k_X4_readApplication_X4_readSign rc_Pad rfl rfl (Nat.le_of_ble_eq_true rfl) dX4_readApplication_33 ?_
        refine g_z (z2 := if sgnP z 114 ((q1 z p).2) then PS z ((q1 z p).2 + 1) ((q1 z p).1) (z 72 0) (z 73 0) (z 74 0) else PS z ((q1 z p).2) ((q1 z p).1) (z 72 0) (z 73 0) (z 74 0)) (by simp only [sgn_PS, PS_u70]) ?_
        refine g_top (bi (sgnP z 114 ((q1 z p).2))) (by simp only [sgn_PS]) ?_
        refine g_bi_ne hX 41 dX4_readApplication_36 (by decide) (fun c3 => ?_) (fun c3 => ?_)
        · -- jump 41
          have hl2 : (q1 z p).2 < lenN z := c3.1
          refine g_z (z2 := PS z ((q1 z p).2 + 1) ((q1 z p).1) (z 72 0) (z 73 0) (z 74 0)) (if_pos c3) ?_
          refine g_aload_n hX 0 dX4_readApplication_41 rfl ?_
          refine g_aload_n hX 0 dX4_readApplication_42 rfl ?_
          refine g_iconst hX 0 dX4_readApplication_43 (by decide) ?_
          refine g_iconst hX 5 dX4_readApplication_44 (by decide) ?_
          refine g_cvE hX (As := [.int 0, .int 5]) (rest := [.ref (G.2.2 201)]) (c_X4_readNumber l G hA (PS z ((q1 z p).2 + 1) ((q1 z p).1) (z 72 0) (z 73 0) (z 74 0)) (lo := 0) (hi := 5) (p := ((q1 z p).2 + 1)) (hP := (PO_PS hP _ _ _ _ _)) (hp := (PS_70 _ _ _ _ _ _)) (hpl := (by rw [len_PS]; omega))) k_X4_readApplication_X4_readNumber rc_Pad rfl rfl (Nat.le_of_ble_eq_true rfl) dX4_readApplication_45 ?_
          have hl3 : (q2 z p).2 ≤ lenN z := (numP_le z 0 5 (p := (q1 z p).2 + 1) (by omega)).2
          refine g_z (z2 := PS z ((q2 z p).2) ((q1 z p).1) (z 72 0) (z 73 0) (z 74 0)) (by rw [numP_PS, PS_u70]; rfl) ?_
          refine g_top ((q2 z p).1) (by rw [numP_PS]; rfl) ?_
          refine c_p_Pad_4 hX hA i_X4_readApplication_wsX40 (List.mem_of_getElem? (i := 2) rfl) dX4_readApplication_48 ?_
          refine g_z (z2 := PS z ((q2 z p).2) ((q1 z p).1) ((q2 z p).1) (z 73 0) (z 74 0)) (PS_u72 _ _ _ _ _ _ _) ?_
          refine g_aload_n hX 0 dX4_readApplication_51 rfl ?_
          refine c_g_Pad_4 hX i_X4_readApplication_wsX40 (List.mem_of_getElem? (i := 2) rfl) dX4_readApplication_52 ?_
          refine g_top ((q2 z p).1) (rfl) ?_
          refine g_iconst hX (-1) dX4_readApplication_55 (by decide) ?_
          refine g_ic_eq hX 68 dX4_readApplication_56 (by decide) (fun c4 => ?_) (fun c4 => ?_)
          · -- jump 68
            refine g_iconst hX 0 dX4_readApplication_68 (by decide) ?_
            refine ret _ _ _ _ dX4_readApplication_69 ?_
            first | (simp [apR, c1, c2, c3, c4]; done) | grind [apR]
          · -- on 59
            refine g_aload_n hX 0 dX4_readApplication_59 rfl ?_
            refine g_bipush hX 100 dX4_readApplication_60 (by decide) ?_
            refine g_cvE hX (As := [.int 100]) (rest := []) (c_X4_readSign l G hA (PS z ((q2 z p).2) ((q1 z p).1) ((q2 z p).1) (z 73 0) (z 74 0)) (s := 100) (p := ((q2 z p).2)) (hP := (PO_PS hP _ _ _ _ _)) (hp := (PS_70 _ _ _ _ _ _)) (hpl := (by rw [len_PS]; omega))) k_X4_readApplication_X4_readSign rc_Pad rfl rfl (Nat.le_of_ble_eq_true rfl) dX4_readApplication_62 ?_
            refine g_z (z2 := if sgnP z 100 ((q2 z p).2) then PS z ((q2 z p).2 + 1) ((q1 z p).1) ((q2 z p).1) (z 73 0) (z 74 0) else PS z ((q2 z p).2) ((q1 z p).1) ((q2 z p).1) (z 73 0) (z 74 0)) (by simp only [sgn_PS, PS_u70]) ?_
            refine g_top (bi (sgnP z 100 ((q2 z p).2))) (by simp only [sgn_PS]) ?_
            refine g_bi_ne hX 70 dX4_readApplication_65 (by decide) (fun c5 => ?_) (fun c5 => ?_)
            · -- jump 70
              have hl4 : (q2 z p).2 < lenN z := c5.1
              refine g_z (z2 := PS z ((q2 z p).2 + 1) ((q1 z p).1) ((q2 z p).1) (z 73 0) (z 74 0)) (if_pos c5) ?_
              refine g_aload_n hX 0 dX4_readApplication_70 rfl ?_
              refine g_aload_n hX 0 dX4_readApplication_71 rfl ?_
              refine g_iconst hX 0 dX4_readApplication_72 (by decide) ?_
              refine g_bipush hX 59 dX4_readApplication_73 (by decide) ?_
              refine g_cvE hX (As := [.int 0, .int 59]) (rest := [.ref (G.2.2 201)]) (c_X4_readNumber l G hA (PS z ((q2 z p).2 + 1) ((q1 z p).1) ((q2 z p).1) (z 73 0) (z 74 0)) (lo := 0) (hi := 59) (p := ((q2 z p).2 + 1)) (hP := (PO_PS hP _ _ _ _ _)) (hp := (PS_70 _ _ _ _ _ _)) (hpl := (by rw [len_PS]; omega))) k_X4_readApplication_X4_readNumber rc_Pad rfl rfl (Nat.le_of_ble_eq_true rfl) dX4_readApplication_75 ?_
              have hl5 : (q3 z p).2 ≤ lenN z := (numP_le z 0 59 (p := (q2 z p).2 + 1) (by omega)).2
              refine g_z (z2 := PS z ((q3 z p).2) ((q1 z p).1) ((q2 z p).1) (z 73 0) (z 74 0)) (by rw [numP_PS, PS_u70]; rfl) ?_
              refine g_top ((q3 z p).1) (by rw [numP_PS]; rfl) ?_
              refine c_p_Pad_5 hX hA i_X4_readApplication_wsX40 (List.mem_of_getElem? (i := 3) rfl) dX4_readApplication_78 ?_
              refine g_z (z2 := PS z ((q3 z p).2) ((q1 z p).1) ((q2 z p).1) ((q3 z p).1) (z 74 0)) (PS_u73 _ _ _ _ _ _ _) ?_
              refine g_aload_n hX 0 dX4_readApplication_81 rfl ?_
              refine c_g_Pad_5 hX i_X4_readApplication_wsX40 (List.mem_of_getElem? (i := 3) rfl) dX4_readApplication_82 ?_
              refine g_top ((q3 z p).1) (rfl) ?_
              refine g_iconst hX (-1) dX4_readApplication_85 (by decide) ?_
              refine g_ic_ne hX 91 dX4_readApplication_86 (by decide) (fun c6 => ?_) (fun c6 => ?_)
              · -- jump 91
                refine g_aload_n hX 0 dX4_readApplication_91 rfl ?_
                refine g_aload_n hX 0 dX4_readApplication_92 rfl ?_
                refine g_bipush hX 120 dX4_readApplication_93 (by decide) ?_
                refine g_cvE hX (As := [.int 120]) (rest := [.ref (G.2.2 201)]) (c_X4_readSign l G hA (PS z ((q3 z p).2) ((q1 z p).1) ((q2 z p).1) ((q3 z p).1) (z 74 0)) (s := 120) (p := ((q3 z p).2)) (hP := (PO_PS hP _ _ _ _ _)) (hp := (PS_70 _ _ _ _ _ _)) (hpl := (by rw [len_PS]; omega))) k_X4_readApplication_X4_readSign rc_Pad rfl rfl (Nat.le_of_ble_eq_true rfl) dX4_readApplication_95 ?_
                refine g_z (z2 := if sgnP z 120 ((q3 z p).2) then PS z ((q3 z p).2 + 1) ((q1 z p).1) ((q2 z p).1) ((q3 z p).1) (z 74 0) else PS z ((q3 z p).2) ((q1 z p).1) ((q2 z p).1) ((q3 z p).1) (z 74 0)) (by simp only [sgn_PS, PS_u70]) ?_
                refine g_top (bi (sgnP z 120 ((q3 z p).2))) (by simp only [sgn_PS]) ?_
                refine g_bi_eq hX 110 dX4_readApplication_98 (by decide) (fun c7 => ?_) (fun c7 => ?_)
                · -- jump 110
                  refine g_z (z2 := PS z ((q3 z p).2) ((q1 z p).1) ((q2 z p).1) ((q3 z p).1) (z 74 0)) (if_neg c7) ?_
                  refine g_iconst hX 1 dX4_readApplication_110 (by decide) ?_
                  refine c_p_Pad_6 hX hA i_X4_readApplication_wsX40 (List.mem_of_getElem? (i := 4) rfl) dX4_readApplication_111 ?_
                  refine g_z (z2 := PS z ((q3 z p).2) ((q1 z p).1) ((q2 z p).1) ((q3 z p).1) 1) (PS_u74 _ _ _ _ _ _ _) ?_
                  refine g_aload_n hX 0 dX4_readApplication_114 rfl ?_
                  refine c_g_Pad_6 hX i_X4_readApplication_wsX40 (List.mem_of_getElem? (i := 4) rfl) dX4_readApplication_115 ?_
                  refine g_top (1) (rfl) ?_
                  refine g_iconst hX (-1) dX4_readApplication_118 (by decide) ?_
                  refine g_ic_eq hX 126 dX4_readApplication_119 (by decide) (fun c8 => ?_) (fun c8 => ?_)
                  · -- jump 126
                    exact absurd c8 (by decide)
                  · -- on 122
                    refine g_iconst hX 1 dX4_readApplication_122 (by decide) ?_
                    refine g_goto hX 127 dX4_readApplication_123 (by decide) ?_
                    refine ret _ _ _ _ dX4_readApplication_127 ?_
                    rw [apR, if_neg (not_not_intro c1), if_neg (fun h => h.elim c2 (fun h => h c3)), if_neg (fun h => h.elim c4 (fun h => h c5)), if_neg c6, if_pos c7]; exact ⟨rfl, rfl⟩
                · -- on 101
                  have hl6 : (q3 z p).2 < lenN z := c7.1
                  refine g_z (z2 := PS z ((q3 z p).2 + 1) ((q1 z p).1) ((q2 z p).1) ((q3 z p).1) (z 74 0)) (if_pos c7) ?_
                  refine g_aload_n hX 0 dX4_readApplication_101 rfl ?_
                  refine g_iconst hX 1 dX4_readApplication_102 (by decide) ?_
                  refine g_iconst hX 4 dX4_readApplication_103 (by decide) ?_
                  refine g_cvE hX (As := [.int 1, .int 4]) (rest := [.ref (G.2.2 201)]) (c_X4_readNumber l G hA (PS z ((q3 z p).2 + 1) ((q1 z p).1) ((q2 z p).1) ((q3 z p).1) (z 74 0)) (lo := 1) (hi := 4) (p := ((q3 z p).2 + 1)) (hP := (PO_PS hP _ _ _ _ _)) (hp := (PS_70 _ _ _ _ _ _)) (hpl := (by rw [len_PS]; omega))) k_X4_readApplication_X4_readNumber rc_Pad rfl rfl (Nat.le_of_ble_eq_true rfl) dX4_readApplication_104 ?_
                  refine g_z (z2 := PS z ((q4 z p).2) ((q1 z p).1) ((q2 z p).1) ((q3 z p).1) (z 74 0)) (by rw [numP_PS, PS_u70]; rfl) ?_
                  refine g_top ((q4 z p).1) (by rw [numP_PS]; rfl) ?_
                  refine g_goto hX 111 dX4_readApplication_107 (by decide) ?_
                  refine c_p_Pad_6 hX hA i_X4_readApplication_wsX40 (List.mem_of_getElem? (i := 4) rfl) dX4_readApplication_111 ?_
                  refine g_z (z2 := PS z ((q4 z p).2) ((q1 z p).1) ((q2 z p).1) ((q3 z p).1) ((q4 z p).1)) (PS_u74 _ _ _ _ _ _ _) ?_
                  refine g_aload_n hX 0 dX4_readApplication_114 rfl ?_
                  refine c_g_Pad_6 hX i_X4_readApplication_wsX40 (List.mem_of_getElem? (i := 4) rfl) dX4_readApplication_115 ?_
                  refine g_top ((q4 z p).1) (rfl) ?_
                  refine g_iconst hX (-1) dX4_readApplication_118 (by decide) ?_
                  refine g_ic_eq hX 126 dX4_readApplication_119 (by decide) (fun c9 => ?_) (fun c9 => ?_)
                  · -- jump 126
                    refine g_iconst hX 0 dX4_readApplication_126 (by decide) ?_
                    refine ret _ _ _ _ dX4_readApplication_127 ?_
                    first | (rw [apR, if_neg (not_not_intro c1), if_neg (fun h => h.elim c2 (fun h => h c3)), if_neg (fun h => h.elim c4 (fun h => h c5)), if_neg c6, if_neg c7, if_pos c9]; exact ⟨rfl, rfl⟩) | (rw [apR, if_neg (not_not_intro c1), if_neg (fun h => h.elim c2 (fun h => h c3)), if_neg (fun h => h.elim c4 (fun h => h c5)), if_neg c6, if_neg c7, if_neg c9]; exact ⟨rfl, rfl⟩) | (rw [apR, if_neg (not_not_intro c1), if_neg (fun h => h.elim c2 (fun h => h c3)), if_neg (fun h => h.elim c4 (fun h => h c5)), if_neg c6, if_neg (not_not_intro c7), if_pos c9]; exact ⟨rfl, rfl⟩) | (rw [apR, if_neg (not_not_intro c1), if_neg (fun h => h.elim c2 (fun h => h c3)), if_neg (fun h => h.elim c4 (fun h => h c5)), if_neg c6, if_neg (not_not_intro c7), if_neg c9]; exact ⟨rfl, rfl⟩)
                  · -- on 122
                    refine g_iconst hX 1 dX4_readApplication_122 (by decide) ?_
                    refine g_goto hX 127 dX4_readApplication_123 (by decide) ?_
                    refine ret _ _ _ _ dX4_readApplication_127 ?_
                    first | (rw [apR, if_neg (not_not_intro c1), if_neg (fun h => h.elim c2 (fun h => h c3)), if_neg (fun h => h.elim c4 (fun h => h c5)), if_neg c6, if_neg c7, if_pos c9]; exact ⟨rfl, rfl⟩) | (rw [apR, if_neg (not_not_intro c1), if_neg (fun h => h.elim c2 (fun h => h c3)), if_neg (fun h => h.elim c4 (fun h => h c5)), if_neg c6, if_neg c7, if_neg c9]; exact ⟨rfl, rfl⟩) | (rw [apR, if_neg (not_not_intro c1), if_neg (fun h => h.elim c2 (fun h => h c3)), if_neg (fun h => h.elim c4 (fun h => h c5)), if_neg c6, if_neg (not_not_intro c7), if_pos c9]; exact ⟨rfl, rfl⟩) | (rw [apR, if_neg (not_not_intro c1), if_neg (fun h => h.elim c2 (fun h => h c3)), if_neg (fun h => h.elim c4 (fun h => h c5)), if_neg c6, if_neg (not_not_intro c7), if_neg c9]; exact ⟨rfl, rfl⟩)
              · -- on 89
                refine g_iconst hX 0 dX4_readApplication_89 (by decide) ?_
                refine ret _ _ _ _ dX4_readApplication_90 ?_
                rw [apR, if_neg (not_not_intro c1), if_neg (fun h => h.elim c2 (fun h => h c3)), if_neg (fun h => h.elim c4 (fun h => h c5)), if_pos (Decidable.not_not.mp c6)]; exact ⟨rfl, rfl⟩
            · -- on 68
              refine g_z (z2 := PS z ((q2 z p).2) ((q1 z p).1) ((q2 z p).1) (z 73 0) (z 74 0)) (if_neg c5) ?_
              refine g_iconst hX 0 dX4_readApplication_68 (by decide) ?_
              refine ret _ _ _ _ dX4_readApplication_69 ?_
              first | (simp [apR, c1, c2, c3, c4, c5]; done) | grind [apR]
        · -- on 39
          refine g_z (z2 := PS z ((q1 z p).2) ((q1 z p).1) (z 72 0) (z 73 0) (z 74 0)) (if_neg c3) ?_
          refine g_iconst hX 0 dX4_readApplication_39 (by decide) ?_
          refine ret _ _ _ _ dX4_readApplication_40 ?_
          first | (simp [apR, c1, c2, c3]; done) | grind [apR]
    · -- on 9
      refine g_z (z2 := PS z p (z 71 0) (z 72 0) (z 73 0) (z 74 0)) (if_neg c1) ?_
      refine g_iconst hX 0 dX4_readApplication_9 (by decide) ?_
      refine ret _ _ _ _ dX4_readApplication_10 ?_
      first | (simp [apR, c1]; done) | grind [apR]
