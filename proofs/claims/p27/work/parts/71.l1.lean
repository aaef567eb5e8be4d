/-! ===== the law's own: places ===== -/
theorem left_law {l b t : Nat} (hl : l ≤ 12) (hb : b ≤ l) (ht : t ≤ 160) : (0 ≤ nI (l - b) - nI t → nI (l - b) - nI t = nI (l - t - b)) ∧ (¬ 0 ≤ nI (l - b) - nI t → l - t - b = 0) := by
  constructor
  · intro h
    by_cases c : t ≤ l - b
    · rw [pk_sub c]; congr 1; omega
    · exact absurd (pk_sneg (a := l - b) (b := t) (by omega) (by omega)) (Int32.not_lt.mpr h)
  · intro h
    refine Decidable.by_contra (fun q => h ?_)
    rw [pk_sub (show t ≤ l - b by omega)]
    exact nI_pos' (by omega)

def rm_L_fits : Room := { frames := 5, cells := 0, slots := 0, locals := 113 }
theorem k_L_fits_X6_application : CW rm_L_fits wsL_fits RL RX6 68 yX6_application cX6_application 4 (some .int) wsX6_application rm_X6_application 2 := ⟨gL_fits_X6_application, ⟨_, rfl⟩, rfl, rfl, ⟨rfl, by decide +kernel, by decide +kernel, by decide +kernel⟩, by decide, by decide⟩
theorem k_L_fits_X6_count : CW rm_L_fits wsL_fits RL RX6 57 yX6_count cX6_count 2 (some .int) wsX6_count rm_X6_count 1 := ⟨gL_fits_X6_count, ⟨_, rfl⟩, rfl, rfl, ⟨rfl, by decide +kernel, by decide +kernel, by decide +kernel⟩, by decide, by decide⟩
theorem k_L_fits_X6_onRoute : CW rm_L_fits wsL_fits RL RX6 93 yX6_onRoute cX6_onRoute 4 (some .int) wsX6_onRoute rm_X6_onRoute 3 := ⟨gL_fits_X6_onRoute, ⟨_, rfl⟩, rfl, rfl, ⟨rfl, by decide +kernel, by decide +kernel, by decide +kernel⟩, by decide, by decide⟩
set_option maxHeartbeats 4000000 in
set_option maxRecDepth 100000 in
theorem c_L_fits (l : Launch) (G : MG) (B : Nat) (E : State → Prop) (hG : GB B G) (hE : KMv (AB B) E) (z : St) {b : Nat} (hJ : JI z b) : CL l G B E yL_fits wsL_fits rm_L_fits [.ref (G.2.2 192)] z (fun ρ ζ => ρ = 1 ∧ ζ = z) 0 0 := by
  refine cl_of (own := RL) (cc := cL_fits) (maxL := 8) (ret := .boolean) hG hE (by decide +kernel) rfl rfl ?_ (Nat.le_of_ble_eq_true rfl) ?_
  · rintro v z' ⟨rfl, -⟩; rfl
  · intro X hX ret
    refine q_lv (lv' := [(0, .ref (G.2.2 192))]) rfl ?_
    have hT := hJ.t0.2
    obtain ⟨-, hN6, hN1⟩ := hJ.nr
    obtain ⟨-, hC12, hC1⟩ := hJ.nc
    obtain ⟨-, hA40⟩ := hJ.na
    refine q_aload_n hX 0 dL_fits_0 rfl ?_
    refine q_iconst hX 0 dL_fits_1 (by decide) ?_
    refine q_cv hX hG (by decide) (by decide) (As := [.int 0]) (rest := []) (c_X6_count l G z (w := 0) (hI := hJ.io)) k_L_fits_X6_count (fun _ _ => rfl) rfl rfl (Nat.le_of_ble_eq_true rfl) dL_fits_2 ?_
    refine q_top (nI (TN z)) (ct0 hJ) ?_
    refine q_istore_n hX [(1, .int (nI (TN z))), (0, .ref (G.2.2 192))] dL_fits_5 (by decide) rfl ?_
    refine q_iconst hX 0 dL_fits_6 (by decide) ?_
    refine q_istore_n hX [(2, .int 0), (1, .int (nI (TN z))), (0, .ref (G.2.2 192))] dL_fits_7 (by decide) rfl ?_
    have loop8 : ∀ (nf8 : Nat) (r : Nat), (NR z < r + nf8) → (r ≤ NR z) → LG X B 0 (fun _ => 0) G 0 0 z 8 [(0, .ref (G.2.2 192)), (1, .int (nI (TN z))), (2, .int (nI r))] [] := by
      intro nf8
      induction nf8 with
      | zero =>
        intro r hmu8 hr0
        exfalso; omega
      | succ nf8 ih8 =>
        intro r hmu8 hr0
        refine q_iload_n hX 2 dL_fits_8 rfl ?_
        refine q_aload_n hX 0 dL_fits_9 rfl ?_
        refine q_iconst hX 1 dL_fits_10 (by decide) ?_
        refine q_cv hX hG (by decide) (by decide) (As := [.int 1]) (rest := [.int (nI r)]) (c_X6_count l G z (w := 1) (hI := hJ.io)) k_L_fits_X6_count (fun _ _ => rfl) rfl rfl (Nat.le_of_ble_eq_true rfl) dL_fits_11 ?_
        refine q_top (nI (NR z)) (ct1 hJ) ?_
        refine q_ic_ge hX 259 dL_fits_14 (by decide) (fun c1 => ?_) (fun c1 => ?_)
        · -- jump 259
          have nc1 : ((NR z : Nat) ≤ r) := (nI_leI (a := NR z) (b := r) (by omega) (by omega)).mp c1
          refine q_iconst hX 1 dL_fits_259 (by decide) ?_
          refine ret _ _ _ _ _ _ (by decide) (by decide) dL_fits_260 ?_
          exact ⟨rfl, rfl⟩
        · -- on 17
          have nc1 : ¬ ((NR z : Nat) ≤ r) := fun q => c1 ((nI_leI (a := NR z) (b := r) (by omega) (by omega)).mpr q)
          have km2 : LG X B 0 (fun _ => 0) G 0 0 z 29 [(0, .ref (G.2.2 192)), (1, .int (nI (TN z))), (2, .int (nI r))] [.int (nI (TN z - 2))] := by
            refine q_istore_n hX [(3, .int (nI (TN z - 2))), (0, .ref (G.2.2 192)), (1, .int (nI (TN z))), (2, .int (nI r))] dL_fits_29 (by decide) rfl ?_
            have loop30 : ∀ (nf30 : Nat) (d : Nat), (60 < d + nf30) → (d ≤ 60) → LG X B 0 (fun _ => 0) G 0 0 z 30 [(0, .ref (G.2.2 192)), (1, .int (nI (TN z))), (2, .int (nI r)), (3, .int (nI d))] [] := by
              intro nf30
              induction nf30 with
              | zero =>
                intro d hmu30 hd0
                exfalso; omega
              | succ nf30 ih30 =>
                intro d hmu30 hd0
                refine q_iload_n hX 3 dL_fits_30 rfl ?_
                refine q_bipush hX 60 dL_fits_31 (by decide) ?_
                refine q_ic_ge hX 253 dL_fits_33 (by decide) (fun c3 => ?_) (fun c3 => ?_)
                · -- jump 253
                  have nc3 : ((60 : Nat) ≤ d) := (nI_leI (a := 60) (b := d) (by omega) (by omega)).mp c3
                  refine q_iinc hX (nI (r + 1)) 2 [(2, .int (nI (r + 1))), (0, .ref (G.2.2 192)), (1, .int (nI (TN z))), (3, .int (nI d))] dL_fits_253 rfl (nI_1 r) (by decide) rfl ?_
                  refine q_goto hX 8 dL_fits_256 (by decide) ?_
                  refine q_sub [1, 2, 0] [(0, .ref (G.2.2 192)), (1, .int (nI (TN z))), (2, .int (nI (r + 1)))] rfl ?_
                  exact ih8 (r + 1) (by omega) (by omega)
                · -- on 36
                  have nc3 : ¬ ((60 : Nat) ≤ d) := fun q => c3 ((nI_leI (a := 60) (b := d) (by omega) (by omega)).mpr q)
                  refine q_iload_n hX 3 dL_fits_36 rfl ?_
                  refine q_iload_n hX 1 dL_fits_37 rfl ?_
                  refine q_bipush hX 12 dL_fits_38 (by decide) ?_
                  refine q_iadd hX dL_fits_40 ?_
                  refine q_top (nI (TN z + 12)) (nI_add (TN z) 12) ?_
                  refine q_ic_ge hX 253 dL_fits_41 (by decide) (fun c4 => ?_) (fun c4 => ?_)
                  · -- jump 253
                    have nc4 : ((TN z + 12 : Nat) ≤ d) := (nI_leI (a := TN z + 12) (b := d) (by omega) (by omega)).mp c4
                    refine q_iinc hX (nI (r + 1)) 2 [(2, .int (nI (r + 1))), (0, .ref (G.2.2 192)), (1, .int (nI (TN z))), (3, .int (nI d))] dL_fits_253 rfl (nI_1 r) (by decide) rfl ?_
                    refine q_goto hX 8 dL_fits_256 (by decide) ?_
                    refine q_sub [1, 2, 0] [(0, .ref (G.2.2 192)), (1, .int (nI (TN z))), (2, .int (nI (r + 1)))] rfl ?_
                    exact ih8 (r + 1) (by omega) (by omega)
                  · -- on 44
                    have nc4 : ¬ ((TN z + 12 : Nat) ≤ d) := fun q => c4 ((nI_leI (a := TN z + 12) (b := d) (by omega) (by omega)).mpr q)
                    refine q_iconst hX 0 dL_fits_44 (by decide) ?_
                    refine q_istore hX [(4, .int 0), (0, .ref (G.2.2 192)), (1, .int (nI (TN z))), (2, .int (nI r)), (3, .int (nI d))] dL_fits_45 (by decide) rfl ?_
                    refine q_iconst hX 0 dL_fits_47 (by decide) ?_
                    refine q_istore hX [(5, .int 0), (4, .int 0), (0, .ref (G.2.2 192)), (1, .int (nI (TN z))), (2, .int (nI r)), (3, .int (nI d))] dL_fits_48 (by decide) rfl ?_
                    refine q_iconst hX 0 dL_fits_50 (by decide) ?_
                    refine q_istore hX [(6, .int 0), (5, .int 0), (4, .int 0), (0, .ref (G.2.2 192)), (1, .int (nI (TN z))), (2, .int (nI r)), (3, .int (nI d))] dL_fits_51 (by decide) rfl ?_
                    have loop53 : ∀ (nf53 : Nat) (k : Nat), (nA z < k + nf53) → (k ≤ nA z) → LG X B 0 (fun _ => 0) G 0 0 z 53 [(0, .ref (G.2.2 192)), (1, .int (nI (TN z))), (2, .int (nI r)), (3, .int (nI d)), (4, .int (nI (nS (tkF z r d) k))), (5, .int (nI (nS (stF z r d 2) k))), (6, .int (nI k))] [] := by
                      intro nf53
                      induction nf53 with
                      | zero =>
                        intro k hmu53 hk0
                        exfalso; omega
                      | succ nf53 ih53 =>
                        intro k hmu53 hk0
                        refine q_iload hX 6 dL_fits_53 rfl ?_
                        refine q_aload_n hX 0 dL_fits_55 rfl ?_
                        refine q_iconst hX 3 dL_fits_56 (by decide) ?_
                        refine q_cv hX hG (by decide) (by decide) (As := [.int 3]) (rest := [.int (nI k)]) (c_X6_count l G z (w := 3) (hI := hJ.io)) k_L_fits_X6_count (fun _ _ => rfl) rfl rfl (Nat.le_of_ble_eq_true rfl) dL_fits_57 ?_
                        refine q_top (nI (nA z)) (ct3 hJ) ?_
                        refine q_ic_ge hX 168 dL_fits_60 (by decide) (fun c5 => ?_) (fun c5 => ?_)
                        · -- jump 168
                          have nc5 : ((nA z : Nat) ≤ k) := (nI_leI (a := nA z) (b := k) (by omega) (by omega)).mp c5
                          have ek : k = nA z := by omega
                          obtain ⟨-, l1, l2, -, l3⟩ := hJ.rj (r := r) (by omega)
                          have htj := hJ.tj (r := r) (d := d) (by omega) (by omega)
                          refine q_lv (lv' := [(0, .ref (G.2.2 192)), (1, .int (nI (TN z))), (2, .int (nI r)), (3, .int (nI d)), (4, .int (nI (tkN z r d))), (5, .int (nI (stN z r d 2))), (6, .int (nI k))]) (by rw [ek]; rfl) ?_
                          refine q_aload_n hX 0 dL_fits_168 rfl ?_
                          refine q_iload_n hX 2 dL_fits_169 rfl ?_
                          refine q_iload_n hX 3 dL_fits_170 rfl ?_
                          refine q_iconst hX 0 dL_fits_171 (by decide) ?_
                          refine q_cv hX hG (by decide) (by decide) (As := [.int (nI r), .int (nI d), .int 0]) (rest := []) (c_X6_onRoute l G z (r := (nI r)) (d := (nI d)) (w := 0) (hI := hJ.io)) k_L_fits_X6_onRoute (fun _ _ => rfl) rfl rfl (Nat.le_of_ble_eq_true rfl) dL_fits_172 ?_
                          refine q_top (nI (cn (z 5 r))) (rt0 hJ (r := r) (d := d) (by omega) (by omega)) ?_
                          refine q_aload_n hX 0 dL_fits_175 rfl ?_
                          refine q_iload_n hX 2 dL_fits_176 rfl ?_
                          refine q_iload_n hX 3 dL_fits_177 rfl ?_
                          refine q_iconst hX 1 dL_fits_178 (by decide) ?_
                          refine q_cv hX hG (by decide) (by decide) (As := [.int (nI r), .int (nI d), .int 1]) (rest := [.int (nI (cn (z 5 r)))]) (c_X6_onRoute l G z (r := (nI r)) (d := (nI d)) (w := 1) (hI := hJ.io)) k_L_fits_X6_onRoute (fun _ _ => rfl) rfl rfl (Nat.le_of_ble_eq_true rfl) dL_fits_179 ?_
                          refine q_top (nI (cn (z 6 r))) (rt1 hJ (r := r) (d := d) (by omega) (by omega)) ?_
                          refine q_isub hX dL_fits_182 ?_
                          refine q_top (nI (cn (z 5 r) - cn (z 6 r))) (pk_sub (a := cn (z 5 r)) (b := cn (z 6 r)) (by omega)) ?_
                          refine q_iload hX 4 dL_fits_183 rfl ?_
                          refine q_isub hX dL_fits_185 ?_
                          refine q_istore hX [(6, .int ((nI (cn (z 5 r) - cn (z 6 r))) - (nI (tkN z r d)))), (0, .ref (G.2.2 192)), (1, .int (nI (TN z))), (2, .int (nI r)), (3, .int (nI d)), (4, .int (nI (tkN z r d))), (5, .int (nI (stN z r d 2)))] dL_fits_186 (by decide) rfl ?_
                          refine q_aload_n hX 1 dL_fits_188 rfl ?_
                          refine q_iload_n hX 3 dL_fits_189 rfl ?_
                          refine q_iload_n hX 4 dL_fits_190 rfl ?_
                          refine q_iconst hX 2 dL_fits_191 (by decide) ?_
                          refine q_cv hX hG (by decide) (by decide) (As := [.int (nI r), .int (nI d), .int 2]) (rest := []) (c_X6_onRoute l G z (r := (nI r)) (d := (nI d)) (w := 2) (hI := hJ.io)) k_L_fits_X6_onRoute (fun _ _ => rfl) rfl rfl (Nat.le_of_ble_eq_true rfl) dL_fits_192 ?_
                          refine q_top (nI (tkN z r d)) (rt2 hJ (r := r) (d := d) (by omega) (by omega)) ?_
                          refine q_iload hX 5 dL_fits_195 rfl ?_
                          refine q_ic_ne hX 245 dL_fits_197 (by decide) (fun c6 => ?_) (fun c6 => ?_)
                          · -- jump 245
                            exact absurd rfl c6
                          · -- on 200
                            refine q_iload hX 5 dL_fits_200 rfl ?_
                            refine q_aload_n hX 1 dL_fits_202 rfl ?_
                            refine q_iload_n hX 3 dL_fits_203 rfl ?_
                            refine q_iload_n hX 4 dL_fits_204 rfl ?_
                            refine q_iconst hX 0 dL_fits_205 (by decide) ?_
                            refine q_cv hX hG (by decide) (by decide) (As := [.int (nI r), .int (nI d), .int 0]) (rest := [.int (nI (tkN z r d))]) (c_X6_onRoute l G z (r := (nI r)) (d := (nI d)) (w := 0) (hI := hJ.io)) k_L_fits_X6_onRoute (fun _ _ => rfl) rfl rfl (Nat.le_of_ble_eq_true rfl) dL_fits_206 ?_
                            refine q_top (nI (cn (z 5 r))) (rt0 hJ (r := r) (d := d) (by omega) (by omega)) ?_
                            refine q_ic_gt hX 245 dL_fits_209 (by decide) (fun c7 => ?_) (fun c7 => ?_)
                            · -- jump 245
                              have nc7 : ((cn (z 5 r) : Nat) < tkN z r d) := (nI_ltI (a := cn (z 5 r)) (b := tkN z r d) (by omega) (by omega)).mp c7
                              refine q_iconst hX 0 dL_fits_245 (by decide) ?_
                              exfalso
                              omega
                            · -- on 212
                              have nc7 : ¬ ((cn (z 5 r) : Nat) < tkN z r d) := fun q => c7 ((nI_ltI (a := cn (z 5 r)) (b := tkN z r d) (by omega) (by omega)).mpr q)
                              refine q_aload_n hX 1 dL_fits_212 rfl ?_
                              refine q_iload_n hX 3 dL_fits_213 rfl ?_
                              refine q_iload_n hX 4 dL_fits_214 rfl ?_
                              refine q_iconst hX 3 dL_fits_215 (by decide) ?_
                              refine q_cv hX hG (by decide) (by decide) (As := [.int (nI r), .int (nI d), .int 3]) (rest := []) (c_X6_onRoute l G z (r := (nI r)) (d := (nI d)) (w := 3) (hI := hJ.io)) k_L_fits_X6_onRoute (fun _ _ => rfl) rfl rfl (Nat.le_of_ble_eq_true rfl) dL_fits_216 ?_
                              refine q_top (nI (pl_N z r d)) (rt3 hJ (r := r) (d := d) (by omega) (by omega)) ?_
                              have km8 : LG X B 0 (fun _ => 0) G 0 0 z 230 [(6, .int ((nI (cn (z 5 r) - cn (z 6 r))) - (nI (tkN z r d)))), (0, .ref (G.2.2 192)), (1, .int (nI (TN z))), (2, .int (nI r)), (3, .int (nI d)), (4, .int (nI (tkN z r d))), (5, .int (nI (stN z r d 2)))] [.int (nI (pl_N z r d)), .int (nI (pl_N z r d))] := by
                                refine q_ic_ne hX 245 dL_fits_230 (by decide) (fun c9 => ?_) (fun c9 => ?_)
                                · -- jump 245
                                  exact absurd rfl c9
                                · -- on 233
                                  refine q_aload_n hX 1 dL_fits_233 rfl ?_
                                  refine q_iload_n hX 3 dL_fits_234 rfl ?_
                                  refine q_iload_n hX 4 dL_fits_235 rfl ?_
                                  refine q_iconst hX 5 dL_fits_236 (by decide) ?_
                                  refine q_cv hX hG (by decide) (by decide) (As := [.int (nI r), .int (nI d), .int 5]) (rest := []) (c_X6_onRoute l G z (r := (nI r)) (d := (nI d)) (w := 5) (hI := hJ.io)) k_L_fits_X6_onRoute (fun _ _ => rfl) rfl rfl (Nat.le_of_ble_eq_true rfl) dL_fits_237 ?_
                                  refine q_top (nI (stN z r d 2)) (rt5 hJ (r := r) (d := d) (by omega) (by omega)) ?_
                                  refine q_iload hX 6 dL_fits_240 rfl ?_
                                  refine q_ic_eq hX 247 dL_fits_242 (by decide) (fun c10 => ?_) (fun c10 => ?_)
                                  · -- jump 247
                                    refine q_iinc hX (nI (d + 1)) 4 [(3, .int (nI (d + 1))), (6, .int ((nI (cn (z 5 r) - cn (z 6 r))) - (nI (tkN z r d)))), (0, .ref (G.2.2 192)), (1, .int (nI (TN z))), (2, .int (nI r)), (4, .int (nI (tkN z r d))), (5, .int (nI (stN z r d 2)))] dL_fits_247 rfl (nI_1 d) (by decide) rfl ?_
                                    refine q_goto hX 30 dL_fits_250 (by decide) ?_
                                    refine q_sub [2, 3, 4, 0] [(0, .ref (G.2.2 192)), (1, .int (nI (TN z))), (2, .int (nI r)), (3, .int (nI (d + 1)))] rfl ?_
                                    exact ih30 (d + 1) (by omega) (by omega)
                                  · -- on 245
                                    exact absurd rfl c10
                              refine q_iload hX 0 dL_fits_219 rfl ?_
                              refine q_if_ge hX 228 dL_fits_221 (by decide) (fun c11 => ?_) (fun c11 => ?_)
                              · -- jump 228
                                refine q_iload hX 0 dL_fits_228 rfl ?_
                                refine q_top (nI (pl_N z r d)) (by
                                  first | exact (left_law l2 l3 (hJ.oi.tk_le r d)).1 (by assumption) | (rw [show pl_N z r d = 0 from (left_law l2 l3 (hJ.oi.tk_le r d)).2 (by assumption)]; rfl)) ?_
                                refine q_sub [0, 1, 2, 3, 4, 5, 6] [(6, .int ((nI (cn (z 5 r) - cn (z 6 r))) - (nI (tkN z r d)))), (0, .ref (G.2.2 192)), (1, .int (nI (TN z))), (2, .int (nI r)), (3, .int (nI d)), (4, .int (nI (tkN z r d))), (5, .int (nI (stN z r d 2)))] rfl ?_
                                exact km8
                              · -- on 224
                                refine q_iconst hX 0 dL_fits_224 (by decide) ?_
                                refine q_goto hX 230 dL_fits_225 (by decide) ?_
                                refine q_top (nI (pl_N z r d)) (by
                                  first | exact (left_law l2 l3 (hJ.oi.tk_le r d)).1 (by assumption) | (rw [show pl_N z r d = 0 from (left_law l2 l3 (hJ.oi.tk_le r d)).2 (by assumption)]; rfl)) ?_
                                refine q_sub [0, 1, 2, 3, 4, 5, 6] [(6, .int ((nI (cn (z 5 r) - cn (z 6 r))) - (nI (tkN z r d)))), (0, .ref (G.2.2 192)), (1, .int (nI (TN z))), (2, .int (nI r)), (3, .int (nI d)), (4, .int (nI (tkN z r d))), (5, .int (nI (stN z r d 2)))] rfl ?_
                                exact km8
                        · -- on 63
                          have nc5 : ¬ ((nA z : Nat) ≤ k) := fun q => c5 ((nI_leI (a := nA z) (b := k) (by omega) (by omega)).mpr q)
                          have hk : k < nA z := by omega
                          obtain ⟨⟨-, hc1, hc2⟩, ⟨-, hr1, hr2⟩, ⟨-, hd6⟩, ⟨-, hp1, hp4⟩, ⟨-, hs7⟩, hk40⟩ := hJ.ap hk
                          obtain ⟨j1, j2, j3, ⟨j16, j4⟩, ⟨j17, j5⟩, j6, j7⟩ := hJ.aj hk
                          have j2a : a_s z k = 0 → TN z ≤ a_d z k := fun q => (j2 q).1
                          have hwt := hJ.wt hk
                          refine q_aload_n hX 0 dL_fits_63 rfl ?_
                          refine q_iload hX 6 dL_fits_64 rfl ?_
                          refine q_iconst hX 1 dL_fits_66 (by decide) ?_
                          refine q_cv hX hG (by decide) (by decide) (As := [.int (nI k), .int 1]) (rest := []) (c_X6_application l G z (a := (nI k)) (w := 1) (hI := hJ.io)) k_L_fits_X6_application (fun _ _ => rfl) rfl rfl (Nat.le_of_ble_eq_true rfl) dL_fits_67 ?_
                          refine q_top (nI (a_r z k)) (ap1 hJ (a := k) (by omega)) ?_
                          refine q_iload_n hX 2 dL_fits_70 rfl ?_
                          refine q_ic_ne hX 162 dL_fits_71 (by decide) (fun c12 => ?_) (fun c12 => ?_)
                          · -- jump 162
                            have nc12 : ¬ ((a_r z k : Nat) = r) := fun q => c12 ((nI_eq (a := a_r z k) (b := r) (by omega) (by omega)).mpr q)
                            refine q_iinc hX (nI (k + 1)) 6 [(6, .int (nI (k + 1))), (0, .ref (G.2.2 192)), (1, .int (nI (TN z))), (2, .int (nI r)), (3, .int (nI d)), (4, .int (nI (nS (tkF z r d) k))), (5, .int (nI (nS (stF z r d 2) k)))] dL_fits_162 rfl (nI_1 k) (by decide) rfl ?_
                            refine q_goto hX 53 dL_fits_165 (by decide) ?_
                            refine q_sub [1, 2, 3, 4, 5, 6, 0] [(0, .ref (G.2.2 192)), (1, .int (nI (TN z))), (2, .int (nI r)), (3, .int (nI d)), (4, .int (nI (nS (tkF z r d) k))), (5, .int (nI (nS (stF z r d 2) k))), (6, .int (nI (k + 1)))] rfl ?_
                            have el4 : (nI (nS (tkF z r d) k) : Int32) = nI (nS (tkF z r d) (k + 1)) := by first | rfl | (show nI (nS (tkF z r d) k) = nI (nS (tkF z r d) k + tkF z r d k); rw [show tkF z r d k = 0 from if_neg (by omega), Nat.add_zero])
                            refine q_lv (lv' := [(0, .ref (G.2.2 192)), (1, .int (nI (TN z))), (2, .int (nI r)), (3, .int (nI d)), (4, .int (nI (nS (tkF z r d) (k + 1)))), (5, .int (nI (nS (stF z r d 2) k))), (6, .int (nI (k + 1)))]) (by rw [← el4]) ?_
                            have el5 : (nI (nS (stF z r d 2) k) : Int32) = nI (nS (stF z r d 2) (k + 1)) := by first | rfl | (show nI (nS (stF z r d 2) k) = nI (nS (stF z r d 2) k + stF z r d 2 k); rw [show stF z r d 2 k = 0 from if_neg (by omega), Nat.add_zero])
                            refine q_lv (lv' := [(0, .ref (G.2.2 192)), (1, .int (nI (TN z))), (2, .int (nI r)), (3, .int (nI d)), (4, .int (nI (nS (tkF z r d) (k + 1)))), (5, .int (nI (nS (stF z r d 2) (k + 1)))), (6, .int (nI (k + 1)))]) (by rw [← el5]) ?_
                            exact ih53 (k + 1) (by omega) (by omega)
                          · -- on 74
                            have nc12 : ((a_r z k : Nat) = r) := (nI_eq (a := a_r z k) (b := r) (by omega) (by omega)).mp (Decidable.not_not.mp c12)
                            refine q_aload_n hX 0 dL_fits_74 rfl ?_
                            refine q_iload hX 6 dL_fits_75 rfl ?_
                            refine q_iconst hX 2 dL_fits_77 (by decide) ?_
                            refine q_cv hX hG (by decide) (by decide) (As := [.int (nI k), .int 2]) (rest := []) (c_X6_application l G z (a := (nI k)) (w := 2) (hI := hJ.io)) k_L_fits_X6_application (fun _ _ => rfl) rfl rfl (Nat.le_of_ble_eq_true rfl) dL_fits_78 ?_
                            refine q_top (nI (a_d z k)) (ap2 hJ (a := k) (by omega)) ?_
                            refine q_iload_n hX 3 dL_fits_81 rfl ?_
                            refine q_ic_ne hX 162 dL_fits_82 (by decide) (fun c13 => ?_) (fun c13 => ?_)
                            · -- jump 162
                              have nc13 : ¬ ((a_d z k : Nat) = d) := fun q => c13 ((nI_eq (a := a_d z k) (b := d) (by omega) (by omega)).mpr q)
                              refine q_iinc hX (nI (k + 1)) 6 [(6, .int (nI (k + 1))), (0, .ref (G.2.2 192)), (1, .int (nI (TN z))), (2, .int (nI r)), (3, .int (nI d)), (4, .int (nI (nS (tkF z r d) k))), (5, .int (nI (nS (stF z r d 2) k)))] dL_fits_162 rfl (nI_1 k) (by decide) rfl ?_
                              refine q_goto hX 53 dL_fits_165 (by decide) ?_
                              refine q_sub [1, 2, 3, 4, 5, 6, 0] [(0, .ref (G.2.2 192)), (1, .int (nI (TN z))), (2, .int (nI r)), (3, .int (nI d)), (4, .int (nI (nS (tkF z r d) k))), (5, .int (nI (nS (stF z r d 2) k))), (6, .int (nI (k + 1)))] rfl ?_
                              have el4 : (nI (nS (tkF z r d) k) : Int32) = nI (nS (tkF z r d) (k + 1)) := by first | rfl | (show nI (nS (tkF z r d) k) = nI (nS (tkF z r d) k + tkF z r d k); rw [show tkF z r d k = 0 from if_neg (by omega), Nat.add_zero])
                              refine q_lv (lv' := [(0, .ref (G.2.2 192)), (1, .int (nI (TN z))), (2, .int (nI r)), (3, .int (nI d)), (4, .int (nI (nS (tkF z r d) (k + 1)))), (5, .int (nI (nS (stF z r d 2) k))), (6, .int (nI (k + 1)))]) (by rw [← el4]) ?_
                              have el5 : (nI (nS (stF z r d 2) k) : Int32) = nI (nS (stF z r d 2) (k + 1)) := by first | rfl | (show nI (nS (stF z r d 2) k) = nI (nS (stF z r d 2) k + stF z r d 2 k); rw [show stF z r d 2 k = 0 from if_neg (by omega), Nat.add_zero])
                              refine q_lv (lv' := [(0, .ref (G.2.2 192)), (1, .int (nI (TN z))), (2, .int (nI r)), (3, .int (nI d)), (4, .int (nI (nS (tkF z r d) (k + 1)))), (5, .int (nI (nS (stF z r d 2) (k + 1)))), (6, .int (nI (k + 1)))]) (by rw [← el5]) ?_
                              exact ih53 (k + 1) (by omega) (by omega)
                            · -- on 85
                              have nc13 : ((a_d z k : Nat) = d) := (nI_eq (a := a_d z k) (b := d) (by omega) (by omega)).mp (Decidable.not_not.mp c13)
                              refine q_aload_n hX 0 dL_fits_85 rfl ?_
                              refine q_iload hX 6 dL_fits_86 rfl ?_
                              refine q_iconst hX 4 dL_fits_88 (by decide) ?_
                              refine q_cv hX hG (by decide) (by decide) (As := [.int (nI k), .int 4]) (rest := []) (c_X6_application l G z (a := (nI k)) (w := 4) (hI := hJ.io)) k_L_fits_X6_application (fun _ _ => rfl) rfl rfl (Nat.le_of_ble_eq_true rfl) dL_fits_89 ?_
                              refine q_top (nI (a_s z k)) (ap4 hJ (a := k) (by omega)) ?_
                              refine q_istore hX [(7, .int (nI (a_s z k))), (0, .ref (G.2.2 192)), (1, .int (nI (TN z))), (2, .int (nI r)), (3, .int (nI d)), (4, .int (nI (nS (tkF z r d) k))), (5, .int (nI (nS (stF z r d 2) k))), (6, .int (nI k))] dL_fits_92 (by decide) rfl ?_
                              refine q_iload hX 5 dL_fits_94 rfl ?_
                              have km14 : LG X B 0 (fun _ => 0) G 0 0 z 119 [(7, .int (nI (a_s z k))), (0, .ref (G.2.2 192)), (1, .int (nI (TN z))), (2, .int (nI r)), (3, .int (nI d)), (4, .int (nI (nS (tkF z r d) k))), (5, .int (nI (nS (stF z r d 2) k))), (6, .int (nI k))] [.int (nI (tkF z r d k)), .int (nI (nS (tkF z r d) k))] := by
                                refine q_iadd hX dL_fits_119 ?_
                                refine q_top (nI (nS (tkF z r d) k + tkF z r d k)) (nI_add (nS (tkF z r d) k) (tkF z r d k)) ?_
                                refine q_istore hX [(4, .int (nI (nS (tkF z r d) k + tkF z r d k))), (7, .int (nI (a_s z k))), (0, .ref (G.2.2 192)), (1, .int (nI (TN z))), (2, .int (nI r)), (3, .int (nI d)), (5, .int (nI (nS (stF z r d 2) k))), (6, .int (nI k))] dL_fits_120 (by decide) rfl ?_
                                refine q_iload hX 6 dL_fits_122 rfl ?_
                                have km15 : LG X B 0 (fun _ => 0) G 0 0 z 135 [(4, .int (nI (nS (tkF z r d) k + tkF z r d k))), (7, .int (nI (a_s z k))), (0, .ref (G.2.2 192)), (1, .int (nI (TN z))), (2, .int (nI r)), (3, .int (nI d)), (5, .int (nI (nS (stF z r d 2) k))), (6, .int (nI k))] [.int (nI (stF z r d 2 k)), .int (nI (nS (stF z r d 2) k))] := by
                                  refine q_iadd hX dL_fits_135 ?_
                                  refine q_top (nI (nS (stF z r d 2) k + stF z r d 2 k)) (nI_add (nS (stF z r d 2) k) (stF z r d 2 k)) ?_
                                  refine q_istore hX [(5, .int (nI (nS (stF z r d 2) k + stF z r d 2 k))), (4, .int (nI (nS (tkF z r d) k + tkF z r d k))), (7, .int (nI (a_s z k))), (0, .ref (G.2.2 192)), (1, .int (nI (TN z))), (2, .int (nI r)), (3, .int (nI d)), (6, .int (nI k))] dL_fits_136 (by decide) rfl ?_
                                  refine q_iload_n hX 6 dL_fits_138 rfl ?_
                                  refine q_iload_n hX 4 dL_fits_139 rfl ?_
                                  refine q_ic_ge hX 149 dL_fits_140 (by decide) (fun c16 => ?_) (fun c16 => ?_)
                                  · -- jump 149
                                    have nc16 : ((TN z : Nat) ≤ d) := (nI_leI (a := TN z) (b := d) (by omega) (by omega)).mp c16
                                    refine q_iload_n hX 6 dL_fits_149 rfl ?_
                                    refine q_iload_n hX 4 dL_fits_150 rfl ?_
                                    refine q_ic_lt hX 162 dL_fits_151 (by decide) (fun c17 => ?_) (fun c17 => ?_)
                                    · -- jump 162
                                      have nc17 : ((d : Nat) < TN z) := (nI_ltI (a := d) (b := TN z) (by omega) (by omega)).mp c17
                                      refine q_iinc hX (nI (k + 1)) 7 [(6, .int (nI (k + 1))), (5, .int (nI (nS (stF z r d 2) k + stF z r d 2 k))), (4, .int (nI (nS (tkF z r d) k + tkF z r d k))), (7, .int (nI (a_s z k))), (0, .ref (G.2.2 192)), (1, .int (nI (TN z))), (2, .int (nI r)), (3, .int (nI d))] dL_fits_162 rfl (nI_1 k) (by decide) rfl ?_
                                      refine q_goto hX 53 dL_fits_165 (by decide) ?_
                                      refine q_sub [4, 5, 6, 7, 2, 1, 0] [(0, .ref (G.2.2 192)), (1, .int (nI (TN z))), (2, .int (nI r)), (3, .int (nI d)), (4, .int (nI (nS (tkF z r d) k + tkF z r d k))), (5, .int (nI (nS (stF z r d 2) k + stF z r d 2 k))), (6, .int (nI (k + 1)))] rfl ?_
                                      have el4 : (nI (nS (tkF z r d) k + tkF z r d k) : Int32) = nI (nS (tkF z r d) (k + 1)) := by first | rfl | (show nI (nS (tkF z r d) k) = nI (nS (tkF z r d) k + tkF z r d k); rw [show tkF z r d k = 0 from if_neg (by omega), Nat.add_zero])
                                      refine q_lv (lv' := [(0, .ref (G.2.2 192)), (1, .int (nI (TN z))), (2, .int (nI r)), (3, .int (nI d)), (4, .int (nI (nS (tkF z r d) (k + 1)))), (5, .int (nI (nS (stF z r d 2) k + stF z r d 2 k))), (6, .int (nI (k + 1)))]) (by rw [← el4]) ?_
                                      have el5 : (nI (nS (stF z r d 2) k + stF z r d 2 k) : Int32) = nI (nS (stF z r d 2) (k + 1)) := by first | rfl | (show nI (nS (stF z r d 2) k) = nI (nS (stF z r d 2) k + stF z r d 2 k); rw [show stF z r d 2 k = 0 from if_neg (by omega), Nat.add_zero])
                                      refine q_lv (lv' := [(0, .ref (G.2.2 192)), (1, .int (nI (TN z))), (2, .int (nI r)), (3, .int (nI d)), (4, .int (nI (nS (tkF z r d) (k + 1)))), (5, .int (nI (nS (stF z r d 2) (k + 1)))), (6, .int (nI (k + 1)))]) (by rw [← el5]) ?_
                                      exact ih53 (k + 1) (by omega) (by omega)
                                    · -- on 154
                                      have nc17 : ¬ ((d : Nat) < TN z) := fun q => c17 ((nI_ltI (a := d) (b := TN z) (by omega) (by omega)).mpr q)
                                      refine q_iload hX 2 dL_fits_154 rfl ?_
                                      refine q_iconst hX 4 dL_fits_156 (by decide) ?_
                                      refine q_ic_le hX 162 dL_fits_157 (by decide) (fun c18 => ?_) (fun c18 => ?_)
                                      · -- jump 162
                                        have nc18 : ((a_s z k : Nat) ≤ 4) := (nI_leI (a := a_s z k) (b := 4) (by omega) (by omega)).mp c18
                                        refine q_iinc hX (nI (k + 1)) 7 [(6, .int (nI (k + 1))), (5, .int (nI (nS (stF z r d 2) k + stF z r d 2 k))), (4, .int (nI (nS (tkF z r d) k + tkF z r d k))), (7, .int (nI (a_s z k))), (0, .ref (G.2.2 192)), (1, .int (nI (TN z))), (2, .int (nI r)), (3, .int (nI d))] dL_fits_162 rfl (nI_1 k) (by decide) rfl ?_
                                        refine q_goto hX 53 dL_fits_165 (by decide) ?_
                                        refine q_sub [4, 5, 6, 7, 2, 1, 0] [(0, .ref (G.2.2 192)), (1, .int (nI (TN z))), (2, .int (nI r)), (3, .int (nI d)), (4, .int (nI (nS (tkF z r d) k + tkF z r d k))), (5, .int (nI (nS (stF z r d 2) k + stF z r d 2 k))), (6, .int (nI (k + 1)))] rfl ?_
                                        have el4 : (nI (nS (tkF z r d) k + tkF z r d k) : Int32) = nI (nS (tkF z r d) (k + 1)) := by first | rfl | (show nI (nS (tkF z r d) k) = nI (nS (tkF z r d) k + tkF z r d k); rw [show tkF z r d k = 0 from if_neg (by omega), Nat.add_zero])
                                        refine q_lv (lv' := [(0, .ref (G.2.2 192)), (1, .int (nI (TN z))), (2, .int (nI r)), (3, .int (nI d)), (4, .int (nI (nS (tkF z r d) (k + 1)))), (5, .int (nI (nS (stF z r d 2) k + stF z r d 2 k))), (6, .int (nI (k + 1)))]) (by rw [← el4]) ?_
                                        have el5 : (nI (nS (stF z r d 2) k + stF z r d 2 k) : Int32) = nI (nS (stF z r d 2) (k + 1)) := by first | rfl | (show nI (nS (stF z r d 2) k) = nI (nS (stF z r d 2) k + stF z r d 2 k); rw [show stF z r d 2 k = 0 from if_neg (by omega), Nat.add_zero])
                                        refine q_lv (lv' := [(0, .ref (G.2.2 192)), (1, .int (nI (TN z))), (2, .int (nI r)), (3, .int (nI d)), (4, .int (nI (nS (tkF z r d) (k + 1)))), (5, .int (nI (nS (stF z r d 2) (k + 1)))), (6, .int (nI (k + 1)))]) (by rw [← el5]) ?_
                                        exact ih53 (k + 1) (by omega) (by omega)
                                      · -- on 160
                                        have nc18 : ¬ ((a_s z k : Nat) ≤ 4) := fun q => c18 ((nI_leI (a := a_s z k) (b := 4) (by omega) (by omega)).mpr q)
                                        refine q_iconst hX 0 dL_fits_160 (by decide) ?_
                                        exfalso
                                        omega
                                  · -- on 143
                                    have nc16 : ¬ ((TN z : Nat) ≤ d) := fun q => c16 ((nI_leI (a := TN z) (b := d) (by omega) (by omega)).mpr q)
                                    refine q_iload hX 2 dL_fits_143 rfl ?_
                                    refine q_iconst hX 2 dL_fits_145 (by decide) ?_
                                    refine q_ic_lt hX 160 dL_fits_146 (by decide) (fun c19 => ?_) (fun c19 => ?_)
                                    · -- jump 160
                                      have nc19 : ((a_s z k : Nat) < 2) := (nI_ltI (a := a_s z k) (b := 2) (by omega) (by omega)).mp c19
                                      refine q_iconst hX 0 dL_fits_160 (by decide) ?_
                                      exfalso
                                      omega
                                    · -- on 149
                                      have nc19 : ¬ ((a_s z k : Nat) < 2) := fun q => c19 ((nI_ltI (a := a_s z k) (b := 2) (by omega) (by omega)).mpr q)
                                      refine q_iload_n hX 6 dL_fits_149 rfl ?_
                                      refine q_iload_n hX 4 dL_fits_150 rfl ?_
                                      refine q_ic_lt hX 162 dL_fits_151 (by decide) (fun c20 => ?_) (fun c20 => ?_)
                                      · -- jump 162
                                        have nc20 : ((d : Nat) < TN z) := (nI_ltI (a := d) (b := TN z) (by omega) (by omega)).mp c20
                                        refine q_iinc hX (nI (k + 1)) 7 [(6, .int (nI (k + 1))), (5, .int (nI (nS (stF z r d 2) k + stF z r d 2 k))), (4, .int (nI (nS (tkF z r d) k + tkF z r d k))), (7, .int (nI (a_s z k))), (0, .ref (G.2.2 192)), (1, .int (nI (TN z))), (2, .int (nI r)), (3, .int (nI d))] dL_fits_162 rfl (nI_1 k) (by decide) rfl ?_
                                        refine q_goto hX 53 dL_fits_165 (by decide) ?_
                                        refine q_sub [4, 5, 6, 7, 2, 1, 0] [(0, .ref (G.2.2 192)), (1, .int (nI (TN z))), (2, .int (nI r)), (3, .int (nI d)), (4, .int (nI (nS (tkF z r d) k + tkF z r d k))), (5, .int (nI (nS (stF z r d 2) k + stF z r d 2 k))), (6, .int (nI (k + 1)))] rfl ?_
                                        have el4 : (nI (nS (tkF z r d) k + tkF z r d k) : Int32) = nI (nS (tkF z r d) (k + 1)) := by first | rfl | (show nI (nS (tkF z r d) k) = nI (nS (tkF z r d) k + tkF z r d k); rw [show tkF z r d k = 0 from if_neg (by omega), Nat.add_zero])
                                        refine q_lv (lv' := [(0, .ref (G.2.2 192)), (1, .int (nI (TN z))), (2, .int (nI r)), (3, .int (nI d)), (4, .int (nI (nS (tkF z r d) (k + 1)))), (5, .int (nI (nS (stF z r d 2) k + stF z r d 2 k))), (6, .int (nI (k + 1)))]) (by rw [← el4]) ?_
                                        have el5 : (nI (nS (stF z r d 2) k + stF z r d 2 k) : Int32) = nI (nS (stF z r d 2) (k + 1)) := by first | rfl | (show nI (nS (stF z r d 2) k) = nI (nS (stF z r d 2) k + stF z r d 2 k); rw [show stF z r d 2 k = 0 from if_neg (by omega), Nat.add_zero])
                                        refine q_lv (lv' := [(0, .ref (G.2.2 192)), (1, .int (nI (TN z))), (2, .int (nI r)), (3, .int (nI d)), (4, .int (nI (nS (tkF z r d) (k + 1)))), (5, .int (nI (nS (stF z r d 2) (k + 1)))), (6, .int (nI (k + 1)))]) (by rw [← el5]) ?_
                                        exact ih53 (k + 1) (by omega) (by omega)
                                      · -- on 154
                                        have nc20 : ¬ ((d : Nat) < TN z) := fun q => c20 ((nI_ltI (a := d) (b := TN z) (by omega) (by omega)).mpr q)
                                        refine q_iload hX 2 dL_fits_154 rfl ?_
                                        refine q_iconst hX 4 dL_fits_156 (by decide) ?_
                                        refine q_ic_le hX 162 dL_fits_157 (by decide) (fun c21 => ?_) (fun c21 => ?_)
                                        · -- jump 162
                                          have nc21 : ((a_s z k : Nat) ≤ 4) := (nI_leI (a := a_s z k) (b := 4) (by omega) (by omega)).mp c21
                                          refine q_iinc hX (nI (k + 1)) 7 [(6, .int (nI (k + 1))), (5, .int (nI (nS (stF z r d 2) k + stF z r d 2 k))), (4, .int (nI (nS (tkF z r d) k + tkF z r d k))), (7, .int (nI (a_s z k))), (0, .ref (G.2.2 192)), (1, .int (nI (TN z))), (2, .int (nI r)), (3, .int (nI d))] dL_fits_162 rfl (nI_1 k) (by decide) rfl ?_
                                          refine q_goto hX 53 dL_fits_165 (by decide) ?_
                                          refine q_sub [4, 5, 6, 7, 2, 1, 0] [(0, .ref (G.2.2 192)), (1, .int (nI (TN z))), (2, .int (nI r)), (3, .int (nI d)), (4, .int (nI (nS (tkF z r d) k + tkF z r d k))), (5, .int (nI (nS (stF z r d 2) k + stF z r d 2 k))), (6, .int (nI (k + 1)))] rfl ?_
                                          have el4 : (nI (nS (tkF z r d) k + tkF z r d k) : Int32) = nI (nS (tkF z r d) (k + 1)) := by first | rfl | (show nI (nS (tkF z r d) k) = nI (nS (tkF z r d) k + tkF z r d k); rw [show tkF z r d k = 0 from if_neg (by omega), Nat.add_zero])
                                          refine q_lv (lv' := [(0, .ref (G.2.2 192)), (1, .int (nI (TN z))), (2, .int (nI r)), (3, .int (nI d)), (4, .int (nI (nS (tkF z r d) (k + 1)))), (5, .int (nI (nS (stF z r d 2) k + stF z r d 2 k))), (6, .int (nI (k + 1)))]) (by rw [← el4]) ?_
                                          have el5 : (nI (nS (stF z r d 2) k + stF z r d 2 k) : Int32) = nI (nS (stF z r d 2) (k + 1)) := by first | rfl | (show nI (nS (stF z r d 2) k) = nI (nS (stF z r d 2) k + stF z r d 2 k); rw [show stF z r d 2 k = 0 from if_neg (by omega), Nat.add_zero])
                                          refine q_lv (lv' := [(0, .ref (G.2.2 192)), (1, .int (nI (TN z))), (2, .int (nI r)), (3, .int (nI d)), (4, .int (nI (nS (tkF z r d) (k + 1)))), (5, .int (nI (nS (stF z r d 2) (k + 1)))), (6, .int (nI (k + 1)))]) (by rw [← el5]) ?_
                                          exact ih53 (k + 1) (by omega) (by omega)
                                        · -- on 160
                                          have nc21 : ¬ ((a_s z k : Nat) ≤ 4) := fun q => c21 ((nI_leI (a := a_s z k) (b := 4) (by omega) (by omega)).mpr q)
                                          refine q_iconst hX 0 dL_fits_160 (by decide) ?_
                                          exfalso
                                          omega
                                refine q_iload hX 1 dL_fits_124 rfl ?_
                                refine q_iconst hX 2 dL_fits_126 (by decide) ?_
                                refine q_ic_ne hX 134 dL_fits_127 (by decide) (fun c22 => ?_) (fun c22 => ?_)
                                · -- jump 134
                                  have nc22 : ¬ ((a_s z k : Nat) = 2) := fun q => c22 ((nI_eq (a := a_s z k) (b := 2) (by omega) (by omega)).mpr q)
                                  refine q_iconst hX 0 dL_fits_134 (by decide) ?_
                                  refine q_top (nI (stF z r d 2 k)) (by
                                    first | (rw [show stF z r d 2 k = 1 from if_pos ⟨⟨by omega, by omega⟩, by omega⟩]; rfl) | (rw [show stF z r d 2 k = 0 from if_neg (by omega)]; rfl)) ?_
                                  refine q_sub [0, 1, 2, 3, 4, 5, 6, 7] [(4, .int (nI (nS (tkF z r d) k + tkF z r d k))), (7, .int (nI (a_s z k))), (0, .ref (G.2.2 192)), (1, .int (nI (TN z))), (2, .int (nI r)), (3, .int (nI d)), (5, .int (nI (nS (stF z r d 2) k))), (6, .int (nI k))] rfl ?_
                                  exact km15
                                · -- on 130
                                  have nc22 : ((a_s z k : Nat) = 2) := (nI_eq (a := a_s z k) (b := 2) (by omega) (by omega)).mp (Decidable.not_not.mp c22)
                                  refine q_iconst hX 1 dL_fits_130 (by decide) ?_
                                  refine q_goto hX 135 dL_fits_131 (by decide) ?_
                                  refine q_top (nI (stF z r d 2 k)) (by
                                    first | (rw [show stF z r d 2 k = 1 from if_pos ⟨⟨by omega, by omega⟩, by omega⟩]; rfl) | (rw [show stF z r d 2 k = 0 from if_neg (by omega)]; rfl)) ?_
                                  refine q_sub [0, 1, 2, 3, 4, 5, 6, 7] [(4, .int (nI (nS (tkF z r d) k + tkF z r d k))), (7, .int (nI (a_s z k))), (0, .ref (G.2.2 192)), (1, .int (nI (TN z))), (2, .int (nI r)), (3, .int (nI d)), (5, .int (nI (nS (stF z r d 2) k))), (6, .int (nI k))] rfl ?_
                                  exact km15
                              refine q_iload hX 0 dL_fits_96 rfl ?_
                              refine q_iconst hX 1 dL_fits_98 (by decide) ?_
                              refine q_ic_eq hX 108 dL_fits_99 (by decide) (fun c23 => ?_) (fun c23 => ?_)
                              · -- jump 108
                                have nc23 : ((a_s z k : Nat) = 1) := (nI_eq (a := a_s z k) (b := 1) (by omega) (by omega)).mp c23
                                refine q_aload_n hX 1 dL_fits_108 rfl ?_
                                refine q_iload hX 7 dL_fits_109 rfl ?_
                                refine q_iconst hX 3 dL_fits_111 (by decide) ?_
                                refine q_cv hX hG (by decide) (by decide) (As := [.int (nI k), .int 3]) (rest := [.int (nI (nS (tkF z r d) k))]) (c_X6_application l G z (a := (nI k)) (w := 3) (hI := hJ.io)) k_L_fits_X6_application (fun _ _ => rfl) rfl rfl (Nat.le_of_ble_eq_true rfl) dL_fits_112 ?_
                                refine q_top (nI (a_p z k)) (ap3 hJ (a := k) (by omega)) ?_
                                refine q_goto hX 119 dL_fits_115 (by decide) ?_
                                refine q_top (nI (tkF z r d k)) (by
                                  first | (rw [show tkF z r d k = a_p z k from if_pos ⟨by omega, by omega, by omega⟩]) | (rw [show tkF z r d k = 0 from if_neg (by omega)]; rfl)) ?_
                                refine q_sub [0, 1, 2, 3, 4, 5, 6, 7] [(7, .int (nI (a_s z k))), (0, .ref (G.2.2 192)), (1, .int (nI (TN z))), (2, .int (nI r)), (3, .int (nI d)), (4, .int (nI (nS (tkF z r d) k))), (5, .int (nI (nS (stF z r d 2) k))), (6, .int (nI k))] rfl ?_
                                exact km14
                              · -- on 102
                                have nc23 : ¬ ((a_s z k : Nat) = 1) := fun q => c23 ((nI_eq (a := a_s z k) (b := 1) (by omega) (by omega)).mpr q)
                                refine q_iload hX 0 dL_fits_102 rfl ?_
                                refine q_iconst hX 4 dL_fits_104 (by decide) ?_
                                refine q_ic_le hX 118 dL_fits_105 (by decide) (fun c24 => ?_) (fun c24 => ?_)
                                · -- jump 118
                                  have nc24 : ((a_s z k : Nat) ≤ 4) := (nI_leI (a := a_s z k) (b := 4) (by omega) (by omega)).mp c24
                                  refine q_iconst hX 0 dL_fits_118 (by decide) ?_
                                  refine q_top (nI (tkF z r d k)) (by
                                    first | (rw [show tkF z r d k = a_p z k from if_pos ⟨by omega, by omega, by omega⟩]) | (rw [show tkF z r d k = 0 from if_neg (by omega)]; rfl)) ?_
                                  refine q_sub [0, 1, 2, 3, 4, 5, 6, 7] [(7, .int (nI (a_s z k))), (0, .ref (G.2.2 192)), (1, .int (nI (TN z))), (2, .int (nI r)), (3, .int (nI d)), (4, .int (nI (nS (tkF z r d) k))), (5, .int (nI (nS (stF z r d 2) k))), (6, .int (nI k))] rfl ?_
                                  exact km14
                                · -- on 108
                                  have nc24 : ¬ ((a_s z k : Nat) ≤ 4) := fun q => c24 ((nI_leI (a := a_s z k) (b := 4) (by omega) (by omega)).mpr q)
                                  refine q_aload_n hX 1 dL_fits_108 rfl ?_
                                  refine q_iload hX 7 dL_fits_109 rfl ?_
                                  refine q_iconst hX 3 dL_fits_111 (by decide) ?_
                                  refine q_cv hX hG (by decide) (by decide) (As := [.int (nI k), .int 3]) (rest := [.int (nI (nS (tkF z r d) k))]) (c_X6_application l G z (a := (nI k)) (w := 3) (hI := hJ.io)) k_L_fits_X6_application (fun _ _ => rfl) rfl rfl (Nat.le_of_ble_eq_true rfl) dL_fits_112 ?_
                                  refine q_top (nI (a_p z k)) (ap3 hJ (a := k) (by omega)) ?_
                                  refine q_goto hX 119 dL_fits_115 (by decide) ?_
                                  refine q_top (nI (tkF z r d k)) (by
                                    first | (rw [show tkF z r d k = a_p z k from if_pos ⟨by omega, by omega, by omega⟩]) | (rw [show tkF z r d k = 0 from if_neg (by omega)]; rfl)) ?_
                                  refine q_sub [0, 1, 2, 3, 4, 5, 6, 7] [(7, .int (nI (a_s z k))), (0, .ref (G.2.2 192)), (1, .int (nI (TN z))), (2, .int (nI r)), (3, .int (nI d)), (4, .int (nI (nS (tkF z r d) k))), (5, .int (nI (nS (stF z r d 2) k))), (6, .int (nI k))] rfl ?_
                                  exact km14
                    refine q_sub [3, 4, 5, 6, 2, 1, 0] [(0, .ref (G.2.2 192)), (1, .int (nI (TN z))), (2, .int (nI r)), (3, .int (nI d)), (4, .int 0), (5, .int 0), (6, .int 0)] rfl ?_
                    have el4 : (0 : Int32) = nI (nS (tkF z r d) 0) := by rfl
                    refine q_lv (lv' := [(0, .ref (G.2.2 192)), (1, .int (nI (TN z))), (2, .int (nI r)), (3, .int (nI d)), (4, .int (nI (nS (tkF z r d) 0))), (5, .int 0), (6, .int 0)]) (by rw [← el4]) ?_
                    have el5 : (0 : Int32) = nI (nS (stF z r d 2) 0) := by rfl
                    refine q_lv (lv' := [(0, .ref (G.2.2 192)), (1, .int (nI (TN z))), (2, .int (nI r)), (3, .int (nI d)), (4, .int (nI (nS (tkF z r d) 0))), (5, .int (nI (nS (stF z r d 2) 0))), (6, .int 0)]) (by rw [← el5]) ?_
                    have el6 : (0 : Int32) = nI 0 := by rfl
                    refine q_lv (lv' := [(0, .ref (G.2.2 192)), (1, .int (nI (TN z))), (2, .int (nI r)), (3, .int (nI d)), (4, .int (nI (nS (tkF z r d) 0))), (5, .int (nI (nS (stF z r d 2) 0))), (6, .int (nI 0))]) (by rw [← el6]) ?_
                    exact loop53 (nA z + 1) 0 (by omega) (Nat.zero_le _)
            refine q_sub [1, 2, 3, 0] [(0, .ref (G.2.2 192)), (1, .int (nI (TN z))), (2, .int (nI r)), (3, .int (nI (TN z - 2)))] rfl ?_
            exact loop30 (60 + 1) (TN z - 2) (by omega) (by omega)
          refine q_iload_n hX 1 dL_fits_17 rfl ?_
          refine q_iconst hX 2 dL_fits_18 (by decide) ?_
          refine q_ic_le hX 28 dL_fits_19 (by decide) (fun c25 => ?_) (fun c25 => ?_)
          · -- jump 28
            have nc25 : ((TN z : Nat) ≤ 2) := (nI_leI (a := TN z) (b := 2) (by omega) (by omega)).mp c25
            refine q_iconst hX 0 dL_fits_28 (by decide) ?_
            refine q_top (nI (TN z - 2)) (by
              first | rfl | (rw [show TN z - 2 = 0 from by omega]; rfl)) ?_
            refine q_sub [0, 1, 2] [(0, .ref (G.2.2 192)), (1, .int (nI (TN z))), (2, .int (nI r))] rfl ?_
            exact km2
          · -- on 22
            have nc25 : ¬ ((TN z : Nat) ≤ 2) := fun q => c25 ((nI_leI (a := TN z) (b := 2) (by omega) (by omega)).mpr q)
            refine q_iload_n hX 1 dL_fits_22 rfl ?_
            refine q_iconst hX 2 dL_fits_23 (by decide) ?_
            refine q_isub hX dL_fits_24 ?_
            refine q_top (nI (TN z - 2)) (pk_sub (a := TN z) (b := 2) (by omega)) ?_
            refine q_goto hX 29 dL_fits_25 (by decide) ?_
            refine q_top (nI (TN z - 2)) (by
              first | rfl | (rw [show TN z - 2 = 0 from by omega]; rfl)) ?_
            refine q_sub [0, 1, 2] [(0, .ref (G.2.2 192)), (1, .int (nI (TN z))), (2, .int (nI r))] rfl ?_
            exact km2
    refine q_sub [2, 1, 0] [(0, .ref (G.2.2 192)), (1, .int (nI (TN z))), (2, .int 0)] rfl ?_
    have el2 : (0 : Int32) = nI 0 := by rfl
    refine q_lv (lv' := [(0, .ref (G.2.2 192)), (1, .int (nI (TN z))), (2, .int (nI 0))]) (by rw [← el2]) ?_
    exact loop8 (NR z + 1) 0 (by omega) (Nat.zero_le _)
