/-! ===== the law's own: cancelling ===== -/
theorem JI.pl12 {z : St} {b : Nat} (h : JI z b) {r d : Nat} (hr : r < NR z) : pl_N z r d ≤ 12 := by
  have := (h.rj hr).2.2.1
  unfold pl_N; omega

def rm_L_cancels : Room := { frames := 6, cells := 0, slots := 0, locals := 137 }
theorem k_L_cancels_X6_application : CW rm_L_cancels wsL_cancels RL RX6 68 yX6_application cX6_application 4 (some .int) wsX6_application rm_X6_application 2 := ⟨gL_cancels_X6_application, ⟨_, rfl⟩, rfl, rfl, ⟨rfl, by decide +kernel, by decide +kernel, by decide +kernel⟩, by decide, by decide⟩
theorem k_L_cancels_X6_cancel : CW rm_L_cancels wsL_cancels RL RX6 75 yX6_cancel cX6_cancel 4 (some .int) wsX6_cancel rm_X6_cancel 1 := ⟨gL_cancels_X6_cancel, ⟨_, rfl⟩, rfl, rfl, ⟨rfl, by decide +kernel, by decide +kernel, by decide +kernel⟩, by decide, by decide⟩
theorem k_L_cancels_X6_climber : CW rm_L_cancels wsL_cancels RL RX6 65 yX6_climber cX6_climber 3 (some .int) wsX6_climber rm_X6_climber 2 := ⟨gL_cancels_X6_climber, ⟨_, rfl⟩, rfl, rfl, ⟨rfl, by decide +kernel, by decide +kernel, by decide +kernel⟩, by decide, by decide⟩
theorem k_L_cancels_X6_count : CW rm_L_cancels wsL_cancels RL RX6 57 yX6_count cX6_count 2 (some .int) wsX6_count rm_X6_count 1 := ⟨gL_cancels_X6_count, ⟨_, rfl⟩, rfl, rfl, ⟨rfl, by decide +kernel, by decide +kernel, by decide +kernel⟩, by decide, by decide⟩
theorem k_L_cancels_X6_onRoute : CW rm_L_cancels wsL_cancels RL RX6 93 yX6_onRoute cX6_onRoute 4 (some .int) wsX6_onRoute rm_X6_onRoute 3 := ⟨gL_cancels_X6_onRoute, ⟨_, rfl⟩, rfl, rfl, ⟨rfl, by decide +kernel, by decide +kernel, by decide +kernel⟩, by decide, by decide⟩
set_option maxHeartbeats 4000000 in
set_option maxRecDepth 100000 in
theorem c_L_cancels (l : Launch) (G : MG) (B : Nat) (E : State → Prop) (hG : GB B G) (hE : KMv (AB B) E) (z : St) {a : Nat} {b : Nat} (hJ : JI z b) (hb : b + 100 ≤ 50000) (ha : a < nA z) : CL l G B E yL_cancels wsL_cancels rm_L_cancels [.ref (G.2.2 192), .int (nI a)] z (fun ρ ζ => ρ = 1 ∧ JI ζ (b + 100)) 0 0 := by
  refine cl_of (own := RL) (cc := cL_cancels) (maxL := 11) (ret := .boolean) hG hE (by decide +kernel) rfl rfl ?_ (Nat.le_of_ble_eq_true rfl) ?_
  · rintro v z' ⟨rfl, -⟩; rfl
  · intro X hX ret
    refine q_lv (lv' := [(0, .ref (G.2.2 192)), (1, .int (nI a))]) rfl ?_
    have hT := hJ.t0.2
    obtain ⟨-, hN6, hN1⟩ := hJ.nr
    obtain ⟨-, hC12, hC1⟩ := hJ.nc
    obtain ⟨-, hA40⟩ := hJ.na
    have hk : a < nA z := by omega
    obtain ⟨⟨-, hc1, hc2⟩, ⟨-, hr1, hr2⟩, ⟨-, hd6⟩, ⟨-, hp1, hp4⟩, ⟨-, hs7⟩, hk40⟩ := hJ.ap hk
    obtain ⟨j1, j2, j3, ⟨j16, j4⟩, ⟨j17, j5⟩, j6, j7⟩ := hJ.aj hk
    have j2a : a_s z a = 0 → TN z ≤ a_d z a := fun q => (j2 q).1
    have hwt := hJ.wt hk
    refine q_aload_n hX 0 dL_cancels_0 rfl ?_
    refine q_iload_n hX 1 dL_cancels_1 rfl ?_
    refine q_iconst hX 4 dL_cancels_2 (by decide) ?_
    refine q_cv hX hG (by decide) (by decide) (As := [.int (nI a), .int 4]) (rest := []) (c_X6_application l G z (a := (nI a)) (w := 4) (hI := hJ.io)) k_L_cancels_X6_application (fun _ _ => rfl) rfl rfl (Nat.le_of_ble_eq_true rfl) dL_cancels_3 ?_
    refine q_top (nI (a_s z a)) (ap4 hJ (a := a) (by omega)) ?_
    refine q_istore_n hX [(2, .int (nI (a_s z a))), (0, .ref (G.2.2 192)), (1, .int (nI a))] dL_cancels_6 (by decide) rfl ?_
    refine q_aload_n hX 1 dL_cancels_7 rfl ?_
    refine q_iload_n hX 2 dL_cancels_8 rfl ?_
    refine q_iconst hX 1 dL_cancels_9 (by decide) ?_
    refine q_cv hX hG (by decide) (by decide) (As := [.int (nI a), .int 1]) (rest := []) (c_X6_application l G z (a := (nI a)) (w := 1) (hI := hJ.io)) k_L_cancels_X6_application (fun _ _ => rfl) rfl rfl (Nat.le_of_ble_eq_true rfl) dL_cancels_10 ?_
    refine q_top (nI (a_r z a)) (ap1 hJ (a := a) (by omega)) ?_
    refine q_istore_n hX [(3, .int (nI (a_r z a))), (2, .int (nI (a_s z a))), (0, .ref (G.2.2 192)), (1, .int (nI a))] dL_cancels_13 (by decide) rfl ?_
    refine q_aload_n hX 2 dL_cancels_14 rfl ?_
    refine q_iload_n hX 3 dL_cancels_15 rfl ?_
    refine q_iconst hX 2 dL_cancels_16 (by decide) ?_
    refine q_cv hX hG (by decide) (by decide) (As := [.int (nI a), .int 2]) (rest := []) (c_X6_application l G z (a := (nI a)) (w := 2) (hI := hJ.io)) k_L_cancels_X6_application (fun _ _ => rfl) rfl rfl (Nat.le_of_ble_eq_true rfl) dL_cancels_17 ?_
    refine q_top (nI (a_d z a)) (ap2 hJ (a := a) (by omega)) ?_
    refine q_istore hX [(4, .int (nI (a_d z a))), (3, .int (nI (a_r z a))), (2, .int (nI (a_s z a))), (0, .ref (G.2.2 192)), (1, .int (nI a))] dL_cancels_20 (by decide) rfl ?_
    refine q_aload_n hX 3 dL_cancels_22 rfl ?_
    refine q_iload_n hX 4 dL_cancels_23 rfl ?_
    refine q_iconst hX 5 dL_cancels_24 (by decide) ?_
    refine q_cv hX hG (by decide) (by decide) (As := [.int (nI a), .int 5]) (rest := []) (c_X6_application l G z (a := (nI a)) (w := 5) (hI := hJ.io)) k_L_cancels_X6_application (fun _ _ => rfl) rfl rfl (Nat.le_of_ble_eq_true rfl) dL_cancels_25 ?_
    refine q_top (nI (a_m z a)) (ap5 hJ (a := a) (by omega)) ?_
    refine q_istore hX [(5, .int (nI (a_m z a))), (4, .int (nI (a_d z a))), (3, .int (nI (a_r z a))), (2, .int (nI (a_s z a))), (0, .ref (G.2.2 192)), (1, .int (nI a))] dL_cancels_28 (by decide) rfl ?_
    refine q_iload hX 1 dL_cancels_30 rfl ?_
    refine q_aload_n hX 4 dL_cancels_32 rfl ?_
    refine q_iconst hX 0 dL_cancels_33 (by decide) ?_
    refine q_cv hX hG (by decide) (by decide) (As := [.int 0]) (rest := [.int (nI (a_d z a))]) (c_X6_count l G z (w := 0) (hI := hJ.io)) k_L_cancels_X6_count (fun _ _ => rfl) rfl rfl (Nat.le_of_ble_eq_true rfl) dL_cancels_34 ?_
    refine q_top (nI (TN z)) (ct0 hJ) ?_
    refine q_isub hX dL_cancels_37 ?_
    refine q_istore hX [(6, .int ((nI (a_d z a)) - (nI (TN z)))), (5, .int (nI (a_m z a))), (4, .int (nI (a_d z a))), (3, .int (nI (a_r z a))), (2, .int (nI (a_s z a))), (0, .ref (G.2.2 192)), (1, .int (nI a))] dL_cancels_38 (by decide) rfl ?_
    refine q_aload_n hX 5 dL_cancels_40 rfl ?_
    refine q_bipush hX 12 dL_cancels_41 (by decide) ?_
    refine q_cv hX hG (by decide) (by decide) (As := [.int 12]) (rest := []) (c_X6_count l G z (w := 12) (hI := hJ.io)) k_L_cancels_X6_count (fun _ _ => rfl) rfl rfl (Nat.le_of_ble_eq_true rfl) dL_cancels_43 ?_
    refine q_top (backTo z (-1)) (ct12 hJ) ?_
    refine q_istore hX [(7, .int (backTo z (-1))), (6, .int ((nI (a_d z a)) - (nI (TN z)))), (5, .int (nI (a_m z a))), (4, .int (nI (a_d z a))), (3, .int (nI (a_r z a))), (2, .int (nI (a_s z a))), (0, .ref (G.2.2 192)), (1, .int (nI a))] dL_cancels_46 (by decide) rfl ?_
    refine q_aload_n hX 6 dL_cancels_48 rfl ?_
    refine q_iload_n hX 7 dL_cancels_49 rfl ?_
    refine q_cv hX hG (by decide) (by decide) (As := [.int (nI a)]) (rest := []) (c_X6_cancel l G hG.1 z (a := (nI a)) (hI := hJ.io) (hm := hJ.m0) (h17 := hJ.h17)) k_L_cancels_X6_cancel (fun i hi => absurd hi (Nat.not_lt_zero _)) rfl rfl (Nat.le_of_ble_eq_true rfl) dL_cancels_50 ?_
    obtain ⟨cs1, cs2⟩ := cancel_step hJ hb hk
    by_cases hs2 : a_s z a ≤ 2
    · -- case
      obtain ⟨y, eF, hy, eny, enr, y15, y17, yb, yw⟩ := cs2 hs2
      generalize hr : (if ¬ a_s z a = 1 then 0 else if ¬ nI (a_d z a) - nI (TN z) < 7 then nI (a_m z a) else if ¬ nI (a_d z a) - nI (TN z) < 3 then nI (a_m z a) / 2 else 0) = r at eF
      rw [eF] at y17 yb ⊢
      refine q_z (z2 := y) rfl ?_
      refine q_top r rfl ?_
      have hpl := hy.pl12 (r := a_r z a) (d := a_d z a) (by omega)
      refine q_istore hX [(8, .int r), (7, .int (backTo z (-1))), (6, .int ((nI (a_d z a)) - (nI (TN z)))), (5, .int (nI (a_m z a))), (4, .int (nI (a_d z a))), (3, .int (nI (a_r z a))), (2, .int (nI (a_s z a))), (0, .ref (G.2.2 192)), (1, .int (nI a))] dL_cancels_53 (by decide) rfl ?_
      refine q_iload_n hX 6 dL_cancels_55 rfl ?_
      refine q_iconst hX 2 dL_cancels_56 (by decide) ?_
      refine q_ic_le hX 83 dL_cancels_57 (by decide) (fun c1 => ?_) (fun c1 => ?_)
      · -- jump 83
        have nc1 : ((a_s z a : Nat) ≤ 2) := (nI_leI (a := a_s z a) (b := 2) (by omega) (by omega)).mp c1
        refine q_iload hX 0 dL_cancels_83 rfl ?_
        have km2 : LG X B 0 (fun _ => 0) G 0 0 y 120 [(8, .int r), (7, .int (backTo z (-1))), (6, .int ((nI (a_d z a)) - (nI (TN z)))), (5, .int (nI (a_m z a))), (4, .int (nI (a_d z a))), (3, .int (nI (a_r z a))), (2, .int (nI (a_s z a))), (0, .ref (G.2.2 192)), (1, .int (nI a))] [.int r, .int r] := by
          refine q_ic_ne hX 159 dL_cancels_120 (by decide) (fun c3 => ?_) (fun c3 => ?_)
          · -- jump 159
            exact absurd rfl c3
          · -- on 123
            refine q_aload_n hX 7 dL_cancels_123 rfl ?_
            refine q_iload_n hX 8 dL_cancels_124 rfl ?_
            refine q_iconst hX 4 dL_cancels_125 (by decide) ?_
            refine q_cv hX hG (by decide) (by decide) (As := [.int (nI a), .int 4]) (rest := []) (c_X6_application l G y (a := (nI a)) (w := 4) (hI := hy.io)) k_L_cancels_X6_application (fun _ _ => rfl) rfl rfl (Nat.le_of_ble_eq_true rfl) dL_cancels_126 ?_
            refine q_top (nI (a_s y a)) (ap4 hy (a := a) (by omega)) ?_
            refine q_iconst hX 3 dL_cancels_129 (by decide) ?_
            refine q_ic_ne hX 159 dL_cancels_130 (by decide) (fun c4 => ?_) (fun c4 => ?_)
            · -- jump 159
              have nc4 : ¬ ((a_s y a : Nat) = 3) := fun q => c4 ((nI_eq (a := a_s y a) (b := 3) (by omega) (by omega)).mpr q)
              refine q_iconst hX 0 dL_cancels_159 (by decide) ?_
              exfalso
              omega
            · -- on 133
              have nc4 : ((a_s y a : Nat) = 3) := (nI_eq (a := a_s y a) (b := 3) (by omega) (by omega)).mp (Decidable.not_not.mp c4)
              refine q_aload_n hX 7 dL_cancels_133 rfl ?_
              refine q_iload_n hX 8 dL_cancels_134 rfl ?_
              refine q_bipush hX 6 dL_cancels_135 (by decide) ?_
              refine q_cv hX hG (by decide) (by decide) (As := [.int (nI a), .int 6]) (rest := []) (c_X6_application l G y (a := (nI a)) (w := 6) (hI := hy.io)) k_L_cancels_X6_application (fun _ _ => rfl) rfl rfl (Nat.le_of_ble_eq_true rfl) dL_cancels_137 ?_
              refine q_top (nI (a_b y a)) (ap6 hy (a := a) (by omega)) ?_
              refine q_iload hX 0 dL_cancels_140 rfl ?_
              refine q_ic_ne hX 159 dL_cancels_142 (by decide) (fun c5 => ?_) (fun c5 => ?_)
              · -- jump 159
                exact absurd (((hy.aj (a := a) (by omega)).2.2.2.2.1.1.symm).trans y17) c5
              · -- on 145
                refine q_aload_n hX 7 dL_cancels_145 rfl ?_
                refine q_bipush hX 12 dL_cancels_146 (by decide) ?_
                refine q_cv hX hG (by decide) (by decide) (As := [.int 12]) (rest := []) (c_X6_count l G y (w := 12) (hI := hy.io)) k_L_cancels_X6_count (fun _ _ => rfl) rfl rfl (Nat.le_of_ble_eq_true rfl) dL_cancels_148 ?_
                refine q_top (backTo y (-1)) (ct12 hy) ?_
                refine q_iload hX 1 dL_cancels_151 rfl ?_
                refine q_iload hX 0 dL_cancels_153 rfl ?_
                refine q_iadd hX dL_cancels_155 ?_
                refine q_ic_eq hX 161 dL_cancels_156 (by decide) (fun c6 => ?_) (fun c6 => ?_)
                · -- jump 161
                  refine q_iload_n hX 6 dL_cancels_161 rfl ?_
                  refine q_iconst hX 1 dL_cancels_162 (by decide) ?_
                  refine q_ic_eq hX 168 dL_cancels_163 (by decide) (fun c7 => ?_) (fun c7 => ?_)
                  · -- jump 168
                    have nc7 : ((a_s z a : Nat) = 1) := (nI_eq (a := a_s z a) (b := 1) (by omega) (by omega)).mp c7
                    refine q_aload_n hX 7 dL_cancels_168 rfl ?_
                    refine q_iload_n hX 5 dL_cancels_169 rfl ?_
                    refine q_iload hX 4 dL_cancels_170 rfl ?_
                    refine q_iconst hX 3 dL_cancels_172 (by decide) ?_
                    refine q_cv hX hG (by decide) (by decide) (As := [.int (nI (a_r z a)), .int (nI (a_d z a)), .int 3]) (rest := []) (c_X6_onRoute l G y (r := (nI (a_r z a))) (d := (nI (a_d z a))) (w := 3) (hI := hy.io)) k_L_cancels_X6_onRoute (fun _ _ => rfl) rfl rfl (Nat.le_of_ble_eq_true rfl) dL_cancels_173 ?_
                    refine q_top (nI (pl_N y (a_r z a) (a_d z a))) (rt3 hy (r := (a_r z a)) (d := (a_d z a)) (by omega) (by omega)) ?_
                    refine q_istore hX [(9, .int (nI (pl_N y (a_r z a) (a_d z a)))), (8, .int r), (7, .int (backTo z (-1))), (6, .int ((nI (a_d z a)) - (nI (TN z)))), (5, .int (nI (a_m z a))), (4, .int (nI (a_d z a))), (3, .int (nI (a_r z a))), (2, .int (nI (a_s z a))), (0, .ref (G.2.2 192)), (1, .int (nI a))] dL_cancels_176 (by decide) rfl ?_
                    refine q_iconst hX 0 dL_cancels_178 (by decide) ?_
                    refine q_istore hX [(10, .int 0), (9, .int (nI (pl_N y (a_r z a) (a_d z a)))), (8, .int r), (7, .int (backTo z (-1))), (6, .int ((nI (a_d z a)) - (nI (TN z)))), (5, .int (nI (a_m z a))), (4, .int (nI (a_d z a))), (3, .int (nI (a_r z a))), (2, .int (nI (a_s z a))), (0, .ref (G.2.2 192)), (1, .int (nI a))] dL_cancels_179 (by decide) rfl ?_
                    have loop181 : ∀ (nf181 : Nat) (x : Nat), (nA y < x + nf181) → (x ≤ nA y) → LG X B 0 (fun _ => 0) G 0 0 y 181 [(0, .ref (G.2.2 192)), (3, .int (nI (a_r z a))), (4, .int (nI (a_d z a))), (9, .int (nI (pl_N y (a_r z a) (a_d z a)))), (10, .int (nI x))] [] := by
                      intro nf181
                      induction nf181 with
                      | zero =>
                        intro x hmu181 hx0
                        exfalso; omega
                      | succ nf181 ih181 =>
                        intro x hmu181 hx0
                        refine q_iload hX 4 dL_cancels_181 rfl ?_
                        refine q_aload_n hX 0 dL_cancels_183 rfl ?_
                        refine q_iconst hX 3 dL_cancels_184 (by decide) ?_
                        refine q_cv hX hG (by decide) (by decide) (As := [.int 3]) (rest := [.int (nI x)]) (c_X6_count l G y (w := 3) (hI := hy.io)) k_L_cancels_X6_count (fun _ _ => rfl) rfl rfl (Nat.le_of_ble_eq_true rfl) dL_cancels_185 ?_
                        refine q_top (nI (nA y)) (ct3 hy) ?_
                        refine q_ic_ge hX 262 dL_cancels_188 (by decide) (fun c8 => ?_) (fun c8 => ?_)
                        · -- jump 262
                          have nc8 : ((nA y : Nat) ≤ x) := (nI_leI (a := nA y) (b := x) (by omega) (by omega)).mp c8
                          refine q_iconst hX 1 dL_cancels_262 (by decide) ?_
                          refine ret _ _ _ _ _ _ (by decide) (by decide) dL_cancels_263 ?_
                          exact ⟨rfl, hy⟩
                        · -- on 191
                          have nc8 : ¬ ((nA y : Nat) ≤ x) := fun q => c8 ((nI_leI (a := nA y) (b := x) (by omega) (by omega)).mpr q)
                          have hk : x < nA y := by omega
                          obtain ⟨⟨-, hc1, hc2⟩, ⟨-, hr1, hr2⟩, ⟨-, hd6⟩, ⟨-, hp1, hp4⟩, ⟨-, hs7⟩, hk40⟩ := hy.ap hk
                          obtain ⟨j1, j2, j3, ⟨j16, j4⟩, ⟨j17, j5⟩, j6, j7⟩ := hy.aj hk
                          have j2a : a_s y x = 0 → TN y ≤ a_d y x := fun q => (j2 q).1
                          have hwt := hy.wt hk
                          refine q_aload_n hX 0 dL_cancels_191 rfl ?_
                          refine q_iload hX 4 dL_cancels_192 rfl ?_
                          refine q_iconst hX 4 dL_cancels_194 (by decide) ?_
                          refine q_cv hX hG (by decide) (by decide) (As := [.int (nI x), .int 4]) (rest := []) (c_X6_application l G y (a := (nI x)) (w := 4) (hI := hy.io)) k_L_cancels_X6_application (fun _ _ => rfl) rfl rfl (Nat.le_of_ble_eq_true rfl) dL_cancels_195 ?_
                          refine q_top (nI (a_s y x)) (ap4 hy (a := x) (by omega)) ?_
                          refine q_iconst hX 2 dL_cancels_198 (by decide) ?_
                          refine q_ic_ne hX 256 dL_cancels_199 (by decide) (fun c9 => ?_) (fun c9 => ?_)
                          · -- jump 256
                            have nc9 : ¬ ((a_s y x : Nat) = 2) := fun q => c9 ((nI_eq (a := a_s y x) (b := 2) (by omega) (by omega)).mpr q)
                            refine q_iinc hX (nI (x + 1)) 4 [(10, .int (nI (x + 1))), (0, .ref (G.2.2 192)), (3, .int (nI (a_r z a))), (4, .int (nI (a_d z a))), (9, .int (nI (pl_N y (a_r z a) (a_d z a))))] dL_cancels_256 rfl (nI_1 x) (by decide) rfl ?_
                            refine q_goto hX 181 dL_cancels_259 (by decide) ?_
                            refine q_sub [1, 2, 3, 4, 0] [(0, .ref (G.2.2 192)), (3, .int (nI (a_r z a))), (4, .int (nI (a_d z a))), (9, .int (nI (pl_N y (a_r z a) (a_d z a)))), (10, .int (nI (x + 1)))] rfl ?_
                            exact ih181 (x + 1) (by omega) (by omega)
                          · -- on 202
                            have nc9 : ((a_s y x : Nat) = 2) := (nI_eq (a := a_s y x) (b := 2) (by omega) (by omega)).mp (Decidable.not_not.mp c9)
                            refine q_aload_n hX 0 dL_cancels_202 rfl ?_
                            refine q_iload hX 4 dL_cancels_203 rfl ?_
                            refine q_iconst hX 1 dL_cancels_205 (by decide) ?_
                            refine q_cv hX hG (by decide) (by decide) (As := [.int (nI x), .int 1]) (rest := []) (c_X6_application l G y (a := (nI x)) (w := 1) (hI := hy.io)) k_L_cancels_X6_application (fun _ _ => rfl) rfl rfl (Nat.le_of_ble_eq_true rfl) dL_cancels_206 ?_
                            refine q_top (nI (a_r y x)) (ap1 hy (a := x) (by omega)) ?_
                            refine q_iload_n hX 1 dL_cancels_209 rfl ?_
                            refine q_ic_ne hX 256 dL_cancels_210 (by decide) (fun c10 => ?_) (fun c10 => ?_)
                            · -- jump 256
                              have nc10 : ¬ ((a_r y x : Nat) = a_r z a) := fun q => c10 ((nI_eq (a := a_r y x) (b := a_r z a) (by omega) (by omega)).mpr q)
                              refine q_iinc hX (nI (x + 1)) 4 [(10, .int (nI (x + 1))), (0, .ref (G.2.2 192)), (3, .int (nI (a_r z a))), (4, .int (nI (a_d z a))), (9, .int (nI (pl_N y (a_r z a) (a_d z a))))] dL_cancels_256 rfl (nI_1 x) (by decide) rfl ?_
                              refine q_goto hX 181 dL_cancels_259 (by decide) ?_
                              refine q_sub [1, 2, 3, 4, 0] [(0, .ref (G.2.2 192)), (3, .int (nI (a_r z a))), (4, .int (nI (a_d z a))), (9, .int (nI (pl_N y (a_r z a) (a_d z a)))), (10, .int (nI (x + 1)))] rfl ?_
                              exact ih181 (x + 1) (by omega) (by omega)
                            · -- on 213
                              have nc10 : ((a_r y x : Nat) = a_r z a) := (nI_eq (a := a_r y x) (b := a_r z a) (by omega) (by omega)).mp (Decidable.not_not.mp c10)
                              refine q_aload_n hX 0 dL_cancels_213 rfl ?_
                              refine q_iload hX 4 dL_cancels_214 rfl ?_
                              refine q_iconst hX 2 dL_cancels_216 (by decide) ?_
                              refine q_cv hX hG (by decide) (by decide) (As := [.int (nI x), .int 2]) (rest := []) (c_X6_application l G y (a := (nI x)) (w := 2) (hI := hy.io)) k_L_cancels_X6_application (fun _ _ => rfl) rfl rfl (Nat.le_of_ble_eq_true rfl) dL_cancels_217 ?_
                              refine q_top (nI (a_d y x)) (ap2 hy (a := x) (by omega)) ?_
                              refine q_iload hX 2 dL_cancels_220 rfl ?_
                              refine q_ic_ne hX 256 dL_cancels_222 (by decide) (fun c11 => ?_) (fun c11 => ?_)
                              · -- jump 256
                                have nc11 : ¬ ((a_d y x : Nat) = a_d z a) := fun q => c11 ((nI_eq (a := a_d y x) (b := a_d z a) (by omega) (by omega)).mpr q)
                                refine q_iinc hX (nI (x + 1)) 4 [(10, .int (nI (x + 1))), (0, .ref (G.2.2 192)), (3, .int (nI (a_r z a))), (4, .int (nI (a_d z a))), (9, .int (nI (pl_N y (a_r z a) (a_d z a))))] dL_cancels_256 rfl (nI_1 x) (by decide) rfl ?_
                                refine q_goto hX 181 dL_cancels_259 (by decide) ?_
                                refine q_sub [1, 2, 3, 4, 0] [(0, .ref (G.2.2 192)), (3, .int (nI (a_r z a))), (4, .int (nI (a_d z a))), (9, .int (nI (pl_N y (a_r z a) (a_d z a)))), (10, .int (nI (x + 1)))] rfl ?_
                                exact ih181 (x + 1) (by omega) (by omega)
                              · -- on 225
                                have nc11 : ((a_d y x : Nat) = a_d z a) := (nI_eq (a := a_d y x) (b := a_d z a) (by omega) (by omega)).mp (Decidable.not_not.mp c11)
                                refine q_aload_n hX 0 dL_cancels_225 rfl ?_
                                refine q_iload hX 4 dL_cancels_226 rfl ?_
                                refine q_iconst hX 3 dL_cancels_228 (by decide) ?_
                                refine q_cv hX hG (by decide) (by decide) (As := [.int (nI x), .int 3]) (rest := []) (c_X6_application l G y (a := (nI x)) (w := 3) (hI := hy.io)) k_L_cancels_X6_application (fun _ _ => rfl) rfl rfl (Nat.le_of_ble_eq_true rfl) dL_cancels_229 ?_
                                refine q_top (nI (a_p y x)) (ap3 hy (a := x) (by omega)) ?_
                                refine q_iload hX 3 dL_cancels_232 rfl ?_
                                refine q_ic_gt hX 256 dL_cancels_234 (by decide) (fun c12 => ?_) (fun c12 => ?_)
                                · -- jump 256
                                  have nc12 : ((pl_N y (a_r z a) (a_d z a) : Nat) < a_p y x) := (nI_ltI (a := pl_N y (a_r z a) (a_d z a)) (b := a_p y x) (by omega) (by omega)).mp c12
                                  refine q_iinc hX (nI (x + 1)) 4 [(10, .int (nI (x + 1))), (0, .ref (G.2.2 192)), (3, .int (nI (a_r z a))), (4, .int (nI (a_d z a))), (9, .int (nI (pl_N y (a_r z a) (a_d z a))))] dL_cancels_256 rfl (nI_1 x) (by decide) rfl ?_
                                  refine q_goto hX 181 dL_cancels_259 (by decide) ?_
                                  refine q_sub [1, 2, 3, 4, 0] [(0, .ref (G.2.2 192)), (3, .int (nI (a_r z a))), (4, .int (nI (a_d z a))), (9, .int (nI (pl_N y (a_r z a) (a_d z a)))), (10, .int (nI (x + 1)))] rfl ?_
                                  exact ih181 (x + 1) (by omega) (by omega)
                                · -- on 237
                                  have nc12 : ¬ ((pl_N y (a_r z a) (a_d z a) : Nat) < a_p y x) := fun q => c12 ((nI_ltI (a := pl_N y (a_r z a) (a_d z a)) (b := a_p y x) (by omega) (by omega)).mpr q)
                                  refine q_aload_n hX 0 dL_cancels_237 rfl ?_
                                  refine q_aload_n hX 0 dL_cancels_238 rfl ?_
                                  refine q_iload hX 4 dL_cancels_239 rfl ?_
                                  refine q_iconst hX 0 dL_cancels_241 (by decide) ?_
                                  refine q_cv hX hG (by decide) (by decide) (As := [.int (nI x), .int 0]) (rest := [.ref (G.2.2 192)]) (c_X6_application l G y (a := (nI x)) (w := 0) (hI := hy.io)) k_L_cancels_X6_application (fun _ _ => rfl) rfl rfl (Nat.le_of_ble_eq_true rfl) dL_cancels_242 ?_
                                  refine q_top (nI (a_c y x)) (ap0 hy (a := x) (by omega)) ?_
                                  refine q_iconst hX 2 dL_cancels_245 (by decide) ?_
                                  refine q_cv hX hG (by decide) (by decide) (As := [.int (nI (a_c y x)), .int 2]) (rest := []) (c_X6_climber l G y (c := (nI (a_c y x))) (w := 2) (hI := hy.io)) k_L_cancels_X6_climber (fun _ _ => rfl) rfl rfl (Nat.le_of_ble_eq_true rfl) dL_cancels_246 ?_
                                  refine q_top (y 10 (a_c y x)) (cl2 hy (c := (a_c y x)) (by omega)) ?_
                                  refine q_iload hX 2 dL_cancels_249 rfl ?_
                                  refine q_ic_ge hX 256 dL_cancels_251 (by decide) (fun c13 => ?_) (fun c13 => ?_)
                                  · -- jump 256
                                    refine q_iinc hX (nI (x + 1)) 4 [(10, .int (nI (x + 1))), (0, .ref (G.2.2 192)), (3, .int (nI (a_r z a))), (4, .int (nI (a_d z a))), (9, .int (nI (pl_N y (a_r z a) (a_d z a))))] dL_cancels_256 rfl (nI_1 x) (by decide) rfl ?_
                                    refine q_goto hX 181 dL_cancels_259 (by decide) ?_
                                    refine q_sub [1, 2, 3, 4, 0] [(0, .ref (G.2.2 192)), (3, .int (nI (a_r z a))), (4, .int (nI (a_d z a))), (9, .int (nI (pl_N y (a_r z a) (a_d z a)))), (10, .int (nI (x + 1)))] rfl ?_
                                    exact ih181 (x + 1) (by omega) (by omega)
                                  · -- on 254
                                    exact absurd (yw (by omega) x (by omega) (by omega) (by omega) (by omega) (by omega)) c13
                    refine q_sub [9, 7, 6, 1, 0] [(0, .ref (G.2.2 192)), (3, .int (nI (a_r z a))), (4, .int (nI (a_d z a))), (9, .int (nI (pl_N y (a_r z a) (a_d z a)))), (10, .int 0)] rfl ?_
                    have el10 : (0 : Int32) = nI 0 := by rfl
                    refine q_lv (lv' := [(0, .ref (G.2.2 192)), (3, .int (nI (a_r z a))), (4, .int (nI (a_d z a))), (9, .int (nI (pl_N y (a_r z a) (a_d z a)))), (10, .int (nI 0))]) (by rw [← el10]) ?_
                    exact loop181 (nA y + 1) 0 (by omega) (Nat.zero_le _)
                  · -- on 166
                    have nc7 : ¬ ((a_s z a : Nat) = 1) := fun q => c7 ((nI_eq (a := a_s z a) (b := 1) (by omega) (by omega)).mpr q)
                    refine q_iconst hX 1 dL_cancels_166 (by decide) ?_
                    refine ret _ _ _ _ _ _ (by decide) (by decide) dL_cancels_167 ?_
                    exact ⟨rfl, hy⟩
                · -- on 159
                  exact absurd yb c6
        refine q_iload_n hX 6 dL_cancels_85 rfl ?_
        refine q_iconst hX 1 dL_cancels_86 (by decide) ?_
        refine q_ic_eq hX 94 dL_cancels_87 (by decide) (fun c14 => ?_) (fun c14 => ?_)
        · -- jump 94
          have nc14 : ((a_s z a : Nat) = 1) := (nI_eq (a := a_s z a) (b := 1) (by omega) (by omega)).mp c14
          refine q_iload hX 2 dL_cancels_94 rfl ?_
          refine q_bipush hX 7 dL_cancels_96 (by decide) ?_
          refine q_ic_lt hX 106 dL_cancels_98 (by decide) (fun c15 => ?_) (fun c15 => ?_)
          · -- jump 106
            refine q_iload hX 2 dL_cancels_106 rfl ?_
            refine q_iconst hX 3 dL_cancels_108 (by decide) ?_
            refine q_ic_lt hX 119 dL_cancels_109 (by decide) (fun c16 => ?_) (fun c16 => ?_)
            · -- jump 119
              refine q_iconst hX 0 dL_cancels_119 (by decide) ?_
              refine q_top (r) (by
                first | (rw [← hr, if_pos (by omega)]; done) | (rw [← hr, if_neg (by omega), if_pos (by assumption)]; done) | (rw [← hr, if_neg (by omega), if_neg (not_not_intro (by assumption)), if_pos (by assumption)]; done) | (rw [← hr, if_neg (by omega), if_neg (not_not_intro (by assumption)), if_neg (not_not_intro (by assumption))]; done)) ?_
              refine q_sub [0, 1, 2, 3, 4, 5, 6, 7, 8] [(8, .int r), (7, .int (backTo z (-1))), (6, .int ((nI (a_d z a)) - (nI (TN z)))), (5, .int (nI (a_m z a))), (4, .int (nI (a_d z a))), (3, .int (nI (a_r z a))), (2, .int (nI (a_s z a))), (0, .ref (G.2.2 192)), (1, .int (nI a))] rfl ?_
              exact km2
            · -- on 112
              refine q_iload hX 3 dL_cancels_112 rfl ?_
              refine q_iconst hX 2 dL_cancels_114 (by decide) ?_
              refine q_idiv hX dL_cancels_115 (by decide) ?_
              refine q_goto hX 120 dL_cancels_116 (by decide) ?_
              refine q_top (r) (by
                first | (rw [← hr, if_pos (by omega)]; done) | (rw [← hr, if_neg (by omega), if_pos (by assumption)]; done) | (rw [← hr, if_neg (by omega), if_neg (not_not_intro (by assumption)), if_pos (by assumption)]; done) | (rw [← hr, if_neg (by omega), if_neg (not_not_intro (by assumption)), if_neg (not_not_intro (by assumption))]; done)) ?_
              refine q_sub [0, 1, 2, 3, 4, 5, 6, 7, 8] [(8, .int r), (7, .int (backTo z (-1))), (6, .int ((nI (a_d z a)) - (nI (TN z)))), (5, .int (nI (a_m z a))), (4, .int (nI (a_d z a))), (3, .int (nI (a_r z a))), (2, .int (nI (a_s z a))), (0, .ref (G.2.2 192)), (1, .int (nI a))] rfl ?_
              exact km2
          · -- on 101
            refine q_iload hX 3 dL_cancels_101 rfl ?_
            refine q_goto hX 120 dL_cancels_103 (by decide) ?_
            refine q_top (r) (by
              first | (rw [← hr, if_pos (by omega)]; done) | (rw [← hr, if_neg (by omega), if_pos (by assumption)]; done) | (rw [← hr, if_neg (by omega), if_neg (not_not_intro (by assumption)), if_pos (by assumption)]; done) | (rw [← hr, if_neg (by omega), if_neg (not_not_intro (by assumption)), if_neg (not_not_intro (by assumption))]; done)) ?_
            refine q_sub [0, 1, 2, 3, 4, 5, 6, 7, 8] [(8, .int r), (7, .int (backTo z (-1))), (6, .int ((nI (a_d z a)) - (nI (TN z)))), (5, .int (nI (a_m z a))), (4, .int (nI (a_d z a))), (3, .int (nI (a_r z a))), (2, .int (nI (a_s z a))), (0, .ref (G.2.2 192)), (1, .int (nI a))] rfl ?_
            exact km2
        · -- on 90
          have nc14 : ¬ ((a_s z a : Nat) = 1) := fun q => c14 ((nI_eq (a := a_s z a) (b := 1) (by omega) (by omega)).mpr q)
          refine q_iconst hX 0 dL_cancels_90 (by decide) ?_
          refine q_goto hX 120 dL_cancels_91 (by decide) ?_
          refine q_top (r) (by
            first | (rw [← hr, if_pos (by omega)]; done) | (rw [← hr, if_neg (by omega), if_pos (by assumption)]; done) | (rw [← hr, if_neg (by omega), if_neg (not_not_intro (by assumption)), if_pos (by assumption)]; done) | (rw [← hr, if_neg (by omega), if_neg (not_not_intro (by assumption)), if_neg (not_not_intro (by assumption))]; done)) ?_
          refine q_sub [0, 1, 2, 3, 4, 5, 6, 7, 8] [(8, .int r), (7, .int (backTo z (-1))), (6, .int ((nI (a_d z a)) - (nI (TN z)))), (5, .int (nI (a_m z a))), (4, .int (nI (a_d z a))), (3, .int (nI (a_r z a))), (2, .int (nI (a_s z a))), (0, .ref (G.2.2 192)), (1, .int (nI a))] rfl ?_
          exact km2
      · -- on 60
        have nc1 : ¬ ((a_s z a : Nat) ≤ 2) := fun q => c1 ((nI_leI (a := a_s z a) (b := 2) (by omega) (by omega)).mpr q)
        exfalso; omega
    · -- case
      have eF := cs1 (by omega)
      rw [eF]
      refine q_z (z2 := z) rfl ?_
      refine q_top (-5) rfl ?_
      refine q_istore hX [(8, .int (-5)), (7, .int (backTo z (-1))), (6, .int ((nI (a_d z a)) - (nI (TN z)))), (5, .int (nI (a_m z a))), (4, .int (nI (a_d z a))), (3, .int (nI (a_r z a))), (2, .int (nI (a_s z a))), (0, .ref (G.2.2 192)), (1, .int (nI a))] dL_cancels_53 (by decide) rfl ?_
      refine q_iload_n hX 6 dL_cancels_55 rfl ?_
      refine q_iconst hX 2 dL_cancels_56 (by decide) ?_
      refine q_ic_le hX 83 dL_cancels_57 (by decide) (fun c17 => ?_) (fun c17 => ?_)
      · -- jump 83
        have nc17 : ((a_s z a : Nat) ≤ 2) := (nI_leI (a := a_s z a) (b := 2) (by omega) (by omega)).mp c17
        exfalso; omega
      · -- on 60
        have nc17 : ¬ ((a_s z a : Nat) ≤ 2) := fun q => c17 ((nI_leI (a := a_s z a) (b := 2) (by omega) (by omega)).mpr q)
        refine q_iload hX 0 dL_cancels_60 rfl ?_
        refine q_bipush hX (-5) dL_cancels_62 (by decide) ?_
        refine q_ic_ne hX 81 dL_cancels_64 (by decide) (fun c18 => ?_) (fun c18 => ?_)
        · -- jump 81
          exact absurd c18 (by decide)
        · -- on 67
          refine q_aload_n hX 7 dL_cancels_67 rfl ?_
          refine q_iload_n hX 8 dL_cancels_68 rfl ?_
          refine q_iconst hX 4 dL_cancels_69 (by decide) ?_
          refine q_cv hX hG (by decide) (by decide) (As := [.int (nI a), .int 4]) (rest := []) (c_X6_application l G z (a := (nI a)) (w := 4) (hI := hJ.io)) k_L_cancels_X6_application (fun _ _ => rfl) rfl rfl (Nat.le_of_ble_eq_true rfl) dL_cancels_70 ?_
          refine q_top (nI (a_s z a)) (ap4 hJ (a := a) (by omega)) ?_
          refine q_iload_n hX 6 dL_cancels_73 rfl ?_
          refine q_ic_ne hX 81 dL_cancels_74 (by decide) (fun c19 => ?_) (fun c19 => ?_)
          · -- jump 81
            exact absurd rfl c19
          · -- on 77
            refine q_iconst hX 1 dL_cancels_77 (by decide) ?_
            refine q_goto hX 82 dL_cancels_78 (by decide) ?_
            refine ret _ _ _ _ _ _ (by decide) (by decide) dL_cancels_82 ?_
            exact ⟨rfl, hJ.mono (by omega) (by omega)⟩
