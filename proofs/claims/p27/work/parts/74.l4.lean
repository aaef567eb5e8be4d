/-! ===== the law's own: states that differ in the law's rows alone ===== -/
theorem nI_nm {n : Nat} {x : Int32} (hn : n < 2 ^ 31) (hx : x < 0) : ¬ nI n = x := fun e => nI_pos hn (by rw [e]; exact hx)
def Same (w z : St) : Prop := ∀ f, f < 75 ∨ 78 ≤ f → w f = z f
theorem Same.rfl' (z : St) : Same z z := fun _ _ => rfl
theorem Same.u2 {w z : St} (h : Same w z) {f i : Nat} {v : Int32} (h1 : 75 ≤ f) (h2 : f < 78) : Same (u2 w f i v) z := fun g hg => by rw [u2_f (by omega)]; exact h g hg
theorem Same.zero {w z : St} (h : Same w z) {k : Nat} (h2 : k < 3) : Same (fun f i => if f = 75 + k then 0 else w f i) z := fun g hg => by
  funext i
  show (if g = 75 + k then 0 else w g i) = z g i
  rw [if_neg (by omega), h g hg]
theorem Same.ji {w z : St} {b : Nat} (h : Same w z) (hJ : JI z b) : JI w b := JI_cg hJ (fun f hf => h f (by omega))
theorem cg_application {w z : St} (h : Same w z) {x y : Int32} : spApp w x y = spApp z x y := by
  unfold spApp tkt appP
  rw [h 3 (by omega), h 11 (by omega), h 12 (by omega), h 13 (by omega), h 14 (by omega), h 15 (by omega), h 16 (by omega), h 17 (by omega), h 18 (by omega), h 19 (by omega), h 4 (by omega), h 8 (by omega)]
theorem cg_climber {w z : St} (h : Same w z) {x y : Int32} : spClimber w x y = spClimber z x y := by
  unfold spClimber cntIn paidBy backTo cntBy byP climP nA
  rw [h 2 (by omega), h 3 (by omega), h 8 (by omega), h 9 (by omega), h 10 (by omega), h 11 (by omega), h 15 (by omega), h 16 (by omega), h 17 (by omega)]
theorem cg_onRoute {w z : St} (h : Same w z) {x y q : Int32} : spOnRoute w x y q = spOnRoute z x y q := by
  unfold spOnRoute leftP freeP taken inSt takesP onP routeP nA
  rw [h 1 (by omega), h 3 (by omega), h 5 (by omega), h 6 (by omega), h 12 (by omega), h 13 (by omega), h 14 (by omega), h 15 (by omega)]
theorem cg_count {w z : St} (h : Same w z) {x : Int32} : spCount w x = spCount z x := by
  unfold spCount cntIn paidBy backTo closedN byP nA
  rw [h 0 (by omega), h 1 (by omega), h 2 (by omega), h 3 (by omega), h 4 (by omega), h 7 (by omega), h 11 (by omega), h 15 (by omega), h 16 (by omega), h 17 (by omega), h 69 (by omega)]
theorem fill_step {w : St} {f k : Nat} {v : Int32} {F : Nat → Int32} (h : ∀ a, a < k → w f a = F a) (hv : v = F k) : ∀ a, a < k + 1 → u2 w f k v f a = F a := by
  intro a ha
  by_cases e : a = k
  · subst e; rw [u2_s]; exact hv
  · rw [u2_i _ e]; exact h a (by omega)
/-! closing -/
def clsN (z : St) (d a : Nat) : Nat := if a_d z a = d then a_s z a else 9
theorem clsN_or (z : St) (d a : Nat) : (a_d z a = d ∧ clsN z d a = a_s z a) ∨ (a_d z a ≠ d ∧ clsN z d a = 9) := by
  unfold clsN
  by_cases h : a_d z a = d
  · left; exact ⟨h, if_pos h⟩
  · right; exact ⟨h, if_neg h⟩
def mvF (z y : St) (d a : Nat) : Nat := if (a_s z a = 1 ∧ a_d z a = d) ∧ a_s y a = 1 then 1 else 0
theorem mv_le (z y : St) (d : Nat) : nS (mvF z y d) (nA z) ≤ nA z := by
  have := nS_le (t := mvF z y d) (b := 1) (k := nA z) (fun a _ => by unfold mvF; split <;> omega)
  omega
theorem spClose_hi (z : St) (d : Int32) {f : Nat} (hf : 20 ≤ f) : (spClose z d).2 f = z f := by
  unfold spClose
  split
  · rfl
  · split
    · rfl
    · funext i
      show loseK _ _ _ _ f i = z f i
      rw [loseK_ne (Or.inl (by omega)), moveK_lo _ _ _ (by omega), u2_f (by omega)]
theorem ClF_same {w z y : St} {d : Nat} (h : Same w z) (hF : ClF w y d) : ClF z y d := by
  unfold ClF nA NR closedN a_s a_d at hF ⊢
  rw [h 3 (by omega), h 1 (by omega), h 4 (by omega), h 7 (by omega), h 13 (by omega), h 15 (by omega)] at hF
  exact hF
theorem close_law {z w : St} {b d : Nat} (hJ : JI z b) (h : Same w z) (hb : b + 100 ≤ 50000) (hd : d < 60) : spClose w (nI d) = (-5, w) ∨ ∃ y, spClose w (nI d) = (nI (nS (mvF z y d) (nA z)), y) ∧ JI y (b + 100) ∧ ClF z y d ∧ ∀ i, i < 3 → y (75 + i) = w (75 + i) := by
  rcases close_step (h.ji hJ) hb hd with e | ⟨y, e, hy, hF⟩
  · exact Or.inl e
  · refine Or.inr ⟨y, ?_, hy, ClF_same h hF, fun i hi => ?_⟩
    · rw [e]
      have e1 : nS (fun a => if (a_s w a = 1 ∧ a_d w a = d) ∧ a_s y a = 1 then 1 else 0) (nA w) = nS (mvF z y d) (nA z) := by
        unfold mvF nA a_s a_d
        rw [h 3 (by omega), h 13 (by omega), h 15 (by omega)]
      rw [e1]
    · have := spClose_hi w (nI d) (f := 75 + i) (by omega)
      rw [e] at this
      exact this

def rm_L_closes : Room := { frames := 6, cells := 1, slots := 40, locals := 138 }
theorem k_L_closes_X6_application : CW rm_L_closes wsL_closes RL RX6 68 yX6_application cX6_application 4 (some .int) wsX6_application rm_X6_application 2 := ⟨gL_closes_X6_application, ⟨_, rfl⟩, rfl, rfl, ⟨rfl, by decide +kernel, by decide +kernel, by decide +kernel⟩, by decide, by decide⟩
theorem k_L_closes_X6_close : CW rm_L_closes wsL_closes RL RX6 101 yX6_close cX6_close 3 (some .int) wsX6_close rm_X6_close 1 := ⟨gL_closes_X6_close, ⟨_, rfl⟩, rfl, rfl, ⟨rfl, by decide +kernel, by decide +kernel, by decide +kernel⟩, by decide, by decide⟩
theorem k_L_closes_X6_count : CW rm_L_closes wsL_closes RL RX6 57 yX6_count cX6_count 2 (some .int) wsX6_count rm_X6_count 1 := ⟨gL_closes_X6_count, ⟨_, rfl⟩, rfl, rfl, ⟨rfl, by decide +kernel, by decide +kernel, by decide +kernel⟩, by decide, by decide⟩
theorem k_L_closes_X6_nextWaiting : CW rm_L_closes wsL_closes RL RX6 104 yX6_nextWaiting cX6_nextWaiting 3 (some .int) wsX6_nextWaiting rm_X6_nextWaiting 2 := ⟨gL_closes_X6_nextWaiting, ⟨_, rfl⟩, rfl, rfl, ⟨rfl, by decide +kernel, by decide +kernel, by decide +kernel⟩, by decide, by decide⟩
theorem k_L_closes_X6_onRoute : CW rm_L_closes wsL_closes RL RX6 93 yX6_onRoute cX6_onRoute 4 (some .int) wsX6_onRoute rm_X6_onRoute 3 := ⟨gL_closes_X6_onRoute, ⟨_, rfl⟩, rfl, rfl, ⟨rfl, by decide +kernel, by decide +kernel, by decide +kernel⟩, by decide, by decide⟩
set_option maxHeartbeats 4000000 in
set_option maxRecDepth 100000 in
theorem c_L_closes (l : Launch) (G : MG) (B : Nat) (E : State → Prop) (hG : GB B G) (hE : KMv (AB B) E) (z : St) {d : Nat} {b : Nat} (hJ : JI z b) (hb : b + 100 ≤ 50000) (hd : d < 60) : CL l G B E yL_closes wsL_closes rm_L_closes [.ref (G.2.2 192), .int (nI d)] z (fun ρ ζ => ρ = 1 ∧ JI ζ (b + 100)) 1 40 := by
  refine cl_of (own := RL) (cc := cL_closes) (maxL := 10) (ret := .boolean) hG hE (by decide +kernel) rfl rfl ?_ (Nat.le_of_ble_eq_true rfl) ?_
  · rintro v z' ⟨rfl, -⟩; rfl
  · intro X hX ret
    refine q_lv (lv' := [(0, .ref (G.2.2 192)), (1, .int (nI d))]) rfl ?_
    have hT := hJ.t0.2
    obtain ⟨-, hN6, hN1⟩ := hJ.nr
    obtain ⟨-, hC12, hC1⟩ := hJ.nc
    obtain ⟨-, hA40⟩ := hJ.na
    refine q_aload_n hX 0 dL_closes_0 rfl ?_
    refine q_iconst hX 3 dL_closes_1 (by decide) ?_
    refine q_cv hX hG (by decide) (by decide) (As := [.int 3]) (rest := []) (c_X6_count l G z (w := 3) (hI := hJ.io)) k_L_closes_X6_count (fun _ _ => rfl) rfl rfl (Nat.le_of_ble_eq_true rfl) dL_closes_2 ?_
    refine q_top (nI (nA z)) (ct3 hJ) ?_
    refine q_istore_n hX [(2, .int (nI (nA z))), (0, .ref (G.2.2 192)), (1, .int (nI d))] dL_closes_5 (by decide) rfl ?_
    refine q_aload_n hX 1 dL_closes_6 rfl ?_
    refine q_bipush hX 13 dL_closes_7 (by decide) ?_
    refine q_cv hX hG (by decide) (by decide) (As := [.int 13]) (rest := []) (c_X6_count l G z (w := 13) (hI := hJ.io)) k_L_closes_X6_count (fun _ _ => rfl) rfl rfl (Nat.le_of_ble_eq_true rfl) dL_closes_9 ?_
    refine q_top (closedN z) (ct13 hJ) ?_
    refine q_istore_n hX [(3, .int (closedN z)), (2, .int (nI (nA z))), (0, .ref (G.2.2 192)), (1, .int (nI d))] dL_closes_12 (by decide) rfl ?_
    refine q_bipush hX 40 dL_closes_13 (by decide) ?_
    refine q_newa hX (by rfl) (List.mem_of_getElem? (i := 1) rfl) (by decide) (by decide) dL_closes_15 (fun ar1 har1 => ?_)
    refine q_wid (kc2 := 1) (ks2 := 40) (by decide) (by decide) ?_
    obtain ⟨w0, hd0⟩ : ∃ y : St, y = (fun f i => if f = 75 + 0 then 0 else z f i) := ⟨_, rfl⟩
    refine q_z (z2 := w0) hd0.symm ?_
    have hw0 : Same w0 z := by rw [hd0]; exact Same.zero (Same.rfl' z) (by decide)
    have hj0 : JI w0 b := hw0.ji hJ
    refine q_astore hX [(4, .ref (ar1 0)), (3, .int (closedN z)), (2, .int (nI (nA z))), (0, .ref (G.2.2 192)), (1, .int (nI d))] dL_closes_17 (by decide) rfl ?_
    refine q_iconst hX 0 dL_closes_19 (by decide) ?_
    refine q_istore hX [(5, .int 0), (4, .ref (ar1 0)), (3, .int (closedN z)), (2, .int (nI (nA z))), (0, .ref (G.2.2 192)), (1, .int (nI d))] dL_closes_20 (by decide) rfl ?_
    have loop22 : ∀ (nf22 : Nat) (k : Nat) (w : St), (nA z < k + nf22) → (k ≤ nA z) → (Same w z) → (∀ a, a < k → w (75 + 0) a = nI (clsN z d a)) → LG X B 1 ar1 G 1 40 w 22 [(0, .ref (G.2.2 192)), (1, .int (nI d)), (2, .int (nI (nA z))), (3, .int (closedN z)), (4, .ref (ar1 0)), (5, .int (nI k))] [] := by
      intro nf22
      induction nf22 with
      | zero =>
        intro k w hmu22 hk0 hwz hwa
        exfalso; omega
      | succ nf22 ih22 =>
        intro k w hmu22 hk0 hwz hwa
        have hw := hwz.ji hJ
        refine q_iload hX 5 dL_closes_22 rfl ?_
        refine q_iload_n hX 2 dL_closes_24 rfl ?_
        refine q_ic_ge hX 62 dL_closes_25 (by decide) (fun c2 => ?_) (fun c2 => ?_)
        · -- jump 62
          have nc2 : ((nA z : Nat) ≤ k) := (nI_leI (a := nA z) (b := k) (by omega) (by omega)).mp c2
          refine q_aload_n hX 0 dL_closes_62 rfl ?_
          refine q_iload_n hX 1 dL_closes_63 rfl ?_
          refine q_cv hX hG (by decide) (by decide) (As := [.int (nI d)]) (rest := []) (c_X6_close l G hG.1 w (d := (nI d)) (hI := hw.io) (hs := hw.oi.sh)) k_L_closes_X6_close (fun i hi => spClose_hi _ _ (by omega)) rfl rfl (Nat.le_of_ble_eq_true rfl) dL_closes_64 ?_
          rcases close_law hJ hwz (by omega) hd with eF | ⟨y, eF, hy, hF, hy75⟩
          · -- case
            rw [eF]
            refine q_z (z2 := w) rfl ?_
            refine q_top (-5) rfl ?_
            refine q_istore hX [(5, .int (-5)), (0, .ref (G.2.2 192)), (1, .int (nI d)), (2, .int (nI (nA z))), (3, .int (closedN z)), (4, .ref (ar1 0))] dL_closes_67 (by decide) rfl ?_
            refine q_iload hX 0 dL_closes_69 rfl ?_
            refine q_bipush hX (-5) dL_closes_71 (by decide) ?_
            refine q_ic_ne hX 92 dL_closes_73 (by decide) (fun c3 => ?_) (fun c3 => ?_)
            · -- jump 92
              exact absurd c3 (by decide)
            · -- on 76
              refine q_aload_n hX 1 dL_closes_76 rfl ?_
              refine q_bipush hX 13 dL_closes_77 (by decide) ?_
              refine q_cv hX hG (by decide) (by decide) (As := [.int 13]) (rest := []) (c_X6_count l G w (w := 13) (hI := hw.io)) k_L_closes_X6_count (fun _ _ => rfl) rfl rfl (Nat.le_of_ble_eq_true rfl) dL_closes_79 ?_
              refine q_top (closedN z) ((cg_count hwz).trans (ct13 hJ)) ?_
              refine q_iload_n hX 4 dL_closes_82 rfl ?_
              refine q_ic_ne hX 90 dL_closes_83 (by decide) (fun c4 => ?_) (fun c4 => ?_)
              · -- jump 90
                exact absurd rfl c4
              · -- on 86
                refine q_iconst hX 1 dL_closes_86 (by decide) ?_
                refine q_goto hX 91 dL_closes_87 (by decide) ?_
                refine q_drop (ar2 := fun _ => 0) ?_
                refine ret _ _ _ _ _ _ (by decide) (by decide) dL_closes_91 ?_
                exact ⟨rfl, (hw).mono (by omega) (by omega)⟩
          · -- case
            rw [eF]
            refine q_z (z2 := y) rfl ?_
            refine q_top (nI (nS (mvF z y d) (nA z))) rfl ?_
            have hmv := mv_le z y d
            have hya : ∀ a, a < nA z → y (75 + 0) a = nI (clsN z d a) := fun a ha => by rw [hy75 0 (by decide)]; exact hwa a (by omega)
            have eny := hF.1
            have hnry := hy.nr
            refine q_istore hX [(5, .int (nI (nS (mvF z y d) (nA z)))), (0, .ref (G.2.2 192)), (1, .int (nI d)), (2, .int (nI (nA z))), (3, .int (closedN z)), (4, .ref (ar1 0))] dL_closes_67 (by decide) rfl ?_
            refine q_iload hX 0 dL_closes_69 rfl ?_
            refine q_bipush hX (-5) dL_closes_71 (by decide) ?_
            refine q_ic_ne hX 92 dL_closes_73 (by decide) (fun c5 => ?_) (fun c5 => ?_)
            · -- jump 92
              refine q_iconst hX 0 dL_closes_92 (by decide) ?_
              refine q_istore hX [(6, .int 0), (5, .int (nI (nS (mvF z y d) (nA z)))), (0, .ref (G.2.2 192)), (1, .int (nI d)), (2, .int (nI (nA z))), (3, .int (closedN z)), (4, .ref (ar1 0))] dL_closes_93 (by decide) rfl ?_
              refine q_iconst hX 0 dL_closes_95 (by decide) ?_
              refine q_istore hX [(7, .int 0), (6, .int 0), (5, .int (nI (nS (mvF z y d) (nA z)))), (0, .ref (G.2.2 192)), (1, .int (nI d)), (2, .int (nI (nA z))), (3, .int (closedN z)), (4, .ref (ar1 0))] dL_closes_96 (by decide) rfl ?_
              have loop98 : ∀ (nf98 : Nat) (x : Nat), (nA z < x + nf98) → (x ≤ nA z) → LG X B 1 ar1 G 1 40 y 98 [(0, .ref (G.2.2 192)), (1, .int (nI d)), (2, .int (nI (nA z))), (3, .int (closedN z)), (4, .ref (ar1 0)), (5, .int (nI (nS (mvF z y d) (nA z)))), (6, .int (nI (nS (mvF z y d) x))), (7, .int (nI x))] [] := by
                intro nf98
                induction nf98 with
                | zero =>
                  intro x hmu98 hx0
                  exfalso; omega
                | succ nf98 ih98 =>
                  intro x hmu98 hx0
                  refine q_iload hX 7 dL_closes_98 rfl ?_
                  refine q_iload_n hX 2 dL_closes_100 rfl ?_
                  refine q_ic_ge hX 277 dL_closes_101 (by decide) (fun c6 => ?_) (fun c6 => ?_)
                  · -- jump 277
                    have nc6 : ((nA z : Nat) ≤ x) := (nI_leI (a := nA z) (b := x) (by omega) (by omega)).mp c6
                    have ex : x = nA z := by omega
                    refine q_lv (lv' := [(0, .ref (G.2.2 192)), (1, .int (nI d)), (2, .int (nI (nA z))), (3, .int (closedN z)), (4, .ref (ar1 0)), (5, .int (nI (nS (mvF z y d) (nA z)))), (6, .int (nI (nS (mvF z y d) (nA z)))), (7, .int (nI x))]) (by rw [ex]) ?_
                    refine q_iload hX 6 dL_closes_277 rfl ?_
                    refine q_iload hX 5 dL_closes_279 rfl ?_
                    refine q_ic_ne hX 331 dL_closes_281 (by decide) (fun c7 => ?_) (fun c7 => ?_)
                    · -- jump 331
                      exact absurd rfl c7
                    · -- on 284
                      refine q_aload_n hX 0 dL_closes_284 rfl ?_
                      refine q_bipush hX 13 dL_closes_285 (by decide) ?_
                      refine q_cv hX hG (by decide) (by decide) (As := [.int 13]) (rest := []) (c_X6_count l G y (w := 13) (hI := hy.io)) k_L_closes_X6_count (fun _ _ => rfl) rfl rfl (Nat.le_of_ble_eq_true rfl) dL_closes_287 ?_
                      refine q_top (closedN y) (ct13 hy) ?_
                      refine q_iload_n hX 3 dL_closes_290 rfl ?_
                      refine q_iconst hX 1 dL_closes_291 (by decide) ?_
                      refine q_iadd hX dL_closes_292 ?_
                      refine q_ic_ne hX 331 dL_closes_293 (by decide) (fun c8 => ?_) (fun c8 => ?_)
                      · -- jump 331
                        exact absurd hF.2.2.2.1 c8
                      · -- on 296
                        refine q_aload_n hX 0 dL_closes_296 rfl ?_
                        refine q_iload_n hX 1 dL_closes_297 rfl ?_
                        refine q_cv hX hG (by decide) (by decide) (As := [.int (nI d)]) (rest := []) (c_X6_close l G hG.1 y (d := (nI d)) (hI := hy.io) (hs := hy.oi.sh)) k_L_closes_X6_close (fun i hi => spClose_hi _ _ (by omega)) rfl rfl (Nat.le_of_ble_eq_true rfl) dL_closes_298 ?_
                        rw [(close_again hy hd hF.2.2.2.2.1).1]
                        refine q_z (z2 := y) rfl ?_
                        refine q_top (-5) rfl ?_
                        refine q_bipush hX (-5) dL_closes_301 (by decide) ?_
                        refine q_ic_ne hX 331 dL_closes_303 (by decide) (fun c9 => ?_) (fun c9 => ?_)
                        · -- jump 331
                          exact absurd c9 (by decide)
                        · -- on 306
                          have hnone := hF.none (r := 0)
                          refine q_aload_n hX 0 dL_closes_306 rfl ?_
                          refine q_iconst hX 0 dL_closes_307 (by decide) ?_
                          refine q_iload_n hX 1 dL_closes_308 rfl ?_
                          refine q_iconst hX 4 dL_closes_309 (by decide) ?_
                          refine q_cv hX hG (by decide) (by decide) (As := [.int 0, .int (nI d), .int 4]) (rest := []) (c_X6_onRoute l G y (r := 0) (d := (nI d)) (w := 4) (hI := hy.io)) k_L_closes_X6_onRoute (fun _ _ => rfl) rfl rfl (Nat.le_of_ble_eq_true rfl) dL_closes_310 ?_
                          refine q_top (nI (stN y 0 d 0)) (rt4 hy (r := 0) (d := d) (by omega) (by omega)) ?_
                          refine q_if_ne hX 331 dL_closes_313 (by decide) (fun c10 => ?_) (fun c10 => ?_)
                          · -- jump 331
                            have nc10 : ¬ ((stN y 0 d 0 : Nat) = 0) := fun q => c10 ((nI_eq (a := stN y 0 d 0) (b := 0) (by omega) (by omega)).mpr q)
                            refine q_iconst hX 0 dL_closes_331 (by decide) ?_
                            exfalso
                            omega
                          · -- on 316
                            have nc10 : ((stN y 0 d 0 : Nat) = 0) := (nI_eq (a := stN y 0 d 0) (b := 0) (by omega) (by omega)).mp (Decidable.not_not.mp c10)
                            refine q_aload_n hX 0 dL_closes_316 rfl ?_
                            refine q_iconst hX 0 dL_closes_317 (by decide) ?_
                            refine q_iload_n hX 1 dL_closes_318 rfl ?_
                            refine q_cv hX hG (by decide) (by decide) (As := [.int 0, .int (nI d)]) (rest := []) (c_X6_nextWaiting l G y (r := 0) (d := (nI d)) (hI := hy.io) (hm := hy.m0)) k_L_closes_X6_nextWaiting (fun _ _ => rfl) rfl rfl (Nat.le_of_ble_eq_true rfl) dL_closes_319 ?_
                            refine q_top ((-6)) ((close_again hy hd hF.2.2.2.2.1).2) ?_
                            refine q_bipush hX (-6) dL_closes_322 (by decide) ?_
                            refine q_ic_ne hX 331 dL_closes_324 (by decide) (fun c11 => ?_) (fun c11 => ?_)
                            · -- jump 331
                              exact absurd c11 (by decide)
                            · -- on 327
                              refine q_iconst hX 1 dL_closes_327 (by decide) ?_
                              refine q_goto hX 332 dL_closes_328 (by decide) ?_
                              refine q_drop (ar2 := fun _ => 0) ?_
                              refine ret _ _ _ _ _ _ (by decide) (by decide) dL_closes_332 ?_
                              exact ⟨rfl, hy⟩
                  · -- on 104
                    have nc6 : ¬ ((nA z : Nat) ≤ x) := fun q => c6 ((nI_leI (a := nA z) (b := x) (by omega) (by omega)).mpr q)
                    have hk : x < nA z := by omega
                    obtain ⟨⟨-, hc1, hc2⟩, ⟨-, hr1, hr2⟩, ⟨-, hd6⟩, ⟨-, hp1, hp4⟩, ⟨-, hs7⟩, hk40⟩ := hJ.ap hk
                    have j4 := (hJ.aj hk).2.2.2.1.2
                    have j5 := (hJ.aj hk).2.2.2.2.1.2
                    have hcl9 : clsN z d x ≤ 9 := by have := clsN_or z d x; omega
                    have hky : x < nA y := by omega
                    obtain ⟨-, -, ⟨-, yd6⟩, -, ⟨-, ys7⟩, -⟩ := hy.ap hky
                    have ym4 := (hy.aj hky).2.2.2.1.2
                    have yb4 := (hy.aj hky).2.2.2.2.1.2
                    have hsh := hJ.oi.sh.2
                    refine q_aload_n hX 0 dL_closes_104 rfl ?_
                    refine q_iload hX 7 dL_closes_105 rfl ?_
                    refine q_iconst hX 4 dL_closes_107 (by decide) ?_
                    refine q_cv hX hG (by decide) (by decide) (As := [.int (nI x), .int 4]) (rest := []) (c_X6_application l G y (a := (nI x)) (w := 4) (hI := hy.io)) k_L_closes_X6_application (fun _ _ => rfl) rfl rfl (Nat.le_of_ble_eq_true rfl) dL_closes_108 ?_
                    refine q_top (nI (a_s y x)) (ap4 hy (a := x) (by omega)) ?_
                    refine q_istore hX [(8, .int (nI (a_s y x))), (0, .ref (G.2.2 192)), (1, .int (nI d)), (2, .int (nI (nA z))), (3, .int (closedN z)), (4, .ref (ar1 0)), (5, .int (nI (nS (mvF z y d) (nA z)))), (6, .int (nI (nS (mvF z y d) x))), (7, .int (nI x))] dL_closes_111 (by decide) rfl ?_
                    refine q_aload_n hX 1 dL_closes_113 rfl ?_
                    refine q_iload hX 8 dL_closes_114 rfl ?_
                    refine q_iconst hX 2 dL_closes_116 (by decide) ?_
                    refine q_cv hX hG (by decide) (by decide) (As := [.int (nI x), .int 2]) (rest := []) (c_X6_application l G y (a := (nI x)) (w := 2) (hI := hy.io)) k_L_closes_X6_application (fun _ _ => rfl) rfl rfl (Nat.le_of_ble_eq_true rfl) dL_closes_117 ?_
                    refine q_top (nI (a_d y x)) (ap2 hy (a := x) (by omega)) ?_
                    refine q_istore hX [(9, .int (nI (a_d y x))), (8, .int (nI (a_s y x))), (0, .ref (G.2.2 192)), (1, .int (nI d)), (2, .int (nI (nA z))), (3, .int (closedN z)), (4, .ref (ar1 0)), (5, .int (nI (nS (mvF z y d) (nA z)))), (6, .int (nI (nS (mvF z y d) x))), (7, .int (nI x))] dL_closes_120 (by decide) rfl ?_
                    have km12 : LG X B 1 ar1 G 1 40 y 144 [(9, .int (nI (a_d y x))), (8, .int (nI (a_s y x))), (0, .ref (G.2.2 192)), (1, .int (nI d)), (2, .int (nI (nA z))), (3, .int (closedN z)), (4, .ref (ar1 0)), (5, .int (nI (nS (mvF z y d) (nA z)))), (6, .int (nI (nS (mvF z y d) x))), (7, .int (nI x))] [] := by
                      refine q_aload hX 6 dL_closes_144 rfl ?_
                      refine q_iload hX 9 dL_closes_146 rfl ?_
                      refine q_iald hX 0 (by decide) x rfl (show x < arL 0 from (by omega : x < 40)) dL_closes_148 ?_
                      refine q_top (nI (clsN z d x)) (hya x (by omega)) ?_
                      refine q_iconst hX 1 dL_closes_149 (by decide) ?_
                      refine q_ic_ne hX 240 dL_closes_150 (by decide) (fun c13 => ?_) (fun c13 => ?_)
                      · -- jump 240
                        have nc13 : ¬ ((clsN z d x : Nat) = 1) := fun q => c13 ((nI_eq (a := clsN z d x) (b := 1) (by omega) (by omega)).mpr q)
                        refine q_aload hX 6 dL_closes_240 rfl ?_
                        refine q_iload hX 9 dL_closes_242 rfl ?_
                        refine q_iald hX 0 (by decide) x rfl (show x < arL 0 from (by omega : x < 40)) dL_closes_244 ?_
                        refine q_top (nI (clsN z d x)) (hya x (by omega)) ?_
                        refine q_iconst hX 1 dL_closes_245 (by decide) ?_
                        refine q_ic_le hX 271 dL_closes_246 (by decide) (fun c14 => ?_) (fun c14 => ?_)
                        · -- jump 271
                          have nc14 : ((clsN z d x : Nat) ≤ 1) := (nI_leI (a := clsN z d x) (b := 1) (by omega) (by omega)).mp c14
                          refine q_iinc hX (nI (x + 1)) 9 [(7, .int (nI (x + 1))), (9, .int (nI (a_d y x))), (8, .int (nI (a_s y x))), (0, .ref (G.2.2 192)), (1, .int (nI d)), (2, .int (nI (nA z))), (3, .int (closedN z)), (4, .ref (ar1 0)), (5, .int (nI (nS (mvF z y d) (nA z)))), (6, .int (nI (nS (mvF z y d) x)))] dL_closes_271 rfl (nI_1 x) (by decide) rfl ?_
                          refine q_goto hX 98 dL_closes_274 (by decide) ?_
                          refine q_sub [3, 4, 5, 6, 7, 8, 9, 0] [(0, .ref (G.2.2 192)), (1, .int (nI d)), (2, .int (nI (nA z))), (3, .int (closedN z)), (4, .ref (ar1 0)), (5, .int (nI (nS (mvF z y d) (nA z)))), (6, .int (nI (nS (mvF z y d) x))), (7, .int (nI (x + 1)))] rfl ?_
                          have el6 : (nI (nS (mvF z y d) x) : Int32) = nI (nS (mvF z y d) (x + 1)) := by have hcl := clsN_or z d x; first | rfl | (show nI (nS (mvF z y d) x) = nI (nS (mvF z y d) x + mvF z y d x); rw [show mvF z y d x = 0 from if_neg (by omega), Nat.add_zero])
                          refine q_lv (lv' := [(0, .ref (G.2.2 192)), (1, .int (nI d)), (2, .int (nI (nA z))), (3, .int (closedN z)), (4, .ref (ar1 0)), (5, .int (nI (nS (mvF z y d) (nA z)))), (6, .int (nI (nS (mvF z y d) (x + 1)))), (7, .int (nI (x + 1)))]) (by rw [← el6]) ?_
                          exact ih98 (x + 1) (by omega) (by omega)
                        · -- on 249
                          have nc14 : ¬ ((clsN z d x : Nat) ≤ 1) := fun q => c14 ((nI_leI (a := clsN z d x) (b := 1) (by omega) (by omega)).mpr q)
                          refine q_aload hX 6 dL_closes_249 rfl ?_
                          refine q_iload hX 9 dL_closes_251 rfl ?_
                          refine q_iald hX 0 (by decide) x rfl (show x < arL 0 from (by omega : x < 40)) dL_closes_253 ?_
                          refine q_top (nI (clsN z d x)) (hya x (by omega)) ?_
                          refine q_bipush hX 9 dL_closes_254 (by decide) ?_
                          refine q_ic_ge hX 271 dL_closes_256 (by decide) (fun c15 => ?_) (fun c15 => ?_)
                          · -- jump 271
                            have nc15 : ((9 : Nat) ≤ clsN z d x) := (nI_leI (a := 9) (b := clsN z d x) (by omega) (by omega)).mp c15
                            refine q_iinc hX (nI (x + 1)) 9 [(7, .int (nI (x + 1))), (9, .int (nI (a_d y x))), (8, .int (nI (a_s y x))), (0, .ref (G.2.2 192)), (1, .int (nI d)), (2, .int (nI (nA z))), (3, .int (closedN z)), (4, .ref (ar1 0)), (5, .int (nI (nS (mvF z y d) (nA z)))), (6, .int (nI (nS (mvF z y d) x)))] dL_closes_271 rfl (nI_1 x) (by decide) rfl ?_
                            refine q_goto hX 98 dL_closes_274 (by decide) ?_
                            refine q_sub [3, 4, 5, 6, 7, 8, 9, 0] [(0, .ref (G.2.2 192)), (1, .int (nI d)), (2, .int (nI (nA z))), (3, .int (closedN z)), (4, .ref (ar1 0)), (5, .int (nI (nS (mvF z y d) (nA z)))), (6, .int (nI (nS (mvF z y d) x))), (7, .int (nI (x + 1)))] rfl ?_
                            have el6 : (nI (nS (mvF z y d) x) : Int32) = nI (nS (mvF z y d) (x + 1)) := by have hcl := clsN_or z d x; first | rfl | (show nI (nS (mvF z y d) x) = nI (nS (mvF z y d) x + mvF z y d x); rw [show mvF z y d x = 0 from if_neg (by omega), Nat.add_zero])
                            refine q_lv (lv' := [(0, .ref (G.2.2 192)), (1, .int (nI d)), (2, .int (nI (nA z))), (3, .int (closedN z)), (4, .ref (ar1 0)), (5, .int (nI (nS (mvF z y d) (nA z)))), (6, .int (nI (nS (mvF z y d) (x + 1)))), (7, .int (nI (x + 1)))]) (by rw [← el6]) ?_
                            exact ih98 (x + 1) (by omega) (by omega)
                          · -- on 259
                            have nc15 : ¬ ((9 : Nat) ≤ clsN z d x) := fun q => c15 ((nI_leI (a := 9) (b := clsN z d x) (by omega) (by omega)).mpr q)
                            refine q_iload hX 1 dL_closes_259 rfl ?_
                            refine q_aload hX 6 dL_closes_261 rfl ?_
                            refine q_iload hX 9 dL_closes_263 rfl ?_
                            refine q_iald hX 0 (by decide) x rfl (show x < arL 0 from (by omega : x < 40)) dL_closes_265 ?_
                            refine q_top (nI (clsN z d x)) (hya x (by omega)) ?_
                            refine q_ic_eq hX 271 dL_closes_266 (by decide) (fun c16 => ?_) (fun c16 => ?_)
                            · -- jump 271
                              have nc16 : ((a_s y x : Nat) = clsN z d x) := (nI_eq (a := a_s y x) (b := clsN z d x) (by omega) (by omega)).mp c16
                              refine q_iinc hX (nI (x + 1)) 9 [(7, .int (nI (x + 1))), (9, .int (nI (a_d y x))), (8, .int (nI (a_s y x))), (0, .ref (G.2.2 192)), (1, .int (nI d)), (2, .int (nI (nA z))), (3, .int (closedN z)), (4, .ref (ar1 0)), (5, .int (nI (nS (mvF z y d) (nA z)))), (6, .int (nI (nS (mvF z y d) x)))] dL_closes_271 rfl (nI_1 x) (by decide) rfl ?_
                              refine q_goto hX 98 dL_closes_274 (by decide) ?_
                              refine q_sub [3, 4, 5, 6, 7, 8, 9, 0] [(0, .ref (G.2.2 192)), (1, .int (nI d)), (2, .int (nI (nA z))), (3, .int (closedN z)), (4, .ref (ar1 0)), (5, .int (nI (nS (mvF z y d) (nA z)))), (6, .int (nI (nS (mvF z y d) x))), (7, .int (nI (x + 1)))] rfl ?_
                              have el6 : (nI (nS (mvF z y d) x) : Int32) = nI (nS (mvF z y d) (x + 1)) := by have hcl := clsN_or z d x; first | rfl | (show nI (nS (mvF z y d) x) = nI (nS (mvF z y d) x + mvF z y d x); rw [show mvF z y d x = 0 from if_neg (by omega), Nat.add_zero])
                              refine q_lv (lv' := [(0, .ref (G.2.2 192)), (1, .int (nI d)), (2, .int (nI (nA z))), (3, .int (closedN z)), (4, .ref (ar1 0)), (5, .int (nI (nS (mvF z y d) (nA z)))), (6, .int (nI (nS (mvF z y d) (x + 1)))), (7, .int (nI (x + 1)))]) (by rw [← el6]) ?_
                              exact ih98 (x + 1) (by omega) (by omega)
                            · -- on 269
                              have nc16 : ¬ ((a_s y x : Nat) = clsN z d x) := fun q => c16 ((nI_eq (a := a_s y x) (b := clsN z d x) (by omega) (by omega)).mpr q)
                              refine q_iconst hX 0 dL_closes_269 (by decide) ?_
                              exfalso
                              have hcl := clsN_or z d x
                              obtain ⟨f1, f2, f3, f4⟩ := hF.2.2.2.2.2 x hk
                              have f2a : a_d z x = d → a_s z x = 1 → (a_s y x = 4 ∧ a_d y x = d ∧ a_b y x = a_m y x) ∨ (a_s y x = 1 ∧ d < a_d y x ∧ a_d y x ≤ d + cn (z 4 4)) := fun q1 q2 => (f2 q1 q2).imp id (fun w => ⟨w.1, w.2.1, w.2.2.1⟩)
                              omega
                      · -- on 153
                        have nc13 : ((clsN z d x : Nat) = 1) := (nI_eq (a := clsN z d x) (b := 1) (by omega) (by omega)).mp (Decidable.not_not.mp c13)
                        have km17 : LG X B 1 ar1 G 1 40 y 224 [(9, .int (nI (a_d y x))), (8, .int (nI (a_s y x))), (0, .ref (G.2.2 192)), (1, .int (nI d)), (2, .int (nI (nA z))), (3, .int (closedN z)), (4, .ref (ar1 0)), (5, .int (nI (nS (mvF z y d) (nA z)))), (6, .int (nI (nS (mvF z y d) x))), (7, .int (nI x))] [] := by
                          refine q_iload hX 8 dL_closes_224 rfl ?_
                          have km18 : LG X B 1 ar1 G 1 40 y 237 [(9, .int (nI (a_d y x))), (8, .int (nI (a_s y x))), (0, .ref (G.2.2 192)), (1, .int (nI d)), (2, .int (nI (nA z))), (3, .int (closedN z)), (4, .ref (ar1 0)), (5, .int (nI (nS (mvF z y d) (nA z)))), (6, .int (nI (nS (mvF z y d) x))), (7, .int (nI x))] [.int (nI (mvF z y d x)), .int (nI (nS (mvF z y d) x))] := by
                            refine q_iadd hX dL_closes_237 ?_
                            refine q_top (nI (nS (mvF z y d) x + mvF z y d x)) (nI_add (nS (mvF z y d) x) (mvF z y d x)) ?_
                            refine q_istore hX [(6, .int (nI (nS (mvF z y d) x + mvF z y d x))), (9, .int (nI (a_d y x))), (8, .int (nI (a_s y x))), (0, .ref (G.2.2 192)), (1, .int (nI d)), (2, .int (nI (nA z))), (3, .int (closedN z)), (4, .ref (ar1 0)), (5, .int (nI (nS (mvF z y d) (nA z)))), (7, .int (nI x))] dL_closes_238 (by decide) rfl ?_
                            refine q_aload hX 7 dL_closes_240 rfl ?_
                            refine q_iload hX 9 dL_closes_242 rfl ?_
                            refine q_iald hX 0 (by decide) x rfl (show x < arL 0 from (by omega : x < 40)) dL_closes_244 ?_
                            refine q_top (nI (clsN z d x)) (hya x (by omega)) ?_
                            refine q_iconst hX 1 dL_closes_245 (by decide) ?_
                            refine q_ic_le hX 271 dL_closes_246 (by decide) (fun c19 => ?_) (fun c19 => ?_)
                            · -- jump 271
                              have nc19 : ((clsN z d x : Nat) ≤ 1) := (nI_leI (a := clsN z d x) (b := 1) (by omega) (by omega)).mp c19
                              refine q_iinc hX (nI (x + 1)) 9 [(7, .int (nI (x + 1))), (6, .int (nI (nS (mvF z y d) x + mvF z y d x))), (9, .int (nI (a_d y x))), (8, .int (nI (a_s y x))), (0, .ref (G.2.2 192)), (1, .int (nI d)), (2, .int (nI (nA z))), (3, .int (closedN z)), (4, .ref (ar1 0)), (5, .int (nI (nS (mvF z y d) (nA z))))] dL_closes_271 rfl (nI_1 x) (by decide) rfl ?_
                              refine q_goto hX 98 dL_closes_274 (by decide) ?_
                              refine q_sub [4, 5, 6, 7, 8, 9, 1, 0] [(0, .ref (G.2.2 192)), (1, .int (nI d)), (2, .int (nI (nA z))), (3, .int (closedN z)), (4, .ref (ar1 0)), (5, .int (nI (nS (mvF z y d) (nA z)))), (6, .int (nI (nS (mvF z y d) x + mvF z y d x))), (7, .int (nI (x + 1)))] rfl ?_
                              have el6 : (nI (nS (mvF z y d) x + mvF z y d x) : Int32) = nI (nS (mvF z y d) (x + 1)) := by have hcl := clsN_or z d x; first | rfl | (show nI (nS (mvF z y d) x) = nI (nS (mvF z y d) x + mvF z y d x); rw [show mvF z y d x = 0 from if_neg (by omega), Nat.add_zero])
                              refine q_lv (lv' := [(0, .ref (G.2.2 192)), (1, .int (nI d)), (2, .int (nI (nA z))), (3, .int (closedN z)), (4, .ref (ar1 0)), (5, .int (nI (nS (mvF z y d) (nA z)))), (6, .int (nI (nS (mvF z y d) (x + 1)))), (7, .int (nI (x + 1)))]) (by rw [← el6]) ?_
                              exact ih98 (x + 1) (by omega) (by omega)
                            · -- on 249
                              have nc19 : ¬ ((clsN z d x : Nat) ≤ 1) := fun q => c19 ((nI_leI (a := clsN z d x) (b := 1) (by omega) (by omega)).mpr q)
                              refine q_aload hX 7 dL_closes_249 rfl ?_
                              refine q_iload hX 9 dL_closes_251 rfl ?_
                              refine q_iald hX 0 (by decide) x rfl (show x < arL 0 from (by omega : x < 40)) dL_closes_253 ?_
                              refine q_top (nI (clsN z d x)) (hya x (by omega)) ?_
                              refine q_bipush hX 9 dL_closes_254 (by decide) ?_
                              refine q_ic_ge hX 271 dL_closes_256 (by decide) (fun c20 => ?_) (fun c20 => ?_)
                              · -- jump 271
                                have nc20 : ((9 : Nat) ≤ clsN z d x) := (nI_leI (a := 9) (b := clsN z d x) (by omega) (by omega)).mp c20
                                refine q_iinc hX (nI (x + 1)) 9 [(7, .int (nI (x + 1))), (6, .int (nI (nS (mvF z y d) x + mvF z y d x))), (9, .int (nI (a_d y x))), (8, .int (nI (a_s y x))), (0, .ref (G.2.2 192)), (1, .int (nI d)), (2, .int (nI (nA z))), (3, .int (closedN z)), (4, .ref (ar1 0)), (5, .int (nI (nS (mvF z y d) (nA z))))] dL_closes_271 rfl (nI_1 x) (by decide) rfl ?_
                                refine q_goto hX 98 dL_closes_274 (by decide) ?_
                                refine q_sub [4, 5, 6, 7, 8, 9, 1, 0] [(0, .ref (G.2.2 192)), (1, .int (nI d)), (2, .int (nI (nA z))), (3, .int (closedN z)), (4, .ref (ar1 0)), (5, .int (nI (nS (mvF z y d) (nA z)))), (6, .int (nI (nS (mvF z y d) x + mvF z y d x))), (7, .int (nI (x + 1)))] rfl ?_
                                have el6 : (nI (nS (mvF z y d) x + mvF z y d x) : Int32) = nI (nS (mvF z y d) (x + 1)) := by have hcl := clsN_or z d x; first | rfl | (show nI (nS (mvF z y d) x) = nI (nS (mvF z y d) x + mvF z y d x); rw [show mvF z y d x = 0 from if_neg (by omega), Nat.add_zero])
                                refine q_lv (lv' := [(0, .ref (G.2.2 192)), (1, .int (nI d)), (2, .int (nI (nA z))), (3, .int (closedN z)), (4, .ref (ar1 0)), (5, .int (nI (nS (mvF z y d) (nA z)))), (6, .int (nI (nS (mvF z y d) (x + 1)))), (7, .int (nI (x + 1)))]) (by rw [← el6]) ?_
                                exact ih98 (x + 1) (by omega) (by omega)
                              · -- on 259
                                have nc20 : ¬ ((9 : Nat) ≤ clsN z d x) := fun q => c20 ((nI_leI (a := 9) (b := clsN z d x) (by omega) (by omega)).mpr q)
                                refine q_iload hX 2 dL_closes_259 rfl ?_
                                refine q_aload hX 7 dL_closes_261 rfl ?_
                                refine q_iload hX 9 dL_closes_263 rfl ?_
                                refine q_iald hX 0 (by decide) x rfl (show x < arL 0 from (by omega : x < 40)) dL_closes_265 ?_
                                refine q_top (nI (clsN z d x)) (hya x (by omega)) ?_
                                refine q_ic_eq hX 271 dL_closes_266 (by decide) (fun c21 => ?_) (fun c21 => ?_)
                                · -- jump 271
                                  have nc21 : ((a_s y x : Nat) = clsN z d x) := (nI_eq (a := a_s y x) (b := clsN z d x) (by omega) (by omega)).mp c21
                                  refine q_iinc hX (nI (x + 1)) 9 [(7, .int (nI (x + 1))), (6, .int (nI (nS (mvF z y d) x + mvF z y d x))), (9, .int (nI (a_d y x))), (8, .int (nI (a_s y x))), (0, .ref (G.2.2 192)), (1, .int (nI d)), (2, .int (nI (nA z))), (3, .int (closedN z)), (4, .ref (ar1 0)), (5, .int (nI (nS (mvF z y d) (nA z))))] dL_closes_271 rfl (nI_1 x) (by decide) rfl ?_
                                  refine q_goto hX 98 dL_closes_274 (by decide) ?_
                                  refine q_sub [4, 5, 6, 7, 8, 9, 1, 0] [(0, .ref (G.2.2 192)), (1, .int (nI d)), (2, .int (nI (nA z))), (3, .int (closedN z)), (4, .ref (ar1 0)), (5, .int (nI (nS (mvF z y d) (nA z)))), (6, .int (nI (nS (mvF z y d) x + mvF z y d x))), (7, .int (nI (x + 1)))] rfl ?_
                                  have el6 : (nI (nS (mvF z y d) x + mvF z y d x) : Int32) = nI (nS (mvF z y d) (x + 1)) := by have hcl := clsN_or z d x; first | rfl | (show nI (nS (mvF z y d) x) = nI (nS (mvF z y d) x + mvF z y d x); rw [show mvF z y d x = 0 from if_neg (by omega), Nat.add_zero])
                                  refine q_lv (lv' := [(0, .ref (G.2.2 192)), (1, .int (nI d)), (2, .int (nI (nA z))), (3, .int (closedN z)), (4, .ref (ar1 0)), (5, .int (nI (nS (mvF z y d) (nA z)))), (6, .int (nI (nS (mvF z y d) (x + 1)))), (7, .int (nI (x + 1)))]) (by rw [← el6]) ?_
                                  exact ih98 (x + 1) (by omega) (by omega)
                                · -- on 269
                                  have nc21 : ¬ ((a_s y x : Nat) = clsN z d x) := fun q => c21 ((nI_eq (a := a_s y x) (b := clsN z d x) (by omega) (by omega)).mpr q)
                                  refine q_iconst hX 0 dL_closes_269 (by decide) ?_
                                  exfalso
                                  have hcl := clsN_or z d x
                                  obtain ⟨f1, f2, f3, f4⟩ := hF.2.2.2.2.2 x hk
                                  have f2a : a_d z x = d → a_s z x = 1 → (a_s y x = 4 ∧ a_d y x = d ∧ a_b y x = a_m y x) ∨ (a_s y x = 1 ∧ d < a_d y x ∧ a_d y x ≤ d + cn (z 4 4)) := fun q1 q2 => (f2 q1 q2).imp id (fun w => ⟨w.1, w.2.1, w.2.2.1⟩)
                                  omega
                          refine q_iload hX 1 dL_closes_226 rfl ?_
                          refine q_iconst hX 1 dL_closes_228 (by decide) ?_
                          refine q_ic_ne hX 236 dL_closes_229 (by decide) (fun c22 => ?_) (fun c22 => ?_)
                          · -- jump 236
                            have nc22 : ¬ ((a_s y x : Nat) = 1) := fun q => c22 ((nI_eq (a := a_s y x) (b := 1) (by omega) (by omega)).mpr q)
                            refine q_iconst hX 0 dL_closes_236 (by decide) ?_
                            refine q_top (nI (mvF z y d x)) (by
                              have hcl := clsN_or z d x
                              first | (rw [show mvF z y d x = 1 from if_pos ⟨⟨by omega, by omega⟩, by omega⟩]; rfl) | (rw [show mvF z y d x = 0 from if_neg (by omega)]; rfl)) ?_
                            refine q_sub [0, 1, 2, 3, 4, 5, 6, 7, 8, 9] [(9, .int (nI (a_d y x))), (8, .int (nI (a_s y x))), (0, .ref (G.2.2 192)), (1, .int (nI d)), (2, .int (nI (nA z))), (3, .int (closedN z)), (4, .ref (ar1 0)), (5, .int (nI (nS (mvF z y d) (nA z)))), (6, .int (nI (nS (mvF z y d) x))), (7, .int (nI x))] rfl ?_
                            exact km18
                          · -- on 232
                            have nc22 : ((a_s y x : Nat) = 1) := (nI_eq (a := a_s y x) (b := 1) (by omega) (by omega)).mp (Decidable.not_not.mp c22)
                            refine q_iconst hX 1 dL_closes_232 (by decide) ?_
                            refine q_goto hX 237 dL_closes_233 (by decide) ?_
                            refine q_top (nI (mvF z y d x)) (by
                              have hcl := clsN_or z d x
                              first | (rw [show mvF z y d x = 1 from if_pos ⟨⟨by omega, by omega⟩, by omega⟩]; rfl) | (rw [show mvF z y d x = 0 from if_neg (by omega)]; rfl)) ?_
                            refine q_sub [0, 1, 2, 3, 4, 5, 6, 7, 8, 9] [(9, .int (nI (a_d y x))), (8, .int (nI (a_s y x))), (0, .ref (G.2.2 192)), (1, .int (nI d)), (2, .int (nI (nA z))), (3, .int (closedN z)), (4, .ref (ar1 0)), (5, .int (nI (nS (mvF z y d) (nA z)))), (6, .int (nI (nS (mvF z y d) x))), (7, .int (nI x))] rfl ?_
                            exact km18
                        refine q_iload hX 1 dL_closes_153 rfl ?_
                        refine q_iconst hX 4 dL_closes_155 (by decide) ?_
                        refine q_ic_ne hX 186 dL_closes_156 (by decide) (fun c23 => ?_) (fun c23 => ?_)
                        · -- jump 186
                          have nc23 : ¬ ((a_s y x : Nat) = 4) := fun q => c23 ((nI_eq (a := a_s y x) (b := 4) (by omega) (by omega)).mpr q)
                          refine q_iload hX 1 dL_closes_186 rfl ?_
                          refine q_iconst hX 1 dL_closes_188 (by decide) ?_
                          refine q_ic_ne hX 222 dL_closes_189 (by decide) (fun c24 => ?_) (fun c24 => ?_)
                          · -- jump 222
                            have nc24 : ¬ ((a_s y x : Nat) = 1) := fun q => c24 ((nI_eq (a := a_s y x) (b := 1) (by omega) (by omega)).mpr q)
                            refine q_iconst hX 0 dL_closes_222 (by decide) ?_
                            exfalso
                            have hcl := clsN_or z d x
                            obtain ⟨f1, f2, f3, f4⟩ := hF.2.2.2.2.2 x hk
                            have f2a : a_d z x = d → a_s z x = 1 → (a_s y x = 4 ∧ a_d y x = d ∧ a_b y x = a_m y x) ∨ (a_s y x = 1 ∧ d < a_d y x ∧ a_d y x ≤ d + cn (z 4 4)) := fun q1 q2 => (f2 q1 q2).imp id (fun w => ⟨w.1, w.2.1, w.2.2.1⟩)
                            omega
                          · -- on 192
                            have nc24 : ((a_s y x : Nat) = 1) := (nI_eq (a := a_s y x) (b := 1) (by omega) (by omega)).mp (Decidable.not_not.mp c24)
                            refine q_iload hX 0 dL_closes_192 rfl ?_
                            refine q_iload_n hX 3 dL_closes_194 rfl ?_
                            refine q_ic_le hX 222 dL_closes_195 (by decide) (fun c25 => ?_) (fun c25 => ?_)
                            · -- jump 222
                              have nc25 : ((a_d y x : Nat) ≤ d) := (nI_leI (a := a_d y x) (b := d) (by omega) (by omega)).mp c25
                              refine q_iconst hX 0 dL_closes_222 (by decide) ?_
                              exfalso
                              have hcl := clsN_or z d x
                              obtain ⟨f1, f2, f3, f4⟩ := hF.2.2.2.2.2 x hk
                              have f2a : a_d z x = d → a_s z x = 1 → (a_s y x = 4 ∧ a_d y x = d ∧ a_b y x = a_m y x) ∨ (a_s y x = 1 ∧ d < a_d y x ∧ a_d y x ≤ d + cn (z 4 4)) := fun q1 q2 => (f2 q1 q2).imp id (fun w => ⟨w.1, w.2.1, w.2.2.1⟩)
                              omega
                            · -- on 198
                              have nc25 : ¬ ((a_d y x : Nat) ≤ d) := fun q => c25 ((nI_leI (a := a_d y x) (b := d) (by omega) (by omega)).mpr q)
                              refine q_iload hX 0 dL_closes_198 rfl ?_
                              refine q_iload_n hX 3 dL_closes_200 rfl ?_
                              refine q_aload_n hX 2 dL_closes_201 rfl ?_
                              refine q_bipush hX 19 dL_closes_202 (by decide) ?_
                              refine q_cv hX hG (by decide) (by decide) (As := [.int 19]) (rest := [.int (nI d), .int (nI (a_d y x))]) (c_X6_count l G y (w := 19) (hI := hy.io)) k_L_closes_X6_count (fun _ _ => rfl) rfl rfl (Nat.le_of_ble_eq_true rfl) dL_closes_204 ?_
                              refine q_top (nI (cn (z 4 4))) ((ct19 hy).trans (by rw [hF.2.2.1]; exact hJ.oi.sh.1)) ?_
                              refine q_iadd hX dL_closes_207 ?_
                              refine q_top (nI (d + cn (z 4 4))) (nI_add d (cn (z 4 4))) ?_
                              refine q_ic_gt hX 222 dL_closes_208 (by decide) (fun c26 => ?_) (fun c26 => ?_)
                              · -- jump 222
                                have nc26 : ((d + cn (z 4 4) : Nat) < a_d y x) := (nI_ltI (a := d + cn (z 4 4)) (b := a_d y x) (by omega) (by omega)).mp c26
                                refine q_iconst hX 0 dL_closes_222 (by decide) ?_
                                exfalso
                                have hcl := clsN_or z d x
                                obtain ⟨f1, f2, f3, f4⟩ := hF.2.2.2.2.2 x hk
                                have f2a : a_d z x = d → a_s z x = 1 → (a_s y x = 4 ∧ a_d y x = d ∧ a_b y x = a_m y x) ∨ (a_s y x = 1 ∧ d < a_d y x ∧ a_d y x ≤ d + cn (z 4 4)) := fun q1 q2 => (f2 q1 q2).imp id (fun w => ⟨w.1, w.2.1, w.2.2.1⟩)
                                omega
                              · -- on 211
                                have nc26 : ¬ ((d + cn (z 4 4) : Nat) < a_d y x) := fun q => c26 ((nI_ltI (a := d + cn (z 4 4)) (b := a_d y x) (by omega) (by omega)).mpr q)
                                refine q_aload_n hX 2 dL_closes_211 rfl ?_
                                refine q_iload hX 9 dL_closes_212 rfl ?_
                                refine q_bipush hX 7 dL_closes_214 (by decide) ?_
                                refine q_cv hX hG (by decide) (by decide) (As := [.int (nI x), .int 7]) (rest := []) (c_X6_application l G y (a := (nI x)) (w := 7) (hI := hy.io)) k_L_closes_X6_application (fun _ _ => rfl) rfl rfl (Nat.le_of_ble_eq_true rfl) dL_closes_216 ?_
                                refine q_top (y 18 x) (ap7 hy (a := x) (by omega)) ?_
                                refine q_if_eq hX 224 dL_closes_219 (by decide) (fun c27 => ?_) (fun c27 => ?_)
                                · -- jump 224
                                  refine q_sub [0, 1, 2, 3, 4, 5, 6, 7, 8, 9] [(9, .int (nI (a_d y x))), (8, .int (nI (a_s y x))), (0, .ref (G.2.2 192)), (1, .int (nI d)), (2, .int (nI (nA z))), (3, .int (closedN z)), (4, .ref (ar1 0)), (5, .int (nI (nS (mvF z y d) (nA z)))), (6, .int (nI (nS (mvF z y d) x))), (7, .int (nI x))] rfl ?_
                                  exact km17
                                · -- on 222
                                  have hcl := clsN_or z d x
                                  have f2 := (hF.2.2.2.2.2 x hk).2.1 (by omega) (by omega)
                                  exact absurd (f2.elim (fun w => by omega) (fun w => w.2.2.2)) c27
                        · -- on 159
                          have nc23 : ((a_s y x : Nat) = 4) := (nI_eq (a := a_s y x) (b := 4) (by omega) (by omega)).mp (Decidable.not_not.mp c23)
                          refine q_iload hX 0 dL_closes_159 rfl ?_
                          refine q_iload_n hX 3 dL_closes_161 rfl ?_
                          refine q_ic_ne hX 222 dL_closes_162 (by decide) (fun c28 => ?_) (fun c28 => ?_)
                          · -- jump 222
                            have nc28 : ¬ ((a_d y x : Nat) = d) := fun q => c28 ((nI_eq (a := a_d y x) (b := d) (by omega) (by omega)).mpr q)
                            refine q_iconst hX 0 dL_closes_222 (by decide) ?_
                            exfalso
                            have hcl := clsN_or z d x
                            obtain ⟨f1, f2, f3, f4⟩ := hF.2.2.2.2.2 x hk
                            have f2a : a_d z x = d → a_s z x = 1 → (a_s y x = 4 ∧ a_d y x = d ∧ a_b y x = a_m y x) ∨ (a_s y x = 1 ∧ d < a_d y x ∧ a_d y x ≤ d + cn (z 4 4)) := fun q1 q2 => (f2 q1 q2).imp id (fun w => ⟨w.1, w.2.1, w.2.2.1⟩)
                            omega
                          · -- on 165
                            have nc28 : ((a_d y x : Nat) = d) := (nI_eq (a := a_d y x) (b := d) (by omega) (by omega)).mp (Decidable.not_not.mp c28)
                            refine q_aload_n hX 2 dL_closes_165 rfl ?_
                            refine q_iload hX 9 dL_closes_166 rfl ?_
                            refine q_bipush hX 6 dL_closes_168 (by decide) ?_
                            refine q_cv hX hG (by decide) (by decide) (As := [.int (nI x), .int 6]) (rest := []) (c_X6_application l G y (a := (nI x)) (w := 6) (hI := hy.io)) k_L_closes_X6_application (fun _ _ => rfl) rfl rfl (Nat.le_of_ble_eq_true rfl) dL_closes_170 ?_
                            refine q_top (nI (a_b y x)) (ap6 hy (a := x) (by omega)) ?_
                            refine q_aload_n hX 2 dL_closes_173 rfl ?_
                            refine q_iload hX 9 dL_closes_174 rfl ?_
                            refine q_iconst hX 5 dL_closes_176 (by decide) ?_
                            refine q_cv hX hG (by decide) (by decide) (As := [.int (nI x), .int 5]) (rest := [.int (nI (a_b y x))]) (c_X6_application l G y (a := (nI x)) (w := 5) (hI := hy.io)) k_L_closes_X6_application (fun _ _ => rfl) rfl rfl (Nat.le_of_ble_eq_true rfl) dL_closes_177 ?_
                            refine q_top (nI (a_m y x)) (ap5 hy (a := x) (by omega)) ?_
                            refine q_ic_eq hX 224 dL_closes_180 (by decide) (fun c29 => ?_) (fun c29 => ?_)
                            · -- jump 224
                              have nc29 : ((a_b y x : Nat) = a_m y x) := (nI_eq (a := a_b y x) (b := a_m y x) (by omega) (by omega)).mp c29
                              refine q_sub [0, 1, 2, 3, 4, 5, 6, 7, 8, 9] [(9, .int (nI (a_d y x))), (8, .int (nI (a_s y x))), (0, .ref (G.2.2 192)), (1, .int (nI d)), (2, .int (nI (nA z))), (3, .int (closedN z)), (4, .ref (ar1 0)), (5, .int (nI (nS (mvF z y d) (nA z)))), (6, .int (nI (nS (mvF z y d) x))), (7, .int (nI x))] rfl ?_
                              exact km17
                            · -- on 183
                              have nc29 : ¬ ((a_b y x : Nat) = a_m y x) := fun q => c29 ((nI_eq (a := a_b y x) (b := a_m y x) (by omega) (by omega)).mpr q)
                              refine q_goto hX 222 dL_closes_183 (by decide) ?_
                              refine q_iconst hX 0 dL_closes_222 (by decide) ?_
                              exfalso
                              have hcl := clsN_or z d x
                              obtain ⟨f1, f2, f3, f4⟩ := hF.2.2.2.2.2 x hk
                              have f2a : a_d z x = d → a_s z x = 1 → (a_s y x = 4 ∧ a_d y x = d ∧ a_b y x = a_m y x) ∨ (a_s y x = 1 ∧ d < a_d y x ∧ a_d y x ≤ d + cn (z 4 4)) := fun q1 q2 => (f2 q1 q2).imp id (fun w => ⟨w.1, w.2.1, w.2.2.1⟩)
                              omega
                    refine q_aload hX 6 dL_closes_122 rfl ?_
                    refine q_iload hX 9 dL_closes_124 rfl ?_
                    refine q_iald hX 0 (by decide) x rfl (show x < arL 0 from (by omega : x < 40)) dL_closes_126 ?_
                    refine q_top (nI (clsN z d x)) (hya x (by omega)) ?_
                    refine q_if_ne hX 144 dL_closes_127 (by decide) (fun c30 => ?_) (fun c30 => ?_)
                    · -- jump 144
                      have nc30 : ¬ ((clsN z d x : Nat) = 0) := fun q => c30 ((nI_eq (a := clsN z d x) (b := 0) (by omega) (by omega)).mpr q)
                      refine q_sub [0, 1, 2, 3, 4, 5, 6, 7, 8, 9] [(9, .int (nI (a_d y x))), (8, .int (nI (a_s y x))), (0, .ref (G.2.2 192)), (1, .int (nI d)), (2, .int (nI (nA z))), (3, .int (closedN z)), (4, .ref (ar1 0)), (5, .int (nI (nS (mvF z y d) (nA z)))), (6, .int (nI (nS (mvF z y d) x))), (7, .int (nI x))] rfl ?_
                      exact km12
                    · -- on 130
                      have nc30 : ((clsN z d x : Nat) = 0) := (nI_eq (a := clsN z d x) (b := 0) (by omega) (by omega)).mp (Decidable.not_not.mp c30)
                      refine q_iload hX 1 dL_closes_130 rfl ?_
                      refine q_iconst hX 2 dL_closes_132 (by decide) ?_
                      refine q_ic_ne hX 142 dL_closes_133 (by decide) (fun c31 => ?_) (fun c31 => ?_)
                      · -- jump 142
                        have nc31 : ¬ ((a_s y x : Nat) = 2) := fun q => c31 ((nI_eq (a := a_s y x) (b := 2) (by omega) (by omega)).mpr q)
                        refine q_iconst hX 0 dL_closes_142 (by decide) ?_
                        exfalso
                        have hcl := clsN_or z d x
                        obtain ⟨f1, f2, f3, f4⟩ := hF.2.2.2.2.2 x hk
                        have f2a : a_d z x = d → a_s z x = 1 → (a_s y x = 4 ∧ a_d y x = d ∧ a_b y x = a_m y x) ∨ (a_s y x = 1 ∧ d < a_d y x ∧ a_d y x ≤ d + cn (z 4 4)) := fun q1 q2 => (f2 q1 q2).imp id (fun w => ⟨w.1, w.2.1, w.2.2.1⟩)
                        omega
                      · -- on 136
                        have nc31 : ((a_s y x : Nat) = 2) := (nI_eq (a := a_s y x) (b := 2) (by omega) (by omega)).mp (Decidable.not_not.mp c31)
                        refine q_iload hX 0 dL_closes_136 rfl ?_
                        refine q_iload_n hX 3 dL_closes_138 rfl ?_
                        refine q_ic_eq hX 144 dL_closes_139 (by decide) (fun c32 => ?_) (fun c32 => ?_)
                        · -- jump 144
                          have nc32 : ((a_d y x : Nat) = d) := (nI_eq (a := a_d y x) (b := d) (by omega) (by omega)).mp c32
                          refine q_sub [0, 1, 2, 3, 4, 5, 6, 7, 8, 9] [(9, .int (nI (a_d y x))), (8, .int (nI (a_s y x))), (0, .ref (G.2.2 192)), (1, .int (nI d)), (2, .int (nI (nA z))), (3, .int (closedN z)), (4, .ref (ar1 0)), (5, .int (nI (nS (mvF z y d) (nA z)))), (6, .int (nI (nS (mvF z y d) x))), (7, .int (nI x))] rfl ?_
                          exact km12
                        · -- on 142
                          have nc32 : ¬ ((a_d y x : Nat) = d) := fun q => c32 ((nI_eq (a := a_d y x) (b := d) (by omega) (by omega)).mpr q)
                          refine q_iconst hX 0 dL_closes_142 (by decide) ?_
                          exfalso
                          have hcl := clsN_or z d x
                          obtain ⟨f1, f2, f3, f4⟩ := hF.2.2.2.2.2 x hk
                          have f2a : a_d z x = d → a_s z x = 1 → (a_s y x = 4 ∧ a_d y x = d ∧ a_b y x = a_m y x) ∨ (a_s y x = 1 ∧ d < a_d y x ∧ a_d y x ≤ d + cn (z 4 4)) := fun q1 q2 => (f2 q1 q2).imp id (fun w => ⟨w.1, w.2.1, w.2.2.1⟩)
                          omega
              refine q_sub [3, 4, 5, 6, 7, 2, 1, 0] [(0, .ref (G.2.2 192)), (1, .int (nI d)), (2, .int (nI (nA z))), (3, .int (closedN z)), (4, .ref (ar1 0)), (5, .int (nI (nS (mvF z y d) (nA z)))), (6, .int 0), (7, .int 0)] rfl ?_
              have el6 : (0 : Int32) = nI (nS (mvF z y d) 0) := by rfl
              refine q_lv (lv' := [(0, .ref (G.2.2 192)), (1, .int (nI d)), (2, .int (nI (nA z))), (3, .int (closedN z)), (4, .ref (ar1 0)), (5, .int (nI (nS (mvF z y d) (nA z)))), (6, .int (nI (nS (mvF z y d) 0))), (7, .int 0)]) (by rw [← el6]) ?_
              have el7 : (0 : Int32) = nI 0 := by rfl
              refine q_lv (lv' := [(0, .ref (G.2.2 192)), (1, .int (nI d)), (2, .int (nI (nA z))), (3, .int (closedN z)), (4, .ref (ar1 0)), (5, .int (nI (nS (mvF z y d) (nA z)))), (6, .int (nI (nS (mvF z y d) 0))), (7, .int (nI 0))]) (by rw [← el7]) ?_
              exact loop98 (nA z + 1) 0 (by omega) (Nat.zero_le _)
            · -- on 76
              exact absurd (Decidable.not_not.mp c5) (nI_nm (n := nS (mvF z y d) (nA z)) (by omega) (by decide))
        · -- on 28
          have nc2 : ¬ ((nA z : Nat) ≤ k) := fun q => c2 ((nI_leI (a := nA z) (b := k) (by omega) (by omega)).mpr q)
          have hk : k < nA z := by omega
          obtain ⟨⟨-, hc1, hc2⟩, ⟨-, hr1, hr2⟩, ⟨-, hd6⟩, ⟨-, hp1, hp4⟩, ⟨-, hs7⟩, hk40⟩ := hJ.ap hk
          have j4 := (hJ.aj hk).2.2.2.1.2
          have j5 := (hJ.aj hk).2.2.2.2.1.2
          refine q_aload hX 4 dL_closes_28 rfl ?_
          refine q_iload hX 5 dL_closes_30 rfl ?_
          have km33 : LG X B 1 ar1 G 1 40 w 55 [(0, .ref (G.2.2 192)), (1, .int (nI d)), (2, .int (nI (nA z))), (3, .int (closedN z)), (4, .ref (ar1 0)), (5, .int (nI k))] [.int (nI (clsN z d k)), .int (nI k), .ref (ar1 0)] := by
            refine q_iast hX 0 (by decide) k rfl (show k < arL 0 from (by omega : k < 40)) dL_closes_55 ?_
            refine q_iinc hX (nI (k + 1)) 5 [(5, .int (nI (k + 1))), (0, .ref (G.2.2 192)), (1, .int (nI d)), (2, .int (nI (nA z))), (3, .int (closedN z)), (4, .ref (ar1 0))] dL_closes_56 rfl (nI_1 k) (by decide) rfl ?_
            refine q_goto hX 22 dL_closes_59 (by decide) ?_
            refine q_sub [1, 2, 3, 4, 5, 0] [(0, .ref (G.2.2 192)), (1, .int (nI d)), (2, .int (nI (nA z))), (3, .int (closedN z)), (4, .ref (ar1 0)), (5, .int (nI (k + 1)))] rfl ?_
            exact ih22 (k + 1) (u2 w (75 + 0) k (nI (clsN z d k))) (by omega) (by omega) (hwz.u2 (by decide) (by decide)) (fill_step hwa rfl)
          refine q_aload_n hX 0 dL_closes_32 rfl ?_
          refine q_iload hX 5 dL_closes_33 rfl ?_
          refine q_iconst hX 2 dL_closes_35 (by decide) ?_
          refine q_cv hX hG (by decide) (by decide) (As := [.int (nI k), .int 2]) (rest := [.int (nI k), .ref (ar1 0)]) (c_X6_application l G w (a := (nI k)) (w := 2) (hI := hw.io)) k_L_closes_X6_application (fun _ _ => rfl) rfl rfl (Nat.le_of_ble_eq_true rfl) dL_closes_36 ?_
          refine q_top (nI (a_d z k)) ((cg_application hwz).trans (ap2 hJ (a := k) (by omega))) ?_
          refine q_iload_n hX 1 dL_closes_39 rfl ?_
          refine q_ic_ne hX 53 dL_closes_40 (by decide) (fun c34 => ?_) (fun c34 => ?_)
          · -- jump 53
            have nc34 : ¬ ((a_d z k : Nat) = d) := fun q => c34 ((nI_eq (a := a_d z k) (b := d) (by omega) (by omega)).mpr q)
            refine q_bipush hX 9 dL_closes_53 (by decide) ?_
            refine q_top (nI (clsN z d k)) (by
              first | (rw [show clsN z d k = a_s z k from if_pos (by omega)]) | (rw [show clsN z d k = 9 from if_neg (by omega)]; rfl)) ?_
            refine q_sub [0, 1, 2, 3, 4, 5] [(0, .ref (G.2.2 192)), (1, .int (nI d)), (2, .int (nI (nA z))), (3, .int (closedN z)), (4, .ref (ar1 0)), (5, .int (nI k))] rfl ?_
            exact km33
          · -- on 43
            have nc34 : ((a_d z k : Nat) = d) := (nI_eq (a := a_d z k) (b := d) (by omega) (by omega)).mp (Decidable.not_not.mp c34)
            refine q_aload_n hX 0 dL_closes_43 rfl ?_
            refine q_iload hX 5 dL_closes_44 rfl ?_
            refine q_iconst hX 4 dL_closes_46 (by decide) ?_
            refine q_cv hX hG (by decide) (by decide) (As := [.int (nI k), .int 4]) (rest := [.int (nI k), .ref (ar1 0)]) (c_X6_application l G w (a := (nI k)) (w := 4) (hI := hw.io)) k_L_closes_X6_application (fun _ _ => rfl) rfl rfl (Nat.le_of_ble_eq_true rfl) dL_closes_47 ?_
            refine q_top (nI (a_s z k)) ((cg_application hwz).trans (ap4 hJ (a := k) (by omega))) ?_
            refine q_goto hX 55 dL_closes_50 (by decide) ?_
            refine q_top (nI (clsN z d k)) (by
              first | (rw [show clsN z d k = a_s z k from if_pos (by omega)]) | (rw [show clsN z d k = 9 from if_neg (by omega)]; rfl)) ?_
            refine q_sub [0, 1, 2, 3, 4, 5] [(0, .ref (G.2.2 192)), (1, .int (nI d)), (2, .int (nI (nA z))), (3, .int (closedN z)), (4, .ref (ar1 0)), (5, .int (nI k))] rfl ?_
            exact km33
    refine q_sub [4, 5, 3, 2, 1, 0] [(0, .ref (G.2.2 192)), (1, .int (nI d)), (2, .int (nI (nA z))), (3, .int (closedN z)), (4, .ref (ar1 0)), (5, .int 0)] rfl ?_
    have el5 : (0 : Int32) = nI 0 := by rfl
    refine q_lv (lv' := [(0, .ref (G.2.2 192)), (1, .int (nI d)), (2, .int (nI (nA z))), (3, .int (closedN z)), (4, .ref (ar1 0)), (5, .int (nI 0))]) (by rw [← el5]) ?_
    exact loop22 (nA z + 1) 0 w0 (by omega) (Nat.zero_le _) hw0 (fun a ha => absurd ha (Nat.not_lt_zero _))
