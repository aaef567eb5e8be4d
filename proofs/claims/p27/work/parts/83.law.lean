/-! ===== the law: its steps ===== -/
def PJ (z : St) (b nr nc : Nat) : Prop := Inv z b ∧ b ≤ 50000 ∧ z 3 0 = 0 ∧ z 1 0 = nI nr ∧ z 2 0 = nI nc ∧ ∀ r, r < nr → RJ z r
theorem PJ.io {z : St} {b nr nc : Nat} (h : PJ z b nr nc) : IO z := h.1.2.1.1
theorem PJ.mono {z : St} {b b' nr nc : Nat} (h : PJ z b nr nc) (hb : b ≤ b') (hb' : b' ≤ 50000) : PJ z b' nr nc := ⟨h.1.mono hb, hb', h.2.2⟩
theorem PJ.ji {z : St} {b nr nc : Nat} (h : PJ z b nr nc) (h1 : 1 ≤ nr) (h2 : 1 ≤ nc) (h3 : nr < 100) (h4 : nc < 100) : JI z b := by
  obtain ⟨hI, hb, e3, e1, e2, hr⟩ := h
  have en : nA z = 0 := by unfold nA; rw [e3]; rfl
  have nr_ : NR z = nr := by unfold NR; rw [e1, cn_nI (by omega)]
  have nc_ : NC z = nc := by unfold NC; rw [e2, cn_nI (by omega)]
  refine ⟨hI, hb, fun a ha => by omega, fun r h => hr r (by omega), fun r h d hd => ?_, by omega, by omega⟩
  unfold tkN
  rw [en]
  exact Nat.zero_le _
theorem route_step {z : St} {b k : Nat} (h : PJ z b k 0) (hb : b + 100 ≤ 50000) (hk : k < 6) {l s : Nat} (h1 : 1 ≤ l) (h2 : l ≤ 12) (h3 : s ≤ l) : ∃ y, spRoute z (nI l) (nI s) = (nI k, y) ∧ PJ y (b + 100) (k + 1) 0 := by
  have hInv := Inv_p (pair_route h.1 (nI l) (nI s))
  obtain ⟨hI, hb', e3, e1, e2, hr⟩ := h
  have c1 : ¬ (nI l < 1 ∨ 12 < nI l ∨ nI s < 0 ∨ ¬ nI s ≤ nI l) := by
    rintro (q | q | q | q)
    · have := (nI_ltI (b := 1) (by omega) (by decide)).mp q; omega
    · have := (nI_ltI (a := 12) (by decide) (by omega)).mp q; omega
    · exact nI_pos (by omega) q
    · exact q ((nI_leI (by omega) (by omega)).mpr h3)
  have c2 : ¬ ¬ z 1 0 < 6 := fun q => q (by rw [e1]; exact (nI_ltI (b := 6) (by omega) (by decide)).mpr hk)
  have eF : spRoute z (nI l) (nI s) = (nI k, u2 (u2 (u2 z 5 k (nI l)) 6 k (nI s)) 1 0 (nI (k + 1))) := by
    unfold spRoute
    rw [if_neg c1, if_neg c2, e1, cn_nI (by omega), nI_1]
  rw [eF] at hInv
  have lo : ∀ f, f ≠ 1 → f ≠ 5 → f ≠ 6 → u2 (u2 (u2 z 5 k (nI l)) 6 k (nI s)) 1 0 (nI (k + 1)) f = z f := fun f a1 a2 a3 => by rw [u2_f a1, u2_f a3, u2_f a2]
  refine ⟨_, eF, hInv, hb, by rw [lo 3 (by decide) (by decide) (by decide)]; exact e3, u2_s _ _ _ _, by rw [lo 2 (by decide) (by decide) (by decide)]; exact e2, fun r hr' => ?_⟩
  by_cases q : r = k
  · subst q
    unfold RJ
    rw [u2_f (by decide), u2_f (by decide), u2_s, u2_f (by decide), u2_s, cn_nI (by omega), cn_nI (by omega)]
    exact ⟨rfl, h1, h2, rfl, h3⟩
  · exact RJ_of (hr r (by omega)) (by rw [u2_f (by decide), u2_f (by decide), u2_i _ q]) (by rw [u2_f (by decide), u2_i _ q, u2_f (by decide)])
theorem join_step {z : St} {b nr k : Nat} (h : PJ z b nr k) (hb : b + 100 ≤ 50000) (hk : k < 12) : ∃ y, (∀ f, f < 75 → y f = (spJoin z).2 f) ∧ (spJoin z).1 = nI k ∧ PJ y (b + 100) nr (k + 1) := by
  have hInv := nrm_inv (pair_join h.1)
  obtain ⟨hI, hb', e3, e1, e2, hr⟩ := h
  have c2 : ¬ ¬ z 2 0 < 12 := fun q => q (by rw [e2]; exact (nI_ltI (b := 12) (by omega) (by decide)).mpr hk)
  have eF : spJoin z = (nI k, u2 z 2 0 (nI (k + 1))) := by
    unfold spJoin
    rw [if_neg c2, e2, nI_1]
  rw [eF] at hInv ⊢
  generalize mJoin z = Gm at hInv
  have lo : ∀ f, f < 87 → nrm (u2 z 2 0 (nI (k + 1))) Gm f = u2 z 2 0 (nI (k + 1)) f := fun f hf => nrm_lo _ _ hf
  refine ⟨nrm (u2 z 2 0 (nI (k + 1))) Gm, fun f hf => lo f (by omega), rfl, hInv, hb, by rw [lo 3 (by decide), u2_f (by decide)]; exact e3, by rw [lo 1 (by decide), u2_f (by decide)]; exact e1, by rw [lo 2 (by decide)]; exact u2_s _ _ _ _, fun r hr' => RJ_of (hr r hr') (by rw [lo 5 (by decide), u2_f (by decide)]) (by rw [lo 6 (by decide), u2_f (by decide)])⟩
theorem PJ_0 {y : St} (h : ∀ f, f < 70 ∨ 75 ≤ f → y f = z0 f) : PJ y 0 0 0 := by
  have e0 : ∀ f, f < 70 → f ≠ 4 ∧ f ≠ 24 ∧ f ≠ 44 ∧ f ≠ 10 ∧ f ≠ 30 ∧ f ≠ 50 → y f 0 = 0 := fun f hf hn => by rw [h f (Or.inl hf), z0_0 hn]
  exact ⟨Inv_cg Inv_0 (fun f hf => h f (by omega)), by decide, e0 3 (by decide) (by decide), e0 1 (by decide) (by decide), e0 2 (by decide) (by decide), fun r hr => absurd hr (Nat.not_lt_zero r)⟩

theorem k_L_law_L_act : CT3 room_1 wsL_law RL 37 yL_act cL_act 11 (some .boolean) wsL_act rm_L_act 3 64 4 := ⟨gL_law_L_act, ⟨_, rfl⟩, rfl, rfl, ⟨by decide +kernel, by decide +kernel, by decide +kernel⟩, by decide, by decide⟩
theorem k_L_law_L_adds : CT3 room_1 wsL_law RL 45 yL_adds cL_adds 8 (some .boolean) wsL_adds rm_L_adds 0 0 1 := ⟨gL_law_L_adds, ⟨_, rfl⟩, rfl, rfl, ⟨by decide +kernel, by decide +kernel, by decide +kernel⟩, by decide, by decide⟩
theorem k_L_law_L_cell : CT3 room_1 wsL_law RL 12 yL_cell cL_cell 2 (some .int) wsL_cell rm_L_cell 0 0 2 := ⟨gL_law_L_cell, ⟨_, rfl⟩, rfl, rfl, ⟨by decide +kernel, by decide +kernel, by decide +kernel⟩, by decide, by decide⟩
theorem k_L_law_L_drawn : CT3 room_1 wsL_law RL 48 yL_drawn cL_drawn 11 (some .boolean) wsL_drawn rm_L_drawn 0 0 2 := ⟨gL_law_L_drawn, ⟨_, rfl⟩, rfl, rfl, ⟨by decide +kernel, by decide +kernel, by decide +kernel⟩, by decide, by decide⟩
theorem k_L_law_L_fits : CT3 room_1 wsL_law RL 41 yL_fits cL_fits 8 (some .boolean) wsL_fits rm_L_fits 0 0 1 := ⟨gL_law_L_fits, ⟨_, rfl⟩, rfl, rfl, ⟨by decide +kernel, by decide +kernel, by decide +kernel⟩, by decide, by decide⟩
theorem k_L_law_L_kept : CT3 room_1 wsL_law RL 54 yL_kept cL_kept 8 (some .boolean) wsL_kept rm_L_kept 0 0 2 := ⟨gL_law_L_kept, ⟨_, rfl⟩, rfl, rfl, ⟨by decide +kernel, by decide +kernel, by decide +kernel⟩, by decide, by decide⟩
theorem k_L_law_L_refused : CT3 room_1 wsL_law RL 18 yL_refused cL_refused 3 (some .boolean) wsL_refused rm_L_refused 0 0 2 := ⟨gL_law_L_refused, ⟨_, rfl⟩, rfl, rfl, ⟨by decide +kernel, by decide +kernel, by decide +kernel⟩, by decide, by decide⟩
theorem k_L_law_L_told : CT3 room_1 wsL_law RL 51 yL_told cL_told 9 (some .boolean) wsL_told rm_L_told 0 0 2 := ⟨gL_law_L_told, ⟨_, rfl⟩, rfl, rfl, ⟨by decide +kernel, by decide +kernel, by decide +kernel⟩, by decide, by decide⟩
theorem k_L_law_L_up : CT3 room_1 wsL_law RL 22 yL_up cL_up 2 (some .int) wsL_up rm_L_up 0 0 2 := ⟨gL_law_L_up, ⟨_, rfl⟩, rfl, rfl, ⟨by decide +kernel, by decide +kernel, by decide +kernel⟩, by decide, by decide⟩
theorem k_L_law_X6_join : CW room_1 wsL_law RL RX6 29 yX6_join cX6_join 1 (some .int) wsX6_join rm_X6_join 0 := ⟨gL_law_X6_join, ⟨_, rfl⟩, rfl, rfl, ⟨rfl, by decide +kernel, by decide +kernel, by decide +kernel⟩, by decide, by decide⟩
theorem k_L_law_X6_route : CW room_1 wsL_law RL RX6 26 yX6_route cX6_route 3 (some .int) wsX6_route rm_X6_route 2 := ⟨gL_law_X6_route, ⟨_, rfl⟩, rfl, rfl, ⟨rfl, by decide +kernel, by decide +kernel, by decide +kernel⟩, by decide, by decide⟩
theorem k_L_law_X6_set : CW room_1 wsL_law RL RX6 33 yX6_set cX6_set 4 (some .int) wsX6_set rm_X6_set 2 := ⟨gL_law_X6_set, ⟨_, rfl⟩, rfl, rfl, ⟨rfl, by decide +kernel, by decide +kernel, by decide +kernel⟩, by decide, by decide⟩
set_option maxHeartbeats 4000000 in
set_option maxRecDepth 100000 in
theorem law_walk {X : GC} {l : Launch} {G : MG} {B b L : Nat} {xs : Nat → Int32} (hL : L ≤ 260) (hG : GB B G) (hX : HL X l room_1 cL_law 6 wsL_law RL G B (SE b L xs B)) (ret : ∀ (z' : St) (pc : Nat) (lv : List (Nat × Value)) (kc kd : Nat), kc ≤ 600000 → kd ≤ 7302250 → decode cL_law pc = .ok (.ireturn, 1) → LG X B 0 (fun _ => 0) G kc kd z' pc lv [.int 1]) : LG X B 0 (fun _ => 0) G 300 3000 z0 7 [(0, .ref b)] [.ref (G.2.2 192)] := by
  have hE := SE_mv b L xs B
  refine q_astore_n hX [(1, .ref (G.2.2 192)), (0, .ref b)] dL_law_7 (by decide) rfl ?_
  refine q_iconst hX 0 dL_law_8 (by decide) ?_
  refine q_istore_n hX [(2, .int 0), (1, .ref (G.2.2 192)), (0, .ref b)] dL_law_9 (by decide) rfl ?_
  refine q_aload_n hX 1 dL_law_10 rfl ?_
  refine q_aload_n hX 2 dL_law_11 rfl ?_
  refine q_iload_n hX 0 dL_law_12 rfl ?_
  refine q_iinc hX (nI (0 + 1)) 0 [(2, .int (nI (0 + 1))), (1, .ref (G.2.2 192)), (0, .ref b)] dL_law_13 rfl (nI_1 0) (by decide) rfl ?_
  refine q_ct hX hG (show 300 + 0 ≤ 600000 by omega) (show 3000 + 0 ≤ 7302250 by omega) (As := [.ref b, .int 0]) (rest := [.ref (G.2.2 192)]) (c_L_cell l G B hL hG z0 (k := 0) (by omega)) k_L_law_L_cell rfl rfl (Nat.le_of_ble_eq_true rfl) dL_law_16 (fun v0 ζ hζ => ?_)
  rw [show ζ = z0 from hζ]
  clear hζ ζ
  refine q_ct hX hG (show 300 + 0 ≤ 600000 by omega) (show 3000 + 0 ≤ 7302250 by omega) (As := [.ref (G.2.2 192), .int v0]) (rest := []) (c_L_refused l G B (SE b L xs B) hG hE z0 (b := 0) ⟨Inv_0, by decide⟩ (by rw [z0_0 (by decide)]) (by rw [z0_0 (by decide)]) (by rw [z0_0 (by decide)]) (by rw [z0_0 (by decide)]) (by rw [z0_0 (by decide)])) k_L_law_L_refused rfl rfl (Nat.le_of_ble_eq_true rfl) dL_law_19 (fun ρ y0 hp => ?_)
  obtain ⟨rfl, h0⟩ := hp
  refine q_if_ne hX 27 dL_law_22 (by decide) (fun c1 => ?_) (fun c1 => ?_)
  · -- jump 27
    refine q_aload_n hX 2 dL_law_27 rfl ?_
    refine q_iload_n hX 0 dL_law_28 rfl ?_
    refine q_iinc hX (nI (0 + 1 + 1)) 0 [(2, .int (nI (0 + 1 + 1))), (1, .ref (G.2.2 192)), (0, .ref b)] dL_law_29 rfl (nI_1 (0 + 1)) (by decide) rfl ?_
    refine q_ct hX hG (show 300 + 0 ≤ 600000 by omega) (show 3000 + 0 ≤ 7302250 by omega) (As := [.ref b, .int (nI (0 + 1))]) (rest := []) (c_L_cell l G B hL hG y0 (k := 0 + 1) (by omega)) k_L_law_L_cell rfl rfl (Nat.le_of_ble_eq_true rfl) dL_law_32 (fun v1 ζ hζ => ?_)
    rw [show ζ = y0 from hζ]
    clear hζ ζ
    refine q_istore_n hX [(3, .int v1), (2, .int (nI (0 + 1 + 1))), (1, .ref (G.2.2 192)), (0, .ref b)] dL_law_35 (by decide) rfl ?_
    obtain ⟨qn, hqn, eqn⟩ := up_in (v := v1) (m := 4) (by decide) (by decide)
    refine q_iconst hX 0 dL_law_36 (by decide) ?_
    refine q_istore hX [(4, .int 0), (3, .int v1), (2, .int (nI (0 + 1 + 1))), (1, .ref (G.2.2 192)), (0, .ref b)] dL_law_37 (by decide) rfl ?_
    have loop39 : ∀ (nf39 : Nat) (kr : Nat) (yr : St), ((1 + qn) < kr + nf39) → (kr ≤ 1 + qn) → (PJ yr (100 * kr) kr 0) → LG X B 0 (fun _ => 0) G 300 3000 yr 39 [(0, .ref b), (1, .ref (G.2.2 192)), (2, .int (nI (0 + 1 + 1))), (3, .int v1), (4, .int (nI kr))] [] := by
      intro nf39
      induction nf39 with
      | zero =>
        intro kr yr hmu39 hkr hyr
        exfalso; omega
      | succ nf39 ih39 =>
        intro kr yr hmu39 hkr hyr
        refine q_iload hX 4 dL_law_39 rfl ?_
        refine q_iconst hX 1 dL_law_41 (by decide) ?_
        refine q_iload_n hX 3 dL_law_42 rfl ?_
        refine q_iconst hX 4 dL_law_43 (by decide) ?_
        refine q_ctE hX hG (by decide) (by decide) (As := [.int v1, .int 4]) (rest := [.int 1, .int (nI kr)]) (c_L_up l G B (SE b L xs B) hG hE yr (v := v1) (m := 4) (by decide)) k_L_law_L_up rfl rfl (Nat.le_of_ble_eq_true rfl) dL_law_44 ?_
        refine q_top (nI qn) eqn ?_
        refine q_iadd hX dL_law_47 ?_
        refine q_top (nI (1 + qn)) (nI_add 1 qn) ?_
        refine q_ic_ge hX 104 dL_law_48 (by decide) (fun c2 => ?_) (fun c2 => ?_)
        · -- jump 104
          have nc2 : ((1 + qn : Nat) ≤ kr) := (nI_leI (a := 1 + qn) (b := kr) (by omega) (by omega)).mp c2
          obtain ⟨qm, hqm, eqm⟩ := up_in (v := v1 >>> (4 &&& 31)) (m := 9) (by decide) (by decide)
          refine q_iconst hX 0 dL_law_104 (by decide) ?_
          refine q_istore hX [(4, .int 0), (0, .ref b), (1, .ref (G.2.2 192)), (2, .int (nI (0 + 1 + 1))), (3, .int v1)] dL_law_105 (by decide) rfl ?_
          have loop107 : ∀ (nf107 : Nat) (kj : Nat) (yj : St), ((2 + qm) < kj + nf107) → (kj ≤ 2 + qm) → (PJ yj (600 + 100 * kj) kr kj) → LG X B 0 (fun _ => 0) G 300 3000 yj 107 [(0, .ref b), (1, .ref (G.2.2 192)), (2, .int (nI (0 + 1 + 1))), (3, .int v1), (4, .int (nI kj))] [] := by
            intro nf107
            induction nf107 with
            | zero =>
              intro kj yj hmu107 hkj hyj
              exfalso; omega
            | succ nf107 ih107 =>
              intro kj yj hmu107 hkj hyj
              refine q_iload hX 4 dL_law_107 rfl ?_
              refine q_iconst hX 2 dL_law_109 (by decide) ?_
              refine q_iload_n hX 3 dL_law_110 rfl ?_
              refine q_iconst hX 4 dL_law_111 (by decide) ?_
              refine q_ishr hX dL_law_112 ?_
              refine q_bipush hX 9 dL_law_113 (by decide) ?_
              refine q_ctE hX hG (by decide) (by decide) (As := [.int (v1 >>> (4 &&& 31)), .int 9]) (rest := [.int 2, .int (nI kj)]) (c_L_up l G B (SE b L xs B) hG hE yj (v := (v1 >>> (4 &&& 31))) (m := 9) (by decide)) k_L_law_L_up rfl rfl (Nat.le_of_ble_eq_true rfl) dL_law_115 ?_
              refine q_top (nI qm) eqm ?_
              refine q_iadd hX dL_law_118 ?_
              refine q_top (nI (2 + qm)) (nI_add 2 qm) ?_
              refine q_ic_ge hX 139 dL_law_119 (by decide) (fun c3 => ?_) (fun c3 => ?_)
              · -- jump 139
                have nc3 : ((2 + qm : Nat) ≤ kj) := (nI_leI (a := 2 + qm) (b := kj) (by omega) (by omega)).mp c3
                have hji : JI yj 2000 := (hyj.mono (by omega) (by omega)).ji (by omega) (by omega) (by omega) (by omega)
                refine q_aload_n hX 1 dL_law_139 rfl ?_
                refine q_iconst hX 0 dL_law_140 (by decide) ?_
                refine q_iconst hX 1 dL_law_141 (by decide) ?_
                refine q_iload_n hX 3 dL_law_142 rfl ?_
                refine q_bipush hX 7 dL_law_143 (by decide) ?_
                refine q_ishr hX dL_law_145 ?_
                refine q_sipush hX 300 dL_law_146 (by decide) ?_
                refine q_ctE hX hG (by decide) (by decide) (As := [.int (v1 >>> (7 &&& 31)), .int 300]) (rest := [.int 1, .int 0, .ref (G.2.2 192)]) (c_L_up l G B (SE b L xs B) hG hE yj (v := (v1 >>> (7 &&& 31))) (m := 300) (by decide)) k_L_law_L_up rfl rfl (Nat.le_of_ble_eq_true rfl) dL_law_149 ?_
                obtain ⟨qs, hqs, eqs⟩ := up_in (v := (v1 >>> (7 &&& 31))) (m := 300) (by omega) (by omega)
                refine q_top (nI qs) eqs ?_
                refine q_iadd hX dL_law_152 ?_
                refine q_top (nI (1 + qs)) (nI_add 1 qs) ?_
                refine q_cv hX hG (by decide) (by decide) (As := [.int 0, .int (nI (1 + qs))]) (rest := []) (c_X6_set l G hG.1 yj (x := 0) (y := (nI (1 + qs))) ) k_L_law_X6_set (fun i hi => absurd hi (Nat.not_lt_zero _)) rfl rfl (Nat.le_of_ble_eq_true rfl) dL_law_153 ?_
                obtain ⟨y3, hd3⟩ : ∃ s_ : St, s_ = (spSet yj 0 (nI (1 + qs))).2 := ⟨_, rfl⟩
                refine q_z (z2 := y3) hd3.symm ?_
                have hy3 : JI y3 2100 := by rw [hd3]; exact JI_set hji (by omega) _ _
                refine q_pop hX dL_law_156 rfl ?_
                refine q_aload_n hX 1 dL_law_157 rfl ?_
                refine q_iconst hX 1 dL_law_158 (by decide) ?_
                refine q_iload_n hX 3 dL_law_159 rfl ?_
                refine q_iconst hX 5 dL_law_160 (by decide) ?_
                refine q_ishr hX dL_law_161 ?_
                refine q_bipush hX 10 dL_law_162 (by decide) ?_
                refine q_ctE hX hG (by decide) (by decide) (As := [.int (v1 >>> (5 &&& 31)), .int 10]) (rest := [.int 1, .ref (G.2.2 192)]) (c_L_up l G B (SE b L xs B) hG hE y3 (v := (v1 >>> (5 &&& 31))) (m := 10) (by decide)) k_L_law_L_up rfl rfl (Nat.le_of_ble_eq_true rfl) dL_law_164 ?_
                refine q_cv hX hG (by decide) (by decide) (As := [.int 1, .int (upf (v1 >>> (5 &&& 31)) 10)]) (rest := []) (c_X6_set l G hG.1 y3 (x := 1) (y := (upf (v1 >>> (5 &&& 31)) 10)) ) k_L_law_X6_set (fun i hi => absurd hi (Nat.not_lt_zero _)) rfl rfl (Nat.le_of_ble_eq_true rfl) dL_law_167 ?_
                obtain ⟨y4, hd4⟩ : ∃ s_ : St, s_ = (spSet y3 1 (upf (v1 >>> (5 &&& 31)) 10)).2 := ⟨_, rfl⟩
                refine q_z (z2 := y4) hd4.symm ?_
                have hy4 : JI y4 2200 := by rw [hd4]; exact JI_set hy3 (by omega) _ _
                refine q_pop hX dL_law_170 rfl ?_
                refine q_aload_n hX 1 dL_law_171 rfl ?_
                refine q_iconst hX 2 dL_law_172 (by decide) ?_
                refine q_iconst hX 1 dL_law_173 (by decide) ?_
                refine q_iload_n hX 3 dL_law_174 rfl ?_
                refine q_bipush hX 9 dL_law_175 (by decide) ?_
                refine q_ishr hX dL_law_177 ?_
                refine q_iconst hX 3 dL_law_178 (by decide) ?_
                refine q_ctE hX hG (by decide) (by decide) (As := [.int (v1 >>> (9 &&& 31)), .int 3]) (rest := [.int 1, .int 2, .ref (G.2.2 192)]) (c_L_up l G B (SE b L xs B) hG hE y4 (v := (v1 >>> (9 &&& 31))) (m := 3) (by decide)) k_L_law_L_up rfl rfl (Nat.le_of_ble_eq_true rfl) dL_law_179 ?_
                obtain ⟨qt, hqt, eqt⟩ := up_in (v := (v1 >>> (9 &&& 31))) (m := 3) (by omega) (by omega)
                refine q_top (nI qt) eqt ?_
                refine q_iadd hX dL_law_182 ?_
                refine q_top (nI (1 + qt)) (nI_add 1 qt) ?_
                refine q_cv hX hG (by decide) (by decide) (As := [.int 2, .int (nI (1 + qt))]) (rest := []) (c_X6_set l G hG.1 y4 (x := 2) (y := (nI (1 + qt))) ) k_L_law_X6_set (fun i hi => absurd hi (Nat.not_lt_zero _)) rfl rfl (Nat.le_of_ble_eq_true rfl) dL_law_183 ?_
                obtain ⟨y5, hd5⟩ : ∃ s_ : St, s_ = (spSet y4 2 (nI (1 + qt))).2 := ⟨_, rfl⟩
                refine q_z (z2 := y5) hd5.symm ?_
                have hy5 : JI y5 2300 := by rw [hd5]; exact JI_set hy4 (by omega) _ _
                refine q_pop hX dL_law_186 rfl ?_
                refine q_aload_n hX 1 dL_law_187 rfl ?_
                refine q_iconst hX 5 dL_law_188 (by decide) ?_
                refine q_iload_n hX 3 dL_law_189 rfl ?_
                refine q_ldc hX 65536 dL_law_190 (List.mem_of_getElem? (i := 3) rfl) ?_
                refine q_ctE hX hG (by decide) (by decide) (As := [.int v1, .int 65536]) (rest := [.int 5, .ref (G.2.2 192)]) (c_L_up l G B (SE b L xs B) hG hE y5 (v := v1) (m := 65536) (by decide)) k_L_law_L_up rfl rfl (Nat.le_of_ble_eq_true rfl) dL_law_192 ?_
                refine q_cv hX hG (by decide) (by decide) (As := [.int 5, .int (upf v1 65536)]) (rest := []) (c_X6_set l G hG.1 y5 (x := 5) (y := (upf v1 65536)) ) k_L_law_X6_set (fun i hi => absurd hi (Nat.not_lt_zero _)) rfl rfl (Nat.le_of_ble_eq_true rfl) dL_law_195 ?_
                obtain ⟨y6, hd6⟩ : ∃ s_ : St, s_ = (spSet y5 5 (upf v1 65536)).2 := ⟨_, rfl⟩
                refine q_z (z2 := y6) hd6.symm ?_
                have hy6 : JI y6 2400 := by rw [hd6]; exact JI_set hy5 (by omega) _ _
                refine q_pop hX dL_law_198 rfl ?_
                refine q_iconst hX 0 dL_law_199 (by decide) ?_
                refine q_istore hX [(4, .int 0), (0, .ref b), (1, .ref (G.2.2 192)), (2, .int (nI (0 + 1 + 1))), (3, .int v1)] dL_law_200 (by decide) rfl ?_
                have loop202 : ∀ (nf202 : Nat) (ka : Nat) (ya : St), (26 < ka + nf202) → (ka ≤ 26) → (JI ya (3000 + 100 * ka)) → LG X B 0 (fun _ => 0) G (300 + 3 * ka) (3000 + 64 * ka) ya 202 [(0, .ref b), (1, .ref (G.2.2 192)), (2, .int (nI (2 + 3 * ka))), (4, .int (nI ka))] [] := by
                  intro nf202
                  induction nf202 with
                  | zero =>
                    intro ka ya hmu202 hka hya
                    exfalso; omega
                  | succ nf202 ih202 =>
                    intro ka ya hmu202 hka hya
                    refine q_iload hX 3 dL_law_202 rfl ?_
                    refine q_bipush hX 26 dL_law_204 (by decide) ?_
                    refine q_ic_ge hX 272 dL_law_206 (by decide) (fun c4 => ?_) (fun c4 => ?_)
                    · -- jump 272
                      have nc4 : ((26 : Nat) ≤ ka) := (nI_leI (a := 26) (b := ka) (by omega) (by omega)).mp c4
                      refine q_aload_n hX 0 dL_law_272 rfl ?_
                      refine q_iload_n hX 2 dL_law_273 rfl ?_
                      refine q_iinc hX (nI (2 + 3 * ka + 1)) 2 [(2, .int (nI (2 + 3 * ka + 1))), (0, .ref b), (1, .ref (G.2.2 192)), (4, .int (nI ka))] dL_law_274 rfl (nI_1 (2 + 3 * ka)) (by decide) rfl ?_
                      refine q_ct hX hG (show (300 + 3 * ka) + 0 ≤ 600000 by omega) (show (3000 + 64 * ka) + 0 ≤ 7302250 by omega) (As := [.ref b, .int (nI (2 + 3 * ka))]) (rest := []) (c_L_cell l G B hL hG ya (k := 2 + 3 * ka) (by omega)) k_L_law_L_cell rfl rfl (Nat.le_of_ble_eq_true rfl) dL_law_277 (fun v5 ζ hζ => ?_)
                      rw [show ζ = ya from hζ]
                      clear hζ ζ
                      refine q_istore_n hX [(3, .int v5), (2, .int (nI (2 + 3 * ka + 1))), (0, .ref b), (1, .ref (G.2.2 192)), (4, .int (nI ka))] dL_law_280 (by decide) rfl ?_
                      refine q_aload_n hX 3 dL_law_281 rfl ?_
                      refine q_iload_n hX 0 dL_law_282 rfl ?_
                      refine q_ct hX hG (show (300 + 3 * ka) + 0 ≤ 600000 by omega) (show (3000 + 64 * ka) + 0 ≤ 7302250 by omega) (As := [.ref (G.2.2 192), .int v5]) (rest := []) (c_L_drawn l G B (SE b L xs B) hG hE ya hya (by omega)) k_L_law_L_drawn rfl rfl (Nat.le_of_ble_eq_true rfl) dL_law_283 (fun ρ y8 hp => ?_)
                      obtain ⟨rfl, hy8⟩ := hp
                      refine q_if_eq hX 337 dL_law_286 (by decide) (fun c5 => ?_) (fun c5 => ?_)
                      · -- jump 337
                        exact absurd c5 (by decide)
                      · -- on 289
                        refine q_aload_n hX 3 dL_law_289 rfl ?_
                        refine q_aload_n hX 2 dL_law_290 rfl ?_
                        refine q_iload_n hX 1 dL_law_291 rfl ?_
                        refine q_iinc hX (nI (2 + 3 * ka + 1 + 1)) 1 [(2, .int (nI (2 + 3 * ka + 1 + 1))), (3, .int v5), (0, .ref b), (1, .ref (G.2.2 192)), (4, .int (nI ka))] dL_law_292 rfl (nI_1 (2 + 3 * ka + 1)) (by decide) rfl ?_
                        refine q_ct hX hG (show (300 + 3 * ka) + 0 ≤ 600000 by omega) (show (3000 + 64 * ka) + 0 ≤ 7302250 by omega) (As := [.ref b, .int (nI (2 + 3 * ka + 1))]) (rest := [.ref (G.2.2 192)]) (c_L_cell l G B hL hG y8 (k := 2 + 3 * ka + 1) (by omega)) k_L_law_L_cell rfl rfl (Nat.le_of_ble_eq_true rfl) dL_law_295 (fun v6 ζ hζ => ?_)
                        rw [show ζ = y8 from hζ]
                        clear hζ ζ
                        refine q_ct hX hG (show (300 + 3 * ka) + 0 ≤ 600000 by omega) (show (3000 + 64 * ka) + 0 ≤ 7302250 by omega) (As := [.ref (G.2.2 192), .int v6]) (rest := []) (c_L_told l G B (SE b L xs B) hG hE y8 hy8 (by omega)) k_L_law_L_told rfl rfl (Nat.le_of_ble_eq_true rfl) dL_law_298 (fun ρ y9 hp => ?_)
                        obtain ⟨rfl, hy9⟩ := hp
                        refine q_if_eq hX 337 dL_law_301 (by decide) (fun c6 => ?_) (fun c6 => ?_)
                        · -- jump 337
                          exact absurd c6 (by decide)
                        · -- on 304
                          refine q_aload_n hX 3 dL_law_304 rfl ?_
                          refine q_aload_n hX 2 dL_law_305 rfl ?_
                          refine q_iload_n hX 0 dL_law_306 rfl ?_
                          refine q_iinc hX (nI (2 + 3 * ka + 1 + 1 + 1)) 0 [(2, .int (nI (2 + 3 * ka + 1 + 1 + 1))), (3, .int v5), (0, .ref b), (1, .ref (G.2.2 192)), (4, .int (nI ka))] dL_law_307 rfl (nI_1 (2 + 3 * ka + 1 + 1)) (by decide) rfl ?_
                          refine q_ct hX hG (show (300 + 3 * ka) + 0 ≤ 600000 by omega) (show (3000 + 64 * ka) + 0 ≤ 7302250 by omega) (As := [.ref b, .int (nI (2 + 3 * ka + 1 + 1))]) (rest := [.ref (G.2.2 192)]) (c_L_cell l G B hL hG y9 (k := 2 + 3 * ka + 1 + 1) (by omega)) k_L_law_L_cell rfl rfl (Nat.le_of_ble_eq_true rfl) dL_law_310 (fun v7 ζ hζ => ?_)
                          rw [show ζ = y9 from hζ]
                          clear hζ ζ
                          refine q_ct hX hG (show (300 + 3 * ka) + 0 ≤ 600000 by omega) (show (3000 + 64 * ka) + 0 ≤ 7302250 by omega) (As := [.ref (G.2.2 192), .int v7]) (rest := []) (c_L_kept l G B (SE b L xs B) hG hE y9 hy9 (by omega)) k_L_law_L_kept rfl rfl (Nat.le_of_ble_eq_true rfl) dL_law_313 (fun ρ y10 hp => ?_)
                          obtain ⟨rfl, hy10⟩ := hp
                          refine q_if_eq hX 337 dL_law_316 (by decide) (fun c7 => ?_) (fun c7 => ?_)
                          · -- jump 337
                            exact absurd c7 (by decide)
                          · -- on 319
                            refine q_aload_n hX 3 dL_law_319 rfl ?_
                            refine q_ct hX hG (show (300 + 3 * ka) + 0 ≤ 600000 by omega) (show (3000 + 64 * ka) + 0 ≤ 7302250 by omega) (As := [.ref (G.2.2 192)]) (rest := []) (c_L_fits l G B (SE b L xs B) hG hE y10 hy10) k_L_law_L_fits rfl rfl (Nat.le_of_ble_eq_true rfl) dL_law_320 (fun ρ ζ hp => ?_)
                            obtain ⟨rfl, e_⟩ := hp
                            rw [e_]
                            clear e_ ζ
                            refine q_if_eq hX 337 dL_law_323 (by decide) (fun c8 => ?_) (fun c8 => ?_)
                            · -- jump 337
                              exact absurd c8 (by decide)
                            · -- on 326
                              refine q_aload_n hX 3 dL_law_326 rfl ?_
                              refine q_ct hX hG (show (300 + 3 * ka) + 0 ≤ 600000 by omega) (show (3000 + 64 * ka) + 0 ≤ 7302250 by omega) (As := [.ref (G.2.2 192)]) (rest := []) (c_L_adds l G B (SE b L xs B) hG hE y10 hy10) k_L_law_L_adds rfl rfl (Nat.le_of_ble_eq_true rfl) dL_law_327 (fun ρ ζ hp => ?_)
                              obtain ⟨rfl, e_⟩ := hp
                              rw [e_]
                              clear e_ ζ
                              refine q_if_eq hX 337 dL_law_330 (by decide) (fun c9 => ?_) (fun c9 => ?_)
                              · -- jump 337
                                exact absurd c9 (by decide)
                              · -- on 333
                                refine q_iconst hX 1 dL_law_333 (by decide) ?_
                                refine q_goto hX 338 dL_law_334 (by decide) ?_
                                refine ret _ _ _ _ _ (show (300 + 3 * ka) ≤ 600000 by omega) (show (3000 + 64 * ka) ≤ 7302250 by omega) dL_law_338
                    · -- on 209
                      have nc4 : ¬ ((26 : Nat) ≤ ka) := fun q => c4 ((nI_leI (a := 26) (b := ka) (by omega) (by omega)).mpr q)
                      refine q_aload_n hX 0 dL_law_209 rfl ?_
                      refine q_iload_n hX 2 dL_law_210 rfl ?_
                      refine q_iinc hX (nI (2 + 3 * ka + 1)) 2 [(2, .int (nI (2 + 3 * ka + 1))), (0, .ref b), (1, .ref (G.2.2 192)), (4, .int (nI ka))] dL_law_211 rfl (nI_1 (2 + 3 * ka)) (by decide) rfl ?_
                      refine q_ct hX hG (show (300 + 3 * ka) + 0 ≤ 600000 by omega) (show (3000 + 64 * ka) + 0 ≤ 7302250 by omega) (As := [.ref b, .int (nI (2 + 3 * ka))]) (rest := []) (c_L_cell l G B hL hG ya (k := 2 + 3 * ka) (by omega)) k_L_law_L_cell rfl rfl (Nat.le_of_ble_eq_true rfl) dL_law_214 (fun v2 ζ hζ => ?_)
                      rw [show ζ = ya from hζ]
                      clear hζ ζ
                      refine q_istore_n hX [(3, .int v2), (2, .int (nI (2 + 3 * ka + 1))), (0, .ref b), (1, .ref (G.2.2 192)), (4, .int (nI ka))] dL_law_217 (by decide) rfl ?_
                      refine q_aload_n hX 3 dL_law_218 rfl ?_
                      refine q_iload_n hX 0 dL_law_219 rfl ?_
                      refine q_aload_n hX 2 dL_law_220 rfl ?_
                      refine q_iload_n hX 1 dL_law_221 rfl ?_
                      refine q_iinc hX (nI (2 + 3 * ka + 1 + 1)) 1 [(2, .int (nI (2 + 3 * ka + 1 + 1))), (3, .int v2), (0, .ref b), (1, .ref (G.2.2 192)), (4, .int (nI ka))] dL_law_222 rfl (nI_1 (2 + 3 * ka + 1)) (by decide) rfl ?_
                      refine q_ct hX hG (show (300 + 3 * ka) + 0 ≤ 600000 by omega) (show (3000 + 64 * ka) + 0 ≤ 7302250 by omega) (As := [.ref b, .int (nI (2 + 3 * ka + 1))]) (rest := [.int v2, .ref (G.2.2 192)]) (c_L_cell l G B hL hG ya (k := 2 + 3 * ka + 1) (by omega)) k_L_law_L_cell rfl rfl (Nat.le_of_ble_eq_true rfl) dL_law_225 (fun v3 ζ hζ => ?_)
                      rw [show ζ = ya from hζ]
                      clear hζ ζ
                      refine q_aload_n hX 2 dL_law_228 rfl ?_
                      refine q_iload_n hX 0 dL_law_229 rfl ?_
                      refine q_iinc hX (nI (2 + 3 * ka + 1 + 1 + 1)) 0 [(2, .int (nI (2 + 3 * ka + 1 + 1 + 1))), (3, .int v2), (0, .ref b), (1, .ref (G.2.2 192)), (4, .int (nI ka))] dL_law_230 rfl (nI_1 (2 + 3 * ka + 1 + 1)) (by decide) rfl ?_
                      refine q_ct hX hG (show (300 + 3 * ka) + 0 ≤ 600000 by omega) (show (3000 + 64 * ka) + 0 ≤ 7302250 by omega) (As := [.ref b, .int (nI (2 + 3 * ka + 1 + 1))]) (rest := [.int v3, .int v2, .ref (G.2.2 192)]) (c_L_cell l G B hL hG ya (k := 2 + 3 * ka + 1 + 1) (by omega)) k_L_law_L_cell rfl rfl (Nat.le_of_ble_eq_true rfl) dL_law_233 (fun v4 ζ hζ => ?_)
                      rw [show ζ = ya from hζ]
                      clear hζ ζ
                      refine q_ct hX hG (show (300 + 3 * ka) + 3 ≤ 600000 by omega) (show (3000 + 64 * ka) + 64 ≤ 7302250 by omega) (As := [.ref (G.2.2 192), .int v2, .int v3, .int v4]) (rest := []) (c_L_act l G B (SE b L xs B) hG hE ya hya (by omega)) k_L_law_L_act rfl rfl (Nat.le_of_ble_eq_true rfl) dL_law_236 (fun ρ y7 hp => ?_)
                      obtain ⟨rfl, hy7⟩ := hp
                      refine q_if_eq hX 264 dL_law_239 (by decide) (fun c10 => ?_) (fun c10 => ?_)
                      · -- jump 264
                        exact absurd c10 (by decide)
                      · -- on 242
                        refine q_iload hX 4 dL_law_242 rfl ?_
                        refine q_iconst hX 4 dL_law_244 (by decide) ?_
                        refine q_irem hX dL_law_245 (by decide) ?_
                        refine q_top (nI (ka % 4)) (pk_rem (a := ka) (d := 4) (by omega) (by decide) (by decide)) ?_
                        refine q_iconst hX 3 dL_law_246 (by decide) ?_
                        refine q_ic_ne hX 266 dL_law_247 (by decide) (fun c11 => ?_) (fun c11 => ?_)
                        · -- jump 266
                          have nc11 : ¬ ((ka % 4 : Nat) = 3) := fun q => c11 ((nI_eq (a := ka % 4) (b := 3) (by omega) (by omega)).mpr q)
                          refine q_iinc hX (nI (ka + 1)) 4 [(4, .int (nI (ka + 1))), (2, .int (nI (2 + 3 * ka + 1 + 1 + 1))), (3, .int v2), (0, .ref b), (1, .ref (G.2.2 192))] dL_law_266 rfl (nI_1 ka) (by decide) rfl ?_
                          refine q_goto hX 202 dL_law_269 (by decide) ?_
                          refine q_sub [3, 4, 1, 0] [(0, .ref b), (1, .ref (G.2.2 192)), (2, .int (nI (2 + 3 * ka + 1 + 1 + 1))), (4, .int (nI (ka + 1)))] rfl ?_
                          refine q_wid (kc2 := 300 + 3 * (ka + 1)) (ks2 := 3000 + 64 * (ka + 1)) (by omega) (by omega) ?_
                          have el2 : (nI (2 + 3 * ka + 1 + 1 + 1) : Int32) = nI (2 + 3 * (ka + 1)) := by exact congrArg nI (by omega)
                          refine q_lv (lv' := [(0, .ref b), (1, .ref (G.2.2 192)), (2, .int (nI (2 + 3 * (ka + 1)))), (4, .int (nI (ka + 1)))]) (by rw [← el2]) ?_
                          exact ih202 (ka + 1) y7 (by omega) (by omega) (hy7.mono (by omega) (by omega))
                        · -- on 250
                          have nc11 : ((ka % 4 : Nat) = 3) := (nI_eq (a := ka % 4) (b := 3) (by omega) (by omega)).mp (Decidable.not_not.mp c11)
                          refine q_aload_n hX 3 dL_law_250 rfl ?_
                          refine q_ct hX hG (show ((300 + 3 * ka) + 3) + 0 ≤ 600000 by omega) (show ((3000 + 64 * ka) + 64) + 0 ≤ 7302250 by omega) (As := [.ref (G.2.2 192)]) (rest := []) (c_L_fits l G B (SE b L xs B) hG hE y7 hy7) k_L_law_L_fits rfl rfl (Nat.le_of_ble_eq_true rfl) dL_law_251 (fun ρ ζ hp => ?_)
                          obtain ⟨rfl, e_⟩ := hp
                          rw [e_]
                          clear e_ ζ
                          refine q_if_eq hX 264 dL_law_254 (by decide) (fun c12 => ?_) (fun c12 => ?_)
                          · -- jump 264
                            exact absurd c12 (by decide)
                          · -- on 257
                            refine q_aload_n hX 3 dL_law_257 rfl ?_
                            refine q_ct hX hG (show ((300 + 3 * ka) + 3) + 0 ≤ 600000 by omega) (show ((3000 + 64 * ka) + 64) + 0 ≤ 7302250 by omega) (As := [.ref (G.2.2 192)]) (rest := []) (c_L_adds l G B (SE b L xs B) hG hE y7 hy7) k_L_law_L_adds rfl rfl (Nat.le_of_ble_eq_true rfl) dL_law_258 (fun ρ ζ hp => ?_)
                            obtain ⟨rfl, e_⟩ := hp
                            rw [e_]
                            clear e_ ζ
                            refine q_if_ne hX 266 dL_law_261 (by decide) (fun c13 => ?_) (fun c13 => ?_)
                            · -- jump 266
                              refine q_iinc hX (nI (ka + 1)) 4 [(4, .int (nI (ka + 1))), (2, .int (nI (2 + 3 * ka + 1 + 1 + 1))), (3, .int v2), (0, .ref b), (1, .ref (G.2.2 192))] dL_law_266 rfl (nI_1 ka) (by decide) rfl ?_
                              refine q_goto hX 202 dL_law_269 (by decide) ?_
                              refine q_sub [3, 4, 1, 0] [(0, .ref b), (1, .ref (G.2.2 192)), (2, .int (nI (2 + 3 * ka + 1 + 1 + 1))), (4, .int (nI (ka + 1)))] rfl ?_
                              refine q_wid (kc2 := 300 + 3 * (ka + 1)) (ks2 := 3000 + 64 * (ka + 1)) (by omega) (by omega) ?_
                              have el2 : (nI (2 + 3 * ka + 1 + 1 + 1) : Int32) = nI (2 + 3 * (ka + 1)) := by exact congrArg nI (by omega)
                              refine q_lv (lv' := [(0, .ref b), (1, .ref (G.2.2 192)), (2, .int (nI (2 + 3 * (ka + 1)))), (4, .int (nI (ka + 1)))]) (by rw [← el2]) ?_
                              exact ih202 (ka + 1) y7 (by omega) (by omega) (hy7.mono (by omega) (by omega))
                            · -- on 264
                              exact absurd c13 (by decide)
                refine q_sub [1, 2, 3, 0] [(0, .ref b), (1, .ref (G.2.2 192)), (2, .int (nI (0 + 1 + 1))), (4, .int 0)] rfl ?_
                have el2 : (nI (0 + 1 + 1) : Int32) = nI (2 + 3 * 0) := by rfl
                refine q_lv (lv' := [(0, .ref b), (1, .ref (G.2.2 192)), (2, .int (nI (2 + 3 * 0))), (4, .int 0)]) (by rw [← el2]) ?_
                have el4 : (0 : Int32) = nI 0 := by rfl
                refine q_lv (lv' := [(0, .ref b), (1, .ref (G.2.2 192)), (2, .int (nI (2 + 3 * 0))), (4, .int (nI 0))]) (by rw [← el4]) ?_
                exact loop202 (26 + 1) 0 y6 (by omega) (by decide) (hy6.mono (by omega) (by omega))
              · -- on 122
                have nc3 : ¬ ((2 + qm : Nat) ≤ kj) := fun q => c3 ((nI_leI (a := 2 + qm) (b := kj) (by omega) (by omega)).mpr q)
                refine q_aload_n hX 1 dL_law_122 rfl ?_
                refine q_cv hX hG (by decide) (by decide) (As := []) (rest := []) (c_X6_join l G hG.1 yj  (hI := hyj.io)) k_L_law_X6_join (fun i hi => absurd hi (Nat.not_lt_zero _)) rfl rfl (Nat.le_of_ble_eq_true rfl) dL_law_123 ?_
                obtain ⟨y2, h2, e2, hy2⟩ := join_step hyj (by omega) (by omega)
                refine q_cg (z2 := y2) h2 (fun i hi => absurd hi (Nat.not_lt_zero _)) ?_
                refine q_top (nI kj) e2 ?_
                refine q_iload hX 4 dL_law_126 rfl ?_
                refine q_ic_eq hX 133 dL_law_128 (by decide) (fun c14 => ?_) (fun c14 => ?_)
                · -- jump 133
                  refine q_iinc hX (nI (kj + 1)) 4 [(4, .int (nI (kj + 1))), (0, .ref b), (1, .ref (G.2.2 192)), (2, .int (nI (0 + 1 + 1))), (3, .int v1)] dL_law_133 rfl (nI_1 kj) (by decide) rfl ?_
                  refine q_goto hX 107 dL_law_136 (by decide) ?_
                  refine q_sub [1, 2, 3, 4, 0] [(0, .ref b), (1, .ref (G.2.2 192)), (2, .int (nI (0 + 1 + 1))), (3, .int v1), (4, .int (nI (kj + 1)))] rfl ?_
                  exact ih107 (kj + 1) y2 (by omega) (by omega) (hy2.mono (by omega) (by omega))
                · -- on 131
                  exact absurd rfl c14
          refine q_sub [1, 2, 3, 4, 0] [(0, .ref b), (1, .ref (G.2.2 192)), (2, .int (nI (0 + 1 + 1))), (3, .int v1), (4, .int 0)] rfl ?_
          have el4 : (0 : Int32) = nI 0 := by rfl
          refine q_lv (lv' := [(0, .ref b), (1, .ref (G.2.2 192)), (2, .int (nI (0 + 1 + 1))), (3, .int v1), (4, .int (nI 0))]) (by rw [← el4]) ?_
          exact loop107 ((2 + qm) + 1) 0 yr (by omega) (Nat.zero_le _) (hyr.mono (by omega) (by omega))
        · -- on 51
          have nc2 : ¬ ((1 + qn : Nat) ≤ kr) := fun q => c2 ((nI_leI (a := 1 + qn) (b := kr) (by omega) (by omega)).mpr q)
          refine q_iconst hX 1 dL_law_51 (by decide) ?_
          refine q_iload_n hX 3 dL_law_52 rfl ?_
          refine q_iconst hX 2 dL_law_53 (by decide) ?_
          refine q_iload hX 4 dL_law_54 rfl ?_
          refine q_imul hX dL_law_56 ?_
          refine q_iconst hX 2 dL_law_57 (by decide) ?_
          refine q_iadd hX dL_law_58 ?_
          refine q_ishr hX dL_law_59 ?_
          refine q_bipush hX 12 dL_law_60 (by decide) ?_
          refine q_ctE hX hG (by decide) (by decide) (As := [.int (v1 >>> ((2 * (nI kr)) + 2 &&& 31)), .int 12]) (rest := [.int 1]) (c_L_up l G B (SE b L xs B) hG hE yr (v := (v1 >>> ((2 * (nI kr)) + 2 &&& 31))) (m := 12) (by decide)) k_L_law_L_up rfl rfl (Nat.le_of_ble_eq_true rfl) dL_law_62 ?_
          obtain ⟨ql, hql, eql⟩ := up_in (v := (v1 >>> ((2 * (nI kr)) + 2 &&& 31))) (m := 12) (by omega) (by omega)
          refine q_top (nI ql) eql ?_
          refine q_iadd hX dL_law_65 ?_
          refine q_top (nI (1 + ql)) (nI_add 1 ql) ?_
          refine q_istore hX [(5, .int (nI (1 + ql))), (0, .ref b), (1, .ref (G.2.2 192)), (2, .int (nI (0 + 1 + 1))), (3, .int v1), (4, .int (nI kr))] dL_law_66 (by decide) rfl ?_
          refine q_aload_n hX 2 dL_law_68 rfl ?_
          refine q_iload hX 0 dL_law_69 rfl ?_
          refine q_iload_n hX 4 dL_law_71 rfl ?_
          refine q_iconst hX 2 dL_law_72 (by decide) ?_
          refine q_iload hX 5 dL_law_73 rfl ?_
          refine q_imul hX dL_law_75 ?_
          refine q_iconst hX 5 dL_law_76 (by decide) ?_
          refine q_iadd hX dL_law_77 ?_
          refine q_ishr hX dL_law_78 ?_
          refine q_iload hX 0 dL_law_79 rfl ?_
          refine q_iconst hX 1 dL_law_81 (by decide) ?_
          refine q_iadd hX dL_law_82 ?_
          refine q_top (nI (1 + ql + 1)) (nI_add (1 + ql) 1) ?_
          refine q_ctE hX hG (by decide) (by decide) (As := [.int (v1 >>> ((2 * (nI kr)) + 5 &&& 31)), .int (nI (1 + ql + 1))]) (rest := [.int (nI (1 + ql)), .ref (G.2.2 192)]) (c_L_up l G B (SE b L xs B) hG hE yr (v := (v1 >>> ((2 * (nI kr)) + 5 &&& 31))) (m := (nI (1 + ql + 1))) (nI_ne0 (by omega) (by omega))) k_L_law_L_up rfl rfl (Nat.le_of_ble_eq_true rfl) dL_law_83 ?_
          obtain ⟨qb, hqb, eqb⟩ := up_in (v := (v1 >>> ((2 * (nI kr)) + 5 &&& 31))) (m := 1 + ql + 1) (by omega) (by omega)
          refine q_top (nI qb) eqb ?_
          refine q_iconst hX 2 dL_law_86 (by decide) ?_
          refine q_idiv hX dL_law_87 (by decide) ?_
          refine q_top (nI (qb / 2)) (pk_div (d := 2) (by omega) (by decide) (by decide)) ?_
          refine q_cv hX hG (by decide) (by decide) (As := [.int (nI (1 + ql)), .int (nI (qb / 2))]) (rest := []) (c_X6_route l G hG.1 yr (x := (nI (1 + ql))) (y := (nI (qb / 2))) (hI := hyr.io)) k_L_law_X6_route (fun i hi => absurd hi (Nat.not_lt_zero _)) rfl rfl (Nat.le_of_ble_eq_true rfl) dL_law_88 ?_
          obtain ⟨y1, eR, hy1⟩ := route_step hyr (by omega) (by omega) (l := 1 + ql) (s := qb / 2) (by omega) (by omega) (by omega)
          refine q_z (z2 := y1) (by rw [eR]) ?_
          refine q_top (nI kr) (by rw [eR]) ?_
          refine q_iload hX 5 dL_law_91 rfl ?_
          refine q_ic_eq hX 98 dL_law_93 (by decide) (fun c15 => ?_) (fun c15 => ?_)
          · -- jump 98
            refine q_iinc hX (nI (kr + 1)) 5 [(4, .int (nI (kr + 1))), (5, .int (nI (1 + ql))), (0, .ref b), (1, .ref (G.2.2 192)), (2, .int (nI (0 + 1 + 1))), (3, .int v1)] dL_law_98 rfl (nI_1 kr) (by decide) rfl ?_
            refine q_goto hX 39 dL_law_101 (by decide) ?_
            refine q_sub [2, 3, 4, 5, 0] [(0, .ref b), (1, .ref (G.2.2 192)), (2, .int (nI (0 + 1 + 1))), (3, .int v1), (4, .int (nI (kr + 1)))] rfl ?_
            exact ih39 (kr + 1) y1 (by omega) (by omega) (hy1.mono (by omega) (by omega))
          · -- on 96
            exact absurd rfl c15
    refine q_sub [4, 3, 2, 1, 0] [(0, .ref b), (1, .ref (G.2.2 192)), (2, .int (nI (0 + 1 + 1))), (3, .int v1), (4, .int 0)] rfl ?_
    have el4 : (0 : Int32) = nI 0 := by rfl
    refine q_lv (lv' := [(0, .ref b), (1, .ref (G.2.2 192)), (2, .int (nI (0 + 1 + 1))), (3, .int v1), (4, .int (nI 0))]) (by rw [← el4]) ?_
    exact loop39 ((1 + qn) + 1) 0 y0 (by omega) (Nat.zero_le _) (PJ_0 h0)
  · -- on 25
    exact absurd c1 (by decide)
