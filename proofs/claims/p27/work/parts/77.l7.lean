/-! ===== the law's own: an act ===== -/
theorem none_app {z : St} {b : Nat} (h : JI z b) (h0 : nA z = 0) : ¬ appP z 0 := fun q => by
  have q2 := q.2
  rw [h.na.1, h0] at q2
  exact absurd q2 (by decide)
theorem cancel_none {z : St} {b : Nat} (h : JI z b) (h0 : nA z = 0) : spCancel z 0 = (-1, z) := by
  unfold spCancel; rw [if_pos (none_app h h0)]
theorem show_none {z : St} {b : Nat} (h : JI z b) (h0 : nA z = 0) : spShow z 0 = (-1, z) := by
  unfold spShow; rw [if_pos (none_app h h0)]
theorem show_ans {z : St} {b : Nat} (h : JI z b) {a : Nat} (ha : a < nA z) :
    (a_s z a = 1 ∧ a_d z a = TN z ∧ z 18 a = 0 → spShow z (nI a) = (1, u2 z 18 a 1)) ∧ (¬ (a_s z a = 1 ∧ a_d z a = TN z ∧ z 18 a = 0) → spShow z (nI a) = (-5, z)) := by
  obtain ⟨-, -, ⟨e13, d6⟩, -, ⟨e15, s7⟩, -⟩ := h.ap ha
  have ht := h.t0
  have f1 : z 15 a = 1 ↔ a_s z a = 1 := by rw [e15]; exact nI_eq (b := 1) (by omega) (by decide)
  have fd : z 13 a = z 0 0 ↔ a_d z a = TN z := by
    constructor
    · intro q; unfold a_d TN; rw [q]
    · intro q; rw [e13, ht.1, q]
  have hc : (¬ z 15 a = 1 ∨ ¬ z 13 a = z 0 0 ∨ ¬ z 18 a = 0) ↔ ¬ (a_s z a = 1 ∧ a_d z a = TN z ∧ z 18 a = 0) := by
    rw [f1, fd]
    constructor
    · rintro (q | q | q) w
      · exact q w.1
      · exact q w.2.1
      · exact q w.2.2
    · intro q
      by_cases k1 : a_s z a = 1
      · by_cases k2 : a_d z a = TN z
        · right; right; exact fun k3 => q ⟨k1, k2, k3⟩
        · right; left; exact k2
      · left; exact k1
  unfold spShow
  rw [if_neg (not_not_intro (h.aP ha)), cn_a h ha]
  constructor
  · intro q; rw [if_neg (fun k => hc.mp k q)]
  · intro q; rw [if_pos (hc.mpr q)]
theorem there_n {z : St} {b : Nat} (h : JI z b) {a : Nat} (ha : a < nA z) : ∃ t, t ≤ 1 ∧ z 18 a = nI t := by
  rcases h.oi.h18 a (h.ap ha).2.2.2.2.2 with e | e
  · exact ⟨0, by omega, e⟩
  · exact ⟨1, Nat.le_refl _, e⟩

def rm_L_act : Room := { frames := 7, cells := 3, slots := 64, locals := 167 }
theorem k_L_act_L_cancels : CT3 rm_L_act wsL_act RL 78 yL_cancels cL_cancels 11 (some .boolean) wsL_cancels rm_L_cancels 0 0 2 := ⟨gL_act_L_cancels, ⟨_, rfl⟩, rfl, rfl, ⟨by decide +kernel, by decide +kernel, by decide +kernel⟩, by decide, by decide⟩
theorem k_L_act_L_closes : CT3 rm_L_act wsL_act RL 81 yL_closes cL_closes 10 (some .boolean) wsL_closes rm_L_closes 1 40 2 := ⟨gL_act_L_closes, ⟨_, rfl⟩, rfl, rfl, ⟨by decide +kernel, by decide +kernel, by decide +kernel⟩, by decide, by decide⟩
theorem k_L_act_L_ends : CT3 rm_L_act wsL_act RL 87 yL_ends cL_ends 9 (some .boolean) wsL_ends rm_L_ends 3 64 1 := ⟨gL_act_L_ends, ⟨_, rfl⟩, rfl, rfl, ⟨by decide +kernel, by decide +kernel, by decide +kernel⟩, by decide, by decide⟩
theorem k_L_act_L_holds : CT3 rm_L_act wsL_act RL 71 yL_holds cL_holds 16 (some .boolean) wsL_holds rm_L_holds 3 64 3 := ⟨gL_act_L_holds, ⟨_, rfl⟩, rfl, rfl, ⟨by decide +kernel, by decide +kernel, by decide +kernel⟩, by decide, by decide⟩
theorem k_L_act_L_up : CT3 rm_L_act wsL_act RL 22 yL_up cL_up 2 (some .int) wsL_up rm_L_up 0 0 2 := ⟨gL_act_L_up, ⟨_, rfl⟩, rfl, rfl, ⟨by decide +kernel, by decide +kernel, by decide +kernel⟩, by decide, by decide⟩
theorem k_L_act_X6_application : CW rm_L_act wsL_act RL RX6 68 yX6_application cX6_application 4 (some .int) wsX6_application rm_X6_application 2 := ⟨gL_act_X6_application, ⟨_, rfl⟩, rfl, rfl, ⟨rfl, by decide +kernel, by decide +kernel, by decide +kernel⟩, by decide, by decide⟩
theorem k_L_act_X6_apply : CW rm_L_act wsL_act RL RX6 61 yX6_apply cX6_apply 5 (some .int) wsX6_apply rm_X6_apply 4 := ⟨gL_act_X6_apply, ⟨_, rfl⟩, rfl, rfl, ⟨rfl, by decide +kernel, by decide +kernel, by decide +kernel⟩, by decide, by decide⟩
theorem k_L_act_X6_cancel : CW rm_L_act wsL_act RL RX6 75 yX6_cancel cX6_cancel 4 (some .int) wsX6_cancel rm_X6_cancel 1 := ⟨gL_act_X6_cancel, ⟨_, rfl⟩, rfl, rfl, ⟨rfl, by decide +kernel, by decide +kernel, by decide +kernel⟩, by decide, by decide⟩
theorem k_L_act_X6_climber : CW rm_L_act wsL_act RL RX6 65 yX6_climber cX6_climber 3 (some .int) wsX6_climber rm_X6_climber 2 := ⟨gL_act_X6_climber, ⟨_, rfl⟩, rfl, rfl, ⟨rfl, by decide +kernel, by decide +kernel, by decide +kernel⟩, by decide, by decide⟩
theorem k_L_act_X6_count : CW rm_L_act wsL_act RL RX6 57 yX6_count cX6_count 2 (some .int) wsX6_count rm_X6_count 1 := ⟨gL_act_X6_count, ⟨_, rfl⟩, rfl, rfl, ⟨rfl, by decide +kernel, by decide +kernel, by decide +kernel⟩, by decide, by decide⟩
theorem k_L_act_X6_show : CW rm_L_act wsL_act RL RX6 84 yX6_show cX6_show 3 (some .int) wsX6_show rm_X6_show 1 := ⟨gL_act_X6_show, ⟨_, rfl⟩, rfl, rfl, ⟨rfl, by decide +kernel, by decide +kernel, by decide +kernel⟩, by decide, by decide⟩
set_option maxHeartbeats 4000000 in
set_option maxRecDepth 100000 in
theorem c_L_act (l : Launch) (G : MG) (B : Nat) (E : State → Prop) (hG : GB B G) (hE : KMv (AB B) E) (z : St) {v : Int32} {w : Int32} {x : Int32} {b : Nat} (hJ : JI z b) (hb : b + 100 ≤ 50000) : CL l G B E yL_act wsL_act rm_L_act [.ref (G.2.2 192), .int v, .int w, .int x] z (fun ρ ζ => ρ = 1 ∧ JI ζ (b + 100)) 3 64 := by
  refine cl_of (own := RL) (cc := cL_act) (maxL := 11) (ret := .boolean) hG hE (by decide +kernel) rfl rfl ?_ (Nat.le_of_ble_eq_true rfl) ?_
  · rintro v z' ⟨rfl, -⟩; rfl
  · intro X hX ret
    refine q_lv (lv' := [(0, .ref (G.2.2 192)), (1, .int v), (2, .int w), (3, .int x)]) rfl ?_
    have hT := hJ.t0.2
    obtain ⟨-, hN6, hN1⟩ := hJ.nr
    obtain ⟨-, hC12, hC1⟩ := hJ.nc
    obtain ⟨-, hA40⟩ := hJ.na
    refine q_aload_n hX 0 dL_act_0 rfl ?_
    refine q_iconst hX 0 dL_act_1 (by decide) ?_
    refine q_cv hX hG (by decide) (by decide) (As := [.int 0]) (rest := []) (c_X6_count l G z (w := 0) (hI := hJ.io)) k_L_act_X6_count (fun _ _ => rfl) rfl rfl (Nat.le_of_ble_eq_true rfl) dL_act_2 ?_
    refine q_top (nI (TN z)) (ct0 hJ) ?_
    refine q_istore hX [(4, .int (nI (TN z))), (0, .ref (G.2.2 192)), (1, .int v), (2, .int w), (3, .int x)] dL_act_5 (by decide) rfl ?_
    obtain ⟨q1, hq1, eq1⟩ := up_in (v := w) (m := 7) (by omega) (by omega)
    have km1 : LG X B 0 (fun _ => 0) G 0 0 z 35 [(4, .int (nI (TN z))), (0, .ref (G.2.2 192)), (1, .int v), (2, .int w), (3, .int x)] [.int (nI (min (TN z + q1) 59))] := by
      refine q_istore hX [(5, .int (nI (min (TN z + q1) 59))), (4, .int (nI (TN z))), (0, .ref (G.2.2 192)), (1, .int v), (2, .int w), (3, .int x)] dL_act_35 (by decide) rfl ?_
      obtain ⟨d, hd, hd60, hTd⟩ : ∃ d, min (TN z + q1) 59 = d ∧ d < 60 ∧ TN z ≤ d := ⟨_, rfl, by omega, by omega⟩
      refine q_lv (lv' := [(5, .int (nI d)), (4, .int (nI (TN z))), (0, .ref (G.2.2 192)), (1, .int v), (2, .int w), (3, .int x)]) (by rw [hd]) ?_
      refine q_iload_n hX 5 dL_act_37 rfl ?_
      refine q_aload_n hX 2 dL_act_38 rfl ?_
      refine q_iconst hX 1 dL_act_39 (by decide) ?_
      refine q_cv hX hG (by decide) (by decide) (As := [.int 1]) (rest := [.int x]) (c_X6_count l G z (w := 1) (hI := hJ.io)) k_L_act_X6_count (fun _ _ => rfl) rfl rfl (Nat.le_of_ble_eq_true rfl) dL_act_40 ?_
      refine q_top (nI (NR z)) (ct1 hJ) ?_
      refine q_ctE hX hG (by decide) (by decide) (As := [.int x, .int (nI (NR z))]) (rest := []) (c_L_up l G B E hG hE z (v := x) (m := (nI (NR z))) (nI_ne0 (by omega) (by omega))) k_L_act_L_up rfl rfl (Nat.le_of_ble_eq_true rfl) dL_act_43 ?_
      obtain ⟨r, hr, er⟩ := up_in (v := x) (m := NR z) (by omega) (by omega)
      refine q_top (nI r) er ?_
      refine q_istore hX [(6, .int (nI r)), (5, .int (nI d)), (4, .int (nI (TN z))), (0, .ref (G.2.2 192)), (1, .int v), (2, .int w), (3, .int x)] dL_act_46 (by decide) rfl ?_
      refine q_aload_n hX 3 dL_act_48 rfl ?_
      refine q_iconst hX 3 dL_act_49 (by decide) ?_
      refine q_cv hX hG (by decide) (by decide) (As := [.int 3]) (rest := []) (c_X6_count l G z (w := 3) (hI := hJ.io)) k_L_act_X6_count (fun _ _ => rfl) rfl rfl (Nat.le_of_ble_eq_true rfl) dL_act_50 ?_
      refine q_top (nI (nA z)) (ct3 hJ) ?_
      refine q_istore hX [(7, .int (nI (nA z))), (6, .int (nI r)), (5, .int (nI d)), (4, .int (nI (TN z))), (0, .ref (G.2.2 192)), (1, .int v), (2, .int w), (3, .int x)] dL_act_53 (by decide) rfl ?_
      refine q_iload_n hX 5 dL_act_55 rfl ?_
      refine q_bipush hX 10 dL_act_56 (by decide) ?_
      refine q_ctE hX hG (by decide) (by decide) (As := [.int v, .int 10]) (rest := []) (c_L_up l G B E hG hE z (v := v) (m := 10) (by decide)) k_L_act_L_up rfl rfl (Nat.le_of_ble_eq_true rfl) dL_act_58 ?_
      obtain ⟨t0, ht0, et0⟩ := up_in (v := v) (m := 10) (by omega) (by omega)
      refine q_top (nI t0) et0 ?_
      have kt2 : LG X B 0 (fun _ => 0) G 0 0 z 112 [(7, .int (nI (nA z))), (6, .int (nI r)), (5, .int (nI d)), (4, .int (nI (TN z))), (0, .ref (G.2.2 192)), (1, .int v), (2, .int w), (3, .int x)] [] := by
        refine q_iload_n hX 7 dL_act_112 rfl ?_
        refine q_iconst hX 3 dL_act_113 (by decide) ?_
        refine q_ishr hX dL_act_114 ?_
        refine q_aload_n hX 4 dL_act_115 rfl ?_
        refine q_iconst hX 2 dL_act_116 (by decide) ?_
        refine q_cv hX hG (by decide) (by decide) (As := [.int 2]) (rest := [.int (x >>> (3 &&& 31))]) (c_X6_count l G z (w := 2) (hI := hJ.io)) k_L_act_X6_count (fun _ _ => rfl) rfl rfl (Nat.le_of_ble_eq_true rfl) dL_act_117 ?_
        refine q_top (nI (NC z)) (ct2 hJ) ?_
        refine q_ctE hX hG (by decide) (by decide) (As := [.int (x >>> (3 &&& 31)), .int (nI (NC z))]) (rest := []) (c_L_up l G B E hG hE z (v := (x >>> (3 &&& 31))) (m := (nI (NC z))) (nI_ne0 (by omega) (by omega))) k_L_act_L_up rfl rfl (Nat.le_of_ble_eq_true rfl) dL_act_120 ?_
        obtain ⟨c, hc, ec⟩ := up_in (v := (x >>> (3 &&& 31))) (m := NC z) (by omega) (by omega)
        refine q_top (nI c) ec ?_
        refine q_istore hX [(8, .int (nI c)), (7, .int (nI (nA z))), (6, .int (nI r)), (5, .int (nI d)), (4, .int (nI (TN z))), (0, .ref (G.2.2 192)), (1, .int v), (2, .int w), (3, .int x)] dL_act_123 (by decide) rfl ?_
        refine q_aload_n hX 5 dL_act_125 rfl ?_
        refine q_iload hX 0 dL_act_126 rfl ?_
        refine q_iload hX 2 dL_act_128 rfl ?_
        refine q_iload hX 3 dL_act_130 rfl ?_
        refine q_iconst hX 1 dL_act_132 (by decide) ?_
        refine q_iload_n hX 8 dL_act_133 rfl ?_
        refine q_bipush hX 7 dL_act_134 (by decide) ?_
        refine q_ishr hX dL_act_136 ?_
        refine q_iconst hX 4 dL_act_137 (by decide) ?_
        refine q_ctE hX hG (by decide) (by decide) (As := [.int (x >>> (7 &&& 31)), .int 4]) (rest := [.int 1, .int (nI d), .int (nI r), .int (nI c), .ref (G.2.2 192)]) (c_L_up l G B E hG hE z (v := (x >>> (7 &&& 31))) (m := 4) (by decide)) k_L_act_L_up rfl rfl (Nat.le_of_ble_eq_true rfl) dL_act_138 ?_
        obtain ⟨p0, hp0, ep0⟩ := up_in (v := (x >>> (7 &&& 31))) (m := 4) (by omega) (by omega)
        refine q_top (nI p0) ep0 ?_
        refine q_iadd hX dL_act_141 ?_
        refine q_top (nI (1 + p0)) (nI_add 1 p0) ?_
        refine q_cv hX hG (by decide) (by decide) (As := [.int (nI c), .int (nI r), .int (nI d), .int (nI (1 + p0))]) (rest := []) (c_X6_apply l G hG.1 z (c := (nI c)) (r := (nI r)) (d := (nI d)) (p := (nI (1 + p0))) (hI := hJ.io)) k_L_act_X6_apply (fun i hi => absurd hi (Nat.not_lt_zero _)) rfl rfl (Nat.le_of_ble_eq_true rfl) dL_act_142 ?_
        rcases apply_ans hJ hc hr hd60 (p := 1 + p0) (by omega) (by omega) with eF | ⟨eF, e40, e10⟩ | ⟨eF, e40, e10⟩
        · -- case
          rw [eF]
          refine q_z (z2 := z) rfl ?_
          refine q_top (-5) rfl ?_
          refine q_istore hX [(9, .int (-5)), (8, .int (nI c)), (7, .int (nI (nA z))), (6, .int (nI r)), (5, .int (nI d)), (4, .int (nI (TN z))), (0, .ref (G.2.2 192)), (1, .int v), (2, .int w), (3, .int x)] dL_act_145 (by decide) rfl ?_
          refine q_aload_n hX 6 dL_act_147 rfl ?_
          refine q_iload hX 1 dL_act_148 rfl ?_
          refine q_iconst hX 2 dL_act_150 (by decide) ?_
          refine q_cv hX hG (by decide) (by decide) (As := [.int (nI c), .int 2]) (rest := []) (c_X6_climber l G z (c := (nI c)) (w := 2) (hI := hJ.io)) k_L_act_X6_climber (fun _ _ => rfl) rfl rfl (Nat.le_of_ble_eq_true rfl) dL_act_151 ?_
          refine q_top (z 10 c) (cl2 hJ (c := c) (by omega)) ?_
          refine q_iload hX 4 dL_act_154 rfl ?_
          refine q_ic_lt hX 163 dL_act_156 (by decide) (fun c3 => ?_) (fun c3 => ?_)
          · -- jump 163
            refine q_iconst hX 0 dL_act_163 (by decide) ?_
            refine q_istore hX [(10, .int 0), (9, .int (-5)), (8, .int (nI c)), (7, .int (nI (nA z))), (6, .int (nI r)), (5, .int (nI d)), (4, .int (nI (TN z))), (0, .ref (G.2.2 192)), (1, .int v), (2, .int w), (3, .int x)] dL_act_164 (by decide) rfl ?_
            refine q_iload hX 1 dL_act_166 rfl ?_
            refine q_if_ge hX 211 dL_act_168 (by decide) (fun c4 => ?_) (fun c4 => ?_)
            · -- jump 211
              exact absurd c4 (by decide)
            · -- on 171
              refine q_iload hX 1 dL_act_171 rfl ?_
              refine q_bipush hX (-4) dL_act_173 (by decide) ?_
              refine q_ic_ne hX 198 dL_act_175 (by decide) (fun c5 => ?_) (fun c5 => ?_)
              · -- jump 198
                refine q_iload hX 1 dL_act_198 rfl ?_
                refine q_bipush hX (-5) dL_act_200 (by decide) ?_
                refine q_ic_ne hX 209 dL_act_202 (by decide) (fun c6 => ?_) (fun c6 => ?_)
                · -- jump 209
                  exact absurd c6 (by decide)
                · -- on 205
                  refine q_iconst hX 1 dL_act_205 (by decide) ?_
                  refine q_goto hX 210 dL_act_206 (by decide) ?_
                  refine ret _ _ _ _ _ _ (by decide) (by decide) dL_act_210 ?_
                  exact ⟨rfl, hJ.mono (by omega) (by omega)⟩
              · -- on 178
                exact absurd c5 (by decide)
          · -- on 159
            refine q_iconst hX 1 dL_act_159 (by decide) ?_
            refine q_goto hX 164 dL_act_160 (by decide) ?_
            refine q_istore hX [(10, .int 1), (9, .int (-5)), (8, .int (nI c)), (7, .int (nI (nA z))), (6, .int (nI r)), (5, .int (nI d)), (4, .int (nI (TN z))), (0, .ref (G.2.2 192)), (1, .int v), (2, .int w), (3, .int x)] dL_act_164 (by decide) rfl ?_
            refine q_iload hX 1 dL_act_166 rfl ?_
            refine q_if_ge hX 211 dL_act_168 (by decide) (fun c7 => ?_) (fun c7 => ?_)
            · -- jump 211
              exact absurd c7 (by decide)
            · -- on 171
              refine q_iload hX 1 dL_act_171 rfl ?_
              refine q_bipush hX (-4) dL_act_173 (by decide) ?_
              refine q_ic_ne hX 198 dL_act_175 (by decide) (fun c8 => ?_) (fun c8 => ?_)
              · -- jump 198
                refine q_iload hX 1 dL_act_198 rfl ?_
                refine q_bipush hX (-5) dL_act_200 (by decide) ?_
                refine q_ic_ne hX 209 dL_act_202 (by decide) (fun c9 => ?_) (fun c9 => ?_)
                · -- jump 209
                  exact absurd c9 (by decide)
                · -- on 205
                  refine q_iconst hX 1 dL_act_205 (by decide) ?_
                  refine q_goto hX 210 dL_act_206 (by decide) ?_
                  refine ret _ _ _ _ _ _ (by decide) (by decide) dL_act_210 ?_
                  exact ⟨rfl, hJ.mono (by omega) (by omega)⟩
              · -- on 178
                exact absurd c8 (by decide)
        · -- case
          rw [eF]
          refine q_z (z2 := z) rfl ?_
          refine q_top (-4) rfl ?_
          refine q_istore hX [(9, .int (-4)), (8, .int (nI c)), (7, .int (nI (nA z))), (6, .int (nI r)), (5, .int (nI d)), (4, .int (nI (TN z))), (0, .ref (G.2.2 192)), (1, .int v), (2, .int w), (3, .int x)] dL_act_145 (by decide) rfl ?_
          refine q_aload_n hX 6 dL_act_147 rfl ?_
          refine q_iload hX 1 dL_act_148 rfl ?_
          refine q_iconst hX 2 dL_act_150 (by decide) ?_
          refine q_cv hX hG (by decide) (by decide) (As := [.int (nI c), .int 2]) (rest := []) (c_X6_climber l G z (c := (nI c)) (w := 2) (hI := hJ.io)) k_L_act_X6_climber (fun _ _ => rfl) rfl rfl (Nat.le_of_ble_eq_true rfl) dL_act_151 ?_
          refine q_top (z 10 c) (cl2 hJ (c := c) (by omega)) ?_
          refine q_iload hX 4 dL_act_154 rfl ?_
          refine q_ic_lt hX 163 dL_act_156 (by decide) (fun c10 => ?_) (fun c10 => ?_)
          · -- jump 163
            refine q_iconst hX 0 dL_act_163 (by decide) ?_
            refine q_istore hX [(10, .int 0), (9, .int (-4)), (8, .int (nI c)), (7, .int (nI (nA z))), (6, .int (nI r)), (5, .int (nI d)), (4, .int (nI (TN z))), (0, .ref (G.2.2 192)), (1, .int v), (2, .int w), (3, .int x)] dL_act_164 (by decide) rfl ?_
            refine q_iload hX 1 dL_act_166 rfl ?_
            refine q_if_ge hX 211 dL_act_168 (by decide) (fun c11 => ?_) (fun c11 => ?_)
            · -- jump 211
              exact absurd c11 (by decide)
            · -- on 171
              refine q_iload hX 1 dL_act_171 rfl ?_
              refine q_bipush hX (-4) dL_act_173 (by decide) ?_
              refine q_ic_ne hX 198 dL_act_175 (by decide) (fun c12 => ?_) (fun c12 => ?_)
              · -- jump 198
                exact absurd c12 (by decide)
              · -- on 178
                refine q_iload hX 3 dL_act_178 rfl ?_
                refine q_bipush hX 40 dL_act_180 (by decide) ?_
                refine q_ic_ne hX 194 dL_act_182 (by decide) (fun c13 => ?_) (fun c13 => ?_)
                · -- jump 194
                  have nc13 : ¬ ((nA z : Nat) = 40) := fun q => c13 ((nI_eq (a := nA z) (b := 40) (by omega) (by omega)).mpr q)
                  refine q_iconst hX 0 dL_act_194 (by decide) ?_
                  refine q_goto hX 210 dL_act_195 (by decide) ?_
                  exfalso
                  omega
                · -- on 185
                  have nc13 : ((nA z : Nat) = 40) := (nI_eq (a := nA z) (b := 40) (by omega) (by omega)).mp (Decidable.not_not.mp c13)
                  refine q_iload hX 0 dL_act_185 rfl ?_
                  refine q_if_ne hX 194 dL_act_187 (by decide) (fun c14 => ?_) (fun c14 => ?_)
                  · -- jump 194
                    exact absurd c14 (by decide)
                  · -- on 190
                    refine q_iconst hX 1 dL_act_190 (by decide) ?_
                    refine q_goto hX 210 dL_act_191 (by decide) ?_
                    refine ret _ _ _ _ _ _ (by decide) (by decide) dL_act_210 ?_
                    exact ⟨rfl, hJ.mono (by omega) (by omega)⟩
          · -- on 159
            exact absurd e10 c10
        · -- case
          rw [eF]
          obtain ⟨y, hyd⟩ : ∃ s_ : St, s_ = newApp z (nI c) (nI r) (nI d) (nI (1 + p0)) := ⟨_, rfl⟩
          refine q_z (z2 := y) hyd.symm ?_
          refine q_top (nI (nA z)) rfl ?_
          have hy : JI y (b + 100) := by
            have := JI_apply hJ (by omega) (nI c) (nI r) (nI d) (nI (1 + p0))
            rw [eF] at this
            rw [hyd]; exact this
          have eny : nA y = nA z + 1 := by rw [hyd]; exact nwA_n hJ.io _ _ _ _
          obtain ⟨w11, w12, w13, w14, w19⟩ := nwA_new z (nI c) (nI r) (nI d) (nI (1 + p0))
          have enc : NC y = NC z := by unfold NC; rw [hyd, nwA_lo _ _ _ _ _ (by decide)]
          have f_c : a_c y (nA z) = c := by unfold a_c; rw [hyd, w11, cn_nI (by omega)]
          have f_r : a_r y (nA z) = r := by unfold a_r; rw [hyd, w12, cn_nI (by omega)]
          have f_d : a_d y (nA z) = d := by unfold a_d; rw [hyd, w13, cn_nI (by omega)]
          have f_p : a_p y (nA z) = 1 + p0 := by unfold a_p; rw [hyd, w14, cn_nI (by omega)]
          have f_s : a_s y (nA z) = 0 := by unfold a_s; rw [hyd, nwA_lo _ _ _ _ _ (by decide), (hJ.oi.fra (nA z) (Nat.le_refl _) e40).1]; decide
          have f_19 : y 19 (nA z) = nI d := by rw [hyd]; exact w19
          have e10y : y 10 c < nI d := by rw [hyd, nwA_lo _ _ _ _ _ (by decide)]; exact e10
          refine q_istore hX [(9, .int (nI (nA z))), (8, .int (nI c)), (7, .int (nI (nA z))), (6, .int (nI r)), (5, .int (nI d)), (4, .int (nI (TN z))), (0, .ref (G.2.2 192)), (1, .int v), (2, .int w), (3, .int x)] dL_act_145 (by decide) rfl ?_
          refine q_aload_n hX 6 dL_act_147 rfl ?_
          refine q_iload hX 1 dL_act_148 rfl ?_
          refine q_iconst hX 2 dL_act_150 (by decide) ?_
          refine q_cv hX hG (by decide) (by decide) (As := [.int (nI c), .int 2]) (rest := []) (c_X6_climber l G y (c := (nI c)) (w := 2) (hI := hy.io)) k_L_act_X6_climber (fun _ _ => rfl) rfl rfl (Nat.le_of_ble_eq_true rfl) dL_act_151 ?_
          refine q_top (y 10 c) (cl2 hy (c := c) (by omega)) ?_
          refine q_iload hX 4 dL_act_154 rfl ?_
          refine q_ic_lt hX 163 dL_act_156 (by decide) (fun c15 => ?_) (fun c15 => ?_)
          · -- jump 163
            refine q_iconst hX 0 dL_act_163 (by decide) ?_
            refine q_istore hX [(10, .int 0), (9, .int (nI (nA z))), (8, .int (nI c)), (7, .int (nI (nA z))), (6, .int (nI r)), (5, .int (nI d)), (4, .int (nI (TN z))), (0, .ref (G.2.2 192)), (1, .int v), (2, .int w), (3, .int x)] dL_act_164 (by decide) rfl ?_
            refine q_iload hX 1 dL_act_166 rfl ?_
            refine q_if_ge hX 211 dL_act_168 (by decide) (fun c16 => ?_) (fun c16 => ?_)
            · -- jump 211
              have nc16 : ((0 : Nat) ≤ nA z) := (nI_leI (a := 0) (b := nA z) (by omega) (by omega)).mp c16
              refine q_iload hX 1 dL_act_211 rfl ?_
              refine q_iload hX 3 dL_act_213 rfl ?_
              refine q_ic_ne hX 322 dL_act_215 (by decide) (fun c17 => ?_) (fun c17 => ?_)
              · -- jump 322
                exact absurd rfl c17
              · -- on 218
                refine q_iload hX 0 dL_act_218 rfl ?_
                refine q_if_ne hX 322 dL_act_220 (by decide) (fun c18 => ?_) (fun c18 => ?_)
                · -- jump 322
                  exact absurd c18 (by decide)
                · -- on 223
                  refine q_aload_n hX 7 dL_act_223 rfl ?_
                  refine q_iload hX 1 dL_act_224 rfl ?_
                  refine q_iconst hX 0 dL_act_226 (by decide) ?_
                  refine q_cv hX hG (by decide) (by decide) (As := [.int (nI (nA z)), .int 0]) (rest := []) (c_X6_application l G y (a := (nI (nA z))) (w := 0) (hI := hy.io)) k_L_act_X6_application (fun _ _ => rfl) rfl rfl (Nat.le_of_ble_eq_true rfl) dL_act_227 ?_
                  refine q_top (nI (a_c y (nA z))) (ap0 hy (a := (nA z)) (by omega)) ?_
                  refine q_iload hX 2 dL_act_230 rfl ?_
                  refine q_ic_ne hX 322 dL_act_232 (by decide) (fun c19 => ?_) (fun c19 => ?_)
                  · -- jump 322
                    have nc19 : ¬ ((a_c y (nA z) : Nat) = c) := fun q => c19 ((nI_eq (a := a_c y (nA z)) (b := c) (by omega) (by omega)).mpr q)
                    refine q_iconst hX 0 dL_act_322 (by decide) ?_
                    exfalso
                    omega
                  · -- on 235
                    have nc19 : ((a_c y (nA z) : Nat) = c) := (nI_eq (a := a_c y (nA z)) (b := c) (by omega) (by omega)).mp (Decidable.not_not.mp c19)
                    refine q_aload_n hX 7 dL_act_235 rfl ?_
                    refine q_iload hX 1 dL_act_236 rfl ?_
                    refine q_iconst hX 1 dL_act_238 (by decide) ?_
                    refine q_cv hX hG (by decide) (by decide) (As := [.int (nI (nA z)), .int 1]) (rest := []) (c_X6_application l G y (a := (nI (nA z))) (w := 1) (hI := hy.io)) k_L_act_X6_application (fun _ _ => rfl) rfl rfl (Nat.le_of_ble_eq_true rfl) dL_act_239 ?_
                    refine q_top (nI (a_r y (nA z))) (ap1 hy (a := (nA z)) (by omega)) ?_
                    refine q_iload hX 4 dL_act_242 rfl ?_
                    refine q_ic_ne hX 322 dL_act_244 (by decide) (fun c20 => ?_) (fun c20 => ?_)
                    · -- jump 322
                      have nc20 : ¬ ((a_r y (nA z) : Nat) = r) := fun q => c20 ((nI_eq (a := a_r y (nA z)) (b := r) (by omega) (by omega)).mpr q)
                      refine q_iconst hX 0 dL_act_322 (by decide) ?_
                      exfalso
                      omega
                    · -- on 247
                      have nc20 : ((a_r y (nA z) : Nat) = r) := (nI_eq (a := a_r y (nA z)) (b := r) (by omega) (by omega)).mp (Decidable.not_not.mp c20)
                      refine q_aload_n hX 7 dL_act_247 rfl ?_
                      refine q_iload hX 1 dL_act_248 rfl ?_
                      refine q_iconst hX 2 dL_act_250 (by decide) ?_
                      refine q_cv hX hG (by decide) (by decide) (As := [.int (nI (nA z)), .int 2]) (rest := []) (c_X6_application l G y (a := (nI (nA z))) (w := 2) (hI := hy.io)) k_L_act_X6_application (fun _ _ => rfl) rfl rfl (Nat.le_of_ble_eq_true rfl) dL_act_251 ?_
                      refine q_top (nI (a_d y (nA z))) (ap2 hy (a := (nA z)) (by omega)) ?_
                      refine q_iload hX 5 dL_act_254 rfl ?_
                      refine q_ic_ne hX 322 dL_act_256 (by decide) (fun c21 => ?_) (fun c21 => ?_)
                      · -- jump 322
                        have nc21 : ¬ ((a_d y (nA z) : Nat) = d) := fun q => c21 ((nI_eq (a := a_d y (nA z)) (b := d) (by omega) (by omega)).mpr q)
                        refine q_iconst hX 0 dL_act_322 (by decide) ?_
                        exfalso
                        omega
                      · -- on 259
                        have nc21 : ((a_d y (nA z) : Nat) = d) := (nI_eq (a := a_d y (nA z)) (b := d) (by omega) (by omega)).mp (Decidable.not_not.mp c21)
                        refine q_aload_n hX 7 dL_act_259 rfl ?_
                        refine q_iload hX 1 dL_act_260 rfl ?_
                        refine q_bipush hX 8 dL_act_262 (by decide) ?_
                        refine q_cv hX hG (by decide) (by decide) (As := [.int (nI (nA z)), .int 8]) (rest := []) (c_X6_application l G y (a := (nI (nA z))) (w := 8) (hI := hy.io)) k_L_act_X6_application (fun _ _ => rfl) rfl rfl (Nat.le_of_ble_eq_true rfl) dL_act_264 ?_
                        refine q_top (y 19 (nA z)) (ap8 hy (a := (nA z)) (by omega)) ?_
                        refine q_iload hX 5 dL_act_267 rfl ?_
                        refine q_ic_ne hX 322 dL_act_269 (by decide) (fun c22 => ?_) (fun c22 => ?_)
                        · -- jump 322
                          exact absurd f_19 c22
                        · -- on 272
                          refine q_aload_n hX 7 dL_act_272 rfl ?_
                          refine q_iload hX 1 dL_act_273 rfl ?_
                          refine q_iconst hX 3 dL_act_275 (by decide) ?_
                          refine q_cv hX hG (by decide) (by decide) (As := [.int (nI (nA z)), .int 3]) (rest := []) (c_X6_application l G y (a := (nI (nA z))) (w := 3) (hI := hy.io)) k_L_act_X6_application (fun _ _ => rfl) rfl rfl (Nat.le_of_ble_eq_true rfl) dL_act_276 ?_
                          refine q_top (nI (a_p y (nA z))) (ap3 hy (a := (nA z)) (by omega)) ?_
                          refine q_iconst hX 1 dL_act_279 (by decide) ?_
                          refine q_iload_n hX 10 dL_act_280 rfl ?_
                          refine q_bipush hX 7 dL_act_281 (by decide) ?_
                          refine q_ishr hX dL_act_283 ?_
                          refine q_iconst hX 4 dL_act_284 (by decide) ?_
                          refine q_ctE hX hG (by decide) (by decide) (As := [.int (x >>> (7 &&& 31)), .int 4]) (rest := [.int 1, .int (nI (a_p y (nA z)))]) (c_L_up l G B E hG hE y (v := (x >>> (7 &&& 31))) (m := 4) (by decide)) k_L_act_L_up rfl rfl (Nat.le_of_ble_eq_true rfl) dL_act_285 ?_
                          refine q_top (nI p0) ep0 ?_
                          refine q_iadd hX dL_act_288 ?_
                          refine q_top (nI (1 + p0)) (nI_add 1 p0) ?_
                          refine q_ic_ne hX 322 dL_act_289 (by decide) (fun c23 => ?_) (fun c23 => ?_)
                          · -- jump 322
                            have nc23 : ¬ ((a_p y (nA z) : Nat) = 1 + p0) := fun q => c23 ((nI_eq (a := a_p y (nA z)) (b := 1 + p0) (by omega) (by omega)).mpr q)
                            refine q_iconst hX 0 dL_act_322 (by decide) ?_
                            exfalso
                            omega
                          · -- on 292
                            have nc23 : ((a_p y (nA z) : Nat) = 1 + p0) := (nI_eq (a := a_p y (nA z)) (b := 1 + p0) (by omega) (by omega)).mp (Decidable.not_not.mp c23)
                            refine q_aload_n hX 7 dL_act_292 rfl ?_
                            refine q_iload hX 1 dL_act_293 rfl ?_
                            refine q_iconst hX 4 dL_act_295 (by decide) ?_
                            refine q_cv hX hG (by decide) (by decide) (As := [.int (nI (nA z)), .int 4]) (rest := []) (c_X6_application l G y (a := (nI (nA z))) (w := 4) (hI := hy.io)) k_L_act_X6_application (fun _ _ => rfl) rfl rfl (Nat.le_of_ble_eq_true rfl) dL_act_296 ?_
                            refine q_top (nI (a_s y (nA z))) (ap4 hy (a := (nA z)) (by omega)) ?_
                            refine q_if_ne hX 322 dL_act_299 (by decide) (fun c24 => ?_) (fun c24 => ?_)
                            · -- jump 322
                              have nc24 : ¬ ((a_s y (nA z) : Nat) = 0) := fun q => c24 ((nI_eq (a := a_s y (nA z)) (b := 0) (by omega) (by omega)).mpr q)
                              refine q_iconst hX 0 dL_act_322 (by decide) ?_
                              exfalso
                              omega
                            · -- on 302
                              have nc24 : ((a_s y (nA z) : Nat) = 0) := (nI_eq (a := a_s y (nA z)) (b := 0) (by omega) (by omega)).mp (Decidable.not_not.mp c24)
                              refine q_aload_n hX 7 dL_act_302 rfl ?_
                              refine q_iload hX 2 dL_act_303 rfl ?_
                              refine q_iload hX 4 dL_act_305 rfl ?_
                              refine q_iload hX 5 dL_act_307 rfl ?_
                              refine q_iconst hX 1 dL_act_309 (by decide) ?_
                              refine q_cv hX hG (by decide) (by decide) (As := [.int (nI c), .int (nI r), .int (nI d), .int 1]) (rest := []) (c_X6_apply l G hG.1 y (c := (nI c)) (r := (nI r)) (d := (nI d)) (p := 1) (hI := hy.io)) k_L_act_X6_apply (fun i hi => absurd hi (Nat.not_lt_zero _)) rfl rfl (Nat.le_of_ble_eq_true rfl) dL_act_310 ?_
                              have eA : spApply y (nI c) (nI r) (nI d) 1 = (-5, y) := by rw [hyd]; exact apply_again hJ e40 hc hr hd60 _
                              rw [eA]
                              refine q_z (z2 := y) rfl ?_
                              refine q_top (-5) rfl ?_
                              refine q_bipush hX (-5) dL_act_313 (by decide) ?_
                              refine q_ic_ne hX 322 dL_act_315 (by decide) (fun c25 => ?_) (fun c25 => ?_)
                              · -- jump 322
                                exact absurd c25 (by decide)
                              · -- on 318
                                refine q_iconst hX 1 dL_act_318 (by decide) ?_
                                refine q_goto hX 323 dL_act_319 (by decide) ?_
                                refine ret _ _ _ _ _ _ (by decide) (by decide) dL_act_323 ?_
                                exact ⟨rfl, hy⟩
            · -- on 171
              have nc16 : ¬ ((0 : Nat) ≤ nA z) := fun q => c16 ((nI_leI (a := 0) (b := nA z) (by omega) (by omega)).mpr q)
              exfalso; omega
          · -- on 159
            exact absurd e10y c15
      have kt26 : LG X B 0 (fun _ => 0) G 0 0 z 324 [(7, .int (nI (nA z))), (6, .int (nI r)), (5, .int (nI d)), (4, .int (nI (TN z))), (0, .ref (G.2.2 192)), (1, .int v), (2, .int w), (3, .int x)] [] := by
        refine q_aload_n hX 4 dL_act_324 rfl ?_
        refine q_iload hX 1 dL_act_325 rfl ?_
        refine q_iload hX 2 dL_act_327 rfl ?_
        refine q_ct hX hG (by decide) (by decide) (As := [.ref (G.2.2 192), .int (nI r), .int (nI d)]) (rest := []) (c_L_holds l G B E hG hE z (r := r) (d := d) hJ hb hr hd60 hTd) k_L_act_L_holds rfl rfl (Nat.le_of_ble_eq_true rfl) dL_act_329 (fun ρ y hp => ?_)
        obtain ⟨rfl, hy⟩ := hp
        refine ret _ _ _ _ _ _ (by decide) (by decide) dL_act_332 ?_
        exact ⟨rfl, hy⟩
      have kt27 : LG X B 0 (fun _ => 0) G 0 0 z 333 [(7, .int (nI (nA z))), (6, .int (nI r)), (5, .int (nI d)), (4, .int (nI (TN z))), (0, .ref (G.2.2 192)), (1, .int v), (2, .int w), (3, .int x)] [] := by
        refine q_iload hX 0 dL_act_333 rfl ?_
        refine q_if_ne hX 355 dL_act_335 (by decide) (fun c28 => ?_) (fun c28 => ?_)
        · -- jump 355
          have nc28 : ¬ ((nA z : Nat) = 0) := fun q => c28 ((nI_eq (a := nA z) (b := 0) (by omega) (by omega)).mpr q)
          refine q_aload_n hX 4 dL_act_355 rfl ?_
          refine q_iload_n hX 7 dL_act_356 rfl ?_
          refine q_iconst hX 4 dL_act_357 (by decide) ?_
          refine q_ishr hX dL_act_358 ?_
          refine q_iload hX 0 dL_act_359 rfl ?_
          refine q_ctE hX hG (by decide) (by decide) (As := [.int (x >>> (4 &&& 31)), .int (nI (nA z))]) (rest := [.ref (G.2.2 192)]) (c_L_up l G B E hG hE z (v := (x >>> (4 &&& 31))) (m := (nI (nA z))) (nI_ne0 (by omega) (by omega))) k_L_act_L_up rfl rfl (Nat.le_of_ble_eq_true rfl) dL_act_361 ?_
          obtain ⟨a0, ha0, ea0⟩ := up_in (v := (x >>> (4 &&& 31))) (m := nA z) (by omega) (by omega)
          refine q_top (nI a0) ea0 ?_
          refine q_ct hX hG (by decide) (by decide) (As := [.ref (G.2.2 192), .int (nI a0)]) (rest := []) (c_L_cancels l G B E hG hE z (a := a0) hJ hb ha0) k_L_act_L_cancels rfl rfl (Nat.le_of_ble_eq_true rfl) dL_act_364 (fun ρ y hp => ?_)
          obtain ⟨rfl, hy⟩ := hp
          refine ret _ _ _ _ _ _ (by decide) (by decide) dL_act_367 ?_
          exact ⟨rfl, hy⟩
        · -- on 338
          have nc28 : ((nA z : Nat) = 0) := (nI_eq (a := nA z) (b := 0) (by omega) (by omega)).mp (Decidable.not_not.mp c28)
          refine q_aload_n hX 4 dL_act_338 rfl ?_
          refine q_iconst hX 0 dL_act_339 (by decide) ?_
          refine q_cv hX hG (by decide) (by decide) (As := [.int 0]) (rest := []) (c_X6_cancel l G hG.1 z (a := 0) (hI := hJ.io) (hm := hJ.m0) (h17 := hJ.h17)) k_L_act_X6_cancel (fun i hi => absurd hi (Nat.not_lt_zero _)) rfl rfl (Nat.le_of_ble_eq_true rfl) dL_act_340 ?_
          rw [cancel_none hJ (by omega)]
          refine q_z (z2 := z) rfl ?_
          refine q_top (-1) rfl ?_
          refine q_iconst hX (-1) dL_act_343 (by decide) ?_
          refine q_ic_ne hX 351 dL_act_344 (by decide) (fun c29 => ?_) (fun c29 => ?_)
          · -- jump 351
            exact absurd c29 (by decide)
          · -- on 347
            refine q_iconst hX 1 dL_act_347 (by decide) ?_
            refine q_goto hX 367 dL_act_348 (by decide) ?_
            refine ret _ _ _ _ _ _ (by decide) (by decide) dL_act_367 ?_
            exact ⟨rfl, hJ.mono (by omega) (by omega)⟩
      have kt30 : LG X B 0 (fun _ => 0) G 0 0 z 368 [(7, .int (nI (nA z))), (6, .int (nI r)), (5, .int (nI d)), (4, .int (nI (TN z))), (0, .ref (G.2.2 192)), (1, .int v), (2, .int w), (3, .int x)] [] := by
        refine q_iload_n hX 6 dL_act_368 rfl ?_
        refine q_iconst hX 5 dL_act_369 (by decide) ?_
        refine q_ishr hX dL_act_370 ?_
        refine q_iconst hX 3 dL_act_371 (by decide) ?_
        refine q_ctE hX hG (by decide) (by decide) (As := [.int (w >>> (5 &&& 31)), .int 3]) (rest := []) (c_L_up l G B E hG hE z (v := (w >>> (5 &&& 31))) (m := 3) (by decide)) k_L_act_L_up rfl rfl (Nat.le_of_ble_eq_true rfl) dL_act_372 ?_
        obtain ⟨u0, hu0, eu0⟩ := up_in (v := (w >>> (5 &&& 31))) (m := 3) (by omega) (by omega)
        refine q_top (nI u0) eu0 ?_
        refine q_if_gt hX 387 dL_act_375 (by decide) (fun c31 => ?_) (fun c31 => ?_)
        · -- jump 387
          have nc31 : ((0 : Nat) < u0) := (nI_ltI (a := 0) (b := u0) (by omega) (by omega)).mp c31
          refine q_iconst hX 1 dL_act_387 (by decide) ?_
          refine q_goto hX 392 dL_act_388 (by decide) ?_
          refine ret _ _ _ _ _ _ (by decide) (by decide) dL_act_392 ?_
          exact ⟨rfl, hJ.mono (by omega) (by omega)⟩
        · -- on 378
          have nc31 : ¬ ((0 : Nat) < u0) := fun q => c31 ((nI_ltI (a := 0) (b := u0) (by omega) (by omega)).mpr q)
          refine q_aload_n hX 4 dL_act_378 rfl ?_
          refine q_iload hX 2 dL_act_379 rfl ?_
          refine q_ct hX hG (by decide) (by decide) (As := [.ref (G.2.2 192), .int (nI d)]) (rest := []) (c_L_closes l G B E hG hE z (d := d) hJ hb hd60) k_L_act_L_closes rfl rfl (Nat.le_of_ble_eq_true rfl) dL_act_381 (fun ρ y hp => ?_)
          obtain ⟨rfl, hy⟩ := hp
          refine q_if_eq hX 391 dL_act_384 (by decide) (fun c32 => ?_) (fun c32 => ?_)
          · -- jump 391
            exact absurd c32 (by decide)
          · -- on 387
            refine q_iconst hX 1 dL_act_387 (by decide) ?_
            refine q_goto hX 392 dL_act_388 (by decide) ?_
            refine ret _ _ _ _ _ _ (by decide) (by decide) dL_act_392 ?_
            exact ⟨rfl, hy⟩
      have kt33 : LG X B 0 (fun _ => 0) G 0 0 z 393 [(7, .int (nI (nA z))), (6, .int (nI r)), (5, .int (nI d)), (4, .int (nI (TN z))), (0, .ref (G.2.2 192)), (1, .int v), (2, .int w), (3, .int x)] [] := by
        refine q_iload hX 0 dL_act_393 rfl ?_
        refine q_if_ne hX 413 dL_act_395 (by decide) (fun c34 => ?_) (fun c34 => ?_)
        · -- jump 413
          have nc34 : ¬ ((nA z : Nat) = 0) := fun q => c34 ((nI_eq (a := nA z) (b := 0) (by omega) (by omega)).mpr q)
          refine q_iload_n hX 7 dL_act_413 rfl ?_
          refine q_iconst hX 4 dL_act_414 (by decide) ?_
          refine q_ishr hX dL_act_415 ?_
          refine q_iload hX 0 dL_act_416 rfl ?_
          refine q_ctE hX hG (by decide) (by decide) (As := [.int (x >>> (4 &&& 31)), .int (nI (nA z))]) (rest := []) (c_L_up l G B E hG hE z (v := (x >>> (4 &&& 31))) (m := (nI (nA z))) (nI_ne0 (by omega) (by omega))) k_L_act_L_up rfl rfl (Nat.le_of_ble_eq_true rfl) dL_act_418 ?_
          obtain ⟨a0, ha0, ea0⟩ := up_in (v := (x >>> (4 &&& 31))) (m := nA z) (by omega) (by omega)
          refine q_top (nI a0) ea0 ?_
          obtain ⟨th, hth, eth⟩ := there_n hJ ha0
          obtain ⟨ca, hca⟩ : ∃ ca : Nat, ca = if a_s z a0 = 1 ∧ a_d z a0 = TN z ∧ th = 0 then 1 else 0 := ⟨_, rfl⟩
          have hs7 := (hJ.ap ha0).2.2.2.2.1.2
          have hd6 := (hJ.ap ha0).2.2.1.2
          refine q_istore hX [(8, .int (nI a0)), (7, .int (nI (nA z))), (6, .int (nI r)), (5, .int (nI d)), (4, .int (nI (TN z))), (0, .ref (G.2.2 192)), (1, .int v), (2, .int w), (3, .int x)] dL_act_421 (by decide) rfl ?_
          have km35 : LG X B 0 (fun _ => 0) G 0 0 z 440 [(8, .int (nI a0)), (7, .int (nI (nA z))), (6, .int (nI r)), (5, .int (nI d)), (4, .int (nI (TN z))), (0, .ref (G.2.2 192)), (1, .int v), (2, .int w), (3, .int x)] [.int (nI th)] := by
            refine q_istore hX [(9, .int (nI th)), (8, .int (nI a0)), (7, .int (nI (nA z))), (6, .int (nI r)), (5, .int (nI d)), (4, .int (nI (TN z))), (0, .ref (G.2.2 192)), (1, .int v), (2, .int w), (3, .int x)] dL_act_440 (by decide) rfl ?_
            have km36 : LG X B 0 (fun _ => 0) G 0 0 z 475 [(9, .int (nI th)), (8, .int (nI a0)), (7, .int (nI (nA z))), (6, .int (nI r)), (5, .int (nI d)), (4, .int (nI (TN z))), (0, .ref (G.2.2 192)), (1, .int v), (2, .int w), (3, .int x)] [.int (nI ca)] := by
              refine q_istore hX [(10, .int (nI ca)), (9, .int (nI th)), (8, .int (nI a0)), (7, .int (nI (nA z))), (6, .int (nI r)), (5, .int (nI d)), (4, .int (nI (TN z))), (0, .ref (G.2.2 192)), (1, .int v), (2, .int w), (3, .int x)] dL_act_475 (by decide) rfl ?_
              refine q_aload_n hX 7 dL_act_477 rfl ?_
              refine q_iload hX 2 dL_act_478 rfl ?_
              refine q_cv hX hG (by decide) (by decide) (As := [.int (nI a0)]) (rest := []) (c_X6_show l G hG.1 z (a := (nI a0)) (hI := hJ.io)) k_L_act_X6_show (fun i hi => absurd hi (Nat.not_lt_zero _)) rfl rfl (Nat.le_of_ble_eq_true rfl) dL_act_480 ?_
              by_cases hcan : a_s z a0 = 1 ∧ a_d z a0 = TN z ∧ th = 0
              · -- case
                have hcz : a_s z a0 = 1 ∧ a_d z a0 = TN z ∧ z 18 a0 = 0 := ⟨hcan.1, hcan.2.1, by rw [eth, hcan.2.2]; rfl⟩
                have hca1 : ca = 1 := by rw [hca, if_pos hcan]
                have hy0 := JI_show hJ (by omega) (nI a0)
                rw [(show_ans hJ ha0).1 hcz] at hy0 ⊢
                obtain ⟨y, hyd⟩ : ∃ s_ : St, s_ = u2 z 18 a0 1 := ⟨_, rfl⟩
                refine q_z (z2 := y) hyd.symm ?_
                refine q_top 1 rfl ?_
                have hy : JI y (b + 100) := by rw [hyd]; exact hy0
                have eny : nA y = nA z := by rw [hyd]; exact nA_u2 (by decide)
                refine q_iload hX 0 dL_act_483 rfl ?_
                refine q_if_eq hX 492 dL_act_485 (by decide) (fun c37 => ?_) (fun c37 => ?_)
                · -- jump 492
                  have nc37 : ((ca : Nat) = 0) := (nI_eq (a := ca) (b := 0) (by omega) (by omega)).mp c37
                  exfalso; omega
                · -- on 488
                  have nc37 : ¬ ((ca : Nat) = 0) := fun q => c37 ((nI_eq (a := ca) (b := 0) (by omega) (by omega)).mpr q)
                  refine q_iconst hX 1 dL_act_488 (by decide) ?_
                  refine q_goto hX 494 dL_act_489 (by decide) ?_
                  refine q_ic_ne hX 527 dL_act_494 (by decide) (fun c38 => ?_) (fun c38 => ?_)
                  · -- jump 527
                    exact absurd c38 (by decide)
                  · -- on 497
                    refine q_aload_n hX 7 dL_act_497 rfl ?_
                    refine q_iload hX 2 dL_act_498 rfl ?_
                    refine q_bipush hX 7 dL_act_500 (by decide) ?_
                    refine q_cv hX hG (by decide) (by decide) (As := [.int (nI a0), .int 7]) (rest := []) (c_X6_application l G y (a := (nI a0)) (w := 7) (hI := hy.io)) k_L_act_X6_application (fun _ _ => rfl) rfl rfl (Nat.le_of_ble_eq_true rfl) dL_act_502 ?_
                    refine q_top (1) ((ap7 hy (by omega)).trans (by rw [hyd]; exact u2_s _ _ _ _)) ?_
                    refine q_iload hX 0 dL_act_505 rfl ?_
                    refine q_if_ne hX 515 dL_act_507 (by decide) (fun c39 => ?_) (fun c39 => ?_)
                    · -- jump 515
                      have nc39 : ¬ ((ca : Nat) = 0) := fun q => c39 ((nI_eq (a := ca) (b := 0) (by omega) (by omega)).mpr q)
                      refine q_iconst hX 1 dL_act_515 (by decide) ?_
                      refine q_goto hX 520 dL_act_516 (by decide) ?_
                      refine q_ic_ne hX 527 dL_act_520 (by decide) (fun c40 => ?_) (fun c40 => ?_)
                      · -- jump 527
                        exact absurd c40 (by decide)
                      · -- on 523
                        refine q_iconst hX 1 dL_act_523 (by decide) ?_
                        refine q_goto hX 528 dL_act_524 (by decide) ?_
                        refine ret _ _ _ _ _ _ (by decide) (by decide) dL_act_528 ?_
                        exact ⟨rfl, hy⟩
                    · -- on 510
                      have nc39 : ((ca : Nat) = 0) := (nI_eq (a := ca) (b := 0) (by omega) (by omega)).mp (Decidable.not_not.mp c39)
                      exfalso; omega
              · -- case
                have hncz : ¬ (a_s z a0 = 1 ∧ a_d z a0 = TN z ∧ z 18 a0 = 0) := fun q => hcan ⟨q.1, q.2.1, (nI_eq (b := 0) (by omega) (by decide)).mp (eth.symm.trans q.2.2)⟩
                have hca0 : ca = 0 := by rw [hca, if_neg hcan]
                rw [(show_ans hJ ha0).2 hncz]
                refine q_z (z2 := z) rfl ?_
                refine q_top (-5) rfl ?_
                refine q_iload hX 0 dL_act_483 rfl ?_
                refine q_if_eq hX 492 dL_act_485 (by decide) (fun c41 => ?_) (fun c41 => ?_)
                · -- jump 492
                  have nc41 : ((ca : Nat) = 0) := (nI_eq (a := ca) (b := 0) (by omega) (by omega)).mp c41
                  refine q_bipush hX (-5) dL_act_492 (by decide) ?_
                  refine q_ic_ne hX 527 dL_act_494 (by decide) (fun c42 => ?_) (fun c42 => ?_)
                  · -- jump 527
                    exact absurd c42 (by decide)
                  · -- on 497
                    refine q_aload_n hX 7 dL_act_497 rfl ?_
                    refine q_iload hX 2 dL_act_498 rfl ?_
                    refine q_bipush hX 7 dL_act_500 (by decide) ?_
                    refine q_cv hX hG (by decide) (by decide) (As := [.int (nI a0), .int 7]) (rest := []) (c_X6_application l G z (a := (nI a0)) (w := 7) (hI := hJ.io)) k_L_act_X6_application (fun _ _ => rfl) rfl rfl (Nat.le_of_ble_eq_true rfl) dL_act_502 ?_
                    refine q_top (nI th) ((ap7 hJ ha0).trans eth) ?_
                    refine q_iload hX 0 dL_act_505 rfl ?_
                    refine q_if_ne hX 515 dL_act_507 (by decide) (fun c43 => ?_) (fun c43 => ?_)
                    · -- jump 515
                      have nc43 : ¬ ((ca : Nat) = 0) := fun q => c43 ((nI_eq (a := ca) (b := 0) (by omega) (by omega)).mpr q)
                      exfalso; omega
                    · -- on 510
                      have nc43 : ((ca : Nat) = 0) := (nI_eq (a := ca) (b := 0) (by omega) (by omega)).mp (Decidable.not_not.mp c43)
                      refine q_iload hX 1 dL_act_510 rfl ?_
                      refine q_if_eq hX 519 dL_act_512 (by decide) (fun c44 => ?_) (fun c44 => ?_)
                      · -- jump 519
                        have nc44 : ((th : Nat) = 0) := (nI_eq (a := th) (b := 0) (by omega) (by omega)).mp c44
                        refine q_iconst hX 0 dL_act_519 (by decide) ?_
                        refine q_ic_ne hX 527 dL_act_520 (by decide) (fun c45 => ?_) (fun c45 => ?_)
                        · -- jump 527
                          have nc45 : ¬ ((th : Nat) = 0) := fun q => c45 ((nI_eq (a := th) (b := 0) (by omega) (by omega)).mpr q)
                          refine q_iconst hX 0 dL_act_527 (by decide) ?_
                          exfalso
                          omega
                        · -- on 523
                          have nc45 : ((th : Nat) = 0) := (nI_eq (a := th) (b := 0) (by omega) (by omega)).mp (Decidable.not_not.mp c45)
                          refine q_iconst hX 1 dL_act_523 (by decide) ?_
                          refine q_goto hX 528 dL_act_524 (by decide) ?_
                          refine ret _ _ _ _ _ _ (by decide) (by decide) dL_act_528 ?_
                          exact ⟨rfl, hJ.mono (by omega) (by omega)⟩
                      · -- on 515
                        have nc44 : ¬ ((th : Nat) = 0) := fun q => c44 ((nI_eq (a := th) (b := 0) (by omega) (by omega)).mpr q)
                        refine q_iconst hX 1 dL_act_515 (by decide) ?_
                        refine q_goto hX 520 dL_act_516 (by decide) ?_
                        refine q_ic_ne hX 527 dL_act_520 (by decide) (fun c46 => ?_) (fun c46 => ?_)
                        · -- jump 527
                          have nc46 : ¬ ((th : Nat) = 1) := fun q => c46 ((nI_eq (a := th) (b := 1) (by omega) (by omega)).mpr q)
                          refine q_iconst hX 0 dL_act_527 (by decide) ?_
                          exfalso
                          omega
                        · -- on 523
                          have nc46 : ((th : Nat) = 1) := (nI_eq (a := th) (b := 1) (by omega) (by omega)).mp (Decidable.not_not.mp c46)
                          refine q_iconst hX 1 dL_act_523 (by decide) ?_
                          refine q_goto hX 528 dL_act_524 (by decide) ?_
                          refine ret _ _ _ _ _ _ (by decide) (by decide) dL_act_528 ?_
                          exact ⟨rfl, hJ.mono (by omega) (by omega)⟩
                · -- on 488
                  have nc41 : ¬ ((ca : Nat) = 0) := fun q => c41 ((nI_eq (a := ca) (b := 0) (by omega) (by omega)).mpr q)
                  exfalso; omega
            refine q_aload_n hX 6 dL_act_442 rfl ?_
            refine q_iload hX 1 dL_act_443 rfl ?_
            refine q_iconst hX 4 dL_act_445 (by decide) ?_
            refine q_cv hX hG (by decide) (by decide) (As := [.int (nI a0), .int 4]) (rest := []) (c_X6_application l G z (a := (nI a0)) (w := 4) (hI := hJ.io)) k_L_act_X6_application (fun _ _ => rfl) rfl rfl (Nat.le_of_ble_eq_true rfl) dL_act_446 ?_
            refine q_top (nI (a_s z a0)) (ap4 hJ (a := a0) (by omega)) ?_
            refine q_iconst hX 1 dL_act_449 (by decide) ?_
            refine q_ic_ne hX 474 dL_act_450 (by decide) (fun c47 => ?_) (fun c47 => ?_)
            · -- jump 474
              have nc47 : ¬ ((a_s z a0 : Nat) = 1) := fun q => c47 ((nI_eq (a := a_s z a0) (b := 1) (by omega) (by omega)).mpr q)
              refine q_iconst hX 0 dL_act_474 (by decide) ?_
              refine q_top (nI ca) (by
                first | (rw [hca, if_pos ⟨by omega, by omega, by omega⟩]; rfl) | (rw [hca, if_neg (by omega)]; rfl)) ?_
              refine q_sub [0, 1, 2, 3, 4, 5, 6, 7, 8, 9] [(9, .int (nI th)), (8, .int (nI a0)), (7, .int (nI (nA z))), (6, .int (nI r)), (5, .int (nI d)), (4, .int (nI (TN z))), (0, .ref (G.2.2 192)), (1, .int v), (2, .int w), (3, .int x)] rfl ?_
              exact km36
            · -- on 453
              have nc47 : ((a_s z a0 : Nat) = 1) := (nI_eq (a := a_s z a0) (b := 1) (by omega) (by omega)).mp (Decidable.not_not.mp c47)
              refine q_aload_n hX 6 dL_act_453 rfl ?_
              refine q_iload hX 1 dL_act_454 rfl ?_
              refine q_iconst hX 2 dL_act_456 (by decide) ?_
              refine q_cv hX hG (by decide) (by decide) (As := [.int (nI a0), .int 2]) (rest := []) (c_X6_application l G z (a := (nI a0)) (w := 2) (hI := hJ.io)) k_L_act_X6_application (fun _ _ => rfl) rfl rfl (Nat.le_of_ble_eq_true rfl) dL_act_457 ?_
              refine q_top (nI (a_d z a0)) (ap2 hJ (a := a0) (by omega)) ?_
              refine q_iload hX 5 dL_act_460 rfl ?_
              refine q_ic_ne hX 474 dL_act_462 (by decide) (fun c48 => ?_) (fun c48 => ?_)
              · -- jump 474
                have nc48 : ¬ ((a_d z a0 : Nat) = TN z) := fun q => c48 ((nI_eq (a := a_d z a0) (b := TN z) (by omega) (by omega)).mpr q)
                refine q_iconst hX 0 dL_act_474 (by decide) ?_
                refine q_top (nI ca) (by
                  first | (rw [hca, if_pos ⟨by omega, by omega, by omega⟩]; rfl) | (rw [hca, if_neg (by omega)]; rfl)) ?_
                refine q_sub [0, 1, 2, 3, 4, 5, 6, 7, 8, 9] [(9, .int (nI th)), (8, .int (nI a0)), (7, .int (nI (nA z))), (6, .int (nI r)), (5, .int (nI d)), (4, .int (nI (TN z))), (0, .ref (G.2.2 192)), (1, .int v), (2, .int w), (3, .int x)] rfl ?_
                exact km36
              · -- on 465
                have nc48 : ((a_d z a0 : Nat) = TN z) := (nI_eq (a := a_d z a0) (b := TN z) (by omega) (by omega)).mp (Decidable.not_not.mp c48)
                refine q_iload hX 0 dL_act_465 rfl ?_
                refine q_if_ne hX 474 dL_act_467 (by decide) (fun c49 => ?_) (fun c49 => ?_)
                · -- jump 474
                  have nc49 : ¬ ((th : Nat) = 0) := fun q => c49 ((nI_eq (a := th) (b := 0) (by omega) (by omega)).mpr q)
                  refine q_iconst hX 0 dL_act_474 (by decide) ?_
                  refine q_top (nI ca) (by
                    first | (rw [hca, if_pos ⟨by omega, by omega, by omega⟩]; rfl) | (rw [hca, if_neg (by omega)]; rfl)) ?_
                  refine q_sub [0, 1, 2, 3, 4, 5, 6, 7, 8, 9] [(9, .int (nI th)), (8, .int (nI a0)), (7, .int (nI (nA z))), (6, .int (nI r)), (5, .int (nI d)), (4, .int (nI (TN z))), (0, .ref (G.2.2 192)), (1, .int v), (2, .int w), (3, .int x)] rfl ?_
                  exact km36
                · -- on 470
                  have nc49 : ((th : Nat) = 0) := (nI_eq (a := th) (b := 0) (by omega) (by omega)).mp (Decidable.not_not.mp c49)
                  refine q_iconst hX 1 dL_act_470 (by decide) ?_
                  refine q_goto hX 475 dL_act_471 (by decide) ?_
                  refine q_top (nI ca) (by
                    first | (rw [hca, if_pos ⟨by omega, by omega, by omega⟩]; rfl) | (rw [hca, if_neg (by omega)]; rfl)) ?_
                  refine q_sub [0, 1, 2, 3, 4, 5, 6, 7, 8, 9] [(9, .int (nI th)), (8, .int (nI a0)), (7, .int (nI (nA z))), (6, .int (nI r)), (5, .int (nI d)), (4, .int (nI (TN z))), (0, .ref (G.2.2 192)), (1, .int v), (2, .int w), (3, .int x)] rfl ?_
                  exact km36
          refine q_aload_n hX 5 dL_act_423 rfl ?_
          refine q_iload hX 0 dL_act_424 rfl ?_
          refine q_bipush hX 7 dL_act_426 (by decide) ?_
          refine q_cv hX hG (by decide) (by decide) (As := [.int (nI a0), .int 7]) (rest := []) (c_X6_application l G z (a := (nI a0)) (w := 7) (hI := hJ.io)) k_L_act_X6_application (fun _ _ => rfl) rfl rfl (Nat.le_of_ble_eq_true rfl) dL_act_428 ?_
          refine q_top (nI th) ((ap7 hJ ha0).trans eth) ?_
          refine q_iconst hX 1 dL_act_431 (by decide) ?_
          refine q_ic_ne hX 439 dL_act_432 (by decide) (fun c50 => ?_) (fun c50 => ?_)
          · -- jump 439
            have nc50 : ¬ ((th : Nat) = 1) := fun q => c50 ((nI_eq (a := th) (b := 1) (by omega) (by omega)).mpr q)
            refine q_iconst hX 0 dL_act_439 (by decide) ?_
            refine q_top (nI th) (by
              first | (rw [show th = 1 from by omega]; rfl) | (rw [show th = 0 from by omega]; rfl)) ?_
            refine q_sub [0, 1, 2, 3, 4, 5, 6, 7, 8] [(8, .int (nI a0)), (7, .int (nI (nA z))), (6, .int (nI r)), (5, .int (nI d)), (4, .int (nI (TN z))), (0, .ref (G.2.2 192)), (1, .int v), (2, .int w), (3, .int x)] rfl ?_
            exact km35
          · -- on 435
            have nc50 : ((th : Nat) = 1) := (nI_eq (a := th) (b := 1) (by omega) (by omega)).mp (Decidable.not_not.mp c50)
            refine q_iconst hX 1 dL_act_435 (by decide) ?_
            refine q_goto hX 440 dL_act_436 (by decide) ?_
            refine q_top (nI th) (by
              first | (rw [show th = 1 from by omega]; rfl) | (rw [show th = 0 from by omega]; rfl)) ?_
            refine q_sub [0, 1, 2, 3, 4, 5, 6, 7, 8] [(8, .int (nI a0)), (7, .int (nI (nA z))), (6, .int (nI r)), (5, .int (nI d)), (4, .int (nI (TN z))), (0, .ref (G.2.2 192)), (1, .int v), (2, .int w), (3, .int x)] rfl ?_
            exact km35
        · -- on 398
          have nc34 : ((nA z : Nat) = 0) := (nI_eq (a := nA z) (b := 0) (by omega) (by omega)).mp (Decidable.not_not.mp c34)
          refine q_aload_n hX 4 dL_act_398 rfl ?_
          refine q_iconst hX 0 dL_act_399 (by decide) ?_
          refine q_cv hX hG (by decide) (by decide) (As := [.int 0]) (rest := []) (c_X6_show l G hG.1 z (a := 0) (hI := hJ.io)) k_L_act_X6_show (fun i hi => absurd hi (Nat.not_lt_zero _)) rfl rfl (Nat.le_of_ble_eq_true rfl) dL_act_400 ?_
          rw [show_none hJ (by omega)]
          refine q_z (z2 := z) rfl ?_
          refine q_top (-1) rfl ?_
          refine q_iconst hX (-1) dL_act_403 (by decide) ?_
          refine q_ic_ne hX 411 dL_act_404 (by decide) (fun c51 => ?_) (fun c51 => ?_)
          · -- jump 411
            exact absurd c51 (by decide)
          · -- on 407
            refine q_iconst hX 1 dL_act_407 (by decide) ?_
            refine q_goto hX 412 dL_act_408 (by decide) ?_
            refine ret _ _ _ _ _ _ (by decide) (by decide) dL_act_412 ?_
            exact ⟨rfl, hJ.mono (by omega) (by omega)⟩
      have kt52 : LG X B 0 (fun _ => 0) G 0 0 z 529 [(7, .int (nI (nA z))), (6, .int (nI r)), (5, .int (nI d)), (4, .int (nI (TN z))), (0, .ref (G.2.2 192)), (1, .int v), (2, .int w), (3, .int x)] [] := by
        refine q_aload_n hX 4 dL_act_529 rfl ?_
        refine q_ct hX hG (by decide) (by decide) (As := [.ref (G.2.2 192)]) (rest := []) (c_L_ends l G B E hG hE z hJ hb) k_L_act_L_ends rfl rfl (Nat.le_of_ble_eq_true rfl) dL_act_530 (fun ρ y hp => ?_)
        obtain ⟨rfl, hy⟩ := hp
        refine ret _ _ _ _ _ _ (by decide) (by decide) dL_act_533 ?_
        exact ⟨rfl, hy⟩
      have hsw : t0 = 0 ∨ t0 = 1 ∨ t0 = 2 ∨ t0 = 3 ∨ t0 = 4 ∨ t0 = 5 ∨ t0 = 6 ∨ t0 = 7 ∨ t0 = 8 ∨ 8 < t0 := by omega
      rcases hsw with e0 | e0 | e0 | e0 | e0 | e0 | e0 | e0 | e0 | e0
      · exact q_tabIn hX (off := 51) 112 dL_act_61 (by rw [e0]; decide) (by rw [e0]; decide) (by rw [e0]; rfl) (by decide) kt2
      · exact q_tabIn hX (off := 51) 112 dL_act_61 (by rw [e0]; decide) (by rw [e0]; decide) (by rw [e0]; rfl) (by decide) kt2
      · exact q_tabIn hX (off := 51) 112 dL_act_61 (by rw [e0]; decide) (by rw [e0]; decide) (by rw [e0]; rfl) (by decide) kt2
      · exact q_tabIn hX (off := 51) 112 dL_act_61 (by rw [e0]; decide) (by rw [e0]; decide) (by rw [e0]; rfl) (by decide) kt2
      · exact q_tabIn hX (off := 263) 324 dL_act_61 (by rw [e0]; decide) (by rw [e0]; decide) (by rw [e0]; rfl) (by decide) kt26
      · exact q_tabIn hX (off := 263) 324 dL_act_61 (by rw [e0]; decide) (by rw [e0]; decide) (by rw [e0]; rfl) (by decide) kt26
      · exact q_tabIn hX (off := 272) 333 dL_act_61 (by rw [e0]; decide) (by rw [e0]; decide) (by rw [e0]; rfl) (by decide) kt27
      · exact q_tabIn hX (off := 307) 368 dL_act_61 (by rw [e0]; decide) (by rw [e0]; decide) (by rw [e0]; rfl) (by decide) kt30
      · exact q_tabIn hX (off := 332) 393 dL_act_61 (by rw [e0]; decide) (by rw [e0]; decide) (by rw [e0]; rfl) (by decide) kt33
      · exact q_tabOut hX 529 dL_act_61 (Or.inr (by rw [nI_toInt (by omega)]; omega)) (by decide) kt52
    refine q_iload hX 0 dL_act_7 rfl ?_
    refine q_iload_n hX 3 dL_act_9 rfl ?_
    refine q_bipush hX 7 dL_act_10 (by decide) ?_
    refine q_ctE hX hG (by decide) (by decide) (As := [.int w, .int 7]) (rest := [.int (nI (TN z))]) (c_L_up l G B E hG hE z (v := w) (m := 7) (by decide)) k_L_act_L_up rfl rfl (Nat.le_of_ble_eq_true rfl) dL_act_12 ?_
    refine q_top (nI q1) eq1 ?_
    refine q_iadd hX dL_act_15 ?_
    refine q_top (nI (TN z + q1)) (nI_add (TN z) q1) ?_
    refine q_bipush hX 59 dL_act_16 (by decide) ?_
    refine q_ic_le hX 26 dL_act_18 (by decide) (fun c53 => ?_) (fun c53 => ?_)
    · -- jump 26
      have nc53 : ((TN z + q1 : Nat) ≤ 59) := (nI_leI (a := TN z + q1) (b := 59) (by omega) (by omega)).mp c53
      refine q_iload hX 0 dL_act_26 rfl ?_
      refine q_iload_n hX 3 dL_act_28 rfl ?_
      refine q_bipush hX 7 dL_act_29 (by decide) ?_
      refine q_ctE hX hG (by decide) (by decide) (As := [.int w, .int 7]) (rest := [.int (nI (TN z))]) (c_L_up l G B E hG hE z (v := w) (m := 7) (by decide)) k_L_act_L_up rfl rfl (Nat.le_of_ble_eq_true rfl) dL_act_31 ?_
      refine q_top (nI q1) eq1 ?_
      refine q_iadd hX dL_act_34 ?_
      refine q_top (nI (TN z + q1)) (nI_add (TN z) q1) ?_
      refine q_top (nI (min (TN z + q1) 59)) (by
        first | (rw [show min (TN z + q1) 59 = TN z + q1 from by omega]) | (rw [show min (TN z + q1) 59 = 59 from by omega]; rfl)) ?_
      refine q_sub [0, 1, 2, 3, 4] [(4, .int (nI (TN z))), (0, .ref (G.2.2 192)), (1, .int v), (2, .int w), (3, .int x)] rfl ?_
      exact km1
    · -- on 21
      have nc53 : ¬ ((TN z + q1 : Nat) ≤ 59) := fun q => c53 ((nI_leI (a := TN z + q1) (b := 59) (by omega) (by omega)).mpr q)
      refine q_bipush hX 59 dL_act_21 (by decide) ?_
      refine q_goto hX 35 dL_act_23 (by decide) ?_
      refine q_top (nI (min (TN z + q1) 59)) (by
        first | (rw [show min (TN z + q1) 59 = TN z + q1 from by omega]) | (rw [show min (TN z + q1) 59 = 59 from by omega]; rfl)) ?_
      refine q_sub [0, 1, 2, 3, 4] [(4, .int (nI (TN z))), (0, .ref (G.2.2 192)), (1, .int v), (2, .int w), (3, .int x)] rfl ?_
      exact km1
