/-! ===== the law's own: sums ===== -/
theorem nS_swap {f : Nat → Nat → Nat} {n : Nat} : ∀ m, nS (fun c => nS (f c) n) m = nS (fun a => nS (fun c => f c a) m) n := by
  intro m
  induction m with
  | zero => exact (nS_0 (fun _ _ => rfl)).symm
  | succ m ih =>
    show nS _ m + nS (f m) n = nS (fun a => nS (fun c => f c a) m + f m a) n
    rw [ih, nS_add]
theorem nS_one {x v : Nat} : ∀ {m : Nat}, x < m → nS (fun c => if x = c then v else 0) m = v := by
  intro m
  induction m with
  | zero => intro h; omega
  | succ m ih =>
    intro h
    show nS _ m + (if x = m then v else 0) = v
    by_cases e : x = m
    · rw [if_pos e, nS_0 (fun c hc => if_neg (by omega)), Nat.zero_add]
    · rw [if_neg e, ih (by omega), Nat.add_zero]
def PB (z : St) (c : Nat) : Nat := nS (fun a => if a_c z a = c then a_m z a else 0) (nA z)
def BB (z : St) (c : Nat) : Nat := nS (fun a => if a_c z a = c then a_b z a else 0) (nA z)
def CB (z : St) (c : Nat) : Nat := nS (fun a => if a_c z a = c then 1 else 0) (nA z)
def SN (z : St) (s : Nat) : Nat := nS (fun a => if a_s z a = s then 1 else 0) (nA z)
theorem by_n {z : St} {b : Nat} (h : JI z b) {a c : Nat} (ha : a < nA z) (hc : c < NC z) : byP z a (nI c) ↔ a_c z a = c := by
  obtain ⟨⟨e11, c1, c12⟩, -⟩ := h.ap ha
  have h12 := h.nc.2.1
  unfold byP
  rw [e11]
  constructor
  · rintro (q | q)
    · exact absurd q (nI_m1 (by omega))
    · exact ((nI_eq (by omega) (by omega)).mp q).symm
  · intro q; right; rw [q]
theorem cp4 {z : St} {b : Nat} (h : JI z b) {c : Nat} (hc : c < NC z) : spClimber z (nI c) 4 = nI (PB z c) := by
  rw [cl4 h hc]
  unfold paidBy PB
  refine sm_nS (fun a ha => ?_)
  have q := by_n h ha hc
  by_cases k : a_c z a = c
  · rw [if_pos (q.mpr k), if_pos k]; exact (h.aj ha).2.2.2.1.1
  · rw [if_neg (fun w => k (q.mp w)), if_neg k]; rfl
theorem cp5 {z : St} {b : Nat} (h : JI z b) {c : Nat} (hc : c < NC z) : spClimber z (nI c) 5 = nI (BB z c) := by
  rw [cl5 h hc]
  unfold backTo BB
  refine sm_nS (fun a ha => ?_)
  have q := by_n h ha hc
  by_cases k : a_c z a = c
  · rw [if_pos (q.mpr k), if_pos k]; exact (h.aj ha).2.2.2.2.1.1
  · rw [if_neg (fun w => k (q.mp w)), if_neg k]; rfl
theorem cp6 {z : St} {b : Nat} (h : JI z b) {c : Nat} (hc : c < NC z) : spClimber z (nI c) 6 = nI (CB z c) := by
  rw [cl6 h hc]
  unfold cntBy CB
  refine sm_nS (fun a ha => ?_)
  have q := by_n h ha hc
  by_cases k : a_c z a = c
  · rw [if_pos (q.mpr k), if_pos k]; rfl
  · rw [if_neg (fun w => k (q.mp w)), if_neg k]; rfl
theorem ctk {z : St} {b : Nat} (h : JI z b) {k : Nat} (h1 : 4 ≤ k) (h2 : k ≤ 10) : spCount z (nI k) = nI (SN z (k - 4)) := by
  rw [ctK h1 h2]
  unfold cntIn SN
  refine sm_nS (fun a ha => ?_)
  obtain ⟨-, -, -, -, ⟨e15, s7⟩, -⟩ := h.ap ha
  have q : (z 15 a = nI (k - 4) ∧ byP z a (-1)) ↔ a_s z a = k - 4 := by
    rw [e15]
    constructor
    · intro w; exact (nI_eq (by omega) (by omega)).mp w.1
    · intro w; exact ⟨by rw [w], Or.inl rfl⟩
  by_cases w : a_s z a = k - 4
  · rw [if_pos (q.mpr w), if_pos w]; rfl
  · rw [if_neg (fun k => w (q.mp k)), if_neg w]; rfl
theorem pb_all {z : St} {b : Nat} (h : JI z b) : nS (PB z) (NC z) = nS (a_m z) (nA z) := by
  unfold PB
  rw [nS_swap]
  exact nS_congr (fun a ha => nS_one (h.ap ha).1.2.1)
theorem bb_all {z : St} {b : Nat} (h : JI z b) : nS (BB z) (NC z) = nS (a_b z) (nA z) := by
  unfold BB
  rw [nS_swap]
  exact nS_congr (fun a ha => nS_one (h.ap ha).1.2.1)
theorem nS_1 : ∀ n, nS (fun _ => 1) n = n := by
  intro n
  induction n with
  | zero => rfl
  | succ n ih => show nS _ n + 1 = n + 1; rw [ih]
theorem cb_all {z : St} {b : Nat} (h : JI z b) : nS (CB z) (NC z) = nA z := by
  unfold CB
  rw [nS_swap, nS_congr (g := fun _ => 1) (fun a ha => nS_one (h.ap ha).1.2.1), nS_1]
theorem sn_all {z : St} {b : Nat} (h : JI z b) : nS (SN z) 7 = nA z := by
  unfold SN
  rw [nS_swap, nS_congr (g := fun _ => 1) (fun a ha => nS_one (h.ap ha).2.2.2.2.1.2), nS_1]
theorem back_n {z : St} {b : Nat} (h : JI z b) : backTo z (-1) = nI (nS (a_b z) (nA z)) := by
  unfold backTo
  refine sm_nS (fun a ha => ?_)
  rw [if_pos (Or.inl rfl)]
  exact (h.aj ha).2.2.2.2.1.1
theorem sums_le {z : St} {b : Nat} (h : JI z b) : nS (a_b z) (nA z) ≤ nS (a_m z) (nA z) ∧ nS (a_m z) (nA z) ≤ 160000 := by
  have h40 := h.na.2
  have h1 := nS_le (t := a_m z) (b := 4000) (k := nA z) (fun a ha => (h.aj ha).2.2.2.1.2)
  exact ⟨nS_leF (fun a ha => (h.aj ha).2.2.2.2.1.2), by omega⟩
theorem JI.h16n {z : St} {b : Nat} (h : JI z b) {a : Nat} (ha : a < nA z) (hs : a_s z a = 0 ∨ a_s z a = 2) : a_m z a = 0 := by
  have e := (h.ap ha).2.2.2.2.1.1
  have := h.oi.h16 a ha (by rcases hs with q | q <;> rw [e, q]; exact Or.inl rfl; exact Or.inr rfl)
  unfold a_m; rw [this]; decide
theorem ct11n {z : St} {b : Nat} (h : JI z b) : spCount z 11 = nI (nS (a_m z) (nA z)) := (ct11 h).trans (paid_n h)
theorem ct12n {z : St} {b : Nat} (h : JI z b) : spCount z 12 = nI (nS (a_b z) (nA z)) := (ct12 h).trans (back_n h)

def rm_L_adds : Room := { frames := 3, cells := 0, slots := 0, locals := 67 }
theorem k_L_adds_X6_application : CW rm_L_adds wsL_adds RL RX6 68 yX6_application cX6_application 4 (some .int) wsX6_application rm_X6_application 2 := ⟨gL_adds_X6_application, ⟨_, rfl⟩, rfl, rfl, ⟨rfl, by decide +kernel, by decide +kernel, by decide +kernel⟩, by decide, by decide⟩
theorem k_L_adds_X6_climber : CW rm_L_adds wsL_adds RL RX6 65 yX6_climber cX6_climber 3 (some .int) wsX6_climber rm_X6_climber 2 := ⟨gL_adds_X6_climber, ⟨_, rfl⟩, rfl, rfl, ⟨rfl, by decide +kernel, by decide +kernel, by decide +kernel⟩, by decide, by decide⟩
theorem k_L_adds_X6_count : CW rm_L_adds wsL_adds RL RX6 57 yX6_count cX6_count 2 (some .int) wsX6_count rm_X6_count 1 := ⟨gL_adds_X6_count, ⟨_, rfl⟩, rfl, rfl, ⟨rfl, by decide +kernel, by decide +kernel, by decide +kernel⟩, by decide, by decide⟩
set_option maxHeartbeats 4000000 in
set_option maxRecDepth 100000 in
theorem c_L_adds (l : Launch) (G : MG) (B : Nat) (E : State → Prop) (hG : GB B G) (hE : KMv (AB B) E) (z : St) {b : Nat} (hJ : JI z b) : CL l G B E yL_adds wsL_adds rm_L_adds [.ref (G.2.2 192)] z (fun ρ ζ => ρ = 1 ∧ ζ = z) 0 0 := by
  refine cl_of (own := RL) (cc := cL_adds) (maxL := 8) (ret := .boolean) hG hE (by decide +kernel) rfl rfl ?_ (Nat.le_of_ble_eq_true rfl) ?_
  · rintro v z' ⟨rfl, -⟩; rfl
  · intro X hX ret
    refine q_lv (lv' := [(0, .ref (G.2.2 192))]) rfl ?_
    have hT := hJ.t0.2
    obtain ⟨-, hN6, hN1⟩ := hJ.nr
    obtain ⟨-, hC12, hC1⟩ := hJ.nc
    obtain ⟨-, hA40⟩ := hJ.na
    obtain ⟨hs1, hs2⟩ := sums_le hJ
    refine q_iconst hX 0 dL_adds_0 (by decide) ?_
    refine q_istore_n hX [(1, .int 0), (0, .ref (G.2.2 192))] dL_adds_1 (by decide) rfl ?_
    refine q_iconst hX 0 dL_adds_2 (by decide) ?_
    refine q_istore_n hX [(2, .int 0), (1, .int 0), (0, .ref (G.2.2 192))] dL_adds_3 (by decide) rfl ?_
    refine q_iconst hX 0 dL_adds_4 (by decide) ?_
    refine q_istore_n hX [(3, .int 0), (2, .int 0), (1, .int 0), (0, .ref (G.2.2 192))] dL_adds_5 (by decide) rfl ?_
    refine q_iconst hX 0 dL_adds_6 (by decide) ?_
    refine q_istore hX [(4, .int 0), (3, .int 0), (2, .int 0), (1, .int 0), (0, .ref (G.2.2 192))] dL_adds_7 (by decide) rfl ?_
    refine q_iconst hX 0 dL_adds_9 (by decide) ?_
    refine q_istore hX [(5, .int 0), (4, .int 0), (3, .int 0), (2, .int 0), (1, .int 0), (0, .ref (G.2.2 192))] dL_adds_10 (by decide) rfl ?_
    have loop12 : ∀ (nf12 : Nat) (c : Nat), (NC z < c + nf12) → (c ≤ NC z) → LG X B 0 (fun _ => 0) G 0 0 z 12 [(0, .ref (G.2.2 192)), (1, .int (nI (nS (PB z) c))), (2, .int (nI (nS (BB z) c))), (3, .int 0), (4, .int (nI (nS (CB z) c))), (5, .int (nI c))] [] := by
      intro nf12
      induction nf12 with
      | zero =>
        intro c hmu12 hc0
        exfalso; omega
      | succ nf12 ih12 =>
        intro c hmu12 hc0
        refine q_iload hX 5 dL_adds_12 rfl ?_
        refine q_aload_n hX 0 dL_adds_14 rfl ?_
        refine q_iconst hX 2 dL_adds_15 (by decide) ?_
        refine q_cv hX hG (by decide) (by decide) (As := [.int 2]) (rest := [.int (nI c)]) (c_X6_count l G z (w := 2) (hI := hJ.io)) k_L_adds_X6_count (fun _ _ => rfl) rfl rfl (Nat.le_of_ble_eq_true rfl) dL_adds_16 ?_
        refine q_top (nI (NC z)) (ct2 hJ) ?_
        refine q_ic_ge hX 61 dL_adds_19 (by decide) (fun c1 => ?_) (fun c1 => ?_)
        · -- jump 61
          have nc1 : ((NC z : Nat) ≤ c) := (nI_leI (a := NC z) (b := c) (by omega) (by omega)).mp c1
          have ec : c = NC z := by omega
          refine q_lv (lv' := [(0, .ref (G.2.2 192)), (1, .int (nI (nS (a_m z) (nA z)))), (2, .int (nI (nS (a_b z) (nA z)))), (3, .int 0), (4, .int (nI (nA z))), (5, .int (nI c))]) (by rw [ec, pb_all hJ, bb_all hJ, cb_all hJ]) ?_
          refine q_iconst hX 4 dL_adds_61 (by decide) ?_
          refine q_istore hX [(5, .int 4), (0, .ref (G.2.2 192)), (1, .int (nI (nS (a_m z) (nA z)))), (2, .int (nI (nS (a_b z) (nA z)))), (3, .int 0), (4, .int (nI (nA z)))] dL_adds_62 (by decide) rfl ?_
          have loop64 : ∀ (nf64 : Nat) (j : Nat), (11 < j + nf64) → (4 ≤ j) → (j ≤ 11) → LG X B 0 (fun _ => 0) G 0 0 z 64 [(0, .ref (G.2.2 192)), (1, .int (nI (nS (a_m z) (nA z)))), (2, .int (nI (nS (a_b z) (nA z)))), (3, .int (nI (nS (SN z) (j - 4)))), (4, .int (nI (nA z))), (5, .int (nI j))] [] := by
            intro nf64
            induction nf64 with
            | zero =>
              intro j hmu64 hj0 hj1
              exfalso; omega
            | succ nf64 ih64 =>
              intro j hmu64 hj0 hj1
              refine q_iload hX 5 dL_adds_64 rfl ?_
              refine q_bipush hX 10 dL_adds_66 (by decide) ?_
              refine q_ic_gt hX 86 dL_adds_68 (by decide) (fun c2 => ?_) (fun c2 => ?_)
              · -- jump 86
                have nc2 : ((10 : Nat) < j) := (nI_ltI (a := 10) (b := j) (by omega) (by omega)).mp c2
                have ej : j = 11 := by omega
                refine q_lv (lv' := [(0, .ref (G.2.2 192)), (1, .int (nI (nS (a_m z) (nA z)))), (2, .int (nI (nS (a_b z) (nA z)))), (3, .int (nI (nA z))), (4, .int (nI (nA z))), (5, .int (nI j))]) (by rw [ej, show 11 - 4 = 7 from rfl, sn_all hJ]) ?_
                refine q_iconst hX 0 dL_adds_86 (by decide) ?_
                refine q_istore hX [(5, .int 0), (0, .ref (G.2.2 192)), (1, .int (nI (nS (a_m z) (nA z)))), (2, .int (nI (nS (a_b z) (nA z)))), (3, .int (nI (nA z))), (4, .int (nI (nA z)))] dL_adds_87 (by decide) rfl ?_
                have loop89 : ∀ (nf89 : Nat) (k : Nat), (nA z < k + nf89) → (k ≤ nA z) → LG X B 0 (fun _ => 0) G 0 0 z 89 [(0, .ref (G.2.2 192)), (1, .int (nI (nS (a_m z) (nA z)))), (2, .int (nI (nS (a_b z) (nA z)))), (3, .int (nI (nA z))), (4, .int (nI (nA z))), (5, .int (nI k))] [] := by
                  intro nf89
                  induction nf89 with
                  | zero =>
                    intro k hmu89 hk0
                    exfalso; omega
                  | succ nf89 ih89 =>
                    intro k hmu89 hk0
                    refine q_iload hX 5 dL_adds_89 rfl ?_
                    refine q_aload_n hX 0 dL_adds_91 rfl ?_
                    refine q_iconst hX 3 dL_adds_92 (by decide) ?_
                    refine q_cv hX hG (by decide) (by decide) (As := [.int 3]) (rest := [.int (nI k)]) (c_X6_count l G z (w := 3) (hI := hJ.io)) k_L_adds_X6_count (fun _ _ => rfl) rfl rfl (Nat.le_of_ble_eq_true rfl) dL_adds_93 ?_
                    refine q_top (nI (nA z)) (ct3 hJ) ?_
                    refine q_ic_ge hX 235 dL_adds_96 (by decide) (fun c3 => ?_) (fun c3 => ?_)
                    · -- jump 235
                      have nc3 : ((nA z : Nat) ≤ k) := (nI_leI (a := nA z) (b := k) (by omega) (by omega)).mp c3
                      refine q_iload_n hX 1 dL_adds_235 rfl ?_
                      refine q_aload_n hX 0 dL_adds_236 rfl ?_
                      refine q_bipush hX 11 dL_adds_237 (by decide) ?_
                      refine q_cv hX hG (by decide) (by decide) (As := [.int 11]) (rest := [.int (nI (nS (a_m z) (nA z)))]) (c_X6_count l G z (w := 11) (hI := hJ.io)) k_L_adds_X6_count (fun _ _ => rfl) rfl rfl (Nat.le_of_ble_eq_true rfl) dL_adds_239 ?_
                      refine q_top (nI (nS (a_m z) (nA z))) (ct11n hJ) ?_
                      refine q_ic_ne hX 279 dL_adds_242 (by decide) (fun c4 => ?_) (fun c4 => ?_)
                      · -- jump 279
                        exact absurd rfl c4
                      · -- on 245
                        refine q_iload_n hX 2 dL_adds_245 rfl ?_
                        refine q_aload_n hX 0 dL_adds_246 rfl ?_
                        refine q_bipush hX 12 dL_adds_247 (by decide) ?_
                        refine q_cv hX hG (by decide) (by decide) (As := [.int 12]) (rest := [.int (nI (nS (a_b z) (nA z)))]) (c_X6_count l G z (w := 12) (hI := hJ.io)) k_L_adds_X6_count (fun _ _ => rfl) rfl rfl (Nat.le_of_ble_eq_true rfl) dL_adds_249 ?_
                        refine q_top (nI (nS (a_b z) (nA z))) (ct12n hJ) ?_
                        refine q_ic_ne hX 279 dL_adds_252 (by decide) (fun c5 => ?_) (fun c5 => ?_)
                        · -- jump 279
                          exact absurd rfl c5
                        · -- on 255
                          refine q_iload_n hX 2 dL_adds_255 rfl ?_
                          refine q_iload_n hX 1 dL_adds_256 rfl ?_
                          refine q_ic_gt hX 279 dL_adds_257 (by decide) (fun c6 => ?_) (fun c6 => ?_)
                          · -- jump 279
                            have nc6 : ((nS (a_m z) (nA z) : Nat) < nS (a_b z) (nA z)) := (nI_ltI (a := nS (a_m z) (nA z)) (b := nS (a_b z) (nA z)) (by omega) (by omega)).mp c6
                            refine q_iconst hX 0 dL_adds_279 (by decide) ?_
                            exfalso
                            omega
                          · -- on 260
                            have nc6 : ¬ ((nS (a_m z) (nA z) : Nat) < nS (a_b z) (nA z)) := fun q => c6 ((nI_ltI (a := nS (a_m z) (nA z)) (b := nS (a_b z) (nA z)) (by omega) (by omega)).mpr q)
                            refine q_iload_n hX 3 dL_adds_260 rfl ?_
                            refine q_aload_n hX 0 dL_adds_261 rfl ?_
                            refine q_iconst hX 3 dL_adds_262 (by decide) ?_
                            refine q_cv hX hG (by decide) (by decide) (As := [.int 3]) (rest := [.int (nI (nA z))]) (c_X6_count l G z (w := 3) (hI := hJ.io)) k_L_adds_X6_count (fun _ _ => rfl) rfl rfl (Nat.le_of_ble_eq_true rfl) dL_adds_263 ?_
                            refine q_top (nI (nA z)) (ct3 hJ) ?_
                            refine q_ic_ne hX 279 dL_adds_266 (by decide) (fun c7 => ?_) (fun c7 => ?_)
                            · -- jump 279
                              exact absurd rfl c7
                            · -- on 269
                              refine q_iload hX 4 dL_adds_269 rfl ?_
                              refine q_iload_n hX 3 dL_adds_271 rfl ?_
                              refine q_ic_ne hX 279 dL_adds_272 (by decide) (fun c8 => ?_) (fun c8 => ?_)
                              · -- jump 279
                                exact absurd rfl c8
                              · -- on 275
                                refine q_iconst hX 1 dL_adds_275 (by decide) ?_
                                refine q_goto hX 280 dL_adds_276 (by decide) ?_
                                refine ret _ _ _ _ _ _ (by decide) (by decide) dL_adds_280 ?_
                                exact ⟨rfl, rfl⟩
                    · -- on 99
                      have nc3 : ¬ ((nA z : Nat) ≤ k) := fun q => c3 ((nI_leI (a := nA z) (b := k) (by omega) (by omega)).mpr q)
                      have hk : k < nA z := by omega
                      obtain ⟨⟨-, hc1, hc2⟩, ⟨-, hr1, hr2⟩, ⟨-, hd6⟩, ⟨-, hp1, hp4⟩, ⟨-, hs7⟩, hk40⟩ := hJ.ap hk
                      obtain ⟨j1, j2, j3, ⟨j16, j4⟩, ⟨j17, j5⟩, j6, j7⟩ := hJ.aj hk
                      have j2a : a_s z k = 0 → TN z ≤ a_d z k := fun q => (j2 q).1
                      have hwt := hJ.wt hk
                      have h16 : a_s z k = 0 ∨ a_s z k = 2 → a_m z k = 0 := hJ.h16n hk
                      refine q_aload_n hX 0 dL_adds_99 rfl ?_
                      refine q_iload hX 5 dL_adds_100 rfl ?_
                      refine q_iconst hX 4 dL_adds_102 (by decide) ?_
                      refine q_cv hX hG (by decide) (by decide) (As := [.int (nI k), .int 4]) (rest := []) (c_X6_application l G z (a := (nI k)) (w := 4) (hI := hJ.io)) k_L_adds_X6_application (fun _ _ => rfl) rfl rfl (Nat.le_of_ble_eq_true rfl) dL_adds_103 ?_
                      refine q_top (nI (a_s z k)) (ap4 hJ (a := k) (by omega)) ?_
                      refine q_istore hX [(6, .int (nI (a_s z k))), (0, .ref (G.2.2 192)), (1, .int (nI (nS (a_m z) (nA z)))), (2, .int (nI (nS (a_b z) (nA z)))), (3, .int (nI (nA z))), (4, .int (nI (nA z))), (5, .int (nI k))] dL_adds_106 (by decide) rfl ?_
                      refine q_aload_n hX 1 dL_adds_108 rfl ?_
                      refine q_iload hX 6 dL_adds_109 rfl ?_
                      refine q_iconst hX 5 dL_adds_111 (by decide) ?_
                      refine q_cv hX hG (by decide) (by decide) (As := [.int (nI k), .int 5]) (rest := []) (c_X6_application l G z (a := (nI k)) (w := 5) (hI := hJ.io)) k_L_adds_X6_application (fun _ _ => rfl) rfl rfl (Nat.le_of_ble_eq_true rfl) dL_adds_112 ?_
                      refine q_top (nI (a_m z k)) (ap5 hJ (a := k) (by omega)) ?_
                      refine q_istore hX [(7, .int (nI (a_m z k))), (6, .int (nI (a_s z k))), (0, .ref (G.2.2 192)), (1, .int (nI (nS (a_m z) (nA z)))), (2, .int (nI (nS (a_b z) (nA z)))), (3, .int (nI (nA z))), (4, .int (nI (nA z))), (5, .int (nI k))] dL_adds_115 (by decide) rfl ?_
                      refine q_aload_n hX 2 dL_adds_117 rfl ?_
                      refine q_iload hX 7 dL_adds_118 rfl ?_
                      refine q_bipush hX 6 dL_adds_120 (by decide) ?_
                      refine q_cv hX hG (by decide) (by decide) (As := [.int (nI k), .int 6]) (rest := []) (c_X6_application l G z (a := (nI k)) (w := 6) (hI := hJ.io)) k_L_adds_X6_application (fun _ _ => rfl) rfl rfl (Nat.le_of_ble_eq_true rfl) dL_adds_122 ?_
                      refine q_top (nI (a_b z k)) (ap6 hJ (a := k) (by omega)) ?_
                      refine q_iload hX 0 dL_adds_125 rfl ?_
                      refine q_ic_gt hX 193 dL_adds_127 (by decide) (fun c9 => ?_) (fun c9 => ?_)
                      · -- jump 193
                        have nc9 : ((a_m z k : Nat) < a_b z k) := (nI_ltI (a := a_m z k) (b := a_b z k) (by omega) (by omega)).mp c9
                        refine q_iconst hX 0 dL_adds_193 (by decide) ?_
                        exfalso
                        omega
                      · -- on 130
                        have nc9 : ¬ ((a_m z k : Nat) < a_b z k) := fun q => c9 ((nI_ltI (a := a_m z k) (b := a_b z k) (by omega) (by omega)).mpr q)
                        have km10 : LG X B 0 (fun _ => 0) G 0 0 z 153 [(7, .int (nI (a_m z k))), (6, .int (nI (a_s z k))), (0, .ref (G.2.2 192)), (1, .int (nI (nS (a_m z) (nA z)))), (2, .int (nI (nS (a_b z) (nA z)))), (3, .int (nI (nA z))), (4, .int (nI (nA z))), (5, .int (nI k))] [] := by
                          refine q_iload hX 1 dL_adds_153 rfl ?_
                          refine q_if_eq hX 164 dL_adds_155 (by decide) (fun c11 => ?_) (fun c11 => ?_)
                          · -- jump 164
                            have nc11 : ((a_s z k : Nat) = 0) := (nI_eq (a := a_s z k) (b := 0) (by omega) (by omega)).mp c11
                            refine q_iload hX 0 dL_adds_164 rfl ?_
                            refine q_if_ne hX 193 dL_adds_166 (by decide) (fun c12 => ?_) (fun c12 => ?_)
                            · -- jump 193
                              have nc12 : ¬ ((a_m z k : Nat) = 0) := fun q => c12 ((nI_eq (a := a_m z k) (b := 0) (by omega) (by omega)).mpr q)
                              refine q_iconst hX 0 dL_adds_193 (by decide) ?_
                              exfalso
                              omega
                            · -- on 169
                              have nc12 : ((a_m z k : Nat) = 0) := (nI_eq (a := a_m z k) (b := 0) (by omega) (by omega)).mp (Decidable.not_not.mp c12)
                              have km13 : LG X B 0 (fun _ => 0) G 0 0 z 195 [(7, .int (nI (a_m z k))), (6, .int (nI (a_s z k))), (0, .ref (G.2.2 192)), (1, .int (nI (nS (a_m z) (nA z)))), (2, .int (nI (nS (a_b z) (nA z)))), (3, .int (nI (nA z))), (4, .int (nI (nA z))), (5, .int (nI k))] [] := by
                                refine q_aload_n hX 2 dL_adds_195 rfl ?_
                                refine q_iload hX 7 dL_adds_196 rfl ?_
                                refine q_bipush hX 9 dL_adds_198 (by decide) ?_
                                refine q_cv hX hG (by decide) (by decide) (As := [.int (nI k), .int 9]) (rest := []) (c_X6_application l G z (a := (nI k)) (w := 9) (hI := hJ.io)) k_L_adds_X6_application (fun _ _ => rfl) rfl rfl (Nat.le_of_ble_eq_true rfl) dL_adds_200 ?_
                                refine q_top (tkt z k) (ap9 hJ (a := k) (by omega)) ?_
                                refine q_iconst hX 1 dL_adds_203 (by decide) ?_
                                refine q_aload_n hX 2 dL_adds_204 rfl ?_
                                refine q_bipush hX 16 dL_adds_205 (by decide) ?_
                                refine q_cv hX hG (by decide) (by decide) (As := [.int 16]) (rest := [.int 1, .int (tkt z k)]) (c_X6_count l G z (w := 16) (hI := hJ.io)) k_L_adds_X6_count (fun _ _ => rfl) rfl rfl (Nat.le_of_ble_eq_true rfl) dL_adds_207 ?_
                                refine q_top (z 4 1) (ct16 hJ) ?_
                                refine q_aload_n hX 2 dL_adds_210 rfl ?_
                                refine q_aload_n hX 2 dL_adds_211 rfl ?_
                                refine q_iload hX 7 dL_adds_212 rfl ?_
                                refine q_iconst hX 0 dL_adds_214 (by decide) ?_
                                refine q_cv hX hG (by decide) (by decide) (As := [.int (nI k), .int 0]) (rest := [.ref (G.2.2 192), .int (z 4 1), .int 1, .int (tkt z k)]) (c_X6_application l G z (a := (nI k)) (w := 0) (hI := hJ.io)) k_L_adds_X6_application (fun _ _ => rfl) rfl rfl (Nat.le_of_ble_eq_true rfl) dL_adds_215 ?_
                                refine q_top (nI (a_c z k)) (ap0 hJ (a := k) (by omega)) ?_
                                refine q_iconst hX 0 dL_adds_218 (by decide) ?_
                                refine q_cv hX hG (by decide) (by decide) (As := [.int (nI (a_c z k)), .int 0]) (rest := [.int (z 4 1), .int 1, .int (tkt z k)]) (c_X6_climber l G z (c := (nI (a_c z k))) (w := 0) (hI := hJ.io)) k_L_adds_X6_climber (fun _ _ => rfl) rfl rfl (Nat.le_of_ble_eq_true rfl) dL_adds_219 ?_
                                refine q_top (z 8 (a_c z k)) (cl0 hJ (c := (a_c z k)) (by omega)) ?_
                                refine q_imul hX dL_adds_222 ?_
                                refine q_iadd hX dL_adds_223 ?_
                                refine q_ic_eq hX 229 dL_adds_224 (by decide) (fun c14 => ?_) (fun c14 => ?_)
                                · -- jump 229
                                  refine q_iinc hX (nI (k + 1)) 7 [(5, .int (nI (k + 1))), (7, .int (nI (a_m z k))), (6, .int (nI (a_s z k))), (0, .ref (G.2.2 192)), (1, .int (nI (nS (a_m z) (nA z)))), (2, .int (nI (nS (a_b z) (nA z)))), (3, .int (nI (nA z))), (4, .int (nI (nA z)))] dL_adds_229 rfl (nI_1 k) (by decide) rfl ?_
                                  refine q_goto hX 89 dL_adds_232 (by decide) ?_
                                  refine q_sub [3, 4, 5, 6, 7, 0] [(0, .ref (G.2.2 192)), (1, .int (nI (nS (a_m z) (nA z)))), (2, .int (nI (nS (a_b z) (nA z)))), (3, .int (nI (nA z))), (4, .int (nI (nA z))), (5, .int (nI (k + 1)))] rfl ?_
                                  exact ih89 (k + 1) (by omega) (by omega)
                                · -- on 227
                                  exact absurd rfl c14
                              refine q_iload hX 1 dL_adds_169 rfl ?_
                              refine q_iconst hX 1 dL_adds_171 (by decide) ?_
                              refine q_ic_eq hX 181 dL_adds_172 (by decide) (fun c15 => ?_) (fun c15 => ?_)
                              · -- jump 181
                                have nc15 : ((a_s z k : Nat) = 1) := (nI_eq (a := a_s z k) (b := 1) (by omega) (by omega)).mp c15
                                refine q_iload hX 0 dL_adds_181 rfl ?_
                                refine q_aload_n hX 2 dL_adds_183 rfl ?_
                                refine q_iload hX 7 dL_adds_184 rfl ?_
                                refine q_iconst hX 3 dL_adds_186 (by decide) ?_
                                refine q_cv hX hG (by decide) (by decide) (As := [.int (nI k), .int 3]) (rest := [.int (nI (a_m z k))]) (c_X6_application l G z (a := (nI k)) (w := 3) (hI := hJ.io)) k_L_adds_X6_application (fun _ _ => rfl) rfl rfl (Nat.le_of_ble_eq_true rfl) dL_adds_187 ?_
                                refine q_top (nI (a_p z k)) (ap3 hJ (a := k) (by omega)) ?_
                                refine q_ic_ge hX 195 dL_adds_190 (by decide) (fun c16 => ?_) (fun c16 => ?_)
                                · -- jump 195
                                  have nc16 : ((a_p z k : Nat) ≤ a_m z k) := (nI_leI (a := a_p z k) (b := a_m z k) (by omega) (by omega)).mp c16
                                  refine q_sub [0, 1, 2, 3, 4, 5, 6, 7] [(7, .int (nI (a_m z k))), (6, .int (nI (a_s z k))), (0, .ref (G.2.2 192)), (1, .int (nI (nS (a_m z) (nA z)))), (2, .int (nI (nS (a_b z) (nA z)))), (3, .int (nI (nA z))), (4, .int (nI (nA z))), (5, .int (nI k))] rfl ?_
                                  exact km13
                                · -- on 193
                                  have nc16 : ¬ ((a_p z k : Nat) ≤ a_m z k) := fun q => c16 ((nI_leI (a := a_p z k) (b := a_m z k) (by omega) (by omega)).mpr q)
                                  refine q_iconst hX 0 dL_adds_193 (by decide) ?_
                                  exfalso
                                  omega
                              · -- on 175
                                have nc15 : ¬ ((a_s z k : Nat) = 1) := fun q => c15 ((nI_eq (a := a_s z k) (b := 1) (by omega) (by omega)).mpr q)
                                refine q_iload hX 1 dL_adds_175 rfl ?_
                                refine q_iconst hX 3 dL_adds_177 (by decide) ?_
                                refine q_ic_le hX 195 dL_adds_178 (by decide) (fun c17 => ?_) (fun c17 => ?_)
                                · -- jump 195
                                  have nc17 : ((a_s z k : Nat) ≤ 3) := (nI_leI (a := a_s z k) (b := 3) (by omega) (by omega)).mp c17
                                  refine q_sub [0, 1, 2, 3, 4, 5, 6, 7] [(7, .int (nI (a_m z k))), (6, .int (nI (a_s z k))), (0, .ref (G.2.2 192)), (1, .int (nI (nS (a_m z) (nA z)))), (2, .int (nI (nS (a_b z) (nA z)))), (3, .int (nI (nA z))), (4, .int (nI (nA z))), (5, .int (nI k))] rfl ?_
                                  exact km13
                                · -- on 181
                                  have nc17 : ¬ ((a_s z k : Nat) ≤ 3) := fun q => c17 ((nI_leI (a := a_s z k) (b := 3) (by omega) (by omega)).mpr q)
                                  refine q_iload hX 0 dL_adds_181 rfl ?_
                                  refine q_aload_n hX 2 dL_adds_183 rfl ?_
                                  refine q_iload hX 7 dL_adds_184 rfl ?_
                                  refine q_iconst hX 3 dL_adds_186 (by decide) ?_
                                  refine q_cv hX hG (by decide) (by decide) (As := [.int (nI k), .int 3]) (rest := [.int (nI (a_m z k))]) (c_X6_application l G z (a := (nI k)) (w := 3) (hI := hJ.io)) k_L_adds_X6_application (fun _ _ => rfl) rfl rfl (Nat.le_of_ble_eq_true rfl) dL_adds_187 ?_
                                  refine q_top (nI (a_p z k)) (ap3 hJ (a := k) (by omega)) ?_
                                  refine q_ic_ge hX 195 dL_adds_190 (by decide) (fun c18 => ?_) (fun c18 => ?_)
                                  · -- jump 195
                                    have nc18 : ((a_p z k : Nat) ≤ a_m z k) := (nI_leI (a := a_p z k) (b := a_m z k) (by omega) (by omega)).mp c18
                                    refine q_sub [0, 1, 2, 3, 4, 5, 6, 7] [(7, .int (nI (a_m z k))), (6, .int (nI (a_s z k))), (0, .ref (G.2.2 192)), (1, .int (nI (nS (a_m z) (nA z)))), (2, .int (nI (nS (a_b z) (nA z)))), (3, .int (nI (nA z))), (4, .int (nI (nA z))), (5, .int (nI k))] rfl ?_
                                    exact km13
                                  · -- on 193
                                    have nc18 : ¬ ((a_p z k : Nat) ≤ a_m z k) := fun q => c18 ((nI_leI (a := a_p z k) (b := a_m z k) (by omega) (by omega)).mpr q)
                                    refine q_iconst hX 0 dL_adds_193 (by decide) ?_
                                    exfalso
                                    omega
                          · -- on 158
                            have nc11 : ¬ ((a_s z k : Nat) = 0) := fun q => c11 ((nI_eq (a := a_s z k) (b := 0) (by omega) (by omega)).mpr q)
                            refine q_iload hX 1 dL_adds_158 rfl ?_
                            refine q_iconst hX 2 dL_adds_160 (by decide) ?_
                            refine q_ic_ne hX 169 dL_adds_161 (by decide) (fun c19 => ?_) (fun c19 => ?_)
                            · -- jump 169
                              have nc19 : ¬ ((a_s z k : Nat) = 2) := fun q => c19 ((nI_eq (a := a_s z k) (b := 2) (by omega) (by omega)).mpr q)
                              have km20 : LG X B 0 (fun _ => 0) G 0 0 z 195 [(7, .int (nI (a_m z k))), (6, .int (nI (a_s z k))), (0, .ref (G.2.2 192)), (1, .int (nI (nS (a_m z) (nA z)))), (2, .int (nI (nS (a_b z) (nA z)))), (3, .int (nI (nA z))), (4, .int (nI (nA z))), (5, .int (nI k))] [] := by
                                refine q_aload_n hX 2 dL_adds_195 rfl ?_
                                refine q_iload hX 7 dL_adds_196 rfl ?_
                                refine q_bipush hX 9 dL_adds_198 (by decide) ?_
                                refine q_cv hX hG (by decide) (by decide) (As := [.int (nI k), .int 9]) (rest := []) (c_X6_application l G z (a := (nI k)) (w := 9) (hI := hJ.io)) k_L_adds_X6_application (fun _ _ => rfl) rfl rfl (Nat.le_of_ble_eq_true rfl) dL_adds_200 ?_
                                refine q_top (tkt z k) (ap9 hJ (a := k) (by omega)) ?_
                                refine q_iconst hX 1 dL_adds_203 (by decide) ?_
                                refine q_aload_n hX 2 dL_adds_204 rfl ?_
                                refine q_bipush hX 16 dL_adds_205 (by decide) ?_
                                refine q_cv hX hG (by decide) (by decide) (As := [.int 16]) (rest := [.int 1, .int (tkt z k)]) (c_X6_count l G z (w := 16) (hI := hJ.io)) k_L_adds_X6_count (fun _ _ => rfl) rfl rfl (Nat.le_of_ble_eq_true rfl) dL_adds_207 ?_
                                refine q_top (z 4 1) (ct16 hJ) ?_
                                refine q_aload_n hX 2 dL_adds_210 rfl ?_
                                refine q_aload_n hX 2 dL_adds_211 rfl ?_
                                refine q_iload hX 7 dL_adds_212 rfl ?_
                                refine q_iconst hX 0 dL_adds_214 (by decide) ?_
                                refine q_cv hX hG (by decide) (by decide) (As := [.int (nI k), .int 0]) (rest := [.ref (G.2.2 192), .int (z 4 1), .int 1, .int (tkt z k)]) (c_X6_application l G z (a := (nI k)) (w := 0) (hI := hJ.io)) k_L_adds_X6_application (fun _ _ => rfl) rfl rfl (Nat.le_of_ble_eq_true rfl) dL_adds_215 ?_
                                refine q_top (nI (a_c z k)) (ap0 hJ (a := k) (by omega)) ?_
                                refine q_iconst hX 0 dL_adds_218 (by decide) ?_
                                refine q_cv hX hG (by decide) (by decide) (As := [.int (nI (a_c z k)), .int 0]) (rest := [.int (z 4 1), .int 1, .int (tkt z k)]) (c_X6_climber l G z (c := (nI (a_c z k))) (w := 0) (hI := hJ.io)) k_L_adds_X6_climber (fun _ _ => rfl) rfl rfl (Nat.le_of_ble_eq_true rfl) dL_adds_219 ?_
                                refine q_top (z 8 (a_c z k)) (cl0 hJ (c := (a_c z k)) (by omega)) ?_
                                refine q_imul hX dL_adds_222 ?_
                                refine q_iadd hX dL_adds_223 ?_
                                refine q_ic_eq hX 229 dL_adds_224 (by decide) (fun c21 => ?_) (fun c21 => ?_)
                                · -- jump 229
                                  refine q_iinc hX (nI (k + 1)) 7 [(5, .int (nI (k + 1))), (7, .int (nI (a_m z k))), (6, .int (nI (a_s z k))), (0, .ref (G.2.2 192)), (1, .int (nI (nS (a_m z) (nA z)))), (2, .int (nI (nS (a_b z) (nA z)))), (3, .int (nI (nA z))), (4, .int (nI (nA z)))] dL_adds_229 rfl (nI_1 k) (by decide) rfl ?_
                                  refine q_goto hX 89 dL_adds_232 (by decide) ?_
                                  refine q_sub [3, 4, 5, 6, 7, 0] [(0, .ref (G.2.2 192)), (1, .int (nI (nS (a_m z) (nA z)))), (2, .int (nI (nS (a_b z) (nA z)))), (3, .int (nI (nA z))), (4, .int (nI (nA z))), (5, .int (nI (k + 1)))] rfl ?_
                                  exact ih89 (k + 1) (by omega) (by omega)
                                · -- on 227
                                  exact absurd rfl c21
                              refine q_iload hX 1 dL_adds_169 rfl ?_
                              refine q_iconst hX 1 dL_adds_171 (by decide) ?_
                              refine q_ic_eq hX 181 dL_adds_172 (by decide) (fun c22 => ?_) (fun c22 => ?_)
                              · -- jump 181
                                have nc22 : ((a_s z k : Nat) = 1) := (nI_eq (a := a_s z k) (b := 1) (by omega) (by omega)).mp c22
                                refine q_iload hX 0 dL_adds_181 rfl ?_
                                refine q_aload_n hX 2 dL_adds_183 rfl ?_
                                refine q_iload hX 7 dL_adds_184 rfl ?_
                                refine q_iconst hX 3 dL_adds_186 (by decide) ?_
                                refine q_cv hX hG (by decide) (by decide) (As := [.int (nI k), .int 3]) (rest := [.int (nI (a_m z k))]) (c_X6_application l G z (a := (nI k)) (w := 3) (hI := hJ.io)) k_L_adds_X6_application (fun _ _ => rfl) rfl rfl (Nat.le_of_ble_eq_true rfl) dL_adds_187 ?_
                                refine q_top (nI (a_p z k)) (ap3 hJ (a := k) (by omega)) ?_
                                refine q_ic_ge hX 195 dL_adds_190 (by decide) (fun c23 => ?_) (fun c23 => ?_)
                                · -- jump 195
                                  have nc23 : ((a_p z k : Nat) ≤ a_m z k) := (nI_leI (a := a_p z k) (b := a_m z k) (by omega) (by omega)).mp c23
                                  refine q_sub [0, 1, 2, 3, 4, 5, 6, 7] [(7, .int (nI (a_m z k))), (6, .int (nI (a_s z k))), (0, .ref (G.2.2 192)), (1, .int (nI (nS (a_m z) (nA z)))), (2, .int (nI (nS (a_b z) (nA z)))), (3, .int (nI (nA z))), (4, .int (nI (nA z))), (5, .int (nI k))] rfl ?_
                                  exact km20
                                · -- on 193
                                  have nc23 : ¬ ((a_p z k : Nat) ≤ a_m z k) := fun q => c23 ((nI_leI (a := a_p z k) (b := a_m z k) (by omega) (by omega)).mpr q)
                                  refine q_iconst hX 0 dL_adds_193 (by decide) ?_
                                  exfalso
                                  omega
                              · -- on 175
                                have nc22 : ¬ ((a_s z k : Nat) = 1) := fun q => c22 ((nI_eq (a := a_s z k) (b := 1) (by omega) (by omega)).mpr q)
                                refine q_iload hX 1 dL_adds_175 rfl ?_
                                refine q_iconst hX 3 dL_adds_177 (by decide) ?_
                                refine q_ic_le hX 195 dL_adds_178 (by decide) (fun c24 => ?_) (fun c24 => ?_)
                                · -- jump 195
                                  have nc24 : ((a_s z k : Nat) ≤ 3) := (nI_leI (a := a_s z k) (b := 3) (by omega) (by omega)).mp c24
                                  refine q_sub [0, 1, 2, 3, 4, 5, 6, 7] [(7, .int (nI (a_m z k))), (6, .int (nI (a_s z k))), (0, .ref (G.2.2 192)), (1, .int (nI (nS (a_m z) (nA z)))), (2, .int (nI (nS (a_b z) (nA z)))), (3, .int (nI (nA z))), (4, .int (nI (nA z))), (5, .int (nI k))] rfl ?_
                                  exact km20
                                · -- on 181
                                  have nc24 : ¬ ((a_s z k : Nat) ≤ 3) := fun q => c24 ((nI_leI (a := a_s z k) (b := 3) (by omega) (by omega)).mpr q)
                                  refine q_iload hX 0 dL_adds_181 rfl ?_
                                  refine q_aload_n hX 2 dL_adds_183 rfl ?_
                                  refine q_iload hX 7 dL_adds_184 rfl ?_
                                  refine q_iconst hX 3 dL_adds_186 (by decide) ?_
                                  refine q_cv hX hG (by decide) (by decide) (As := [.int (nI k), .int 3]) (rest := [.int (nI (a_m z k))]) (c_X6_application l G z (a := (nI k)) (w := 3) (hI := hJ.io)) k_L_adds_X6_application (fun _ _ => rfl) rfl rfl (Nat.le_of_ble_eq_true rfl) dL_adds_187 ?_
                                  refine q_top (nI (a_p z k)) (ap3 hJ (a := k) (by omega)) ?_
                                  refine q_ic_ge hX 195 dL_adds_190 (by decide) (fun c25 => ?_) (fun c25 => ?_)
                                  · -- jump 195
                                    have nc25 : ((a_p z k : Nat) ≤ a_m z k) := (nI_leI (a := a_p z k) (b := a_m z k) (by omega) (by omega)).mp c25
                                    refine q_sub [0, 1, 2, 3, 4, 5, 6, 7] [(7, .int (nI (a_m z k))), (6, .int (nI (a_s z k))), (0, .ref (G.2.2 192)), (1, .int (nI (nS (a_m z) (nA z)))), (2, .int (nI (nS (a_b z) (nA z)))), (3, .int (nI (nA z))), (4, .int (nI (nA z))), (5, .int (nI k))] rfl ?_
                                    exact km20
                                  · -- on 193
                                    have nc25 : ¬ ((a_p z k : Nat) ≤ a_m z k) := fun q => c25 ((nI_leI (a := a_p z k) (b := a_m z k) (by omega) (by omega)).mpr q)
                                    refine q_iconst hX 0 dL_adds_193 (by decide) ?_
                                    exfalso
                                    omega
                            · -- on 164
                              have nc19 : ((a_s z k : Nat) = 2) := (nI_eq (a := a_s z k) (b := 2) (by omega) (by omega)).mp (Decidable.not_not.mp c19)
                              refine q_iload hX 0 dL_adds_164 rfl ?_
                              refine q_if_ne hX 193 dL_adds_166 (by decide) (fun c26 => ?_) (fun c26 => ?_)
                              · -- jump 193
                                have nc26 : ¬ ((a_m z k : Nat) = 0) := fun q => c26 ((nI_eq (a := a_m z k) (b := 0) (by omega) (by omega)).mpr q)
                                refine q_iconst hX 0 dL_adds_193 (by decide) ?_
                                exfalso
                                omega
                              · -- on 169
                                have nc26 : ((a_m z k : Nat) = 0) := (nI_eq (a := a_m z k) (b := 0) (by omega) (by omega)).mp (Decidable.not_not.mp c26)
                                have km27 : LG X B 0 (fun _ => 0) G 0 0 z 195 [(7, .int (nI (a_m z k))), (6, .int (nI (a_s z k))), (0, .ref (G.2.2 192)), (1, .int (nI (nS (a_m z) (nA z)))), (2, .int (nI (nS (a_b z) (nA z)))), (3, .int (nI (nA z))), (4, .int (nI (nA z))), (5, .int (nI k))] [] := by
                                  refine q_aload_n hX 2 dL_adds_195 rfl ?_
                                  refine q_iload hX 7 dL_adds_196 rfl ?_
                                  refine q_bipush hX 9 dL_adds_198 (by decide) ?_
                                  refine q_cv hX hG (by decide) (by decide) (As := [.int (nI k), .int 9]) (rest := []) (c_X6_application l G z (a := (nI k)) (w := 9) (hI := hJ.io)) k_L_adds_X6_application (fun _ _ => rfl) rfl rfl (Nat.le_of_ble_eq_true rfl) dL_adds_200 ?_
                                  refine q_top (tkt z k) (ap9 hJ (a := k) (by omega)) ?_
                                  refine q_iconst hX 1 dL_adds_203 (by decide) ?_
                                  refine q_aload_n hX 2 dL_adds_204 rfl ?_
                                  refine q_bipush hX 16 dL_adds_205 (by decide) ?_
                                  refine q_cv hX hG (by decide) (by decide) (As := [.int 16]) (rest := [.int 1, .int (tkt z k)]) (c_X6_count l G z (w := 16) (hI := hJ.io)) k_L_adds_X6_count (fun _ _ => rfl) rfl rfl (Nat.le_of_ble_eq_true rfl) dL_adds_207 ?_
                                  refine q_top (z 4 1) (ct16 hJ) ?_
                                  refine q_aload_n hX 2 dL_adds_210 rfl ?_
                                  refine q_aload_n hX 2 dL_adds_211 rfl ?_
                                  refine q_iload hX 7 dL_adds_212 rfl ?_
                                  refine q_iconst hX 0 dL_adds_214 (by decide) ?_
                                  refine q_cv hX hG (by decide) (by decide) (As := [.int (nI k), .int 0]) (rest := [.ref (G.2.2 192), .int (z 4 1), .int 1, .int (tkt z k)]) (c_X6_application l G z (a := (nI k)) (w := 0) (hI := hJ.io)) k_L_adds_X6_application (fun _ _ => rfl) rfl rfl (Nat.le_of_ble_eq_true rfl) dL_adds_215 ?_
                                  refine q_top (nI (a_c z k)) (ap0 hJ (a := k) (by omega)) ?_
                                  refine q_iconst hX 0 dL_adds_218 (by decide) ?_
                                  refine q_cv hX hG (by decide) (by decide) (As := [.int (nI (a_c z k)), .int 0]) (rest := [.int (z 4 1), .int 1, .int (tkt z k)]) (c_X6_climber l G z (c := (nI (a_c z k))) (w := 0) (hI := hJ.io)) k_L_adds_X6_climber (fun _ _ => rfl) rfl rfl (Nat.le_of_ble_eq_true rfl) dL_adds_219 ?_
                                  refine q_top (z 8 (a_c z k)) (cl0 hJ (c := (a_c z k)) (by omega)) ?_
                                  refine q_imul hX dL_adds_222 ?_
                                  refine q_iadd hX dL_adds_223 ?_
                                  refine q_ic_eq hX 229 dL_adds_224 (by decide) (fun c28 => ?_) (fun c28 => ?_)
                                  · -- jump 229
                                    refine q_iinc hX (nI (k + 1)) 7 [(5, .int (nI (k + 1))), (7, .int (nI (a_m z k))), (6, .int (nI (a_s z k))), (0, .ref (G.2.2 192)), (1, .int (nI (nS (a_m z) (nA z)))), (2, .int (nI (nS (a_b z) (nA z)))), (3, .int (nI (nA z))), (4, .int (nI (nA z)))] dL_adds_229 rfl (nI_1 k) (by decide) rfl ?_
                                    refine q_goto hX 89 dL_adds_232 (by decide) ?_
                                    refine q_sub [3, 4, 5, 6, 7, 0] [(0, .ref (G.2.2 192)), (1, .int (nI (nS (a_m z) (nA z)))), (2, .int (nI (nS (a_b z) (nA z)))), (3, .int (nI (nA z))), (4, .int (nI (nA z))), (5, .int (nI (k + 1)))] rfl ?_
                                    exact ih89 (k + 1) (by omega) (by omega)
                                  · -- on 227
                                    exact absurd rfl c28
                                refine q_iload hX 1 dL_adds_169 rfl ?_
                                refine q_iconst hX 1 dL_adds_171 (by decide) ?_
                                refine q_ic_eq hX 181 dL_adds_172 (by decide) (fun c29 => ?_) (fun c29 => ?_)
                                · -- jump 181
                                  have nc29 : ((a_s z k : Nat) = 1) := (nI_eq (a := a_s z k) (b := 1) (by omega) (by omega)).mp c29
                                  refine q_iload hX 0 dL_adds_181 rfl ?_
                                  refine q_aload_n hX 2 dL_adds_183 rfl ?_
                                  refine q_iload hX 7 dL_adds_184 rfl ?_
                                  refine q_iconst hX 3 dL_adds_186 (by decide) ?_
                                  refine q_cv hX hG (by decide) (by decide) (As := [.int (nI k), .int 3]) (rest := [.int (nI (a_m z k))]) (c_X6_application l G z (a := (nI k)) (w := 3) (hI := hJ.io)) k_L_adds_X6_application (fun _ _ => rfl) rfl rfl (Nat.le_of_ble_eq_true rfl) dL_adds_187 ?_
                                  refine q_top (nI (a_p z k)) (ap3 hJ (a := k) (by omega)) ?_
                                  refine q_ic_ge hX 195 dL_adds_190 (by decide) (fun c30 => ?_) (fun c30 => ?_)
                                  · -- jump 195
                                    have nc30 : ((a_p z k : Nat) ≤ a_m z k) := (nI_leI (a := a_p z k) (b := a_m z k) (by omega) (by omega)).mp c30
                                    refine q_sub [0, 1, 2, 3, 4, 5, 6, 7] [(7, .int (nI (a_m z k))), (6, .int (nI (a_s z k))), (0, .ref (G.2.2 192)), (1, .int (nI (nS (a_m z) (nA z)))), (2, .int (nI (nS (a_b z) (nA z)))), (3, .int (nI (nA z))), (4, .int (nI (nA z))), (5, .int (nI k))] rfl ?_
                                    exact km27
                                  · -- on 193
                                    have nc30 : ¬ ((a_p z k : Nat) ≤ a_m z k) := fun q => c30 ((nI_leI (a := a_p z k) (b := a_m z k) (by omega) (by omega)).mpr q)
                                    refine q_iconst hX 0 dL_adds_193 (by decide) ?_
                                    exfalso
                                    omega
                                · -- on 175
                                  have nc29 : ¬ ((a_s z k : Nat) = 1) := fun q => c29 ((nI_eq (a := a_s z k) (b := 1) (by omega) (by omega)).mpr q)
                                  refine q_iload hX 1 dL_adds_175 rfl ?_
                                  refine q_iconst hX 3 dL_adds_177 (by decide) ?_
                                  refine q_ic_le hX 195 dL_adds_178 (by decide) (fun c31 => ?_) (fun c31 => ?_)
                                  · -- jump 195
                                    have nc31 : ((a_s z k : Nat) ≤ 3) := (nI_leI (a := a_s z k) (b := 3) (by omega) (by omega)).mp c31
                                    refine q_sub [0, 1, 2, 3, 4, 5, 6, 7] [(7, .int (nI (a_m z k))), (6, .int (nI (a_s z k))), (0, .ref (G.2.2 192)), (1, .int (nI (nS (a_m z) (nA z)))), (2, .int (nI (nS (a_b z) (nA z)))), (3, .int (nI (nA z))), (4, .int (nI (nA z))), (5, .int (nI k))] rfl ?_
                                    exact km27
                                  · -- on 181
                                    have nc31 : ¬ ((a_s z k : Nat) ≤ 3) := fun q => c31 ((nI_leI (a := a_s z k) (b := 3) (by omega) (by omega)).mpr q)
                                    refine q_iload hX 0 dL_adds_181 rfl ?_
                                    refine q_aload_n hX 2 dL_adds_183 rfl ?_
                                    refine q_iload hX 7 dL_adds_184 rfl ?_
                                    refine q_iconst hX 3 dL_adds_186 (by decide) ?_
                                    refine q_cv hX hG (by decide) (by decide) (As := [.int (nI k), .int 3]) (rest := [.int (nI (a_m z k))]) (c_X6_application l G z (a := (nI k)) (w := 3) (hI := hJ.io)) k_L_adds_X6_application (fun _ _ => rfl) rfl rfl (Nat.le_of_ble_eq_true rfl) dL_adds_187 ?_
                                    refine q_top (nI (a_p z k)) (ap3 hJ (a := k) (by omega)) ?_
                                    refine q_ic_ge hX 195 dL_adds_190 (by decide) (fun c32 => ?_) (fun c32 => ?_)
                                    · -- jump 195
                                      have nc32 : ((a_p z k : Nat) ≤ a_m z k) := (nI_leI (a := a_p z k) (b := a_m z k) (by omega) (by omega)).mp c32
                                      refine q_sub [0, 1, 2, 3, 4, 5, 6, 7] [(7, .int (nI (a_m z k))), (6, .int (nI (a_s z k))), (0, .ref (G.2.2 192)), (1, .int (nI (nS (a_m z) (nA z)))), (2, .int (nI (nS (a_b z) (nA z)))), (3, .int (nI (nA z))), (4, .int (nI (nA z))), (5, .int (nI k))] rfl ?_
                                      exact km27
                                    · -- on 193
                                      have nc32 : ¬ ((a_p z k : Nat) ≤ a_m z k) := fun q => c32 ((nI_leI (a := a_p z k) (b := a_m z k) (by omega) (by omega)).mpr q)
                                      refine q_iconst hX 0 dL_adds_193 (by decide) ?_
                                      exfalso
                                      omega
                        refine q_iload hX 1 dL_adds_130 rfl ?_
                        refine q_iconst hX 3 dL_adds_132 (by decide) ?_
                        refine q_ic_eq hX 153 dL_adds_133 (by decide) (fun c33 => ?_) (fun c33 => ?_)
                        · -- jump 153
                          have nc33 : ((a_s z k : Nat) = 3) := (nI_eq (a := a_s z k) (b := 3) (by omega) (by omega)).mp c33
                          refine q_sub [0, 1, 2, 3, 4, 5, 6, 7] [(7, .int (nI (a_m z k))), (6, .int (nI (a_s z k))), (0, .ref (G.2.2 192)), (1, .int (nI (nS (a_m z) (nA z)))), (2, .int (nI (nS (a_b z) (nA z)))), (3, .int (nI (nA z))), (4, .int (nI (nA z))), (5, .int (nI k))] rfl ?_
                          exact km10
                        · -- on 136
                          have nc33 : ¬ ((a_s z k : Nat) = 3) := fun q => c33 ((nI_eq (a := a_s z k) (b := 3) (by omega) (by omega)).mpr q)
                          refine q_iload hX 1 dL_adds_136 rfl ?_
                          refine q_iconst hX 4 dL_adds_138 (by decide) ?_
                          refine q_ic_eq hX 153 dL_adds_139 (by decide) (fun c34 => ?_) (fun c34 => ?_)
                          · -- jump 153
                            have nc34 : ((a_s z k : Nat) = 4) := (nI_eq (a := a_s z k) (b := 4) (by omega) (by omega)).mp c34
                            refine q_sub [0, 1, 2, 3, 4, 5, 6, 7] [(7, .int (nI (a_m z k))), (6, .int (nI (a_s z k))), (0, .ref (G.2.2 192)), (1, .int (nI (nS (a_m z) (nA z)))), (2, .int (nI (nS (a_b z) (nA z)))), (3, .int (nI (nA z))), (4, .int (nI (nA z))), (5, .int (nI k))] rfl ?_
                            exact km10
                          · -- on 142
                            have nc34 : ¬ ((a_s z k : Nat) = 4) := fun q => c34 ((nI_eq (a := a_s z k) (b := 4) (by omega) (by omega)).mpr q)
                            refine q_aload_n hX 2 dL_adds_142 rfl ?_
                            refine q_iload hX 7 dL_adds_143 rfl ?_
                            refine q_bipush hX 6 dL_adds_145 (by decide) ?_
                            refine q_cv hX hG (by decide) (by decide) (As := [.int (nI k), .int 6]) (rest := []) (c_X6_application l G z (a := (nI k)) (w := 6) (hI := hJ.io)) k_L_adds_X6_application (fun _ _ => rfl) rfl rfl (Nat.le_of_ble_eq_true rfl) dL_adds_147 ?_
                            refine q_top (nI (a_b z k)) (ap6 hJ (a := k) (by omega)) ?_
                            refine q_if_ne hX 193 dL_adds_150 (by decide) (fun c35 => ?_) (fun c35 => ?_)
                            · -- jump 193
                              have nc35 : ¬ ((a_b z k : Nat) = 0) := fun q => c35 ((nI_eq (a := a_b z k) (b := 0) (by omega) (by omega)).mpr q)
                              refine q_iconst hX 0 dL_adds_193 (by decide) ?_
                              exfalso
                              omega
                            · -- on 153
                              have nc35 : ((a_b z k : Nat) = 0) := (nI_eq (a := a_b z k) (b := 0) (by omega) (by omega)).mp (Decidable.not_not.mp c35)
                              refine q_sub [0, 1, 2, 3, 4, 5, 6, 7] [(7, .int (nI (a_m z k))), (6, .int (nI (a_s z k))), (0, .ref (G.2.2 192)), (1, .int (nI (nS (a_m z) (nA z)))), (2, .int (nI (nS (a_b z) (nA z)))), (3, .int (nI (nA z))), (4, .int (nI (nA z))), (5, .int (nI k))] rfl ?_
                              exact km10
                refine q_sub [1, 2, 3, 4, 5, 0] [(0, .ref (G.2.2 192)), (1, .int (nI (nS (a_m z) (nA z)))), (2, .int (nI (nS (a_b z) (nA z)))), (3, .int (nI (nA z))), (4, .int (nI (nA z))), (5, .int 0)] rfl ?_
                have el5 : (0 : Int32) = nI 0 := by rfl
                refine q_lv (lv' := [(0, .ref (G.2.2 192)), (1, .int (nI (nS (a_m z) (nA z)))), (2, .int (nI (nS (a_b z) (nA z)))), (3, .int (nI (nA z))), (4, .int (nI (nA z))), (5, .int (nI 0))]) (by rw [← el5]) ?_
                exact loop89 (nA z + 1) 0 (by omega) (Nat.zero_le _)
              · -- on 71
                have nc2 : ¬ ((10 : Nat) < j) := fun q => c2 ((nI_ltI (a := 10) (b := j) (by omega) (by omega)).mpr q)
                refine q_iload_n hX 3 dL_adds_71 rfl ?_
                refine q_aload_n hX 0 dL_adds_72 rfl ?_
                refine q_iload hX 5 dL_adds_73 rfl ?_
                refine q_cv hX hG (by decide) (by decide) (As := [.int (nI j)]) (rest := [.int (nI (nS (SN z) (j - 4)))]) (c_X6_count l G z (w := (nI j)) (hI := hJ.io)) k_L_adds_X6_count (fun _ _ => rfl) rfl rfl (Nat.le_of_ble_eq_true rfl) dL_adds_75 ?_
                refine q_top (nI (SN z (j - 4))) (ctk hJ (by omega) (by omega)) ?_
                refine q_iadd hX dL_adds_78 ?_
                refine q_top (nI (nS (SN z) (j - 4) + SN z (j - 4))) (nI_add (nS (SN z) (j - 4)) (SN z (j - 4))) ?_
                refine q_istore_n hX [(3, .int (nI (nS (SN z) (j - 4) + SN z (j - 4)))), (0, .ref (G.2.2 192)), (1, .int (nI (nS (a_m z) (nA z)))), (2, .int (nI (nS (a_b z) (nA z)))), (4, .int (nI (nA z))), (5, .int (nI j))] dL_adds_79 (by decide) rfl ?_
                refine q_iinc hX (nI (j + 1)) 5 [(5, .int (nI (j + 1))), (3, .int (nI (nS (SN z) (j - 4) + SN z (j - 4)))), (0, .ref (G.2.2 192)), (1, .int (nI (nS (a_m z) (nA z)))), (2, .int (nI (nS (a_b z) (nA z)))), (4, .int (nI (nA z)))] dL_adds_80 rfl (nI_1 j) (by decide) rfl ?_
                refine q_goto hX 64 dL_adds_83 (by decide) ?_
                refine q_sub [2, 3, 4, 1, 5, 0] [(0, .ref (G.2.2 192)), (1, .int (nI (nS (a_m z) (nA z)))), (2, .int (nI (nS (a_b z) (nA z)))), (3, .int (nI (nS (SN z) (j - 4) + SN z (j - 4)))), (4, .int (nI (nA z))), (5, .int (nI (j + 1)))] rfl ?_
                have el3 : (nI (nS (SN z) (j - 4) + SN z (j - 4)) : Int32) = nI (nS (SN z) ((j + 1) - 4)) := by rw [show j + 1 - 4 = (j - 4) + 1 from by omega]; rfl
                refine q_lv (lv' := [(0, .ref (G.2.2 192)), (1, .int (nI (nS (a_m z) (nA z)))), (2, .int (nI (nS (a_b z) (nA z)))), (3, .int (nI (nS (SN z) ((j + 1) - 4)))), (4, .int (nI (nA z))), (5, .int (nI (j + 1)))]) (by rw [← el3]) ?_
                exact ih64 (j + 1) (by omega) (by omega) (by omega)
          refine q_sub [1, 2, 3, 4, 5, 0] [(0, .ref (G.2.2 192)), (1, .int (nI (nS (a_m z) (nA z)))), (2, .int (nI (nS (a_b z) (nA z)))), (3, .int 0), (4, .int (nI (nA z))), (5, .int 4)] rfl ?_
          have el3 : (0 : Int32) = nI (nS (SN z) (4 - 4)) := by rfl
          refine q_lv (lv' := [(0, .ref (G.2.2 192)), (1, .int (nI (nS (a_m z) (nA z)))), (2, .int (nI (nS (a_b z) (nA z)))), (3, .int (nI (nS (SN z) (4 - 4)))), (4, .int (nI (nA z))), (5, .int 4)]) (by rw [← el3]) ?_
          have el5 : (4 : Int32) = nI 4 := by rfl
          refine q_lv (lv' := [(0, .ref (G.2.2 192)), (1, .int (nI (nS (a_m z) (nA z)))), (2, .int (nI (nS (a_b z) (nA z)))), (3, .int (nI (nS (SN z) (4 - 4)))), (4, .int (nI (nA z))), (5, .int (nI 4))]) (by rw [← el5]) ?_
          exact loop64 (11 + 1) 4 (by omega) (by decide) (by decide)
        · -- on 22
          have nc1 : ¬ ((NC z : Nat) ≤ c) := fun q => c1 ((nI_leI (a := NC z) (b := c) (by omega) (by omega)).mpr q)
          refine q_iload_n hX 1 dL_adds_22 rfl ?_
          refine q_aload_n hX 0 dL_adds_23 rfl ?_
          refine q_iload hX 5 dL_adds_24 rfl ?_
          refine q_iconst hX 4 dL_adds_26 (by decide) ?_
          refine q_cv hX hG (by decide) (by decide) (As := [.int (nI c), .int 4]) (rest := [.int (nI (nS (PB z) c))]) (c_X6_climber l G z (c := (nI c)) (w := 4) (hI := hJ.io)) k_L_adds_X6_climber (fun _ _ => rfl) rfl rfl (Nat.le_of_ble_eq_true rfl) dL_adds_27 ?_
          refine q_top (nI (PB z c)) (cp4 hJ (by omega)) ?_
          refine q_iadd hX dL_adds_30 ?_
          refine q_top (nI (nS (PB z) c + PB z c)) (nI_add (nS (PB z) c) (PB z c)) ?_
          refine q_istore_n hX [(1, .int (nI (nS (PB z) c + PB z c))), (0, .ref (G.2.2 192)), (2, .int (nI (nS (BB z) c))), (3, .int 0), (4, .int (nI (nS (CB z) c))), (5, .int (nI c))] dL_adds_31 (by decide) rfl ?_
          refine q_iload_n hX 2 dL_adds_32 rfl ?_
          refine q_aload_n hX 1 dL_adds_33 rfl ?_
          refine q_iload hX 5 dL_adds_34 rfl ?_
          refine q_iconst hX 5 dL_adds_36 (by decide) ?_
          refine q_cv hX hG (by decide) (by decide) (As := [.int (nI c), .int 5]) (rest := [.int (nI (nS (BB z) c))]) (c_X6_climber l G z (c := (nI c)) (w := 5) (hI := hJ.io)) k_L_adds_X6_climber (fun _ _ => rfl) rfl rfl (Nat.le_of_ble_eq_true rfl) dL_adds_37 ?_
          refine q_top (nI (BB z c)) (cp5 hJ (by omega)) ?_
          refine q_iadd hX dL_adds_40 ?_
          refine q_top (nI (nS (BB z) c + BB z c)) (nI_add (nS (BB z) c) (BB z c)) ?_
          refine q_istore_n hX [(2, .int (nI (nS (BB z) c + BB z c))), (1, .int (nI (nS (PB z) c + PB z c))), (0, .ref (G.2.2 192)), (3, .int 0), (4, .int (nI (nS (CB z) c))), (5, .int (nI c))] dL_adds_41 (by decide) rfl ?_
          refine q_iload hX 4 dL_adds_42 rfl ?_
          refine q_aload_n hX 2 dL_adds_44 rfl ?_
          refine q_iload hX 5 dL_adds_45 rfl ?_
          refine q_bipush hX 6 dL_adds_47 (by decide) ?_
          refine q_cv hX hG (by decide) (by decide) (As := [.int (nI c), .int 6]) (rest := [.int (nI (nS (CB z) c))]) (c_X6_climber l G z (c := (nI c)) (w := 6) (hI := hJ.io)) k_L_adds_X6_climber (fun _ _ => rfl) rfl rfl (Nat.le_of_ble_eq_true rfl) dL_adds_49 ?_
          refine q_top (nI (CB z c)) (cp6 hJ (by omega)) ?_
          refine q_iadd hX dL_adds_52 ?_
          refine q_top (nI (nS (CB z) c + CB z c)) (nI_add (nS (CB z) c) (CB z c)) ?_
          refine q_istore hX [(4, .int (nI (nS (CB z) c + CB z c))), (2, .int (nI (nS (BB z) c + BB z c))), (1, .int (nI (nS (PB z) c + PB z c))), (0, .ref (G.2.2 192)), (3, .int 0), (5, .int (nI c))] dL_adds_53 (by decide) rfl ?_
          refine q_iinc hX (nI (c + 1)) 5 [(5, .int (nI (c + 1))), (4, .int (nI (nS (CB z) c + CB z c))), (2, .int (nI (nS (BB z) c + BB z c))), (1, .int (nI (nS (PB z) c + PB z c))), (0, .ref (G.2.2 192)), (3, .int 0)] dL_adds_55 rfl (nI_1 c) (by decide) rfl ?_
          refine q_goto hX 12 dL_adds_58 (by decide) ?_
          refine q_sub [4, 3, 2, 5, 1, 0] [(0, .ref (G.2.2 192)), (1, .int (nI (nS (PB z) c + PB z c))), (2, .int (nI (nS (BB z) c + BB z c))), (3, .int 0), (4, .int (nI (nS (CB z) c + CB z c))), (5, .int (nI (c + 1)))] rfl ?_
          have el1 : (nI (nS (PB z) c + PB z c) : Int32) = nI (nS (PB z) (c + 1)) := by rfl
          refine q_lv (lv' := [(0, .ref (G.2.2 192)), (1, .int (nI (nS (PB z) (c + 1)))), (2, .int (nI (nS (BB z) c + BB z c))), (3, .int 0), (4, .int (nI (nS (CB z) c + CB z c))), (5, .int (nI (c + 1)))]) (by rw [← el1]) ?_
          have el2 : (nI (nS (BB z) c + BB z c) : Int32) = nI (nS (BB z) (c + 1)) := by rfl
          refine q_lv (lv' := [(0, .ref (G.2.2 192)), (1, .int (nI (nS (PB z) (c + 1)))), (2, .int (nI (nS (BB z) (c + 1)))), (3, .int 0), (4, .int (nI (nS (CB z) c + CB z c))), (5, .int (nI (c + 1)))]) (by rw [← el2]) ?_
          have el4 : (nI (nS (CB z) c + CB z c) : Int32) = nI (nS (CB z) (c + 1)) := by rfl
          refine q_lv (lv' := [(0, .ref (G.2.2 192)), (1, .int (nI (nS (PB z) (c + 1)))), (2, .int (nI (nS (BB z) (c + 1)))), (3, .int 0), (4, .int (nI (nS (CB z) (c + 1)))), (5, .int (nI (c + 1)))]) (by rw [← el4]) ?_
          exact ih12 (c + 1) (by omega) (by omega)
    refine q_sub [5, 4, 3, 2, 1, 0] [(0, .ref (G.2.2 192)), (1, .int 0), (2, .int 0), (3, .int 0), (4, .int 0), (5, .int 0)] rfl ?_
    have el1 : (0 : Int32) = nI (nS (PB z) 0) := by rfl
    refine q_lv (lv' := [(0, .ref (G.2.2 192)), (1, .int (nI (nS (PB z) 0))), (2, .int 0), (3, .int 0), (4, .int 0), (5, .int 0)]) (by rw [← el1]) ?_
    have el2 : (0 : Int32) = nI (nS (BB z) 0) := by rfl
    refine q_lv (lv' := [(0, .ref (G.2.2 192)), (1, .int (nI (nS (PB z) 0))), (2, .int (nI (nS (BB z) 0))), (3, .int 0), (4, .int 0), (5, .int 0)]) (by rw [← el2]) ?_
    have el4 : (0 : Int32) = nI (nS (CB z) 0) := by rfl
    refine q_lv (lv' := [(0, .ref (G.2.2 192)), (1, .int (nI (nS (PB z) 0))), (2, .int (nI (nS (BB z) 0))), (3, .int 0), (4, .int (nI (nS (CB z) 0))), (5, .int 0)]) (by rw [← el4]) ?_
    have el5 : (0 : Int32) = nI 0 := by rfl
    refine q_lv (lv' := [(0, .ref (G.2.2 192)), (1, .int (nI (nS (PB z) 0))), (2, .int (nI (nS (BB z) 0))), (3, .int 0), (4, .int (nI (nS (CB z) 0))), (5, .int (nI 0))]) (by rw [← el5]) ?_
    exact loop12 (NC z + 1) 0 (by omega) (Nat.zero_le _)
