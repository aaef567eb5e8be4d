/-! ===== the law's own: ends of days ===== -/
theorem u2_cg {y m : St} (h : ∀ f, f < 75 → y f = m f) (g i : Nat) (v : Int32) : ∀ f, f < 75 → u2 y g i v f = u2 m g i v f := by
  intro f hf
  funext j
  unfold u2
  split
  · rfl
  · rw [h f hf]
theorem judge1_cg {y m : St} (h : ∀ f, f < 75 → y f = m f) (a : Nat) : ∀ f, f < 75 → judge1 y a f = judge1 m a f := by
  intro f hf
  unfold judge1 strikeZ
  have e : ∀ g, g ≠ 15 → u2 y 15 a 6 g = y g := fun g hg => u2_f hg
  have e' : ∀ g, g ≠ 15 → u2 m 15 a 6 g = m g := fun g hg => u2_f hg
  rw [e 9 (by decide), e 10 (by decide), e' 9 (by decide), e' 10 (by decide), h 15 (by decide), h 13 (by decide), h 0 (by decide), h 18 (by decide), h 11 (by decide), h 4 (by decide), h 9 (by decide), h 10 (by decide)]
  split
  · split
    · split
      · exact u2_cg (u2_cg (u2_cg (u2_cg h _ _ _) _ _ _) _ _ _) _ _ _ f hf
      · exact u2_cg (u2_cg h _ _ _) _ _ _ f hf
    · exact u2_cg h _ _ _ f hf
  · exact h f hf
theorem judgeK_cg {y m : St} (h : ∀ f, f < 75 → y f = m f) : ∀ k, (∀ f, f < 75 → judgeK y k f = judgeK m k f) ∧ missedK y k = missedK m k := by
  intro k
  induction k with
  | zero => exact ⟨h, rfl⟩
  | succ k ih =>
    refine ⟨fun f hf => judge1_cg ih.1 k f hf, ?_⟩
    rw [missedK, missedK, ih.2]
    unfold missed1
    rw [ih.1 15 (by decide), ih.1 13 (by decide), ih.1 0 (by decide), ih.1 18 (by decide)]
theorem spEnd_hi (z : St) {f : Nat} (hf : 20 ≤ f) : (spEnd z).2 f = z f := by
  unfold spEnd
  split
  · rfl
  · show u2 _ _ _ _ f = z f
    rw [u2_f (by omega)]
    funext i
    rw [loseK_ne (Or.inl (by omega)), judgeK_lo _ _ (by omega)]
theorem end_law {z w : St} {b : Nat} (hJ : JI z b) (h : Same w z) (hb : b + 100 ≤ 50000) (hT : TN z < 59) : ∃ y, (∀ f, f < 75 → y f = (spEnd w).2 f) ∧ (∀ i, i < 3 → y (75 + i) = w (75 + i)) ∧ JI y (b + 100) ∧ (spEnd w).1 = missedK z (nA z) ∧ nA y = nA z ∧ NC y = NC z ∧ TN y = TN z + 1 ∧
    (∀ a, a < nA z → a_d z a = TN z → (a_s z a = 0 → a_s y a = 2) ∧ (a_s z a = 1 → a_s y a = if z 18 a = 0 then 6 else 5) ∧ (a_s z a ≠ 0 → a_s z a ≠ 1 → a_s y a = a_s z a)) ∧ y 9 = judgeK z (nA z) 9 ∧ y 10 = judgeK z (nA z) 10 := by
  have h75 : ∀ f, f < 75 → w f = z f := fun f hf => h f (Or.inl hf)
  have eT : TN w = TN z := by unfold TN; rw [h75 0 (by decide)]
  have en : nA w = nA z := by unfold nA; rw [h75 3 (by decide)]
  have ec : NC w = NC z := by unfold NC; rw [h75 2 (by decide)]
  obtain ⟨hj, hm⟩ := judgeK_cg h75 (nA z)
  obtain ⟨y, g1, g2, g3, g4, g5, g6, g7, g8, g9, g10⟩ := end_step (h.ji hJ) hb (by rw [eT]; exact hT)
  rw [en] at g4 g5 g9 g10
  rw [ec] at g6
  rw [eT] at g7
  refine ⟨y, g1, g2, g3, by rw [g4, hm], g5, g6, g7, fun a ha hd => ?_, by rw [g9, hj 9 (by decide)], by rw [g10, hj 10 (by decide)]⟩
  have := g8 a (by omega) (by unfold a_d at hd ⊢; rw [h75 13 (by decide), eT]; exact hd)
  unfold a_s at this ⊢
  rw [h75 15 (by decide), h75 18 (by decide)] at this
  exact this
def edN (z : St) (a : Nat) : Nat := if a_d z a = TN z then (if a_s z a = 1 then (if z 18 a = 0 then 10 else 11) else a_s z a) else 9
theorem ed_9 {z : St} {a : Nat} (h : ¬ a_d z a = TN z) : edN z a = 9 := if_neg h
theorem ed_s {z : St} {a : Nat} (h : a_d z a = TN z) (h1 : ¬ a_s z a = 1) : edN z a = a_s z a := by unfold edN; rw [if_pos h, if_neg h1]
theorem ed_1 {z : St} {b : Nat} (hJ : JI z b) {a : Nat} (ha : a < nA z) (h : a_d z a = TN z) (h1 : a_s z a = 1) : (10 : Int32) + z 18 a = nI (edN z a) := by
  unfold edN
  rw [if_pos h, if_pos h1]
  rcases hJ.oi.h18 a (hJ.ap ha).2.2.2.2.2 with e | e
  · rw [e, if_pos rfl]; rfl
  · rw [e, if_neg (by decide)]; rfl
theorem ed_le {z : St} {b : Nat} (hJ : JI z b) {a : Nat} (ha : a < nA z) : edN z a ≤ 11 := by
  have := (hJ.ap ha).2.2.2.2.1.2
  unfold edN
  split
  · split
    · split <;> omega
    · omega
  · omega
theorem ed_10 {z : St} {b : Nat} (hJ : JI z b) {a : Nat} (ha : a < nA z) : edN z a = 10 ↔ (a_d z a = TN z ∧ a_s z a = 1 ∧ z 18 a = 0) := by
  have := (hJ.ap ha).2.2.2.2.1.2
  unfold edN
  by_cases h : a_d z a = TN z
  · rw [if_pos h]
    by_cases h1 : a_s z a = 1
    · rw [if_pos h1]
      by_cases h2 : z 18 a = 0
      · rw [if_pos h2]; exact ⟨fun _ => ⟨h, h1, h2⟩, fun _ => rfl⟩
      · rw [if_neg h2]; exact ⟨fun q => by omega, fun q => absurd q.2.2 h2⟩
    · rw [if_neg h1]; exact ⟨fun q => by omega, fun q => absurd q.2.1 h1⟩
  · rw [if_neg h]; exact ⟨fun q => by omega, fun q => absurd q.1 h⟩
def exN (z : St) (a : Nat) : Nat := if edN z a = 0 then 2 else if edN z a = 10 then 6 else if edN z a = 11 then 5 else edN z a
theorem ex_le {z : St} {b : Nat} (hJ : JI z b) {a : Nat} (ha : a < nA z) : exN z a ≤ 11 := by
  have := ed_le hJ ha
  unfold exN
  (repeat' split) <;> omega
theorem ex_ok {z y : St} {b : Nat} (hJ : JI z b) {a : Nat} (ha : a < nA z) (h9 : ¬ edN z a = 9) (h : a_d z a = TN z → (a_s z a = 0 → a_s y a = 2) ∧ (a_s z a = 1 → a_s y a = if z 18 a = 0 then 6 else 5) ∧ (a_s z a ≠ 0 → a_s z a ≠ 1 → a_s y a = a_s z a)) : a_s y a = exN z a := by
  have s7 := (hJ.ap ha).2.2.2.2.1.2
  by_cases hd : a_d z a = TN z
  · obtain ⟨h0, h1, h2⟩ := h hd
    unfold exN edN
    rw [if_pos hd]
    by_cases q : a_s z a = 1
    · rw [if_pos q, h1 q]
      by_cases t : z 18 a = 0
      · rw [if_pos t, if_pos t]; rfl
      · rw [if_neg t, if_neg t]; rfl
    · rw [if_neg q]
      by_cases q0 : a_s z a = 0
      · rw [if_pos q0, h0 q0]
      · rw [if_neg q0, if_neg (by omega), if_neg (by omega), h2 q0 q]
  · exact absurd (ed_9 hd) h9
theorem max_law (x y : Int32) : (x ≤ y → y = if x < y then y else x) ∧ (¬ x ≤ y → x = if x < y then y else x) := by
  constructor
  · intro h
    by_cases q : x < y
    · rw [if_pos q]
    · rw [if_neg q]; exact (Int32.le_antisymm h (Int32.not_lt.mp q)).symm
  · intro h
    rw [if_neg (fun q => h (Int32.le_of_lt q))]
theorem upd_cg {f g : Nat → Int32} {n c i : Nat} {v : Int32} (h : ∀ i, i < n → f i = g i) (hi : i < n) : upd f c v i = upd g c v i := by
  unfold upd
  split
  · rfl
  · exact h i hi
theorem upd_upd {f : Nat → Int32} {c : Nat} {v v' : Int32} : upd (upd f c v) c v' = upd f c v' := by
  funext i
  unfold upd
  split <;> rfl

def rm_L_ends : Room := { frames := 4, cells := 3, slots := 64, locals := 90 }
theorem k_L_ends_X6_application : CW rm_L_ends wsL_ends RL RX6 68 yX6_application cX6_application 4 (some .int) wsX6_application rm_X6_application 2 := ⟨gL_ends_X6_application, ⟨_, rfl⟩, rfl, rfl, ⟨rfl, by decide +kernel, by decide +kernel, by decide +kernel⟩, by decide, by decide⟩
theorem k_L_ends_X6_climber : CW rm_L_ends wsL_ends RL RX6 65 yX6_climber cX6_climber 3 (some .int) wsX6_climber rm_X6_climber 2 := ⟨gL_ends_X6_climber, ⟨_, rfl⟩, rfl, rfl, ⟨rfl, by decide +kernel, by decide +kernel, by decide +kernel⟩, by decide, by decide⟩
theorem k_L_ends_X6_count : CW rm_L_ends wsL_ends RL RX6 57 yX6_count cX6_count 2 (some .int) wsX6_count rm_X6_count 1 := ⟨gL_ends_X6_count, ⟨_, rfl⟩, rfl, rfl, ⟨rfl, by decide +kernel, by decide +kernel, by decide +kernel⟩, by decide, by decide⟩
theorem k_L_ends_X6_end : CW rm_L_ends wsL_ends RL RX6 107 yX6_end cX6_end 2 (some .int) wsX6_end rm_X6_end 0 := ⟨gL_ends_X6_end, ⟨_, rfl⟩, rfl, rfl, ⟨rfl, by decide +kernel, by decide +kernel, by decide +kernel⟩, by decide, by decide⟩
set_option maxHeartbeats 4000000 in
set_option maxRecDepth 100000 in
theorem c_L_ends (l : Launch) (G : MG) (B : Nat) (E : State → Prop) (hG : GB B G) (hE : KMv (AB B) E) (z : St) {b : Nat} (hJ : JI z b) (hb : b + 100 ≤ 50000) : CL l G B E yL_ends wsL_ends rm_L_ends [.ref (G.2.2 192)] z (fun ρ ζ => ρ = 1 ∧ JI ζ (b + 100)) 3 64 := by
  refine cl_of (own := RL) (cc := cL_ends) (maxL := 9) (ret := .boolean) hG hE (by decide +kernel) rfl rfl ?_ (Nat.le_of_ble_eq_true rfl) ?_
  · rintro v z' ⟨rfl, -⟩; rfl
  · intro X hX ret
    refine q_lv (lv' := [(0, .ref (G.2.2 192))]) rfl ?_
    have hT := hJ.t0.2
    obtain ⟨-, hN6, hN1⟩ := hJ.nr
    obtain ⟨-, hC12, hC1⟩ := hJ.nc
    obtain ⟨-, hA40⟩ := hJ.na
    refine q_aload_n hX 0 dL_ends_0 rfl ?_
    refine q_iconst hX 0 dL_ends_1 (by decide) ?_
    refine q_cv hX hG (by decide) (by decide) (As := [.int 0]) (rest := []) (c_X6_count l G z (w := 0) (hI := hJ.io)) k_L_ends_X6_count (fun _ _ => rfl) rfl rfl (Nat.le_of_ble_eq_true rfl) dL_ends_2 ?_
    refine q_top (nI (TN z)) (ct0 hJ) ?_
    refine q_istore_n hX [(1, .int (nI (TN z))), (0, .ref (G.2.2 192))] dL_ends_5 (by decide) rfl ?_
    refine q_iload_n hX 0 dL_ends_6 rfl ?_
    refine q_bipush hX 59 dL_ends_7 (by decide) ?_
    refine q_ic_ne hX 27 dL_ends_9 (by decide) (fun c1 => ?_) (fun c1 => ?_)
    · -- jump 27
      have nc1 : ¬ ((TN z : Nat) = 59) := fun q => c1 ((nI_eq (a := TN z) (b := 59) (by omega) (by omega)).mpr q)
      refine q_aload_n hX 1 dL_ends_27 rfl ?_
      refine q_iconst hX 3 dL_ends_28 (by decide) ?_
      refine q_cv hX hG (by decide) (by decide) (As := [.int 3]) (rest := []) (c_X6_count l G z (w := 3) (hI := hJ.io)) k_L_ends_X6_count (fun _ _ => rfl) rfl rfl (Nat.le_of_ble_eq_true rfl) dL_ends_29 ?_
      refine q_top (nI (nA z)) (ct3 hJ) ?_
      refine q_istore_n hX [(2, .int (nI (nA z))), (1, .int (nI (TN z))), (0, .ref (G.2.2 192))] dL_ends_32 (by decide) rfl ?_
      refine q_bipush hX 40 dL_ends_33 (by decide) ?_
      refine q_newa hX (by rfl) (List.mem_of_getElem? (i := 1) rfl) (by decide) (by decide) dL_ends_35 (fun ar2 har2 => ?_)
      refine q_wid (kc2 := 1) (ks2 := 40) (by decide) (by decide) ?_
      obtain ⟨w0, hd0⟩ : ∃ y : St, y = (fun f i => if f = 75 + 0 then 0 else z f i) := ⟨_, rfl⟩
      refine q_z (z2 := w0) hd0.symm ?_
      have hw0 : Same w0 z := by rw [hd0]; exact Same.zero (Same.rfl' z) (by decide)
      have hj0 : JI w0 b := hw0.ji hJ
      refine q_astore_n hX [(3, .ref (ar2 0)), (2, .int (nI (nA z))), (1, .int (nI (TN z))), (0, .ref (G.2.2 192))] dL_ends_37 (by decide) rfl ?_
      refine q_bipush hX 12 dL_ends_38 (by decide) ?_
      refine q_newa hX (by rfl) (List.mem_of_getElem? (i := 1) rfl) (by decide) (by decide) dL_ends_40 (fun ar3 har3 => ?_)
      refine q_wid (kc2 := 2) (ks2 := 52) (by decide) (by decide) ?_
      refine q_lv (lv' := [(3, .ref (ar3 0)), (2, .int (nI (nA z))), (1, .int (nI (TN z))), (0, .ref (G.2.2 192))]) (by rw [har3 0 (by decide)]) ?_
      obtain ⟨w1, hd1⟩ : ∃ y : St, y = (fun f i => if f = 75 + 1 then 0 else w0 f i) := ⟨_, rfl⟩
      refine q_z (z2 := w1) hd1.symm ?_
      have hw1 : Same w1 z := by rw [hd1]; exact Same.zero hw0 (by decide)
      have hj1 : JI w1 b := hw1.ji hJ
      refine q_astore hX [(4, .ref (ar3 1)), (3, .ref (ar3 0)), (2, .int (nI (nA z))), (1, .int (nI (TN z))), (0, .ref (G.2.2 192))] dL_ends_42 (by decide) rfl ?_
      refine q_bipush hX 12 dL_ends_44 (by decide) ?_
      refine q_newa hX (by rfl) (List.mem_of_getElem? (i := 1) rfl) (by decide) (by decide) dL_ends_46 (fun ar4 har4 => ?_)
      refine q_wid (kc2 := 3) (ks2 := 64) (by decide) (by decide) ?_
      refine q_lv (lv' := [(4, .ref (ar4 1)), (3, .ref (ar4 0)), (2, .int (nI (nA z))), (1, .int (nI (TN z))), (0, .ref (G.2.2 192))]) (by rw [har4 0 (by decide), har4 1 (by decide)]) ?_
      obtain ⟨w2, hd2⟩ : ∃ y : St, y = (fun f i => if f = 75 + 2 then 0 else w1 f i) := ⟨_, rfl⟩
      refine q_z (z2 := w2) hd2.symm ?_
      have hw2 : Same w2 z := by rw [hd2]; exact Same.zero hw1 (by decide)
      have hj2 : JI w2 b := hw2.ji hJ
      refine q_astore hX [(5, .ref (ar4 2)), (4, .ref (ar4 1)), (3, .ref (ar4 0)), (2, .int (nI (nA z))), (1, .int (nI (TN z))), (0, .ref (G.2.2 192))] dL_ends_48 (by decide) rfl ?_
      refine q_iconst hX 0 dL_ends_50 (by decide) ?_
      refine q_istore hX [(6, .int 0), (5, .ref (ar4 2)), (4, .ref (ar4 1)), (3, .ref (ar4 0)), (2, .int (nI (nA z))), (1, .int (nI (TN z))), (0, .ref (G.2.2 192))] dL_ends_51 (by decide) rfl ?_
      refine q_iconst hX 0 dL_ends_53 (by decide) ?_
      refine q_istore hX [(7, .int 0), (6, .int 0), (5, .ref (ar4 2)), (4, .ref (ar4 1)), (3, .ref (ar4 0)), (2, .int (nI (nA z))), (1, .int (nI (TN z))), (0, .ref (G.2.2 192))] dL_ends_54 (by decide) rfl ?_
      have loop56 : ∀ (nf56 : Nat) (c : Nat) (w : St), (NC z < c + nf56) → (c ≤ NC z) → (Same w z) → (∀ i, i < c → w (75 + 1) i = z 9 i) → (∀ i, i < c → w (75 + 2) i = z 10 i) → LG X B 3 ar4 G 3 64 w 56 [(0, .ref (G.2.2 192)), (1, .int (nI (TN z))), (2, .int (nI (nA z))), (3, .ref (ar4 0)), (4, .ref (ar4 1)), (5, .ref (ar4 2)), (6, .int 0), (7, .int (nI c))] [] := by
        intro nf56
        induction nf56 with
        | zero =>
          intro c w hmu56 hc0 hwz h76 h77
          exfalso; omega
        | succ nf56 ih56 =>
          intro c w hmu56 hc0 hwz h76 h77
          have hw := hwz.ji hJ
          refine q_iload hX 7 dL_ends_56 rfl ?_
          refine q_aload_n hX 0 dL_ends_58 rfl ?_
          refine q_iconst hX 2 dL_ends_59 (by decide) ?_
          refine q_cv hX hG (by decide) (by decide) (As := [.int 2]) (rest := [.int (nI c)]) (c_X6_count l G w (w := 2) (hI := hw.io)) k_L_ends_X6_count (fun _ _ => rfl) rfl rfl (Nat.le_of_ble_eq_true rfl) dL_ends_60 ?_
          refine q_top (nI (NC z)) ((cg_count hwz).trans (ct2 hJ)) ?_
          refine q_ic_ge hX 96 dL_ends_63 (by decide) (fun c5 => ?_) (fun c5 => ?_)
          · -- jump 96
            have nc5 : ((NC z : Nat) ≤ c) := (nI_leI (a := NC z) (b := c) (by omega) (by omega)).mp c5
            refine q_iconst hX 0 dL_ends_96 (by decide) ?_
            refine q_istore hX [(7, .int 0), (0, .ref (G.2.2 192)), (1, .int (nI (TN z))), (2, .int (nI (nA z))), (3, .ref (ar4 0)), (4, .ref (ar4 1)), (5, .ref (ar4 2)), (6, .int 0)] dL_ends_97 (by decide) rfl ?_
            have loop99 : ∀ (nf99 : Nat) (k : Nat) (v : St), (nA z < k + nf99) → (k ≤ nA z) → (Same v z) → (∀ a, a < k → v (75 + 0) a = nI (edN z a)) → (∀ i, i < NC z → v (75 + 1) i = judgeK z k 9 i) → (∀ i, i < NC z → v (75 + 2) i = judgeK z k 10 i) → LG X B 3 ar4 G 3 64 v 99 [(0, .ref (G.2.2 192)), (1, .int (nI (TN z))), (2, .int (nI (nA z))), (3, .ref (ar4 0)), (4, .ref (ar4 1)), (5, .ref (ar4 2)), (6, .int (missedK z k)), (7, .int (nI k))] [] := by
              intro nf99
              induction nf99 with
              | zero =>
                intro k v hmu99 hk0 hvz hwas h76 h77
                exfalso; omega
              | succ nf99 ih99 =>
                intro k v hmu99 hk0 hvz hwas h76 h77
                have hv := hvz.ji hJ
                refine q_iload hX 7 dL_ends_99 rfl ?_
                refine q_iload_n hX 2 dL_ends_101 rfl ?_
                refine q_ic_ge hX 250 dL_ends_102 (by decide) (fun c6 => ?_) (fun c6 => ?_)
                · -- jump 250
                  have nc6 : ((nA z : Nat) ≤ k) := (nI_leI (a := nA z) (b := k) (by omega) (by omega)).mp c6
                  have ek : k = nA z := by omega
                  refine q_lv (lv' := [(0, .ref (G.2.2 192)), (1, .int (nI (TN z))), (2, .int (nI (nA z))), (3, .ref (ar4 0)), (4, .ref (ar4 1)), (5, .ref (ar4 2)), (6, .int (missedK z (nA z))), (7, .int (nI k))]) (by rw [ek]) ?_
                  refine q_aload_n hX 0 dL_ends_250 rfl ?_
                  refine q_cv hX hG (by decide) (by decide) (As := []) (rest := []) (c_X6_end l G hG.1 v  (hI := hv.io)) k_L_ends_X6_end (fun i hi => spEnd_hi _ (by omega)) rfl rfl (Nat.le_of_ble_eq_true rfl) dL_ends_251 ?_
                  obtain ⟨y, hyc, hy75, hy, eF, eny, enc, etn, yap, y9, y10⟩ := end_law hJ hvz (by omega) (by omega)
                  refine q_cg (z2 := y) hyc (fun i hi => by rw [hy75 i hi, spEnd_hi _ (by omega)]) ?_
                  refine q_top (missedK z (nA z)) eF ?_
                  have hya0 : ∀ a, a < nA z → y (75 + 0) a = nI (edN z a) := fun a ha => by rw [hy75 0 (by decide)]; exact hwas a (by omega)
                  have hya1 : ∀ i, i < NC z → y (75 + 1) i = judgeK z (nA z) 9 i := fun i hi => by rw [hy75 1 (by decide), ← ek]; exact h76 i hi
                  have hya2 : ∀ i, i < NC z → y (75 + 2) i = judgeK z (nA z) 10 i := fun i hi => by rw [hy75 2 (by decide), ← ek]; exact h77 i hi
                  refine q_iload hX 6 dL_ends_254 rfl ?_
                  refine q_ic_ne hX 270 dL_ends_256 (by decide) (fun c7 => ?_) (fun c7 => ?_)
                  · -- jump 270
                    exact absurd rfl c7
                  · -- on 259
                    refine q_aload_n hX 0 dL_ends_259 rfl ?_
                    refine q_iconst hX 0 dL_ends_260 (by decide) ?_
                    refine q_cv hX hG (by decide) (by decide) (As := [.int 0]) (rest := []) (c_X6_count l G y (w := 0) (hI := hy.io)) k_L_ends_X6_count (fun _ _ => rfl) rfl rfl (Nat.le_of_ble_eq_true rfl) dL_ends_261 ?_
                    refine q_top (nI (TN y)) (ct0 hy) ?_
                    refine q_iload_n hX 1 dL_ends_264 rfl ?_
                    refine q_iconst hX 1 dL_ends_265 (by decide) ?_
                    refine q_iadd hX dL_ends_266 ?_
                    refine q_top (nI (TN z + 1)) (nI_add (TN z) 1) ?_
                    refine q_ic_eq hX 272 dL_ends_267 (by decide) (fun c8 => ?_) (fun c8 => ?_)
                    · -- jump 272
                      have nc8 : ((TN y : Nat) = TN z + 1) := (nI_eq (a := TN y) (b := TN z + 1) (by omega) (by omega)).mp c8
                      refine q_iconst hX 0 dL_ends_272 (by decide) ?_
                      refine q_istore hX [(7, .int 0), (0, .ref (G.2.2 192)), (1, .int (nI (TN z))), (2, .int (nI (nA z))), (3, .ref (ar4 0)), (4, .ref (ar4 1)), (5, .ref (ar4 2)), (6, .int (missedK z (nA z)))] dL_ends_273 (by decide) rfl ?_
                      have loop275 : ∀ (nf275 : Nat) (x : Nat), (nA z < x + nf275) → (x ≤ nA z) → LG X B 3 ar4 G 3 64 y 275 [(0, .ref (G.2.2 192)), (1, .int (nI (TN z))), (2, .int (nI (nA z))), (3, .ref (ar4 0)), (4, .ref (ar4 1)), (5, .ref (ar4 2)), (7, .int (nI x))] [] := by
                        intro nf275
                        induction nf275 with
                        | zero =>
                          intro x hmu275 hx0
                          exfalso; omega
                        | succ nf275 ih275 =>
                          intro x hmu275 hx0
                          refine q_iload hX 6 dL_ends_275 rfl ?_
                          refine q_iload_n hX 2 dL_ends_277 rfl ?_
                          refine q_ic_ge hX 350 dL_ends_278 (by decide) (fun c9 => ?_) (fun c9 => ?_)
                          · -- jump 350
                            have nc9 : ((nA z : Nat) ≤ x) := (nI_leI (a := nA z) (b := x) (by omega) (by omega)).mp c9
                            refine q_iconst hX 0 dL_ends_350 (by decide) ?_
                            refine q_istore hX [(7, .int 0), (0, .ref (G.2.2 192)), (1, .int (nI (TN z))), (2, .int (nI (nA z))), (3, .ref (ar4 0)), (4, .ref (ar4 1)), (5, .ref (ar4 2))] dL_ends_351 (by decide) rfl ?_
                            have loop353 : ∀ (nf353 : Nat) (u : Nat), (NC z < u + nf353) → (u ≤ NC z) → LG X B 3 ar4 G 3 64 y 353 [(0, .ref (G.2.2 192)), (1, .int (nI (TN z))), (2, .int (nI (nA z))), (3, .ref (ar4 0)), (4, .ref (ar4 1)), (5, .ref (ar4 2)), (7, .int (nI u))] [] := by
                              intro nf353
                              induction nf353 with
                              | zero =>
                                intro u hmu353 hu0
                                exfalso; omega
                              | succ nf353 ih353 =>
                                intro u hmu353 hu0
                                refine q_iload hX 6 dL_ends_353 rfl ?_
                                refine q_aload_n hX 0 dL_ends_355 rfl ?_
                                refine q_iconst hX 2 dL_ends_356 (by decide) ?_
                                refine q_cv hX hG (by decide) (by decide) (As := [.int 2]) (rest := [.int (nI u)]) (c_X6_count l G y (w := 2) (hI := hy.io)) k_L_ends_X6_count (fun _ _ => rfl) rfl rfl (Nat.le_of_ble_eq_true rfl) dL_ends_357 ?_
                                refine q_top (nI (NC y)) (ct2 hy) ?_
                                refine q_ic_ge hX 401 dL_ends_360 (by decide) (fun c10 => ?_) (fun c10 => ?_)
                                · -- jump 401
                                  have nc10 : ((NC y : Nat) ≤ u) := (nI_leI (a := NC y) (b := u) (by omega) (by omega)).mp c10
                                  refine q_iconst hX 1 dL_ends_401 (by decide) ?_
                                  refine q_drop (ar2 := fun _ => 0) ?_
                                  refine ret _ _ _ _ _ _ (by decide) (by decide) dL_ends_402 ?_
                                  exact ⟨rfl, hy⟩
                                · -- on 363
                                  have nc10 : ¬ ((NC y : Nat) ≤ u) := fun q => c10 ((nI_leI (a := NC y) (b := u) (by omega) (by omega)).mpr q)
                                  refine q_aload_n hX 0 dL_ends_363 rfl ?_
                                  refine q_iload hX 6 dL_ends_364 rfl ?_
                                  refine q_iconst hX 1 dL_ends_366 (by decide) ?_
                                  refine q_cv hX hG (by decide) (by decide) (As := [.int (nI u), .int 1]) (rest := []) (c_X6_climber l G y (c := (nI u)) (w := 1) (hI := hy.io)) k_L_ends_X6_climber (fun _ _ => rfl) rfl rfl (Nat.le_of_ble_eq_true rfl) dL_ends_367 ?_
                                  refine q_top (y 9 u) (cl1 hy (c := u) (by omega)) ?_
                                  refine q_aload hX 4 dL_ends_370 rfl ?_
                                  refine q_iload hX 6 dL_ends_372 rfl ?_
                                  refine q_iald hX 1 (by decide) u rfl (show u < arL 1 from (by omega : u < 12)) dL_ends_374 ?_
                                  refine q_top (judgeK z (nA z) 9 u) (hya1 u (by omega)) ?_
                                  refine q_ic_ne hX 393 dL_ends_375 (by decide) (fun c11 => ?_) (fun c11 => ?_)
                                  · -- jump 393
                                    exact absurd (by rw [y9]) c11
                                  · -- on 378
                                    refine q_aload_n hX 0 dL_ends_378 rfl ?_
                                    refine q_iload hX 6 dL_ends_379 rfl ?_
                                    refine q_iconst hX 2 dL_ends_381 (by decide) ?_
                                    refine q_cv hX hG (by decide) (by decide) (As := [.int (nI u), .int 2]) (rest := []) (c_X6_climber l G y (c := (nI u)) (w := 2) (hI := hy.io)) k_L_ends_X6_climber (fun _ _ => rfl) rfl rfl (Nat.le_of_ble_eq_true rfl) dL_ends_382 ?_
                                    refine q_top (y 10 u) (cl2 hy (c := u) (by omega)) ?_
                                    refine q_aload hX 5 dL_ends_385 rfl ?_
                                    refine q_iload hX 6 dL_ends_387 rfl ?_
                                    refine q_iald hX 2 (by decide) u rfl (show u < arL 2 from (by omega : u < 12)) dL_ends_389 ?_
                                    refine q_top (judgeK z (nA z) 10 u) (hya2 u (by omega)) ?_
                                    refine q_ic_eq hX 395 dL_ends_390 (by decide) (fun c12 => ?_) (fun c12 => ?_)
                                    · -- jump 395
                                      refine q_iinc hX (nI (u + 1)) 6 [(7, .int (nI (u + 1))), (0, .ref (G.2.2 192)), (1, .int (nI (TN z))), (2, .int (nI (nA z))), (3, .ref (ar4 0)), (4, .ref (ar4 1)), (5, .ref (ar4 2))] dL_ends_395 rfl (nI_1 u) (by decide) rfl ?_
                                      refine q_goto hX 353 dL_ends_398 (by decide) ?_
                                      refine q_sub [1, 2, 3, 4, 5, 6, 0] [(0, .ref (G.2.2 192)), (1, .int (nI (TN z))), (2, .int (nI (nA z))), (3, .ref (ar4 0)), (4, .ref (ar4 1)), (5, .ref (ar4 2)), (7, .int (nI (u + 1)))] rfl ?_
                                      exact ih353 (u + 1) (by omega) (by omega)
                                    · -- on 393
                                      exact absurd (by rw [y10]) c12
                            refine q_sub [1, 2, 3, 4, 5, 6, 0] [(0, .ref (G.2.2 192)), (1, .int (nI (TN z))), (2, .int (nI (nA z))), (3, .ref (ar4 0)), (4, .ref (ar4 1)), (5, .ref (ar4 2)), (7, .int 0)] rfl ?_
                            have el7 : (0 : Int32) = nI 0 := by rfl
                            refine q_lv (lv' := [(0, .ref (G.2.2 192)), (1, .int (nI (TN z))), (2, .int (nI (nA z))), (3, .ref (ar4 0)), (4, .ref (ar4 1)), (5, .ref (ar4 2)), (7, .int (nI 0))]) (by rw [← el7]) ?_
                            exact loop353 (NC z + 1) 0 (by omega) (Nat.zero_le _)
                          · -- on 281
                            have nc9 : ¬ ((nA z : Nat) ≤ x) := fun q => c9 ((nI_leI (a := nA z) (b := x) (by omega) (by omega)).mpr q)
                            have hk : x < nA z := by omega
                            have hel := ed_le hJ hk
                            have hxl := ex_le hJ hk
                            have hky : x < nA y := by omega
                            have ys7 := (hy.ap hky).2.2.2.2.1.2
                            refine q_aload_n hX 3 dL_ends_281 rfl ?_
                            refine q_iload hX 6 dL_ends_282 rfl ?_
                            refine q_iald hX 0 (by decide) x rfl (show x < arL 0 from (by omega : x < 40)) dL_ends_284 ?_
                            refine q_top (nI (edN z x)) (hya0 x (by omega)) ?_
                            refine q_bipush hX 9 dL_ends_285 (by decide) ?_
                            refine q_ic_eq hX 344 dL_ends_287 (by decide) (fun c13 => ?_) (fun c13 => ?_)
                            · -- jump 344
                              have nc13 : ((edN z x : Nat) = 9) := (nI_eq (a := edN z x) (b := 9) (by omega) (by omega)).mp c13
                              refine q_iinc hX (nI (x + 1)) 6 [(7, .int (nI (x + 1))), (0, .ref (G.2.2 192)), (1, .int (nI (TN z))), (2, .int (nI (nA z))), (3, .ref (ar4 0)), (4, .ref (ar4 1)), (5, .ref (ar4 2))] dL_ends_344 rfl (nI_1 x) (by decide) rfl ?_
                              refine q_goto hX 275 dL_ends_347 (by decide) ?_
                              refine q_sub [1, 2, 3, 4, 5, 6, 0] [(0, .ref (G.2.2 192)), (1, .int (nI (TN z))), (2, .int (nI (nA z))), (3, .ref (ar4 0)), (4, .ref (ar4 1)), (5, .ref (ar4 2)), (7, .int (nI (x + 1)))] rfl ?_
                              exact ih275 (x + 1) (by omega) (by omega)
                            · -- on 290
                              have nc13 : ¬ ((edN z x : Nat) = 9) := fun q => c13 ((nI_eq (a := edN z x) (b := 9) (by omega) (by omega)).mpr q)
                              refine q_aload_n hX 0 dL_ends_290 rfl ?_
                              refine q_iload hX 6 dL_ends_291 rfl ?_
                              refine q_iconst hX 4 dL_ends_293 (by decide) ?_
                              refine q_cv hX hG (by decide) (by decide) (As := [.int (nI x), .int 4]) (rest := []) (c_X6_application l G y (a := (nI x)) (w := 4) (hI := hy.io)) k_L_ends_X6_application (fun _ _ => rfl) rfl rfl (Nat.le_of_ble_eq_true rfl) dL_ends_294 ?_
                              refine q_top (nI (a_s y x)) (ap4 hy (a := x) (by omega)) ?_
                              have km14 : LG X B 3 ar4 G 3 64 y 339 [(0, .ref (G.2.2 192)), (1, .int (nI (TN z))), (2, .int (nI (nA z))), (3, .ref (ar4 0)), (4, .ref (ar4 1)), (5, .ref (ar4 2)), (7, .int (nI x))] [.int (nI (exN z x)), .int (nI (a_s y x))] := by
                                refine q_ic_eq hX 344 dL_ends_339 (by decide) (fun c15 => ?_) (fun c15 => ?_)
                                · -- jump 344
                                  have nc15 : ((a_s y x : Nat) = exN z x) := (nI_eq (a := a_s y x) (b := exN z x) (by omega) (by omega)).mp c15
                                  refine q_iinc hX (nI (x + 1)) 6 [(7, .int (nI (x + 1))), (0, .ref (G.2.2 192)), (1, .int (nI (TN z))), (2, .int (nI (nA z))), (3, .ref (ar4 0)), (4, .ref (ar4 1)), (5, .ref (ar4 2))] dL_ends_344 rfl (nI_1 x) (by decide) rfl ?_
                                  refine q_goto hX 275 dL_ends_347 (by decide) ?_
                                  refine q_sub [1, 2, 3, 4, 5, 6, 0] [(0, .ref (G.2.2 192)), (1, .int (nI (TN z))), (2, .int (nI (nA z))), (3, .ref (ar4 0)), (4, .ref (ar4 1)), (5, .ref (ar4 2)), (7, .int (nI (x + 1)))] rfl ?_
                                  exact ih275 (x + 1) (by omega) (by omega)
                                · -- on 342
                                  have nc15 : ¬ ((a_s y x : Nat) = exN z x) := fun q => c15 ((nI_eq (a := a_s y x) (b := exN z x) (by omega) (by omega)).mpr q)
                                  refine q_iconst hX 0 dL_ends_342 (by decide) ?_
                                  exfalso
                                  have := ex_ok hJ hk (by omega) (yap x hk)
                                  omega
                              refine q_aload_n hX 3 dL_ends_297 rfl ?_
                              refine q_iload hX 6 dL_ends_298 rfl ?_
                              refine q_iald hX 0 (by decide) x rfl (show x < arL 0 from (by omega : x < 40)) dL_ends_300 ?_
                              refine q_top (nI (edN z x)) (hya0 x (by omega)) ?_
                              refine q_if_ne hX 308 dL_ends_301 (by decide) (fun c16 => ?_) (fun c16 => ?_)
                              · -- jump 308
                                have nc16 : ¬ ((edN z x : Nat) = 0) := fun q => c16 ((nI_eq (a := edN z x) (b := 0) (by omega) (by omega)).mpr q)
                                refine q_aload_n hX 3 dL_ends_308 rfl ?_
                                refine q_iload hX 6 dL_ends_309 rfl ?_
                                refine q_iald hX 0 (by decide) x rfl (show x < arL 0 from (by omega : x < 40)) dL_ends_311 ?_
                                refine q_top (nI (edN z x)) (hya0 x (by omega)) ?_
                                refine q_bipush hX 10 dL_ends_312 (by decide) ?_
                                refine q_ic_ne hX 322 dL_ends_314 (by decide) (fun c17 => ?_) (fun c17 => ?_)
                                · -- jump 322
                                  have nc17 : ¬ ((edN z x : Nat) = 10) := fun q => c17 ((nI_eq (a := edN z x) (b := 10) (by omega) (by omega)).mpr q)
                                  refine q_aload_n hX 3 dL_ends_322 rfl ?_
                                  refine q_iload hX 6 dL_ends_323 rfl ?_
                                  refine q_iald hX 0 (by decide) x rfl (show x < arL 0 from (by omega : x < 40)) dL_ends_325 ?_
                                  refine q_top (nI (edN z x)) (hya0 x (by omega)) ?_
                                  refine q_bipush hX 11 dL_ends_326 (by decide) ?_
                                  refine q_ic_ne hX 335 dL_ends_328 (by decide) (fun c18 => ?_) (fun c18 => ?_)
                                  · -- jump 335
                                    have nc18 : ¬ ((edN z x : Nat) = 11) := fun q => c18 ((nI_eq (a := edN z x) (b := 11) (by omega) (by omega)).mpr q)
                                    refine q_aload_n hX 3 dL_ends_335 rfl ?_
                                    refine q_iload hX 6 dL_ends_336 rfl ?_
                                    refine q_iald hX 0 (by decide) x rfl (show x < arL 0 from (by omega : x < 40)) dL_ends_338 ?_
                                    refine q_top (nI (edN z x)) (hya0 x (by omega)) ?_
                                    refine q_top (nI (exN z x)) (by
                                      first | (rw [show exN z x = 2 from if_pos (by omega)]; rfl) | (rw [show exN z x = 6 from (if_neg (by omega)).trans (if_pos (by omega))]; rfl) | (rw [show exN z x = 5 from (if_neg (by omega)).trans ((if_neg (by omega)).trans (if_pos (by omega)))]; rfl) | (rw [show exN z x = edN z x from (if_neg (by omega)).trans ((if_neg (by omega)).trans (if_neg (by omega)))])) ?_
                                    refine q_sub [0, 1, 2, 3, 4, 5, 6] [(0, .ref (G.2.2 192)), (1, .int (nI (TN z))), (2, .int (nI (nA z))), (3, .ref (ar4 0)), (4, .ref (ar4 1)), (5, .ref (ar4 2)), (7, .int (nI x))] rfl ?_
                                    exact km14
                                  · -- on 331
                                    have nc18 : ((edN z x : Nat) = 11) := (nI_eq (a := edN z x) (b := 11) (by omega) (by omega)).mp (Decidable.not_not.mp c18)
                                    refine q_iconst hX 5 dL_ends_331 (by decide) ?_
                                    refine q_goto hX 339 dL_ends_332 (by decide) ?_
                                    refine q_top (nI (exN z x)) (by
                                      first | (rw [show exN z x = 2 from if_pos (by omega)]; rfl) | (rw [show exN z x = 6 from (if_neg (by omega)).trans (if_pos (by omega))]; rfl) | (rw [show exN z x = 5 from (if_neg (by omega)).trans ((if_neg (by omega)).trans (if_pos (by omega)))]; rfl) | (rw [show exN z x = edN z x from (if_neg (by omega)).trans ((if_neg (by omega)).trans (if_neg (by omega)))])) ?_
                                    refine q_sub [0, 1, 2, 3, 4, 5, 6] [(0, .ref (G.2.2 192)), (1, .int (nI (TN z))), (2, .int (nI (nA z))), (3, .ref (ar4 0)), (4, .ref (ar4 1)), (5, .ref (ar4 2)), (7, .int (nI x))] rfl ?_
                                    exact km14
                                · -- on 317
                                  have nc17 : ((edN z x : Nat) = 10) := (nI_eq (a := edN z x) (b := 10) (by omega) (by omega)).mp (Decidable.not_not.mp c17)
                                  refine q_bipush hX 6 dL_ends_317 (by decide) ?_
                                  refine q_goto hX 339 dL_ends_319 (by decide) ?_
                                  refine q_top (nI (exN z x)) (by
                                    first | (rw [show exN z x = 2 from if_pos (by omega)]; rfl) | (rw [show exN z x = 6 from (if_neg (by omega)).trans (if_pos (by omega))]; rfl) | (rw [show exN z x = 5 from (if_neg (by omega)).trans ((if_neg (by omega)).trans (if_pos (by omega)))]; rfl) | (rw [show exN z x = edN z x from (if_neg (by omega)).trans ((if_neg (by omega)).trans (if_neg (by omega)))])) ?_
                                  refine q_sub [0, 1, 2, 3, 4, 5, 6] [(0, .ref (G.2.2 192)), (1, .int (nI (TN z))), (2, .int (nI (nA z))), (3, .ref (ar4 0)), (4, .ref (ar4 1)), (5, .ref (ar4 2)), (7, .int (nI x))] rfl ?_
                                  exact km14
                              · -- on 304
                                have nc16 : ((edN z x : Nat) = 0) := (nI_eq (a := edN z x) (b := 0) (by omega) (by omega)).mp (Decidable.not_not.mp c16)
                                refine q_iconst hX 2 dL_ends_304 (by decide) ?_
                                refine q_goto hX 339 dL_ends_305 (by decide) ?_
                                refine q_top (nI (exN z x)) (by
                                  first | (rw [show exN z x = 2 from if_pos (by omega)]; rfl) | (rw [show exN z x = 6 from (if_neg (by omega)).trans (if_pos (by omega))]; rfl) | (rw [show exN z x = 5 from (if_neg (by omega)).trans ((if_neg (by omega)).trans (if_pos (by omega)))]; rfl) | (rw [show exN z x = edN z x from (if_neg (by omega)).trans ((if_neg (by omega)).trans (if_neg (by omega)))])) ?_
                                refine q_sub [0, 1, 2, 3, 4, 5, 6] [(0, .ref (G.2.2 192)), (1, .int (nI (TN z))), (2, .int (nI (nA z))), (3, .ref (ar4 0)), (4, .ref (ar4 1)), (5, .ref (ar4 2)), (7, .int (nI x))] rfl ?_
                                exact km14
                      refine q_sub [1, 2, 3, 4, 5, 6, 0] [(0, .ref (G.2.2 192)), (1, .int (nI (TN z))), (2, .int (nI (nA z))), (3, .ref (ar4 0)), (4, .ref (ar4 1)), (5, .ref (ar4 2)), (7, .int 0)] rfl ?_
                      have el7 : (0 : Int32) = nI 0 := by rfl
                      refine q_lv (lv' := [(0, .ref (G.2.2 192)), (1, .int (nI (TN z))), (2, .int (nI (nA z))), (3, .ref (ar4 0)), (4, .ref (ar4 1)), (5, .ref (ar4 2)), (7, .int (nI 0))]) (by rw [← el7]) ?_
                      exact loop275 (nA z + 1) 0 (by omega) (Nat.zero_le _)
                    · -- on 270
                      have nc8 : ¬ ((TN y : Nat) = TN z + 1) := fun q => c8 ((nI_eq (a := TN y) (b := TN z + 1) (by omega) (by omega)).mpr q)
                      refine q_iconst hX 0 dL_ends_270 (by decide) ?_
                      exfalso
                      omega
                · -- on 105
                  have nc6 : ¬ ((nA z : Nat) ≤ k) := fun q => c6 ((nI_leI (a := nA z) (b := k) (by omega) (by omega)).mpr q)
                  have hk : k < nA z := by omega
                  obtain ⟨⟨-, hc1, hc2⟩, ⟨-, hr1, hr2⟩, ⟨-, hd6⟩, ⟨-, hp1, hp4⟩, ⟨-, hs7⟩, hk40⟩ := hJ.ap hk
                  have j4 := (hJ.aj hk).2.2.2.1.2
                  have j5 := (hJ.aj hk).2.2.2.2.1.2
                  have hel := ed_le hJ hk
                  refine q_aload_n hX 3 dL_ends_105 rfl ?_
                  refine q_iload hX 7 dL_ends_106 rfl ?_
                  have km19 : LG X B 3 ar4 G 3 64 v 156 [(0, .ref (G.2.2 192)), (1, .int (nI (TN z))), (2, .int (nI (nA z))), (3, .ref (ar4 0)), (4, .ref (ar4 1)), (5, .ref (ar4 2)), (6, .int (missedK z k)), (7, .int (nI k))] [.int (nI (edN z k)), .int (nI k), .ref (ar4 0)] := by
                    refine q_iast hX 0 (by decide) k rfl (show k < arL 0 from (by omega : k < 40)) dL_ends_156 ?_
                    obtain ⟨va, hdva⟩ : ∃ y : St, y = u2 v (75 + 0) k (nI (edN z k)) := ⟨_, rfl⟩
                    refine q_z (z2 := va) hdva.symm ?_
                    have hwva : Same va z := by rw [hdva]; exact Same.u2 hvz (by decide) (by decide)
                    have hjva : JI va b := hwva.ji hJ
                    refine q_aload_n hX 3 dL_ends_157 rfl ?_
                    refine q_iload hX 7 dL_ends_158 rfl ?_
                    refine q_iald hX 0 (by decide) k rfl (show k < arL 0 from (by omega : k < 40)) dL_ends_160 ?_
                    refine q_top (nI (edN z k)) (by rw [hdva]; exact u2_s _ _ _ _) ?_
                    refine q_bipush hX 10 dL_ends_161 (by decide) ?_
                    refine q_ic_ne hX 244 dL_ends_163 (by decide) (fun c20 => ?_) (fun c20 => ?_)
                    · -- jump 244
                      have nc20 : ¬ ((edN z k : Nat) = 10) := fun q => c20 ((nI_eq (a := edN z k) (b := 10) (by omega) (by omega)).mpr q)
                      have hn10 := fun q => nc20 ((ed_10 hJ hk).mpr q)
                      refine q_iinc hX (nI (k + 1)) 7 [(7, .int (nI (k + 1))), (0, .ref (G.2.2 192)), (1, .int (nI (TN z))), (2, .int (nI (nA z))), (3, .ref (ar4 0)), (4, .ref (ar4 1)), (5, .ref (ar4 2)), (6, .int (missedK z k))] dL_ends_244 rfl (nI_1 k) (by decide) rfl ?_
                      refine q_goto hX 99 dL_ends_247 (by decide) ?_
                      refine q_sub [1, 2, 3, 4, 5, 6, 7, 0] [(0, .ref (G.2.2 192)), (1, .int (nI (TN z))), (2, .int (nI (nA z))), (3, .ref (ar4 0)), (4, .ref (ar4 1)), (5, .ref (ar4 2)), (6, .int (missedK z k)), (7, .int (nI (k + 1)))] rfl ?_
                      have el6 : (missedK z k : Int32) = missedK z (k + 1) := by first | exact ((judge_step hJ hk).1 hn10).2.2.symm | exact ((judge_step hJ hk).2 hn10).1.symm
                      refine q_lv (lv' := [(0, .ref (G.2.2 192)), (1, .int (nI (TN z))), (2, .int (nI (nA z))), (3, .ref (ar4 0)), (4, .ref (ar4 1)), (5, .ref (ar4 2)), (6, .int (missedK z (k + 1))), (7, .int (nI (k + 1)))]) (by rw [← el6]) ?_
                      exact ih99 (k + 1) va (by omega) (by omega) hwva (by rw [hdva]; exact fill_step hwas rfl) (fun i hi => by rw [hdva, u2_f (by decide), ((judge_step hJ hk).1 hn10).1]; exact h76 i hi) (fun i hi => by rw [hdva, u2_f (by decide), ((judge_step hJ hk).1 hn10).2.1]; exact h77 i hi)
                    · -- on 166
                      have nc20 : ((edN z k : Nat) = 10) := (nI_eq (a := edN z k) (b := 10) (by omega) (by omega)).mp (Decidable.not_not.mp c20)
                      have hn10 := (ed_10 hJ hk).mp nc20
                      refine q_aload_n hX 0 dL_ends_166 rfl ?_
                      refine q_iload hX 7 dL_ends_167 rfl ?_
                      refine q_iconst hX 0 dL_ends_169 (by decide) ?_
                      refine q_cv hX hG (by decide) (by decide) (As := [.int (nI k), .int 0]) (rest := []) (c_X6_application l G va (a := (nI k)) (w := 0) (hI := hjva.io)) k_L_ends_X6_application (fun _ _ => rfl) rfl rfl (Nat.le_of_ble_eq_true rfl) dL_ends_170 ?_
                      refine q_top (nI (a_c z k)) ((cg_application hwva).trans (ap0 hJ (a := k) (by omega))) ?_
                      refine q_istore hX [(8, .int (nI (a_c z k))), (0, .ref (G.2.2 192)), (1, .int (nI (TN z))), (2, .int (nI (nA z))), (3, .ref (ar4 0)), (4, .ref (ar4 1)), (5, .ref (ar4 2)), (6, .int (missedK z k)), (7, .int (nI k))] dL_ends_173 (by decide) rfl ?_
                      refine q_iinc hX ((missedK z k) + 1) 7 [(6, .int ((missedK z k) + 1)), (8, .int (nI (a_c z k))), (0, .ref (G.2.2 192)), (1, .int (nI (TN z))), (2, .int (nI (nA z))), (3, .ref (ar4 0)), (4, .ref (ar4 1)), (5, .ref (ar4 2)), (7, .int (nI k))] dL_ends_175 rfl rfl (by decide) rfl ?_
                      refine q_aload hX 6 dL_ends_178 rfl ?_
                      refine q_iload hX 1 dL_ends_180 rfl ?_
                      refine q_dup2 hX dL_ends_182 rfl rfl ?_
                      refine q_iald hX 1 (by decide) (a_c z k) rfl (show a_c z k < arL 1 from (by omega : a_c z k < 12)) dL_ends_183 ?_
                      refine q_top (judgeK z k 9 (a_c z k)) (by rw [hdva, u2_f (by decide)]; exact h76 _ (by omega)) ?_
                      refine q_iconst hX 1 dL_ends_184 (by decide) ?_
                      refine q_iadd hX dL_ends_185 ?_
                      refine q_iast hX 1 (by decide) (a_c z k) rfl (show a_c z k < arL 1 from (by omega : a_c z k < 12)) dL_ends_186 ?_
                      obtain ⟨vb, hdvb⟩ : ∃ y : St, y = u2 va (75 + 1) (a_c z k) ((judgeK z k 9 (a_c z k)) + 1) := ⟨_, rfl⟩
                      refine q_z (z2 := vb) hdvb.symm ?_
                      have hwvb : Same vb z := by rw [hdvb]; exact Same.u2 hwva (by decide) (by decide)
                      have hjvb : JI vb b := hwvb.ji hJ
                      refine q_aload hX 6 dL_ends_187 rfl ?_
                      refine q_iload hX 1 dL_ends_189 rfl ?_
                      refine q_iald hX 1 (by decide) (a_c z k) rfl (show a_c z k < arL 1 from (by omega : a_c z k < 12)) dL_ends_191 ?_
                      refine q_top (judgeK z k 9 (a_c z k) + 1) (by rw [hdvb]; exact u2_s _ _ _ _) ?_
                      refine q_aload_n hX 2 dL_ends_192 rfl ?_
                      refine q_bipush hX 17 dL_ends_193 (by decide) ?_
                      refine q_cv hX hG (by decide) (by decide) (As := [.int 17]) (rest := [.int (judgeK z k 9 (a_c z k) + 1)]) (c_X6_count l G vb (w := 17) (hI := hjvb.io)) k_L_ends_X6_count (fun _ _ => rfl) rfl rfl (Nat.le_of_ble_eq_true rfl) dL_ends_195 ?_
                      refine q_top (z 4 2) ((cg_count hwvb).trans (ct17 hJ)) ?_
                      refine q_ic_lt hX 244 dL_ends_198 (by decide) (fun c21 => ?_) (fun c21 => ?_)
                      · -- jump 244
                        have hlt := c21
                        refine q_iinc hX (nI (k + 1)) 8 [(7, .int (nI (k + 1))), (6, .int ((missedK z k) + 1)), (8, .int (nI (a_c z k))), (0, .ref (G.2.2 192)), (1, .int (nI (TN z))), (2, .int (nI (nA z))), (3, .ref (ar4 0)), (4, .ref (ar4 1)), (5, .ref (ar4 2))] dL_ends_244 rfl (nI_1 k) (by decide) rfl ?_
                        refine q_goto hX 99 dL_ends_247 (by decide) ?_
                        refine q_sub [3, 4, 5, 6, 7, 8, 1, 0] [(0, .ref (G.2.2 192)), (1, .int (nI (TN z))), (2, .int (nI (nA z))), (3, .ref (ar4 0)), (4, .ref (ar4 1)), (5, .ref (ar4 2)), (6, .int ((missedK z k) + 1)), (7, .int (nI (k + 1)))] rfl ?_
                        have el6 : ((missedK z k) + 1 : Int32) = missedK z (k + 1) := by first | exact ((judge_step hJ hk).1 hn10).2.2.symm | exact ((judge_step hJ hk).2 hn10).1.symm
                        refine q_lv (lv' := [(0, .ref (G.2.2 192)), (1, .int (nI (TN z))), (2, .int (nI (nA z))), (3, .ref (ar4 0)), (4, .ref (ar4 1)), (5, .ref (ar4 2)), (6, .int (missedK z (k + 1))), (7, .int (nI (k + 1)))]) (by rw [← el6]) ?_
                        exact ih99 (k + 1) vb (by omega) (by omega) hwvb (by rw [hdvb, u2_f (by decide), hdva]; exact fill_step hwas rfl) (fun i hi => by rw [hdvb, u2_ff, hdva, u2_f (by decide), (((judge_step hJ hk).2 hn10).2.1 hlt).1]; exact upd_cg h76 hi) (fun i hi => by rw [hdvb, u2_f (by decide), hdva, u2_f (by decide), (((judge_step hJ hk).2 hn10).2.1 hlt).2]; exact h77 i hi)
                      · -- on 201
                        have hlt := c21
                        refine q_aload hX 6 dL_ends_201 rfl ?_
                        refine q_iload hX 1 dL_ends_203 rfl ?_
                        refine q_iconst hX 0 dL_ends_205 (by decide) ?_
                        refine q_iast hX 1 (by decide) (a_c z k) rfl (show a_c z k < arL 1 from (by omega : a_c z k < 12)) dL_ends_206 ?_
                        obtain ⟨vc, hdvc⟩ : ∃ y : St, y = u2 vb (75 + 1) (a_c z k) 0 := ⟨_, rfl⟩
                        refine q_z (z2 := vc) hdvc.symm ?_
                        have hwvc : Same vc z := by rw [hdvc]; exact Same.u2 hwvb (by decide) (by decide)
                        have hjvc : JI vc b := hwvc.ji hJ
                        refine q_aload hX 7 dL_ends_207 rfl ?_
                        refine q_iload hX 1 dL_ends_209 rfl ?_
                        have km22 : LG X B 3 ar4 G 3 64 vc 243 [(6, .int ((missedK z k) + 1)), (8, .int (nI (a_c z k))), (0, .ref (G.2.2 192)), (1, .int (nI (TN z))), (2, .int (nI (nA z))), (3, .ref (ar4 0)), (4, .ref (ar4 1)), (5, .ref (ar4 2)), (7, .int (nI k))] [.int (if judgeK z k 10 (a_c z k) < nI (TN z) + z 4 3 then nI (TN z) + z 4 3 else judgeK z k 10 (a_c z k)), .int (nI (a_c z k)), .ref (ar4 2)] := by
                          refine q_iast hX 2 (by decide) (a_c z k) rfl (show a_c z k < arL 2 from (by omega : a_c z k < 12)) dL_ends_243 ?_
                          obtain ⟨vd, hdvd⟩ : ∃ y : St, y = u2 vc (75 + 2) (a_c z k) (if judgeK z k 10 (a_c z k) < nI (TN z) + z 4 3 then nI (TN z) + z 4 3 else judgeK z k 10 (a_c z k)) := ⟨_, rfl⟩
                          refine q_z (z2 := vd) hdvd.symm ?_
                          have hwvd : Same vd z := by rw [hdvd]; exact Same.u2 hwvc (by decide) (by decide)
                          have hjvd : JI vd b := hwvd.ji hJ
                          refine q_iinc hX (nI (k + 1)) 8 [(7, .int (nI (k + 1))), (6, .int ((missedK z k) + 1)), (8, .int (nI (a_c z k))), (0, .ref (G.2.2 192)), (1, .int (nI (TN z))), (2, .int (nI (nA z))), (3, .ref (ar4 0)), (4, .ref (ar4 1)), (5, .ref (ar4 2))] dL_ends_244 rfl (nI_1 k) (by decide) rfl ?_
                          refine q_goto hX 99 dL_ends_247 (by decide) ?_
                          refine q_sub [3, 4, 5, 6, 7, 8, 1, 0] [(0, .ref (G.2.2 192)), (1, .int (nI (TN z))), (2, .int (nI (nA z))), (3, .ref (ar4 0)), (4, .ref (ar4 1)), (5, .ref (ar4 2)), (6, .int ((missedK z k) + 1)), (7, .int (nI (k + 1)))] rfl ?_
                          have el6 : ((missedK z k) + 1 : Int32) = missedK z (k + 1) := by first | exact ((judge_step hJ hk).1 hn10).2.2.symm | exact ((judge_step hJ hk).2 hn10).1.symm
                          refine q_lv (lv' := [(0, .ref (G.2.2 192)), (1, .int (nI (TN z))), (2, .int (nI (nA z))), (3, .ref (ar4 0)), (4, .ref (ar4 1)), (5, .ref (ar4 2)), (6, .int (missedK z (k + 1))), (7, .int (nI (k + 1)))]) (by rw [← el6]) ?_
                          exact ih99 (k + 1) vd (by omega) (by omega) hwvd (by rw [hdvd, u2_f (by decide), hdvc, u2_f (by decide), hdvb, u2_f (by decide), hdva]; exact fill_step hwas rfl) (fun i hi => by rw [hdvd, u2_f (by decide), hdvc, u2_ff, hdvb, u2_ff, hdva, u2_f (by decide), (((judge_step hJ hk).2 hn10).2.2 hlt).1, upd_upd]; exact upd_cg h76 hi) (fun i hi => by rw [hdvd, u2_ff, hdvc, u2_f (by decide), hdvb, u2_f (by decide), hdva, u2_f (by decide), (((judge_step hJ hk).2 hn10).2.2 hlt).2, hJ.t0.1]; exact upd_cg h77 hi)
                        refine q_aload hX 7 dL_ends_211 rfl ?_
                        refine q_iload hX 1 dL_ends_213 rfl ?_
                        refine q_iald hX 2 (by decide) (a_c z k) rfl (show a_c z k < arL 2 from (by omega : a_c z k < 12)) dL_ends_215 ?_
                        refine q_top (judgeK z k 10 (a_c z k)) (by rw [hdvc, u2_f (by decide), hdvb, u2_f (by decide), hdva, u2_f (by decide)]; exact h77 _ (by omega)) ?_
                        refine q_iload_n hX 3 dL_ends_216 rfl ?_
                        refine q_aload_n hX 2 dL_ends_217 rfl ?_
                        refine q_bipush hX 18 dL_ends_218 (by decide) ?_
                        refine q_cv hX hG (by decide) (by decide) (As := [.int 18]) (rest := [.int (nI (TN z)), .int (judgeK z k 10 (a_c z k)), .int (nI (a_c z k)), .ref (ar4 2)]) (c_X6_count l G vc (w := 18) (hI := hjvc.io)) k_L_ends_X6_count (fun _ _ => rfl) rfl rfl (Nat.le_of_ble_eq_true rfl) dL_ends_220 ?_
                        refine q_top (z 4 3) ((cg_count hwvc).trans (ct18 hJ)) ?_
                        refine q_iadd hX dL_ends_223 ?_
                        refine q_ic_le hX 235 dL_ends_224 (by decide) (fun c23 => ?_) (fun c23 => ?_)
                        · -- jump 235
                          refine q_iload_n hX 3 dL_ends_235 rfl ?_
                          refine q_aload_n hX 2 dL_ends_236 rfl ?_
                          refine q_bipush hX 18 dL_ends_237 (by decide) ?_
                          refine q_cv hX hG (by decide) (by decide) (As := [.int 18]) (rest := [.int (nI (TN z)), .int (nI (a_c z k)), .ref (ar4 2)]) (c_X6_count l G vc (w := 18) (hI := hjvc.io)) k_L_ends_X6_count (fun _ _ => rfl) rfl rfl (Nat.le_of_ble_eq_true rfl) dL_ends_239 ?_
                          refine q_top (z 4 3) ((cg_count hwvc).trans (ct18 hJ)) ?_
                          refine q_iadd hX dL_ends_242 ?_
                          refine q_top (if judgeK z k 10 (a_c z k) < nI (TN z) + z 4 3 then nI (TN z) + z 4 3 else judgeK z k 10 (a_c z k)) (by
                            first | exact (max_law (judgeK z k 10 (a_c z k)) (nI (TN z) + z 4 3)).1 (by assumption) | exact (max_law (judgeK z k 10 (a_c z k)) (nI (TN z) + z 4 3)).2 (by assumption)) ?_
                          refine q_sub [0, 1, 2, 3, 4, 5, 6, 7, 8] [(6, .int ((missedK z k) + 1)), (8, .int (nI (a_c z k))), (0, .ref (G.2.2 192)), (1, .int (nI (TN z))), (2, .int (nI (nA z))), (3, .ref (ar4 0)), (4, .ref (ar4 1)), (5, .ref (ar4 2)), (7, .int (nI k))] rfl ?_
                          exact km22
                        · -- on 227
                          refine q_aload hX 7 dL_ends_227 rfl ?_
                          refine q_iload hX 1 dL_ends_229 rfl ?_
                          refine q_iald hX 2 (by decide) (a_c z k) rfl (show a_c z k < arL 2 from (by omega : a_c z k < 12)) dL_ends_231 ?_
                          refine q_top (judgeK z k 10 (a_c z k)) (by rw [hdvc, u2_f (by decide), hdvb, u2_f (by decide), hdva, u2_f (by decide)]; exact h77 _ (by omega)) ?_
                          refine q_goto hX 243 dL_ends_232 (by decide) ?_
                          refine q_top (if judgeK z k 10 (a_c z k) < nI (TN z) + z 4 3 then nI (TN z) + z 4 3 else judgeK z k 10 (a_c z k)) (by
                            first | exact (max_law (judgeK z k 10 (a_c z k)) (nI (TN z) + z 4 3)).1 (by assumption) | exact (max_law (judgeK z k 10 (a_c z k)) (nI (TN z) + z 4 3)).2 (by assumption)) ?_
                          refine q_sub [0, 1, 2, 3, 4, 5, 6, 7, 8] [(6, .int ((missedK z k) + 1)), (8, .int (nI (a_c z k))), (0, .ref (G.2.2 192)), (1, .int (nI (TN z))), (2, .int (nI (nA z))), (3, .ref (ar4 0)), (4, .ref (ar4 1)), (5, .ref (ar4 2)), (7, .int (nI k))] rfl ?_
                          exact km22
                  refine q_aload_n hX 0 dL_ends_108 rfl ?_
                  refine q_iload hX 7 dL_ends_109 rfl ?_
                  refine q_iconst hX 2 dL_ends_111 (by decide) ?_
                  refine q_cv hX hG (by decide) (by decide) (As := [.int (nI k), .int 2]) (rest := [.int (nI k), .ref (ar4 0)]) (c_X6_application l G v (a := (nI k)) (w := 2) (hI := hv.io)) k_L_ends_X6_application (fun _ _ => rfl) rfl rfl (Nat.le_of_ble_eq_true rfl) dL_ends_112 ?_
                  refine q_top (nI (a_d z k)) ((cg_application hvz).trans (ap2 hJ (a := k) (by omega))) ?_
                  refine q_iload_n hX 1 dL_ends_115 rfl ?_
                  refine q_ic_eq hX 124 dL_ends_116 (by decide) (fun c24 => ?_) (fun c24 => ?_)
                  · -- jump 124
                    have nc24 : ((a_d z k : Nat) = TN z) := (nI_eq (a := a_d z k) (b := TN z) (by omega) (by omega)).mp c24
                    refine q_aload_n hX 0 dL_ends_124 rfl ?_
                    refine q_iload hX 7 dL_ends_125 rfl ?_
                    refine q_iconst hX 4 dL_ends_127 (by decide) ?_
                    refine q_cv hX hG (by decide) (by decide) (As := [.int (nI k), .int 4]) (rest := [.int (nI k), .ref (ar4 0)]) (c_X6_application l G v (a := (nI k)) (w := 4) (hI := hv.io)) k_L_ends_X6_application (fun _ _ => rfl) rfl rfl (Nat.le_of_ble_eq_true rfl) dL_ends_128 ?_
                    refine q_top (nI (a_s z k)) ((cg_application hvz).trans (ap4 hJ (a := k) (by omega))) ?_
                    refine q_iconst hX 1 dL_ends_131 (by decide) ?_
                    refine q_ic_ne hX 149 dL_ends_132 (by decide) (fun c25 => ?_) (fun c25 => ?_)
                    · -- jump 149
                      have nc25 : ¬ ((a_s z k : Nat) = 1) := fun q => c25 ((nI_eq (a := a_s z k) (b := 1) (by omega) (by omega)).mpr q)
                      refine q_aload_n hX 0 dL_ends_149 rfl ?_
                      refine q_iload hX 7 dL_ends_150 rfl ?_
                      refine q_iconst hX 4 dL_ends_152 (by decide) ?_
                      refine q_cv hX hG (by decide) (by decide) (As := [.int (nI k), .int 4]) (rest := [.int (nI k), .ref (ar4 0)]) (c_X6_application l G v (a := (nI k)) (w := 4) (hI := hv.io)) k_L_ends_X6_application (fun _ _ => rfl) rfl rfl (Nat.le_of_ble_eq_true rfl) dL_ends_153 ?_
                      refine q_top (nI (a_s z k)) ((cg_application hvz).trans (ap4 hJ (a := k) (by omega))) ?_
                      refine q_top (nI (edN z k)) (by
                        first | (rw [ed_9 (by omega)]; rfl) | (exact ed_1 hJ hk (by omega) (by omega)) | (rw [ed_s (by omega) (by omega)])) ?_
                      refine q_sub [0, 1, 2, 3, 4, 5, 6, 7] [(0, .ref (G.2.2 192)), (1, .int (nI (TN z))), (2, .int (nI (nA z))), (3, .ref (ar4 0)), (4, .ref (ar4 1)), (5, .ref (ar4 2)), (6, .int (missedK z k)), (7, .int (nI k))] rfl ?_
                      exact km19
                    · -- on 135
                      have nc25 : ((a_s z k : Nat) = 1) := (nI_eq (a := a_s z k) (b := 1) (by omega) (by omega)).mp (Decidable.not_not.mp c25)
                      refine q_bipush hX 10 dL_ends_135 (by decide) ?_
                      refine q_aload_n hX 0 dL_ends_137 rfl ?_
                      refine q_iload hX 7 dL_ends_138 rfl ?_
                      refine q_bipush hX 7 dL_ends_140 (by decide) ?_
                      refine q_cv hX hG (by decide) (by decide) (As := [.int (nI k), .int 7]) (rest := [.int 10, .int (nI k), .ref (ar4 0)]) (c_X6_application l G v (a := (nI k)) (w := 7) (hI := hv.io)) k_L_ends_X6_application (fun _ _ => rfl) rfl rfl (Nat.le_of_ble_eq_true rfl) dL_ends_142 ?_
                      refine q_top (z 18 k) ((cg_application hvz).trans (ap7 hJ (a := k) (by omega))) ?_
                      refine q_iadd hX dL_ends_145 ?_
                      refine q_goto hX 156 dL_ends_146 (by decide) ?_
                      refine q_top (nI (edN z k)) (by
                        first | (rw [ed_9 (by omega)]; rfl) | (exact ed_1 hJ hk (by omega) (by omega)) | (rw [ed_s (by omega) (by omega)])) ?_
                      refine q_sub [0, 1, 2, 3, 4, 5, 6, 7] [(0, .ref (G.2.2 192)), (1, .int (nI (TN z))), (2, .int (nI (nA z))), (3, .ref (ar4 0)), (4, .ref (ar4 1)), (5, .ref (ar4 2)), (6, .int (missedK z k)), (7, .int (nI k))] rfl ?_
                      exact km19
                  · -- on 119
                    have nc24 : ¬ ((a_d z k : Nat) = TN z) := fun q => c24 ((nI_eq (a := a_d z k) (b := TN z) (by omega) (by omega)).mpr q)
                    refine q_bipush hX 9 dL_ends_119 (by decide) ?_
                    refine q_goto hX 156 dL_ends_121 (by decide) ?_
                    refine q_top (nI (edN z k)) (by
                      first | (rw [ed_9 (by omega)]; rfl) | (exact ed_1 hJ hk (by omega) (by omega)) | (rw [ed_s (by omega) (by omega)])) ?_
                    refine q_sub [0, 1, 2, 3, 4, 5, 6, 7] [(0, .ref (G.2.2 192)), (1, .int (nI (TN z))), (2, .int (nI (nA z))), (3, .ref (ar4 0)), (4, .ref (ar4 1)), (5, .ref (ar4 2)), (6, .int (missedK z k)), (7, .int (nI k))] rfl ?_
                    exact km19
            refine q_sub [1, 2, 3, 4, 5, 6, 7, 0] [(0, .ref (G.2.2 192)), (1, .int (nI (TN z))), (2, .int (nI (nA z))), (3, .ref (ar4 0)), (4, .ref (ar4 1)), (5, .ref (ar4 2)), (6, .int 0), (7, .int 0)] rfl ?_
            have el6 : (0 : Int32) = missedK z 0 := by rfl
            refine q_lv (lv' := [(0, .ref (G.2.2 192)), (1, .int (nI (TN z))), (2, .int (nI (nA z))), (3, .ref (ar4 0)), (4, .ref (ar4 1)), (5, .ref (ar4 2)), (6, .int (missedK z 0)), (7, .int 0)]) (by rw [← el6]) ?_
            have el7 : (0 : Int32) = nI 0 := by rfl
            refine q_lv (lv' := [(0, .ref (G.2.2 192)), (1, .int (nI (TN z))), (2, .int (nI (nA z))), (3, .ref (ar4 0)), (4, .ref (ar4 1)), (5, .ref (ar4 2)), (6, .int (missedK z 0)), (7, .int (nI 0))]) (by rw [← el7]) ?_
            exact loop99 (nA z + 1) 0 w (by omega) (Nat.zero_le _) hwz (fun a ha => absurd ha (Nat.not_lt_zero _)) (fun i hi => h76 i (by omega)) (fun i hi => h77 i (by omega))
          · -- on 66
            have nc5 : ¬ ((NC z : Nat) ≤ c) := fun q => c5 ((nI_leI (a := NC z) (b := c) (by omega) (by omega)).mpr q)
            refine q_aload hX 4 dL_ends_66 rfl ?_
            refine q_iload hX 7 dL_ends_68 rfl ?_
            refine q_aload_n hX 0 dL_ends_70 rfl ?_
            refine q_iload hX 7 dL_ends_71 rfl ?_
            refine q_iconst hX 1 dL_ends_73 (by decide) ?_
            refine q_cv hX hG (by decide) (by decide) (As := [.int (nI c), .int 1]) (rest := [.int (nI c), .ref (ar4 1)]) (c_X6_climber l G w (c := (nI c)) (w := 1) (hI := hw.io)) k_L_ends_X6_climber (fun _ _ => rfl) rfl rfl (Nat.le_of_ble_eq_true rfl) dL_ends_74 ?_
            refine q_top (z 9 c) ((cg_climber hwz).trans (cl1 hJ (c := c) (by omega))) ?_
            refine q_iast hX 1 (by decide) c rfl (show c < arL 1 from (by omega : c < 12)) dL_ends_77 ?_
            obtain ⟨wa, hdwa⟩ : ∃ y : St, y = u2 w (75 + 1) c (z 9 c) := ⟨_, rfl⟩
            refine q_z (z2 := wa) hdwa.symm ?_
            have hwwa : Same wa z := by rw [hdwa]; exact Same.u2 hwz (by decide) (by decide)
            have hjwa : JI wa b := hwwa.ji hJ
            refine q_aload hX 5 dL_ends_78 rfl ?_
            refine q_iload hX 7 dL_ends_80 rfl ?_
            refine q_aload_n hX 0 dL_ends_82 rfl ?_
            refine q_iload hX 7 dL_ends_83 rfl ?_
            refine q_iconst hX 2 dL_ends_85 (by decide) ?_
            refine q_cv hX hG (by decide) (by decide) (As := [.int (nI c), .int 2]) (rest := [.int (nI c), .ref (ar4 2)]) (c_X6_climber l G wa (c := (nI c)) (w := 2) (hI := hjwa.io)) k_L_ends_X6_climber (fun _ _ => rfl) rfl rfl (Nat.le_of_ble_eq_true rfl) dL_ends_86 ?_
            refine q_top (z 10 c) ((cg_climber hwwa).trans (cl2 hJ (c := c) (by omega))) ?_
            refine q_iast hX 2 (by decide) c rfl (show c < arL 2 from (by omega : c < 12)) dL_ends_89 ?_
            obtain ⟨wb, hdwb⟩ : ∃ y : St, y = u2 wa (75 + 2) c (z 10 c) := ⟨_, rfl⟩
            refine q_z (z2 := wb) hdwb.symm ?_
            have hwwb : Same wb z := by rw [hdwb]; exact Same.u2 hwwa (by decide) (by decide)
            have hjwb : JI wb b := hwwb.ji hJ
            refine q_iinc hX (nI (c + 1)) 7 [(7, .int (nI (c + 1))), (0, .ref (G.2.2 192)), (1, .int (nI (TN z))), (2, .int (nI (nA z))), (3, .ref (ar4 0)), (4, .ref (ar4 1)), (5, .ref (ar4 2)), (6, .int 0)] dL_ends_90 rfl (nI_1 c) (by decide) rfl ?_
            refine q_goto hX 56 dL_ends_93 (by decide) ?_
            refine q_sub [1, 2, 3, 4, 5, 6, 7, 0] [(0, .ref (G.2.2 192)), (1, .int (nI (TN z))), (2, .int (nI (nA z))), (3, .ref (ar4 0)), (4, .ref (ar4 1)), (5, .ref (ar4 2)), (6, .int 0), (7, .int (nI (c + 1)))] rfl ?_
            exact ih56 (c + 1) wb (by omega) (by omega) hwwb (fun i hi => by rw [hdwb, u2_f (by decide), hdwa]; exact fill_step h76 rfl i hi) (fun i hi => by rw [hdwb]; exact fill_step (fun a ha => by rw [hdwa, u2_f (by decide)]; exact h77 a ha) rfl i hi)
      refine q_sub [7, 6, 5, 4, 3, 2, 1, 0] [(0, .ref (G.2.2 192)), (1, .int (nI (TN z))), (2, .int (nI (nA z))), (3, .ref (ar4 0)), (4, .ref (ar4 1)), (5, .ref (ar4 2)), (6, .int 0), (7, .int 0)] rfl ?_
      have el7 : (0 : Int32) = nI 0 := by rfl
      refine q_lv (lv' := [(0, .ref (G.2.2 192)), (1, .int (nI (TN z))), (2, .int (nI (nA z))), (3, .ref (ar4 0)), (4, .ref (ar4 1)), (5, .ref (ar4 2)), (6, .int 0), (7, .int (nI 0))]) (by rw [← el7]) ?_
      exact loop56 (NC z + 1) 0 w2 (by omega) (Nat.zero_le _) hw2 (fun a ha => absurd ha (Nat.not_lt_zero _)) (fun a ha => absurd ha (Nat.not_lt_zero _))
    · -- on 12
      have nc1 : ((TN z : Nat) = 59) := (nI_eq (a := TN z) (b := 59) (by omega) (by omega)).mp (Decidable.not_not.mp c1)
      refine q_aload_n hX 1 dL_ends_12 rfl ?_
      refine q_cv hX hG (by decide) (by decide) (As := []) (rest := []) (c_X6_end l G hG.1 z  (hI := hJ.io)) k_L_ends_X6_end (fun i hi => absurd hi (Nat.not_lt_zero _)) rfl rfl (Nat.le_of_ble_eq_true rfl) dL_ends_13 ?_
      rw [end_59 hJ (by omega)]
      refine q_z (z2 := z) rfl ?_
      refine q_top (-5) rfl ?_
      refine q_bipush hX (-5) dL_ends_16 (by decide) ?_
      refine q_ic_ne hX 25 dL_ends_18 (by decide) (fun c26 => ?_) (fun c26 => ?_)
      · -- jump 25
        exact absurd c26 (by decide)
      · -- on 21
        refine q_iconst hX 1 dL_ends_21 (by decide) ?_
        refine q_goto hX 26 dL_ends_22 (by decide) ?_
        refine ret _ _ _ _ _ _ (by decide) (by decide) dL_ends_26 ?_
        exact ⟨rfl, (hJ).mono (by omega) (by omega)⟩
