/-! ===== the law's own: lotteries tried ===== -/
theorem fi_lim {k : Nat} (h : k < 478) : fO k < 20 ∧ iO k < limF (fO k) := by
  unfold fO iO limF
  (repeat' split) <;> omega
/-- the model's barred cells of office 0, put right -/
def fix87 (y z : St) : St := fun f => if f = 87 then z 87 else y f
theorem OI_87 {y z : St} {b : Nat} (h : OI y b) (h87 : ∀ c, c < cn (y 2 0) → z 87 c = y 10 c) : OI (fix87 y z) b := by
  have e : ∀ f, f ≠ 87 → fix87 y z f = y f := fun f hf => if_neg hf
  have e87 : fix87 y z 87 = z 87 := if_pos rfl
  have en : nA (fix87 y z) = nA y := nA_of (e 3 (by decide))
  have hio : IO (fix87 y z) := IO_of h.io (fun f hf => e f (by omega))
  unfold OI SetOK ClimIn Uniq routeP aliveP at h ⊢
  rw [en, e 0 (by decide), e 1 (by decide), e 2 (by decide), e 4 (by decide), e 7 (by decide), e 8 (by decide), e 9 (by decide), e 10 (by decide), e 11 (by decide), e 12 (by decide), e 13 (by decide), e 14 (by decide), e 15 (by decide), e 16 (by decide), e 17 (by decide), e 18 (by decide), e87]
  exact ⟨hio, h.2.1, h87, h.2.2.2⟩
theorem JI_87 {y z : St} {b : Nat} (h : JI y b) (h87 : ∀ c, c < NC y → z 87 c = y 10 c) : JI (fix87 y z) b := by
  have e : ∀ f, f ≠ 87 → fix87 y z f = y f := fun f hf => if_neg hf
  refine ⟨⟨PO_of h.inv.1 (e 68 (by decide)) (e 69 (by decide)), OI_87 h.oi h87, fun o ho a ha => ?_, fun o ho d hd => ?_, fun s hs => ?_⟩, h.bb, J_cg h.io (fun f hf => e f (by omega)) h.j⟩
  · rw [e _ (by omega)]; exact h.inv.2.2.1 o ho a ha
  · rw [e _ (by omega)]; exact h.inv.2.2.2.1 o ho d hd
  · rcases h.inv.2.2.2.2 s hs with q | q
    · left; rw [e 60 (by omega)]; exact q
    · right; rw [e 60 (by omega)]
      exact ⟨q.1, q.2.of (Nat.le_refl _) hs (fun f hf => e _ (by omega)) (fun f hf => e _ (by omega)) (e _ (by omega))⟩
theorem save87 {z y : St} {b b0 : Nat} (hJ : JI z b0) (h : JI y b) (ho : OffL y z) (hb : b + 100 ≤ 50000) : ∃ y', (∀ f, f < 75 → y' f = (spSave y (nI 0)).2 f) ∧ JI y' (b + 100) ∧ (spSave y (nI 0)).1 = nI (TN y) ∧ (∀ f, f < 20 → y' f = y f) ∧ SV y' 0 y ∧ y' 87 = z 87 := by
  obtain ⟨y1, g1, -, g3, g4, g5, -, g7⟩ := save_step h hb (s := 0) (by decide)
  have e : ∀ f, f ≠ 87 → fix87 y1 z f = y1 f := fun f hf => if_neg hf
  refine ⟨fix87 y1 z, fun f hf => by rw [e f (by omega)]; exact g1 f hf, JI_87 g3 (fun c hc => ?_), g4, fun f hf => by rw [e f (by omega)]; exact g5 f (by omega), ⟨fun f i hf hi => by rw [e _ (by omega)]; exact g7.1 f i hf hi, by rw [e 60 (by decide)]; exact g7.2⟩, if_pos rfl⟩
  have e2 : NC y1 = NC y := by unfold NC; rw [g5 2 (by omega)]
  have hc2 : c < NC z := by rw [← ho.c]; omega
  have hc12 : c < 12 := by have := hJ.nc.2.1; omega
  rw [g5 10 (by omega), ho 10 c (by decide) hc12]
  exact hJ.oi.h87c c hc2
theorem off_trans {x y z : St} (h1 : OffL x y) (h2 : OffL y z) : OffL x z := fun f i hf hi => (h1 f i hf hi).trans (h2 f i hf hi)
/-- office 0 is as in z, but for the seed -/
theorem same_of {z y : St} (h : ∀ f i, f < 20 → i < limF f → ¬ (f = 4 ∧ i = 5) → y f i = z f i) (h87 : y 87 = z 87) : SameO z y := by
  intro k hk h9
  obtain ⟨l1, l2⟩ := fi_lim hk
  unfold atF
  by_cases q : fO k = 10
  · rw [q]
    show y 87 _ = z 87 _
    rw [h87]
  · rw [gO_ne q]
    refine h _ _ l1 l2 (fun w => h9 ?_)
    have := kO_k k
    rw [w.1, w.2] at this
    exact this.symm
/-- a try of the law's, beside one of the model's -/
theorem draw_law {z y2 : St} {b b2 : Nat} (hJ : JI z b) (h2 : JI y2 b2) (hb : b2 + 100 ≤ 50000) {a k : Nat} (ha : a < nA z) (h0 : a_s z a = 0) (ho : ∀ f i, f < 20 → i < limF f → ¬ (f = 4 ∧ i = 5) → y2 f i = z f i) (h87 : y2 87 = z 87) (hs : y2 4 5 = tryK z (nI (a_r z a)) (nI (a_d z a)) k 4 5) :
    ∃ y3 n, (∀ f, f < 75 → y3 f = (cLottery y2 (nI (a_r z a)) (nI (a_d z a))).2 f) ∧ JI y3 (b2 + 100) ∧ (cLottery y2 (nI (a_r z a)) (nI (a_d z a))).1 = nI n ∧ n ≤ 40 ∧ nA y3 = nA z ∧ (∀ f, 20 ≤ f → f < 61 → y3 f = y2 f) ∧ y3 4 5 = tryK z (nI (a_r z a)) (nI (a_d z a)) (k + 1) 4 5 ∧
      tryW z (nI (a_r z a)) (nI (a_d z a)) a (k + 1) = tryW z (nI (a_r z a)) (nI (a_d z a)) a k + nI (if a_s y3 a = 1 then 1 else 0) := by
  have hO := hJ.oi
  have hB : b ≤ 100000 := by have := hJ.bb; omega
  obtain ⟨-, ⟨e12, r1, r6⟩, ⟨e13, d6⟩, -, ⟨e15, s7⟩, a40⟩ := hJ.ap ha
  have h40 := hJ.na.2
  have hle : ∀ f x, 11 ≤ f → f < 20 → x < nA z → y2 f x = z f x := fun f x q1 q2 q3 => ho f x q2 (lim_a q1 q2 (by omega)) (by omega)
  have en : nA y2 = nA z := by unfold nA; rw [ho 3 0 (by decide) (by decide) (by decide)]
  have er : NR y2 = NR z := by unfold NR; rw [ho 1 0 (by decide) (by decide) (by decide)]
  have eT : TN y2 = TN z := by unfold TN; rw [ho 0 0 (by decide) (by decide) (by decide)]
  have hst : 0 < stN y2 (a_r z a) (a_d z a) 0 := by
    unfold stN
    have : 1 ≤ stF y2 (a_r z a) (a_d z a) 0 a := by
      unfold stF a_r a_d a_s
      rw [hle 12 a (by decide) (by decide) ha, hle 13 a (by decide) (by decide) ha, hle 15 a (by decide) (by decide) ha, if_pos ⟨⟨rfl, rfl⟩, h0⟩]
      exact Nat.le_refl _
    have := nS_pos (t := stF y2 (a_r z a) (a_d z a) 0) (a := a) (k := nA y2) (by omega)
    omega
  have hTd := ((hJ.aj ha).2.1 h0).1
  obtain ⟨y3, g1, g2, g3, g4, g5, -, -, g6, g7⟩ := lot_step h2 hb (r := a_r z a) (d := a_d z a) (by omega) d6 (by omega) hst
  have hSy := same_of ho h87
  have hTr := TrI_K hO.sd (nI (a_r z a)) (nI (a_d z a)) k
  have hsd2 : ∃ q, q < 65536 ∧ tryK z (nI (a_r z a)) (nI (a_d z a)) k 4 5 = nI q := hTr.2.2.1
  obtain ⟨A1, A2, A3, A4, -⟩ := hold_at (zm := y2) (w := enterK z (nI (a_r z a)) (nI (a_d z a)) (nA z)) (s := tryK z (nI (a_r z a)) (nI (a_d z a)) k 4 5) hO.io hO.h87 (hO.tk hB) hO.uq hO.cin (hJ.rP r1) hSy hs hsd2 (fun _ _ _ => rfl)
  obtain ⟨B1, B2, B3, B4, -⟩ := hold_at (zm := tryK z (nI (a_r z a)) (nI (a_d z a)) k) (w := enterK z (nI (a_r z a)) (nI (a_d z a)) (nA z)) (s := tryK z (nI (a_r z a)) (nI (a_d z a)) k 4 5) hO.io hO.h87 (hO.tk hB) hO.uq hO.cin (hJ.rP r1) hTr.1 rfl hsd2 (fun _ _ _ => rfl)
  have A4a := A4 a
  have B4a := B4 a
  rw [if_pos ha] at A4a B4a
  have h15 : (mHold y2 (nI (a_r z a)) (nI (a_d z a))).2 15 a = (mHold (tryK z (nI (a_r z a)) (nI (a_d z a)) k) (nI (a_r z a)) (nI (a_d z a))).2 15 a := by rw [A4a, B4a]
  refine ⟨y3, nS (wnF y2 y3 (a_r z a) (a_d z a)) (nA y2), g1, g3, g5, ?_, ?_, fun f q1 q2 => ?_, ?_, ?_⟩
  · have := wn_le y2 y3 (a_r z a) (a_d z a); omega
  · unfold nA; rw [g4.1 3 (by decide) (by decide) (by decide) (by decide) (by decide), ho 3 0 (by decide) (by decide) (by decide)]
  · rw [g1 f (by omega)]; exact lot_hi h2 _ _ q1 (by omega)
  · rw [g6, A2, ← B2]
    show _ = try1 (tryK z (nI (a_r z a)) (nI (a_d z a)) k) (nI (a_r z a)) (nI (a_d z a)) 4 5
    unfold try1
    rw [u2_s]
  · rw [tryW]
    congr 1
    have e3 : y3 15 a = (mHold (tryK z (nI (a_r z a)) (nI (a_d z a)) k) (nI (a_r z a)) (nI (a_d z a))).2 15 a := by rw [g7, h15]
    by_cases q : (mHold (tryK z (nI (a_r z a)) (nI (a_d z a)) k) (nI (a_r z a)) (nI (a_d z a))).2 15 a = 1
    · have hin : inL z (nI (a_r z a)) (nI (a_d z a)) a := by
        refine Decidable.by_contra (fun w => ?_)
        rw [if_neg w] at B4a
        rw [B4a] at q
        split at q
        · exact absurd q (by decide)
        · rw [e15, h0] at q; exact absurd q (by decide)
      rw [if_pos hin] at B4a
      have h65 : ¬ (hq (enterK z (nI (a_r z a)) (nI (a_d z a)) (nA z)) (tryK z (nI (a_r z a)) (nI (a_d z a)) k 4 5) (leftP z (nI (a_r z a)) (nI (a_d z a))) (cE z (nI (a_r z a)) (nI (a_d z a)) (nA z))).1 65 (cE z (nI (a_r z a)) (nI (a_d z a)) a) = 0 := fun w => by
        rw [if_pos w] at B4a
        rw [B4a] at q
        exact absurd q (by decide)
      have s1 : a_s y3 a = 1 := by unfold a_s; rw [e3, q]; decide
      rw [if_pos ⟨hold_15 hO.io B1 ha hin h65, q⟩, if_pos s1]
      rfl
    · have s1 : ¬ a_s y3 a = 1 := fun w => q (by
        have hx := (g3.ap (a := a) (by rw [show nA y3 = nA z from by unfold nA; rw [g4.1 3 (by decide) (by decide) (by decide) (by decide) (by decide), ho 3 0 (by decide) (by decide) (by decide)]]; exact ha)).2.2.2.2.1.1
        rw [w] at hx
        rw [← e3]; exact hx)
      rw [if_neg (fun w => q w.2), if_neg s1]
      rfl
theorem tryW_n (z : St) (r d : Int32) (a : Nat) : ∀ k, ∃ n, n ≤ k ∧ tryW z r d a k = nI n := by
  intro k
  induction k with
  | zero => exact ⟨0, Nat.le_refl _, rfl⟩
  | succ k ih =>
    obtain ⟨n, h1, h2⟩ := ih
    rw [tryW, h2]
    split
    · exact ⟨n + 1, by omega, nI_add n 1⟩
    · exact ⟨n, by omega, Int32.add_zero _⟩
theorem tries_ans {z : St} {b : Nat} (h : JI z b) {a t : Nat} (ha : a < nA z) (h1 : 1 ≤ t) (ht : t ≤ 200) :
    (¬ a_s z a = 0 → cTries z (nI a) (nI t) = (-5, z)) ∧ (a_s z a = 0 → (cTries z (nI a) (nI t)).1 = tryW z (nI (a_r z a)) (nI (a_d z a)) a t ∧ ∀ f, f < 61 ∨ 67 < f → (cTries z (nI a) (nI t)).2 f = z f) := by
  have hO := h.oi
  have hB : b ≤ 100000 := by have := h.bb; omega
  obtain ⟨-, ⟨e12, r1, r6⟩, ⟨e13, d6⟩, -, ⟨e15, s7⟩, a40⟩ := h.ap ha
  have f0 : z 15 a = 0 ↔ a_s z a = 0 := by rw [e15]; exact nI_eq (b := 0) (by omega) (by decide)
  have hap := h.aP ha
  have hca := cn_a h ha
  have ht1 : ¬ (nI t < 1 ∨ ¬ nI t ≤ 200) := fun q => q.elim (fun w => by have := (nI_ltI (b := 1) (by omega) (by decide)).mp w; omega) (fun w => w ((nI_leI (b := 200) (by omega) (by decide)).mpr ht))
  constructor
  · intro h0
    unfold cTries
    rw [if_neg (not_not_intro hap), if_neg ht1, hca, if_pos (Or.inl (fun q => h0 (f0.mp q)))]
  · intro h0
    obtain ⟨e1, e2, -⟩ := tries_eq (x := nI a) (t := nI t) hO.io hO.h87 (hO.tk hB) hO.uq hO.cin hO.rin hO.sd
    refine ⟨?_, e2⟩
    have j2 := (h.aj ha).2.1 h0
    have hop : openP z (z 13 a) := by
      refine ⟨?_, by rw [e13]; exact h.dayP d6, j2.2⟩
      rw [h.t0.1, e13]; exact (nI_leI (by have := h.t0.2; omega) (by omega)).mpr j2.1
    rw [e1]
    unfold mTries
    rw [if_neg (not_not_intro hap), if_neg ht1, hca, if_neg (fun q => q.elim (fun w => w (f0.mpr h0)) (fun w => w hop)), cn_nI (by omega)]
    show tryW z (z 12 a) (z 13 a) a t = _
    rw [← e12, ← e13]
theorem tries_none {z : St} {b : Nat} (h : JI z b) (h0 : nA z = 0) : cTries z 0 1 = (-1, z) := by
  unfold cTries; rw [if_pos (none_app h h0)]
theorem set_seed (y : St) {b : Nat} (h : JI y b) {s : Nat} (hs : s < 65536) : ∃ v, v < 65536 ∧ spSet y 5 (nI s) = (nI v, u2 y 4 5 (nI s)) := by
  obtain ⟨v, hv, ev⟩ := h.oi.sd
  refine ⟨v, hv, ?_⟩
  unfold spSet
  rw [if_neg]
  · show (y 4 5, u2 y 4 5 (nI s)) = _
    rw [ev]
  · rintro (q | q | q | q)
    · exact absurd q (by decide)
    · exact absurd q (by decide)
    · exact nI_pos (n := s) (by omega) q
    · exact q ((nI_leI (b := 65535) (by omega) (by decide)).mpr (by omega))

def rm_L_drawn : Room := { frames := 5, cells := 0, slots := 0, locals := 118 }
theorem k_L_drawn_L_up : CT3 rm_L_drawn wsL_drawn RL 22 yL_up cL_up 2 (some .int) wsL_up rm_L_up 0 0 2 := ⟨gL_drawn_L_up, ⟨_, rfl⟩, rfl, rfl, ⟨by decide +kernel, by decide +kernel, by decide +kernel⟩, by decide, by decide⟩
theorem k_L_drawn_X6_application : CW rm_L_drawn wsL_drawn RL RX6 68 yX6_application cX6_application 4 (some .int) wsX6_application rm_X6_application 2 := ⟨gL_drawn_X6_application, ⟨_, rfl⟩, rfl, rfl, ⟨rfl, by decide +kernel, by decide +kernel, by decide +kernel⟩, by decide, by decide⟩
theorem k_L_drawn_X6_count : CW rm_L_drawn wsL_drawn RL RX6 57 yX6_count cX6_count 2 (some .int) wsX6_count rm_X6_count 1 := ⟨gL_drawn_X6_count, ⟨_, rfl⟩, rfl, rfl, ⟨rfl, by decide +kernel, by decide +kernel, by decide +kernel⟩, by decide, by decide⟩
theorem k_L_drawn_X6_lottery : CW rm_L_drawn wsL_drawn RL RX6 97 yX6_lottery cX6_lottery 3 (some .int) wsX6_lottery rm_X6_lottery 2 := ⟨gL_drawn_X6_lottery, ⟨_, rfl⟩, rfl, rfl, ⟨rfl, by decide +kernel, by decide +kernel, by decide +kernel⟩, by decide, by decide⟩
theorem k_L_drawn_X6_restore : CW rm_L_drawn wsL_drawn RL RX6 117 yX6_restore cX6_restore 2 (some .int) wsX6_restore rm_X6_restore 1 := ⟨gL_drawn_X6_restore, ⟨_, rfl⟩, rfl, rfl, ⟨rfl, by decide +kernel, by decide +kernel, by decide +kernel⟩, by decide, by decide⟩
theorem k_L_drawn_X6_save : CW rm_L_drawn wsL_drawn RL RX6 113 yX6_save cX6_save 2 (some .int) wsX6_save rm_X6_save 1 := ⟨gL_drawn_X6_save, ⟨_, rfl⟩, rfl, rfl, ⟨rfl, by decide +kernel, by decide +kernel, by decide +kernel⟩, by decide, by decide⟩
theorem k_L_drawn_X6_set : CW rm_L_drawn wsL_drawn RL RX6 33 yX6_set cX6_set 4 (some .int) wsX6_set rm_X6_set 2 := ⟨gL_drawn_X6_set, ⟨_, rfl⟩, rfl, rfl, ⟨rfl, by decide +kernel, by decide +kernel, by decide +kernel⟩, by decide, by decide⟩
theorem k_L_drawn_X6_tries : CW rm_L_drawn wsL_drawn RL RX6 110 yX6_tries cX6_tries 9 (some .int) wsX6_tries rm_X6_tries 2 := ⟨gL_drawn_X6_tries, ⟨_, rfl⟩, rfl, rfl, ⟨rfl, by decide +kernel, by decide +kernel, by decide +kernel⟩, by decide, by decide⟩
set_option maxHeartbeats 4000000 in
set_option maxRecDepth 100000 in
theorem c_L_drawn (l : Launch) (G : MG) (B : Nat) (E : State → Prop) (hG : GB B G) (hE : KMv (AB B) E) (z : St) {v : Int32} {b : Nat} (hJ : JI z b) (hb : b + 6000 ≤ 50000) : CL l G B E yL_drawn wsL_drawn rm_L_drawn [.ref (G.2.2 192), .int v] z (fun ρ ζ => ρ = 1 ∧ JI ζ (b + 6000)) 0 0 := by
  refine cl_of (own := RL) (cc := cL_drawn) (maxL := 11) (ret := .boolean) hG hE (by decide +kernel) rfl rfl ?_ (Nat.le_of_ble_eq_true rfl) ?_
  · rintro v z' ⟨rfl, -⟩; rfl
  · intro X hX ret
    refine q_lv (lv' := [(0, .ref (G.2.2 192)), (1, .int v)]) rfl ?_
    have hT := hJ.t0.2
    obtain ⟨-, hN6, hN1⟩ := hJ.nr
    obtain ⟨-, hC12, hC1⟩ := hJ.nc
    obtain ⟨-, hA40⟩ := hJ.na
    refine q_aload_n hX 0 dL_drawn_0 rfl ?_
    refine q_iconst hX 3 dL_drawn_1 (by decide) ?_
    refine q_cv hX hG (by decide) (by decide) (As := [.int 3]) (rest := []) (c_X6_count l G z (w := 3) (hI := hJ.io)) k_L_drawn_X6_count (fun _ _ => rfl) rfl rfl (Nat.le_of_ble_eq_true rfl) dL_drawn_2 ?_
    refine q_top (nI (nA z)) (ct3 hJ) ?_
    refine q_istore_n hX [(2, .int (nI (nA z))), (0, .ref (G.2.2 192)), (1, .int v)] dL_drawn_5 (by decide) rfl ?_
    refine q_iload_n hX 0 dL_drawn_6 rfl ?_
    refine q_if_ne hX 26 dL_drawn_7 (by decide) (fun c1 => ?_) (fun c1 => ?_)
    · -- jump 26
      have nc1 : ¬ ((nA z : Nat) = 0) := fun q => c1 ((nI_eq (a := nA z) (b := 0) (by omega) (by omega)).mpr q)
      refine q_iload_n hX 2 dL_drawn_26 rfl ?_
      refine q_iload_n hX 0 dL_drawn_27 rfl ?_
      refine q_ctE hX hG (by decide) (by decide) (As := [.int v, .int (nI (nA z))]) (rest := []) (c_L_up l G B E hG hE z (v := v) (m := (nI (nA z))) (nI_ne0 (by omega) (by omega))) k_L_drawn_L_up rfl rfl (Nat.le_of_ble_eq_true rfl) dL_drawn_28 ?_
      obtain ⟨a0, ha0, ea0⟩ := up_in (v := v) (m := nA z) (by omega) (by omega)
      refine q_top (nI a0) ea0 ?_
      refine q_istore_n hX [(3, .int (nI a0)), (2, .int (nI (nA z))), (0, .ref (G.2.2 192)), (1, .int v)] dL_drawn_31 (by decide) rfl ?_
      refine q_aload_n hX 2 dL_drawn_32 rfl ?_
      refine q_bipush hX 20 dL_drawn_33 (by decide) ?_
      refine q_cv hX hG (by decide) (by decide) (As := [.int 20]) (rest := []) (c_X6_count l G z (w := 20) (hI := hJ.io)) k_L_drawn_X6_count (fun _ _ => rfl) rfl rfl (Nat.le_of_ble_eq_true rfl) dL_drawn_35 ?_
      refine q_top (z 4 5) (ct20 hJ) ?_
      refine q_istore hX [(4, .int (z 4 5)), (3, .int (nI a0)), (2, .int (nI (nA z))), (0, .ref (G.2.2 192)), (1, .int v)] dL_drawn_38 (by decide) rfl ?_
      refine q_iconst hX 1 dL_drawn_40 (by decide) ?_
      refine q_iload_n hX 4 dL_drawn_41 rfl ?_
      refine q_bipush hX 6 dL_drawn_42 (by decide) ?_
      refine q_ishr hX dL_drawn_44 ?_
      refine q_bipush hX 8 dL_drawn_45 (by decide) ?_
      refine q_ctE hX hG (by decide) (by decide) (As := [.int (v >>> (6 &&& 31)), .int 8]) (rest := [.int 1]) (c_L_up l G B E hG hE z (v := (v >>> (6 &&& 31))) (m := 8) (by decide)) k_L_drawn_L_up rfl rfl (Nat.le_of_ble_eq_true rfl) dL_drawn_47 ?_
      obtain ⟨t0, ht0, et0⟩ := up_in (v := (v >>> (6 &&& 31))) (m := 8) (by omega) (by omega)
      refine q_top (nI t0) et0 ?_
      refine q_iadd hX dL_drawn_50 ?_
      refine q_top (nI (1 + t0)) (nI_add 1 t0) ?_
      refine q_istore hX [(5, .int (nI (1 + t0))), (4, .int (z 4 5)), (3, .int (nI a0)), (2, .int (nI (nA z))), (0, .ref (G.2.2 192)), (1, .int v)] dL_drawn_51 (by decide) rfl ?_
      refine q_aload_n hX 4 dL_drawn_53 rfl ?_
      refine q_iload_n hX 2 dL_drawn_54 rfl ?_
      refine q_iload hX 0 dL_drawn_55 rfl ?_
      refine q_cv hX hG (by decide) (by decide) (As := [.int (nI a0), .int (nI (1 + t0))]) (rest := []) (c_X6_tries l G hG.1 z (a := (nI a0)) (t := (nI (1 + t0))) (hI := hJ.io)) k_L_drawn_X6_tries (fun i hi => absurd hi (Nat.not_lt_zero _)) rfl rfl (Nat.le_of_ble_eq_true rfl) dL_drawn_57 ?_
      obtain ⟨T1, T2⟩ := tries_ans hJ ha0 (t := 1 + t0) (by omega) (by omega)
      by_cases h0 : a_s z a0 = 0
      · -- case
        obtain ⟨eW, eL⟩ := T2 h0
        obtain ⟨wn, hwn, ewn⟩ := tryW_n z (nI (a_r z a0)) (nI (a_d z a0)) a0 (1 + t0)
        obtain ⟨w, hdw⟩ : ∃ s_ : St, s_ = (cTries z (nI a0) (nI (1 + t0))).2 := ⟨_, rfl⟩
        refine q_z (z2 := w) hdw.symm ?_
        refine q_top (nI wn) (eW.trans ewn) ?_
        have hwz : SamS w z := fun f hf _ _ _ => by rw [hdw]; exact eL f hf
        have hw := hwz.ji hJ
        refine q_istore hX [(6, .int (nI wn)), (5, .int (nI (1 + t0))), (4, .int (z 4 5)), (3, .int (nI a0)), (2, .int (nI (nA z))), (0, .ref (G.2.2 192)), (1, .int v)] dL_drawn_60 (by decide) rfl ?_
        have hs7 := (hJ.ap ha0).2.2.2.2.1.2
        refine q_aload_n hX 5 dL_drawn_62 rfl ?_
        refine q_iload_n hX 3 dL_drawn_63 rfl ?_
        refine q_iconst hX 4 dL_drawn_64 (by decide) ?_
        refine q_cv hX hG (by decide) (by decide) (As := [.int (nI a0), .int 4]) (rest := []) (c_X6_application l G w (a := (nI a0)) (w := 4) (hI := hw.io)) k_L_drawn_X6_application (fun _ _ => rfl) rfl rfl (Nat.le_of_ble_eq_true rfl) dL_drawn_65 ?_
        refine q_top (nI (a_s z a0)) ((cgs_application hwz).trans (ap4 hJ (a := a0) (by omega))) ?_
        refine q_if_eq hX 84 dL_drawn_68 (by decide) (fun c2 => ?_) (fun c2 => ?_)
        · -- jump 84
          have nc2 : ((a_s z a0 : Nat) = 0) := (nI_eq (a := a_s z a0) (b := 0) (by omega) (by omega)).mp c2
          refine q_iload hX 0 dL_drawn_84 rfl ?_
          refine q_if_lt hX 107 dL_drawn_86 (by decide) (fun c3 => ?_) (fun c3 => ?_)
          · -- jump 107
            have nc3 : ((wn : Nat) < 0) := (nI_ltI (a := wn) (b := 0) (by omega) (by omega)).mp c3
            refine q_iconst hX 0 dL_drawn_107 (by decide) ?_
            exfalso
            omega
          · -- on 89
            have nc3 : ¬ ((wn : Nat) < 0) := fun q => c3 ((nI_ltI (a := wn) (b := 0) (by omega) (by omega)).mpr q)
            refine q_iload hX 0 dL_drawn_89 rfl ?_
            refine q_iload hX 1 dL_drawn_91 rfl ?_
            refine q_ic_gt hX 107 dL_drawn_93 (by decide) (fun c4 => ?_) (fun c4 => ?_)
            · -- jump 107
              have nc4 : ((1 + t0 : Nat) < wn) := (nI_ltI (a := 1 + t0) (b := wn) (by omega) (by omega)).mp c4
              refine q_iconst hX 0 dL_drawn_107 (by decide) ?_
              exfalso
              omega
            · -- on 96
              have nc4 : ¬ ((1 + t0 : Nat) < wn) := fun q => c4 ((nI_ltI (a := 1 + t0) (b := wn) (by omega) (by omega)).mpr q)
              refine q_aload_n hX 5 dL_drawn_96 rfl ?_
              refine q_bipush hX 20 dL_drawn_97 (by decide) ?_
              refine q_cv hX hG (by decide) (by decide) (As := [.int 20]) (rest := []) (c_X6_count l G w (w := 20) (hI := hw.io)) k_L_drawn_X6_count (fun _ _ => rfl) rfl rfl (Nat.le_of_ble_eq_true rfl) dL_drawn_99 ?_
              refine q_top (z 4 5) ((cgs_count hwz).trans (ct20 hJ)) ?_
              refine q_iload hX 2 dL_drawn_102 rfl ?_
              refine q_ic_eq hX 109 dL_drawn_104 (by decide) (fun c5 => ?_) (fun c5 => ?_)
              · -- jump 109
                refine q_iconst hX 0 dL_drawn_109 (by decide) ?_
                refine q_istore hX [(7, .int 0), (6, .int (nI wn)), (5, .int (nI (1 + t0))), (4, .int (z 4 5)), (3, .int (nI a0)), (2, .int (nI (nA z))), (0, .ref (G.2.2 192)), (1, .int v)] dL_drawn_110 (by decide) rfl ?_
                refine q_aload_n hX 6 dL_drawn_112 rfl ?_
                refine q_iload_n hX 4 dL_drawn_113 rfl ?_
                refine q_iconst hX 2 dL_drawn_114 (by decide) ?_
                refine q_cv hX hG (by decide) (by decide) (As := [.int (nI a0), .int 2]) (rest := []) (c_X6_application l G w (a := (nI a0)) (w := 2) (hI := hw.io)) k_L_drawn_X6_application (fun _ _ => rfl) rfl rfl (Nat.le_of_ble_eq_true rfl) dL_drawn_115 ?_
                refine q_top (nI (a_d z a0)) ((cgs_application hwz).trans (ap2 hJ (a := a0) (by omega))) ?_
                refine q_istore hX [(8, .int (nI (a_d z a0))), (7, .int 0), (6, .int (nI wn)), (5, .int (nI (1 + t0))), (4, .int (z 4 5)), (3, .int (nI a0)), (2, .int (nI (nA z))), (0, .ref (G.2.2 192)), (1, .int v)] dL_drawn_118 (by decide) rfl ?_
                refine q_aload_n hX 7 dL_drawn_120 rfl ?_
                refine q_iload_n hX 5 dL_drawn_121 rfl ?_
                refine q_iconst hX 1 dL_drawn_122 (by decide) ?_
                refine q_cv hX hG (by decide) (by decide) (As := [.int (nI a0), .int 1]) (rest := []) (c_X6_application l G w (a := (nI a0)) (w := 1) (hI := hw.io)) k_L_drawn_X6_application (fun _ _ => rfl) rfl rfl (Nat.le_of_ble_eq_true rfl) dL_drawn_123 ?_
                refine q_top (nI (a_r z a0)) ((cgs_application hwz).trans (ap1 hJ (a := a0) (by omega))) ?_
                refine q_istore hX [(9, .int (nI (a_r z a0))), (8, .int (nI (a_d z a0))), (7, .int 0), (6, .int (nI wn)), (5, .int (nI (1 + t0))), (4, .int (z 4 5)), (3, .int (nI a0)), (2, .int (nI (nA z))), (0, .ref (G.2.2 192)), (1, .int v)] dL_drawn_126 (by decide) rfl ?_
                refine q_iconst hX 0 dL_drawn_128 (by decide) ?_
                refine q_istore hX [(10, .int 0), (9, .int (nI (a_r z a0))), (8, .int (nI (a_d z a0))), (7, .int 0), (6, .int (nI wn)), (5, .int (nI (1 + t0))), (4, .int (z 4 5)), (3, .int (nI a0)), (2, .int (nI (nA z))), (0, .ref (G.2.2 192)), (1, .int v)] dL_drawn_129 (by decide) rfl ?_
                have loop131 : ∀ (nf131 : Nat) (k : Nat) (y : St), ((1 + t0) < k + nf131) → (k ≤ 1 + t0) → (JI y (b + 600 * k)) → (OffL y z) → LG X B 0 (fun _ => 0) G 0 0 y 131 [(0, .ref (G.2.2 192)), (3, .int (nI a0)), (4, .int (tryK z (nI (a_r z a0)) (nI (a_d z a0)) k 4 5)), (5, .int (nI (1 + t0))), (6, .int (nI wn)), (7, .int (tryW z (nI (a_r z a0)) (nI (a_d z a0)) a0 k)), (8, .int (nI (a_d z a0))), (9, .int (nI (a_r z a0))), (10, .int (nI k))] [] := by
                  intro nf131
                  induction nf131 with
                  | zero =>
                    intro k y hmu131 hk0 hy hoff
                    exfalso; omega
                  | succ nf131 ih131 =>
                    intro k y hmu131 hk0 hy hoff
                    obtain ⟨s0, hs0, es0⟩ : ∃ s, s < 65536 ∧ tryK z (nI (a_r z a0)) (nI (a_d z a0)) k 4 5 = nI s := (TrI_K hJ.oi.sd (nI (a_r z a0)) (nI (a_d z a0)) k).2.2.1
                    have eny := hoff.n
                    have hsy := hoff.s hJ ha0
                    refine q_iload hX 8 dL_drawn_131 rfl ?_
                    refine q_iload hX 3 dL_drawn_133 rfl ?_
                    refine q_ic_ge hX 235 dL_drawn_135 (by decide) (fun c6 => ?_) (fun c6 => ?_)
                    · -- jump 235
                      have nc6 : ((1 + t0 : Nat) ≤ k) := (nI_leI (a := 1 + t0) (b := k) (by omega) (by omega)).mp c6
                      have ek : k = 1 + t0 := by omega
                      refine q_lv (lv' := [(0, .ref (G.2.2 192)), (3, .int (nI a0)), (4, .int (tryK z (nI (a_r z a0)) (nI (a_d z a0)) k 4 5)), (5, .int (nI (1 + t0))), (6, .int (nI wn)), (7, .int (nI wn)), (8, .int (nI (a_d z a0))), (9, .int (nI (a_r z a0))), (10, .int (nI k))]) (by rw [ek, ewn]) ?_
                      refine q_iload hX 4 dL_drawn_235 rfl ?_
                      refine q_iload hX 5 dL_drawn_237 rfl ?_
                      refine q_ic_ne hX 255 dL_drawn_239 (by decide) (fun c7 => ?_) (fun c7 => ?_)
                      · -- jump 255
                        exact absurd rfl c7
                      · -- on 242
                        refine q_aload_n hX 0 dL_drawn_242 rfl ?_
                        refine q_iload_n hX 1 dL_drawn_243 rfl ?_
                        refine q_iconst hX 4 dL_drawn_244 (by decide) ?_
                        refine q_cv hX hG (by decide) (by decide) (As := [.int (nI a0), .int 4]) (rest := []) (c_X6_application l G y (a := (nI a0)) (w := 4) (hI := hy.io)) k_L_drawn_X6_application (fun _ _ => rfl) rfl rfl (Nat.le_of_ble_eq_true rfl) dL_drawn_245 ?_
                        refine q_top (nI (a_s y a0)) (ap4 hy (a := a0) (by omega)) ?_
                        refine q_if_ne hX 255 dL_drawn_248 (by decide) (fun c8 => ?_) (fun c8 => ?_)
                        · -- jump 255
                          have nc8 : ¬ ((a_s y a0 : Nat) = 0) := fun q => c8 ((nI_eq (a := a_s y a0) (b := 0) (by omega) (by omega)).mpr q)
                          refine q_iconst hX 0 dL_drawn_255 (by decide) ?_
                          exfalso
                          omega
                        · -- on 251
                          have nc8 : ((a_s y a0 : Nat) = 0) := (nI_eq (a := a_s y a0) (b := 0) (by omega) (by omega)).mp (Decidable.not_not.mp c8)
                          refine q_iconst hX 1 dL_drawn_251 (by decide) ?_
                          refine q_goto hX 256 dL_drawn_252 (by decide) ?_
                          refine ret _ _ _ _ _ _ (by decide) (by decide) dL_drawn_256 ?_
                          exact ⟨rfl, (hy).mono (by omega) (by omega)⟩
                    · -- on 138
                      have nc6 : ¬ ((1 + t0 : Nat) ≤ k) := fun q => c6 ((nI_leI (a := 1 + t0) (b := k) (by omega) (by omega)).mpr q)
                      refine q_lv (lv' := [(0, .ref (G.2.2 192)), (3, .int (nI a0)), (4, .int (nI s0)), (5, .int (nI (1 + t0))), (6, .int (nI wn)), (7, .int (tryW z (nI (a_r z a0)) (nI (a_d z a0)) a0 k)), (8, .int (nI (a_d z a0))), (9, .int (nI (a_r z a0))), (10, .int (nI k))]) (by rw [es0]) ?_
                      refine q_aload_n hX 0 dL_drawn_138 rfl ?_
                      refine q_iconst hX 0 dL_drawn_139 (by decide) ?_
                      refine q_cv hX hG (by decide) (by decide) (As := [.int 0]) (rest := []) (c_X6_save l G hG.1 y (s := 0) (hb := hy.inv.2.2.1) (hcl := hy.inv.2.2.2.1)) k_L_drawn_X6_save (fun i hi => absurd hi (Nat.not_lt_zero _)) rfl rfl (Nat.le_of_ble_eq_true rfl) dL_drawn_140 ?_
                      obtain ⟨y1, hd1, hy1, gT, g20, gsv, g87⟩ := save87 hJ hy hoff (by omega)
                      refine q_cg (z2 := y1) hd1 (fun i hi => absurd hi (Nat.not_lt_zero _)) ?_
                      refine q_top (nI (TN y)) gT ?_
                      have eT1 : TN y1 = TN y := by unfold TN; rw [g20 0 (by omega)]
                      have hTy := hy.t0.2
                      refine q_aload_n hX 0 dL_drawn_143 rfl ?_
                      refine q_iconst hX 0 dL_drawn_144 (by decide) ?_
                      refine q_cv hX hG (by decide) (by decide) (As := [.int 0]) (rest := [.int (nI (TN y))]) (c_X6_count l G y1 (w := 0) (hI := hy1.io)) k_L_drawn_X6_count (fun _ _ => rfl) rfl rfl (Nat.le_of_ble_eq_true rfl) dL_drawn_145 ?_
                      refine q_top (nI (TN y1)) (ct0 hy1) ?_
                      refine q_ic_ne hX 172 dL_drawn_148 (by decide) (fun c9 => ?_) (fun c9 => ?_)
                      · -- jump 172
                        have nc9 : ¬ ((TN y : Nat) = TN y1) := fun q => c9 ((nI_eq (a := TN y) (b := TN y1) (by omega) (by omega)).mpr q)
                        refine q_iconst hX 0 dL_drawn_172 (by decide) ?_
                        exfalso
                        omega
                      · -- on 151
                        have nc9 : ((TN y : Nat) = TN y1) := (nI_eq (a := TN y) (b := TN y1) (by omega) (by omega)).mp (Decidable.not_not.mp c9)
                        refine q_aload_n hX 0 dL_drawn_151 rfl ?_
                        refine q_iconst hX 5 dL_drawn_152 (by decide) ?_
                        refine q_iload hX 2 dL_drawn_153 rfl ?_
                        refine q_cv hX hG (by decide) (by decide) (As := [.int 5, .int (nI s0)]) (rest := []) (c_X6_set l G hG.1 y1 (x := 5) (y := (nI s0)) ) k_L_drawn_X6_set (fun i hi => absurd hi (Nat.not_lt_zero _)) rfl rfl (Nat.le_of_ble_eq_true rfl) dL_drawn_155 ?_
                        obtain ⟨sv, hsv, eF⟩ := set_seed y1 hy1 hs0
                        have hy2 := JI_set hy1 (by omega) 5 (nI s0)
                        rw [eF] at hy2 ⊢
                        obtain ⟨y2, hd2⟩ : ∃ s_ : St, s_ = u2 y1 4 5 (nI s0) := ⟨_, rfl⟩
                        refine q_z (z2 := y2) hd2.symm ?_
                        refine q_top (nI sv) rfl ?_
                        replace hy2 : JI y2 (b + 600 * k + 100 + 100) := by rw [hd2]; exact hy2
                        refine q_if_lt hX 172 dL_drawn_158 (by decide) (fun c10 => ?_) (fun c10 => ?_)
                        · -- jump 172
                          have nc10 : ((sv : Nat) < 0) := (nI_ltI (a := sv) (b := 0) (by omega) (by omega)).mp c10
                          refine q_iconst hX 0 dL_drawn_172 (by decide) ?_
                          exfalso
                          omega
                        · -- on 161
                          have nc10 : ¬ ((sv : Nat) < 0) := fun q => c10 ((nI_ltI (a := sv) (b := 0) (by omega) (by omega)).mpr q)
                          refine q_aload_n hX 0 dL_drawn_161 rfl ?_
                          refine q_iload hX 7 dL_drawn_162 rfl ?_
                          refine q_iload hX 6 dL_drawn_164 rfl ?_
                          refine q_cv hX hG (by decide) (by decide) (As := [.int (nI (a_r z a0)), .int (nI (a_d z a0))]) (rest := []) (c_X6_lottery l G hG.1 y2 (r := (nI (a_r z a0))) (d := (nI (a_d z a0))) (hI := hy2.io)) k_L_drawn_X6_lottery (fun i hi => absurd hi (Nat.not_lt_zero _)) rfl rfl (Nat.le_of_ble_eq_true rfl) dL_drawn_166 ?_
                          obtain ⟨y3, n, hd3, hy3, eN, hn40, en3, hk3, es3, ew3⟩ := draw_law (k := k) hJ hy2 (by omega) ha0 h0 (fun f i hf hi h45 => by
                              rw [hd2, u2_ne (by omega), g20 f hf]; exact hoff f i hf hi) (by rw [hd2, u2_f (by decide)]; exact g87) (by rw [hd2, u2_s, es0])
                          refine q_cg (z2 := y3) hd3 (fun i hi => absurd hi (Nat.not_lt_zero _)) ?_
                          refine q_top (nI n) eN ?_
                          obtain ⟨s1, hs1, es1⟩ : ∃ s, s < 65536 ∧ tryK z (nI (a_r z a0)) (nI (a_d z a0)) (k + 1) 4 5 = nI s := (TrI_K hJ.oi.sd (nI (a_r z a0)) (nI (a_d z a0)) (k + 1)).2.2.1
                          have h3s := (hy3.ap (a := a0) (by omega)).2.2.2.2.1.2
                          refine q_if_ge hX 174 dL_drawn_169 (by decide) (fun c11 => ?_) (fun c11 => ?_)
                          · -- jump 174
                            have nc11 : ((0 : Nat) ≤ n) := (nI_leI (a := 0) (b := n) (by omega) (by omega)).mp c11
                            refine q_iload hX 5 dL_drawn_174 rfl ?_
                            obtain ⟨e3, he3⟩ : ∃ e3 : Nat, e3 = if a_s y3 a0 = 1 then 1 else 0 := ⟨_, rfl⟩
                            have km12 : LG X B 0 (fun _ => 0) G 0 0 y3 191 [(0, .ref (G.2.2 192)), (3, .int (nI a0)), (4, .int (nI s0)), (5, .int (nI (1 + t0))), (6, .int (nI wn)), (7, .int (tryW z (nI (a_r z a0)) (nI (a_d z a0)) a0 k)), (8, .int (nI (a_d z a0))), (9, .int (nI (a_r z a0))), (10, .int (nI k))] [.int (nI e3), .int (tryW z (nI (a_r z a0)) (nI (a_d z a0)) a0 k)] := by
                              refine q_iadd hX dL_drawn_191 ?_
                              refine q_istore hX [(7, .int ((tryW z (nI (a_r z a0)) (nI (a_d z a0)) a0 k) + (nI e3))), (0, .ref (G.2.2 192)), (3, .int (nI a0)), (4, .int (nI s0)), (5, .int (nI (1 + t0))), (6, .int (nI wn)), (8, .int (nI (a_d z a0))), (9, .int (nI (a_r z a0))), (10, .int (nI k))] dL_drawn_192 (by decide) rfl ?_
                              refine q_aload_n hX 1 dL_drawn_194 rfl ?_
                              refine q_bipush hX 20 dL_drawn_195 (by decide) ?_
                              refine q_cv hX hG (by decide) (by decide) (As := [.int 20]) (rest := []) (c_X6_count l G y3 (w := 20) (hI := hy3.io)) k_L_drawn_X6_count (fun _ _ => rfl) rfl rfl (Nat.le_of_ble_eq_true rfl) dL_drawn_197 ?_
                              refine q_top (nI s1) ((ct20 hy3).trans (es3.trans es1)) ?_
                              refine q_istore hX [(4, .int (nI s1)), (7, .int ((tryW z (nI (a_r z a0)) (nI (a_d z a0)) a0 k) + (nI e3))), (0, .ref (G.2.2 192)), (3, .int (nI a0)), (5, .int (nI (1 + t0))), (6, .int (nI wn)), (8, .int (nI (a_d z a0))), (9, .int (nI (a_r z a0))), (10, .int (nI k))] dL_drawn_200 (by decide) rfl ?_
                              refine q_iload hX 0 dL_drawn_202 rfl ?_
                              refine q_if_lt hX 227 dL_drawn_204 (by decide) (fun c13 => ?_) (fun c13 => ?_)
                              · -- jump 227
                                have nc13 : ((s1 : Nat) < 0) := (nI_ltI (a := s1) (b := 0) (by omega) (by omega)).mp c13
                                refine q_iconst hX 0 dL_drawn_227 (by decide) ?_
                                exfalso
                                omega
                              · -- on 207
                                have nc13 : ¬ ((s1 : Nat) < 0) := fun q => c13 ((nI_ltI (a := s1) (b := 0) (by omega) (by omega)).mpr q)
                                refine q_iload hX 0 dL_drawn_207 rfl ?_
                                refine q_ldc hX 65535 dL_drawn_209 (List.mem_of_getElem? (i := 1) rfl) ?_
                                refine q_ic_gt hX 227 dL_drawn_211 (by decide) (fun c14 => ?_) (fun c14 => ?_)
                                · -- jump 227
                                  have nc14 : ((65535 : Nat) < s1) := (nI_ltI (a := 65535) (b := s1) (by omega) (by omega)).mp c14
                                  refine q_iconst hX 0 dL_drawn_227 (by decide) ?_
                                  exfalso
                                  omega
                                · -- on 214
                                  have nc14 : ¬ ((65535 : Nat) < s1) := fun q => c14 ((nI_ltI (a := 65535) (b := s1) (by omega) (by omega)).mpr q)
                                  refine q_aload_n hX 2 dL_drawn_214 rfl ?_
                                  refine q_iconst hX 0 dL_drawn_215 (by decide) ?_
                                  refine q_cv hX hG (by decide) (by decide) (As := [.int 0]) (rest := []) (c_X6_restore l G hG.1 y3 (s := 0) (hb := hy3.inv.2.2.1) (hcl := hy3.inv.2.2.2.1)) k_L_drawn_X6_restore (fun i hi => absurd hi (Nat.not_lt_zero _)) rfl rfl (Nat.le_of_ble_eq_true rfl) dL_drawn_216 ?_
                                  have hsv3 : SV y3 0 y := ⟨fun f i hf hi => by rw [hk3 _ (by omega) (by omega), hd2, u2_f (by omega)]; exact gsv.1 f i hf hi, by rw [hk3 60 (by decide) (by decide), hd2, u2_f (by decide)]; exact gsv.2⟩
                                  obtain ⟨y4, hd4, -, hy4, gR, oR, -⟩ := restore_step hy3 (by omega) (s := 0) (by decide) hy hsv3
                                  refine q_cg (z2 := y4) hd4 (fun i hi => absurd hi (Nat.not_lt_zero _)) ?_
                                  refine q_top (nI (TN y)) gR ?_
                                  have eT4 := oR.t
                                  refine q_aload_n hX 2 dL_drawn_219 rfl ?_
                                  refine q_iconst hX 0 dL_drawn_220 (by decide) ?_
                                  refine q_cv hX hG (by decide) (by decide) (As := [.int 0]) (rest := [.int (nI (TN y))]) (c_X6_count l G y4 (w := 0) (hI := hy4.io)) k_L_drawn_X6_count (fun _ _ => rfl) rfl rfl (Nat.le_of_ble_eq_true rfl) dL_drawn_221 ?_
                                  refine q_top (nI (TN y4)) (ct0 hy4) ?_
                                  refine q_ic_eq hX 229 dL_drawn_224 (by decide) (fun c15 => ?_) (fun c15 => ?_)
                                  · -- jump 229
                                    have nc15 : ((TN y : Nat) = TN y4) := (nI_eq (a := TN y) (b := TN y4) (by omega) (by omega)).mp c15
                                    refine q_iinc hX (nI (k + 1)) 8 [(10, .int (nI (k + 1))), (4, .int (nI s1)), (7, .int ((tryW z (nI (a_r z a0)) (nI (a_d z a0)) a0 k) + (nI e3))), (0, .ref (G.2.2 192)), (3, .int (nI a0)), (5, .int (nI (1 + t0))), (6, .int (nI wn)), (8, .int (nI (a_d z a0))), (9, .int (nI (a_r z a0)))] dL_drawn_229 rfl (nI_1 k) (by decide) rfl ?_
                                    refine q_goto hX 131 dL_drawn_232 (by decide) ?_
                                    refine q_sub [3, 4, 1, 5, 6, 2, 7, 8, 0] [(0, .ref (G.2.2 192)), (3, .int (nI a0)), (4, .int (nI s1)), (5, .int (nI (1 + t0))), (6, .int (nI wn)), (7, .int ((tryW z (nI (a_r z a0)) (nI (a_d z a0)) a0 k) + (nI e3))), (8, .int (nI (a_d z a0))), (9, .int (nI (a_r z a0))), (10, .int (nI (k + 1)))] rfl ?_
                                    have el4 : (nI s1 : Int32) = tryK z (nI (a_r z a0)) (nI (a_d z a0)) (k + 1) 4 5 := by exact es1.symm
                                    refine q_lv (lv' := [(0, .ref (G.2.2 192)), (3, .int (nI a0)), (4, .int (tryK z (nI (a_r z a0)) (nI (a_d z a0)) (k + 1) 4 5)), (5, .int (nI (1 + t0))), (6, .int (nI wn)), (7, .int ((tryW z (nI (a_r z a0)) (nI (a_d z a0)) a0 k) + (nI e3))), (8, .int (nI (a_d z a0))), (9, .int (nI (a_r z a0))), (10, .int (nI (k + 1)))]) (by rw [← el4]) ?_
                                    have el7 : ((tryW z (nI (a_r z a0)) (nI (a_d z a0)) a0 k) + (nI e3) : Int32) = tryW z (nI (a_r z a0)) (nI (a_d z a0)) a0 (k + 1) := by exact (ew3.trans (by rw [← he3])).symm
                                    refine q_lv (lv' := [(0, .ref (G.2.2 192)), (3, .int (nI a0)), (4, .int (tryK z (nI (a_r z a0)) (nI (a_d z a0)) (k + 1) 4 5)), (5, .int (nI (1 + t0))), (6, .int (nI wn)), (7, .int (tryW z (nI (a_r z a0)) (nI (a_d z a0)) a0 (k + 1))), (8, .int (nI (a_d z a0))), (9, .int (nI (a_r z a0))), (10, .int (nI (k + 1)))]) (by rw [← el7]) ?_
                                    exact ih131 (k + 1) y4 (by omega) (by omega) (hy4.mono (by omega) (by omega)) (off_trans oR hoff)
                                  · -- on 227
                                    have nc15 : ¬ ((TN y : Nat) = TN y4) := fun q => c15 ((nI_eq (a := TN y) (b := TN y4) (by omega) (by omega)).mpr q)
                                    refine q_iconst hX 0 dL_drawn_227 (by decide) ?_
                                    exfalso
                                    omega
                            refine q_aload_n hX 0 dL_drawn_176 rfl ?_
                            refine q_iload_n hX 1 dL_drawn_177 rfl ?_
                            refine q_iconst hX 4 dL_drawn_178 (by decide) ?_
                            refine q_cv hX hG (by decide) (by decide) (As := [.int (nI a0), .int 4]) (rest := [.int (tryW z (nI (a_r z a0)) (nI (a_d z a0)) a0 k)]) (c_X6_application l G y3 (a := (nI a0)) (w := 4) (hI := hy3.io)) k_L_drawn_X6_application (fun _ _ => rfl) rfl rfl (Nat.le_of_ble_eq_true rfl) dL_drawn_179 ?_
                            refine q_top (nI (a_s y3 a0)) (ap4 hy3 (a := a0) (by omega)) ?_
                            refine q_iconst hX 1 dL_drawn_182 (by decide) ?_
                            refine q_ic_ne hX 190 dL_drawn_183 (by decide) (fun c16 => ?_) (fun c16 => ?_)
                            · -- jump 190
                              have nc16 : ¬ ((a_s y3 a0 : Nat) = 1) := fun q => c16 ((nI_eq (a := a_s y3 a0) (b := 1) (by omega) (by omega)).mpr q)
                              refine q_iconst hX 0 dL_drawn_190 (by decide) ?_
                              refine q_top (nI e3) (by
                                first | (rw [he3, if_pos (by omega)]; rfl) | (rw [he3, if_neg (by omega)]; rfl)) ?_
                              refine q_sub [0, 1, 2, 3, 4, 5, 6, 7, 8] [(0, .ref (G.2.2 192)), (3, .int (nI a0)), (4, .int (nI s0)), (5, .int (nI (1 + t0))), (6, .int (nI wn)), (7, .int (tryW z (nI (a_r z a0)) (nI (a_d z a0)) a0 k)), (8, .int (nI (a_d z a0))), (9, .int (nI (a_r z a0))), (10, .int (nI k))] rfl ?_
                              exact km12
                            · -- on 186
                              have nc16 : ((a_s y3 a0 : Nat) = 1) := (nI_eq (a := a_s y3 a0) (b := 1) (by omega) (by omega)).mp (Decidable.not_not.mp c16)
                              refine q_iconst hX 1 dL_drawn_186 (by decide) ?_
                              refine q_goto hX 191 dL_drawn_187 (by decide) ?_
                              refine q_top (nI e3) (by
                                first | (rw [he3, if_pos (by omega)]; rfl) | (rw [he3, if_neg (by omega)]; rfl)) ?_
                              refine q_sub [0, 1, 2, 3, 4, 5, 6, 7, 8] [(0, .ref (G.2.2 192)), (3, .int (nI a0)), (4, .int (nI s0)), (5, .int (nI (1 + t0))), (6, .int (nI wn)), (7, .int (tryW z (nI (a_r z a0)) (nI (a_d z a0)) a0 k)), (8, .int (nI (a_d z a0))), (9, .int (nI (a_r z a0))), (10, .int (nI k))] rfl ?_
                              exact km12
                          · -- on 172
                            have nc11 : ¬ ((0 : Nat) ≤ n) := fun q => c11 ((nI_leI (a := 0) (b := n) (by omega) (by omega)).mpr q)
                            refine q_iconst hX 0 dL_drawn_172 (by decide) ?_
                            exfalso
                            omega
                refine q_sub [9, 7, 6, 5, 4, 3, 2, 1, 0] [(0, .ref (G.2.2 192)), (3, .int (nI a0)), (4, .int (z 4 5)), (5, .int (nI (1 + t0))), (6, .int (nI wn)), (7, .int 0), (8, .int (nI (a_d z a0))), (9, .int (nI (a_r z a0))), (10, .int 0)] rfl ?_
                have el4 : (z 4 5 : Int32) = tryK z (nI (a_r z a0)) (nI (a_d z a0)) 0 4 5 := by show z 4 5 = asK z 478 4 5; rw [asK_lo _ _ (by decide)]
                refine q_lv (lv' := [(0, .ref (G.2.2 192)), (3, .int (nI a0)), (4, .int (tryK z (nI (a_r z a0)) (nI (a_d z a0)) 0 4 5)), (5, .int (nI (1 + t0))), (6, .int (nI wn)), (7, .int 0), (8, .int (nI (a_d z a0))), (9, .int (nI (a_r z a0))), (10, .int 0)]) (by rw [← el4]) ?_
                have el7 : (0 : Int32) = tryW z (nI (a_r z a0)) (nI (a_d z a0)) a0 0 := by rfl
                refine q_lv (lv' := [(0, .ref (G.2.2 192)), (3, .int (nI a0)), (4, .int (tryK z (nI (a_r z a0)) (nI (a_d z a0)) 0 4 5)), (5, .int (nI (1 + t0))), (6, .int (nI wn)), (7, .int (tryW z (nI (a_r z a0)) (nI (a_d z a0)) a0 0)), (8, .int (nI (a_d z a0))), (9, .int (nI (a_r z a0))), (10, .int 0)]) (by rw [← el7]) ?_
                have el10 : (0 : Int32) = nI 0 := by rfl
                refine q_lv (lv' := [(0, .ref (G.2.2 192)), (3, .int (nI a0)), (4, .int (tryK z (nI (a_r z a0)) (nI (a_d z a0)) 0 4 5)), (5, .int (nI (1 + t0))), (6, .int (nI wn)), (7, .int (tryW z (nI (a_r z a0)) (nI (a_d z a0)) a0 0)), (8, .int (nI (a_d z a0))), (9, .int (nI (a_r z a0))), (10, .int (nI 0))]) (by rw [← el10]) ?_
                exact loop131 ((1 + t0) + 1) 0 w (by omega) (Nat.zero_le _) (hw.mono (by omega) (by omega)) (fun f i hf _ => by rw [hwz.lo (by omega)])
              · -- on 107
                exact absurd rfl c5
        · -- on 71
          have nc2 : ¬ ((a_s z a0 : Nat) = 0) := fun q => c2 ((nI_eq (a := a_s z a0) (b := 0) (by omega) (by omega)).mpr q)
          exfalso; omega
      · -- case
        rw [T1 h0]
        refine q_z (z2 := z) rfl ?_
        refine q_top (-5) rfl ?_
        refine q_istore hX [(6, .int (-5)), (5, .int (nI (1 + t0))), (4, .int (z 4 5)), (3, .int (nI a0)), (2, .int (nI (nA z))), (0, .ref (G.2.2 192)), (1, .int v)] dL_drawn_60 (by decide) rfl ?_
        have hs7 := (hJ.ap ha0).2.2.2.2.1.2
        refine q_aload_n hX 5 dL_drawn_62 rfl ?_
        refine q_iload_n hX 3 dL_drawn_63 rfl ?_
        refine q_iconst hX 4 dL_drawn_64 (by decide) ?_
        refine q_cv hX hG (by decide) (by decide) (As := [.int (nI a0), .int 4]) (rest := []) (c_X6_application l G z (a := (nI a0)) (w := 4) (hI := hJ.io)) k_L_drawn_X6_application (fun _ _ => rfl) rfl rfl (Nat.le_of_ble_eq_true rfl) dL_drawn_65 ?_
        refine q_top (nI (a_s z a0)) (ap4 hJ (a := a0) (by omega)) ?_
        refine q_if_eq hX 84 dL_drawn_68 (by decide) (fun c17 => ?_) (fun c17 => ?_)
        · -- jump 84
          have nc17 : ((a_s z a0 : Nat) = 0) := (nI_eq (a := a_s z a0) (b := 0) (by omega) (by omega)).mp c17
          exfalso; omega
        · -- on 71
          have nc17 : ¬ ((a_s z a0 : Nat) = 0) := fun q => c17 ((nI_eq (a := a_s z a0) (b := 0) (by omega) (by omega)).mpr q)
          refine q_iload hX 0 dL_drawn_71 rfl ?_
          refine q_bipush hX (-5) dL_drawn_73 (by decide) ?_
          refine q_ic_ne hX 82 dL_drawn_75 (by decide) (fun c18 => ?_) (fun c18 => ?_)
          · -- jump 82
            exact absurd c18 (by decide)
          · -- on 78
            refine q_iconst hX 1 dL_drawn_78 (by decide) ?_
            refine q_goto hX 83 dL_drawn_79 (by decide) ?_
            refine ret _ _ _ _ _ _ (by decide) (by decide) dL_drawn_83 ?_
            exact ⟨rfl, (hJ).mono (by omega) (by omega)⟩
    · -- on 10
      have nc1 : ((nA z : Nat) = 0) := (nI_eq (a := nA z) (b := 0) (by omega) (by omega)).mp (Decidable.not_not.mp c1)
      refine q_aload_n hX 1 dL_drawn_10 rfl ?_
      refine q_iconst hX 0 dL_drawn_11 (by decide) ?_
      refine q_iconst hX 1 dL_drawn_12 (by decide) ?_
      refine q_cv hX hG (by decide) (by decide) (As := [.int 0, .int 1]) (rest := []) (c_X6_tries l G hG.1 z (a := 0) (t := 1) (hI := hJ.io)) k_L_drawn_X6_tries (fun i hi => absurd hi (Nat.not_lt_zero _)) rfl rfl (Nat.le_of_ble_eq_true rfl) dL_drawn_13 ?_
      rw [tries_none hJ (by omega)]
      refine q_z (z2 := z) rfl ?_
      refine q_top (-1) rfl ?_
      refine q_iconst hX (-1) dL_drawn_16 (by decide) ?_
      refine q_ic_ne hX 24 dL_drawn_17 (by decide) (fun c19 => ?_) (fun c19 => ?_)
      · -- jump 24
        exact absurd c19 (by decide)
      · -- on 20
        refine q_iconst hX 1 dL_drawn_20 (by decide) ?_
        refine q_goto hX 25 dL_drawn_21 (by decide) ?_
        refine ret _ _ _ _ _ _ (by decide) (by decide) dL_drawn_25 ?_
        exact ⟨rfl, (hJ).mono (by omega) (by omega)⟩
