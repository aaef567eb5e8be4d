/-! ===== the law's own: lotteries ===== -/
/-- the same but for the law's rows and the class's rows of a draw -/
def SamS (w z : St) : Prop := ∀ f, (f < 61 ∨ 67 < f) → f ≠ 75 → f ≠ 76 → f ≠ 77 → w f = z f
theorem Same.s {w z : St} (h : Same w z) : SamS w z := fun f hf h1 h2 h3 => h f (by omega)
theorem SamS.u2 {w z : St} (h : SamS w z) {f i : Nat} {v : Int32} (h1 : 75 ≤ f) (h2 : f < 78) : SamS (u2 w f i v) z := fun g hg h3 h4 h5 => by rw [u2_f (by omega)]; exact h g hg h3 h4 h5
theorem SamS.ji {w z : St} {b : Nat} (h : SamS w z) (hJ : JI z b) : JI w b := JI_cg hJ (fun f hf => h f (by omega) (by omega) (by omega) (by omega))
theorem SamS.lo {w z : St} (h : SamS w z) {f : Nat} (hf : f < 61) : w f = z f := h f (by omega) (by omega) (by omega) (by omega)
theorem cgs_application {w z : St} (h : SamS w z) {x y : Int32} : spApp w x y = spApp z x y := by
  unfold spApp tkt appP
  rw [h.lo (f := 3) (by omega), h.lo (f := 11) (by omega), h.lo (f := 12) (by omega), h.lo (f := 13) (by omega), h.lo (f := 14) (by omega), h.lo (f := 15) (by omega), h.lo (f := 16) (by omega), h.lo (f := 17) (by omega), h.lo (f := 18) (by omega), h.lo (f := 19) (by omega), h.lo (f := 4) (by omega), h.lo (f := 8) (by omega)]
theorem cgs_climber {w z : St} (h : SamS w z) {x y : Int32} : spClimber w x y = spClimber z x y := by
  unfold spClimber cntIn paidBy backTo cntBy byP climP nA
  rw [h.lo (f := 2) (by omega), h.lo (f := 3) (by omega), h.lo (f := 8) (by omega), h.lo (f := 9) (by omega), h.lo (f := 10) (by omega), h.lo (f := 11) (by omega), h.lo (f := 15) (by omega), h.lo (f := 16) (by omega), h.lo (f := 17) (by omega)]
theorem cgs_onRoute {w z : St} (h : SamS w z) {x y q : Int32} : spOnRoute w x y q = spOnRoute z x y q := by
  unfold spOnRoute leftP freeP taken inSt takesP onP routeP nA
  rw [h.lo (f := 1) (by omega), h.lo (f := 3) (by omega), h.lo (f := 5) (by omega), h.lo (f := 6) (by omega), h.lo (f := 12) (by omega), h.lo (f := 13) (by omega), h.lo (f := 14) (by omega), h.lo (f := 15) (by omega)]
theorem cgs_count {w z : St} (h : SamS w z) {x : Int32} : spCount w x = spCount z x := by
  unfold spCount cntIn paidBy backTo closedN byP nA
  rw [h.lo (f := 0) (by omega), h.lo (f := 1) (by omega), h.lo (f := 2) (by omega), h.lo (f := 3) (by omega), h.lo (f := 4) (by omega), h.lo (f := 7) (by omega), h.lo (f := 11) (by omega), h.lo (f := 15) (by omega), h.lo (f := 16) (by omega), h.lo (f := 17) (by omega), h 69 (by omega) (by omega) (by omega) (by omega)]
theorem odds_law {z w : St} {b : Nat} (hJ : JI z b) (h : SamS w z) {r d a : Nat} (hr : r < NR z) (hd : d < 60) (ha : a < nA z) (hn : iN z r d a) :
    (iL z r d a → (cOdds w (nI a)).1 = nI (odF z r d a)) ∧ (¬ iL z r d a → (cOdds w (nI a)).1 = -5) ∧ ∀ f, f < 61 ∨ 67 < f → (cOdds w (nI a)).2 f = w f := by
  have e : ∀ f, f < 61 → w f = z f := fun f hf => h.lo hf
  have hJw := h.ji hJ
  have en : nA w = nA z := by unfold nA; rw [e 3 (by decide)]
  have eN : iN w r d a ↔ iN z r d a := by unfold iN a_s a_r a_d; rw [e 15 (by decide), e 12 (by decide), e 13 (by decide)]
  have eL : iL w r d a ↔ iL z r d a := by unfold iL iN a_s a_r a_d a_c; rw [e 15 (by decide), e 12 (by decide), e 13 (by decide), e 10 (by decide), e 11 (by decide)]
  have eO : odF w r d a = odF z r d a := by
    unfold odF tiF a_t tkt iL iN a_s a_r a_d a_c nA
    rw [e 15 (by decide), e 12 (by decide), e 13 (by decide), e 10 (by decide), e 11 (by decide), e 4 (by decide), e 8 (by decide), e 3 (by decide)]
  obtain ⟨o1, o2, o3⟩ := odds_ans hJw (by unfold NR; rw [e 1 (by decide)]; exact hr) hd (by rw [en]; exact ha) (eN.mpr hn)
  rw [eO] at o1
  exact ⟨fun q => o1 (eL.mpr q), fun q => o2 (fun k => q (eL.mp k)), o3⟩
theorem lot_hi {z : St} {b : Nat} (h : JI z b) (r d : Int32) {f : Nat} (h1 : 20 ≤ f) (h2 : f < 61 ∨ (75 ≤ f ∧ f < 80)) : (cLottery z r d).2 f = z f := by
  have hB : b ≤ 100000 := by have := h.bb; omega
  rw [(lottery_eq h.oi hB r d).2 f (by omega)]
  unfold mLottery
  split
  · rfl
  · split
    · rfl
    · exact mHold_lo z r d (by omega)
theorem lot_law {z w : St} {b : Nat} (hJ : JI z b) (h : SamS w z) (hb : b + 100 ≤ 50000) {r d : Nat} (hr : r < NR z) (hd : d < 60) (hT : TN z ≤ d) :
    (stN z r d 0 = 0 → cLottery w (nI r) (nI d) = (-5, w)) ∧
    (0 < stN z r d 0 → ∃ y, (∀ f, f < 75 → y f = (cLottery w (nI r) (nI d)).2 f) ∧ (∀ i, i < 3 → y (75 + i) = w (75 + i)) ∧ JI y (b + 100) ∧ LotF z y r d ∧ (cLottery w (nI r) (nI d)).1 = nI (nS (wnF z y r d) (nA z))) := by
  have e : ∀ f, f < 61 → w f = z f := fun f hf => h.lo hf
  have hJw := h.ji hJ
  have en : nA w = nA z := by unfold nA; rw [e 3 (by decide)]
  have er : NR w = NR z := by unfold NR; rw [e 1 (by decide)]
  have eT : TN w = TN z := by unfold TN; rw [e 0 (by decide)]
  have eS : stN w r d 0 = stN z r d 0 := by unfold stN stF a_s a_r a_d nA; rw [e 15 (by decide), e 12 (by decide), e 13 (by decide), e 3 (by decide)]
  constructor
  · intro h0
    exact (lot_open hJw (by rw [er]; exact hr) hd (by rw [eT]; exact hT)).1 (by rw [eS]; exact h0)
  · intro h0
    obtain ⟨y, y1, y2, y3, hF, y4, -⟩ := lot_step hJw hb (by rw [er]; exact hr) hd (by rw [eT]; exact hT) (by rw [eS]; exact h0)
    refine ⟨y, y1, y2, y3, ?_, ?_⟩
    · obtain ⟨l1, l2, l3, l4, l5, l6, l7, l8, l9, l10⟩ := hF
      have eN : ∀ a, iN w r d a ↔ iN z r d a := fun a => by unfold iN a_s a_r a_d; rw [e 15 (by decide), e 12 (by decide), e 13 (by decide)]
      have eL : ∀ a, iL w r d a ↔ iL z r d a := fun a => by unfold iL iN a_s a_r a_d a_c; rw [e 15 (by decide), e 12 (by decide), e 13 (by decide), e 10 (by decide), e 11 (by decide)]
      have eW : nS (wpF w y r d) (nA w) = nS (wpF z y r d) (nA z) := by unfold wpF iN a_s a_r a_d a_p nA; rw [e 15 (by decide), e 12 (by decide), e 13 (by decide), e 14 (by decide), e 3 (by decide)]
      have eP : pl_N w r d = pl_N z r d := by unfold pl_N tkN tkF a_s a_r a_d a_p nA; rw [e 15 (by decide), e 12 (by decide), e 13 (by decide), e 14 (by decide), e 3 (by decide), e 5 (by decide), e 6 (by decide)]
      have ec : ∀ a, a_c w a = a_c z a := fun a => by unfold a_c; rw [e 11 (by decide)]
      have es : ∀ a, a_s w a = a_s z a := fun a => by unfold a_s; rw [e 15 (by decide)]
      have ep : ∀ a, a_p w a = a_p z a := fun a => by unfold a_p; rw [e 14 (by decide)]
      have epd : paidBy w (-1) = paidBy z (-1) := by unfold paidBy byP nA; rw [e 11 (by decide), e 16 (by decide), e 3 (by decide)]
      rw [eW, eP] at l7
      rw [eW, epd, e 4 (by decide)] at l8
      refine ⟨fun f h1 h2 h3 h4 h5 => (l1 f h1 h2 h3 h4 h5).trans (e f (by omega)), fun j hj => by rw [l2 j hj, e 4 (by decide)], fun a ha hn => ?_, fun a ha hn => ?_, fun a ha hl => ?_, fun c hc => ?_, l7, l8, l9, fun a a' ha ha' hl hl' hq => ?_⟩
      · rw [l3 a (by omega) (fun k => hn ((eN a).mp k)), es a]
      · exact (l4 a (by omega) ((eN a).mpr hn)).imp (fun k => ⟨k.1, (eL a).mp k.2⟩) id
      · have := l5 a (by omega) ((eL a).mpr hl)
        rw [ec a, e 8 (by decide), ep a, eW, eP] at this
        exact this
      · rw [l6 c (fun a ha hl => by rw [ec a]; exact hc a (by omega) ((eL a).mp hl)), e 8 (by decide)]
      · exact l10 a a' (by omega) (by omega) ((eL a).mpr hl) ((eL a').mpr hl') (by rw [ec a, ec a']; exact hq)
    · rw [y4]
      unfold wnF iN a_s a_r a_d nA
      rw [e 15 (by decide), e 12 (by decide), e 13 (by decide), e 3 (by decide)]
/-! what the law counts -/
def heN (z : St) (r d a : Nat) : Nat := if a_s z a = 0 ∧ a_r z a = r ∧ a_d z a = d then 1 else 0
def wsN (z : St) (r d a : Nat) : Nat := if a_s z a = 0 ∧ a_r z a = r ∧ a_d z a = d then 10 else a_s z a
theorem he_le (z : St) (r d a : Nat) : heN z r d a ≤ 1 := by unfold heN; split <;> omega
theorem ws_t {z : St} {r d a : Nat} (h : ¬ heN z r d a = 0) : wsN z r d a = 10 := by
  unfold heN at h; unfold wsN
  split
  · rfl
  · rename_i q; rw [if_neg q] at h; exact absurd rfl h
theorem ws_f {z : St} {r d a : Nat} (h : heN z r d a = 0) : wsN z r d a = a_s z a := by
  unfold heN at h; unfold wsN
  split
  · rename_i q; rw [if_pos q] at h; exact absurd h (by decide)
  · rfl
theorem he_i {z : St} {r d a : Nat} : ¬ heN z r d a = 0 ↔ iN z r d a := by
  unfold heN
  constructor
  · intro h
    exact Decidable.by_contra (fun q => h (if_neg q))
  · intro h e
    rw [if_pos h] at e
    exact absurd e (by decide)
theorem ws_10 {z : St} {b : Nat} (hJ : JI z b) {r d a : Nat} (ha : a < nA z) : wsN z r d a = 10 ↔ iN z r d a := by
  have := (hJ.ap ha).2.2.2.2.1.2
  constructor
  · intro h
    refine Decidable.by_contra (fun q => ?_)
    unfold wsN at h
    rw [if_neg q] at h
    omega
  · intro h; exact if_pos h
theorem ws_n {z : St} {r d a : Nat} (h : ¬ wsN z r d a = 10) : ¬ iN z r d a ∧ wsN z r d a = a_s z a := by
  unfold wsN at h ⊢
  split
  · rename_i q; rw [if_pos q] at h; exact absurd rfl h
  · rename_i q; exact ⟨q, rfl⟩
theorem ws_le {z : St} {b : Nat} (hJ : JI z b) {r d a : Nat} (ha : a < nA z) : wsN z r d a ≤ 10 := by
  have := (hJ.ap ha).2.2.2.2.1.2
  unfold wsN; split <;> omega
def inC (z : St) (r d : Nat) : Nat → Nat → Nat
  | 0, _ => 0
  | k + 1, c => if iL z r d k ∧ a_c z k = c then 1 else inC z r d k c
theorem in_n {z : St} {r d k c : Nat} (h : ¬ iL z r d k) : inC z r d (k + 1) c = inC z r d k c := if_neg (fun q => h q.1)
theorem inC_le (z : St) (r d : Nat) : ∀ k c, inC z r d k c ≤ 1 := by
  intro k
  induction k with
  | zero => intro c; exact Nat.zero_le _
  | succ k ih => intro c; unfold inC; split; exact Nat.le_refl _; exact ih c
theorem inC_some {z : St} {r d : Nat} : ∀ {k c}, ¬ inC z r d k c = 0 → ∃ a, a < k ∧ iL z r d a ∧ a_c z a = c := by
  intro k
  induction k with
  | zero => intro c h; exact absurd rfl h
  | succ k ih =>
    intro c h
    unfold inC at h
    split at h
    · rename_i q; exact ⟨k, by omega, q.1, q.2⟩
    · obtain ⟨a, h1, h2⟩ := ih h; exact ⟨a, by omega, h2⟩
theorem inC_has {z : St} {r d : Nat} : ∀ {k a}, a < k → iL z r d a → inC z r d k (a_c z a) = 1 := by
  intro k
  induction k with
  | zero => intro a h; omega
  | succ k ih =>
    intro a h hl
    unfold inC
    split
    · rfl
    · rename_i q
      by_cases e : a = k
      · subst e; exact absurd ⟨hl, rfl⟩ q
      · exact ih (by omega) hl
def i2K (z y : St) (r d : Nat) : Nat → Nat → Nat
  | 0, c => inC z r d (nA z) c
  | k + 1, c => if (iN z r d k ∧ a_s y k = 1) ∧ a_c z k = c then 2 else i2K z y r d k c
theorem i2K_le (z y : St) (r d : Nat) : ∀ k c, i2K z y r d k c ≤ 2 := by
  intro k
  induction k with
  | zero => intro c; have := inC_le z r d (nA z) c; show inC z r d (nA z) c ≤ 2; omega
  | succ k ih => intro c; unfold i2K; split; exact Nat.le_refl _; exact ih c
theorem i2K_or {z y : St} {r d : Nat} : ∀ k c, (∃ a, a < k ∧ (iN z r d a ∧ a_s y a = 1) ∧ a_c z a = c ∧ i2K z y r d k c = 2) ∨ ((∀ a, a < k → iN z r d a ∧ a_s y a = 1 → a_c z a ≠ c) ∧ i2K z y r d k c = inC z r d (nA z) c) := by
  intro k
  induction k with
  | zero => intro c; right; exact ⟨fun a ha => by omega, rfl⟩
  | succ k ih =>
    intro c
    unfold i2K
    split
    · rename_i q; left; exact ⟨k, by omega, q.1, q.2, rfl⟩
    · rename_i q
      rcases ih c with ⟨a, h1, h2⟩ | ⟨h1, h2⟩
      · left; exact ⟨a, by omega, h2⟩
      · right
        refine ⟨fun a ha hw e => ?_, h2⟩
        by_cases e2 : a = k
        · subst e2; exact q ⟨hw, e⟩
        · exact h1 a (by omega) hw e
theorem i2K_n {z y : St} {r d k c : Nat} (h : ¬ (iN z r d k ∧ a_s y k = 1)) : i2K z y r d (k + 1) c = i2K z y r d k c := if_neg (fun q => h q.1)
/-- who is marked is not barred -/
theorem i2_bar {z y : St} {r d c : Nat} (hF : LotF z y r d) (h : ¬ i2K z y r d (nA z) c = 0) : z 10 c < nI d := by
  obtain ⟨l1, l2, l3, l4, l5, l6, l7, l8, l9, l10⟩ := hF
  rcases i2K_or (z := z) (y := y) (r := r) (d := d) (nA z) c with ⟨a, h1, h2, h3, -⟩ | ⟨-, h2⟩
  · rcases l4 a h1 h2.1 with q | q
    · rw [← h3]; exact q.2.2
    · have := h2.2; omega
  · rw [h2] at h
    obtain ⟨a, g1, g2, g3⟩ := inC_some h
    rw [← g3]; exact g2.2
theorem lost_bad {z y : St} {r d q : Nat} (hF : LotF z y r d) (hq : q < nA z) (hn : iN z r d q) (h2 : a_s y q = 2) (h1 : i2K z y r d (nA z) (a_c z q) = 1) : ¬ a_p z q + nS (wpF z y r d) (nA z) ≤ pl_N z r d := by
  have hl : iL z r d q := ⟨hn, i2_bar hF (by omega)⟩
  exact ((hF.2.2.2.2.1 q hq hl).2 h2).2
def mmV (z y : St) (r d c : Nat) : Int32 := if i2K z y r d (nA z) c = 2 then 0 else z 8 c + nI (i2K z y r d (nA z) c)
theorem mem_ok {z y : St} {r d c : Nat} (hF : LotF z y r d) : y 8 c = mmV z y r d c := by
  obtain ⟨l1, l2, l3, l4, l5, l6, l7, l8, l9, l10⟩ := hF
  unfold mmV
  rcases i2K_or (z := z) (y := y) (r := r) (d := d) (nA z) c with ⟨a, h1, h2, h3, h4⟩ | ⟨h1, h2⟩
  · rw [if_pos h4]
    rcases l4 a h1 h2.1 with q | q
    · rw [← h3]; exact (l5 a h1 q.2).1 q.1
    · have := h2.2; omega
  · have hle := inC_le z r d (nA z) c
    rw [if_neg (by omega), h2]
    by_cases k : inC z r d (nA z) c = 0
    · rw [k, l6 c (fun a ha hl e => ?_)]
      · exact (Int32.add_zero _).symm
      · have := inC_has ha hl
        rw [e] at this; omega
    · have k1 : inC z r d (nA z) c = 1 := by omega
      rw [k1]
      obtain ⟨a, g1, g2, g3⟩ := inC_some k
      rcases l4 a g1 g2.1 with q | q
      · exact absurd g3 (h1 a g1 ⟨g2.1, q.1⟩)
      · rw [← g3]; exact ((l5 a g1 g2).2 q).1
theorem wn_le (z y : St) (r d : Nat) : nS (wnF z y r d) (nA z) ≤ nA z := by
  have := nS_le (t := wnF z y r d) (b := 1) (k := nA z) (fun a _ => by unfold wnF; split <;> omega)
  omega
theorem fill_upd {g : Nat → Int32} {k : Nat} {v : Int32} {F : Nat → Int32} (h : ∀ a, a < k → g a = F a) (hv : v = F k) : ∀ a, a < k + 1 → upd g k v a = F a := by
  intro a ha
  unfold upd
  split
  · rename_i e; subst e; exact hv
  · exact h a (by omega)
theorem in_step {z w : St} {r d k c : Nat} (h : ∀ c, c < 12 → w (75 + 2) c = nI (inC z r d k c)) (hl : iL z r d k) (hc : c < 12) : upd (w (75 + 2)) (a_c z k) 1 c = nI (inC z r d (k + 1) c) := by
  unfold upd inC
  by_cases e : c = a_c z k
  · rw [if_pos e, if_pos ⟨hl, e.symm⟩]; rfl
  · rw [if_neg e, if_neg (fun q => e q.2.symm)]; exact h c hc
theorem i2_step {z y u : St} {r d k c : Nat} (h : ∀ c, c < 12 → u (75 + 2) c = nI (i2K z y r d k c)) (hl : iN z r d k ∧ a_s y k = 1) (hc : c < 12) : upd (u (75 + 2)) (a_c z k) 2 c = nI (i2K z y r d (k + 1) c) := by
  unfold upd i2K
  by_cases e : c = a_c z k
  · rw [if_pos e, if_pos ⟨hl, e.symm⟩]; rfl
  · rw [if_neg e, if_neg (fun q => e q.2.symm)]; exact h c hc

def rm_L_holds : Room := { frames := 5, cells := 3, slots := 64, locals := 113 }
theorem k_L_holds_X6_application : CW rm_L_holds wsL_holds RL RX6 68 yX6_application cX6_application 4 (some .int) wsX6_application rm_X6_application 2 := ⟨gL_holds_X6_application, ⟨_, rfl⟩, rfl, rfl, ⟨rfl, by decide +kernel, by decide +kernel, by decide +kernel⟩, by decide, by decide⟩
theorem k_L_holds_X6_climber : CW rm_L_holds wsL_holds RL RX6 65 yX6_climber cX6_climber 3 (some .int) wsX6_climber rm_X6_climber 2 := ⟨gL_holds_X6_climber, ⟨_, rfl⟩, rfl, rfl, ⟨rfl, by decide +kernel, by decide +kernel, by decide +kernel⟩, by decide, by decide⟩
theorem k_L_holds_X6_count : CW rm_L_holds wsL_holds RL RX6 57 yX6_count cX6_count 2 (some .int) wsX6_count rm_X6_count 1 := ⟨gL_holds_X6_count, ⟨_, rfl⟩, rfl, rfl, ⟨rfl, by decide +kernel, by decide +kernel, by decide +kernel⟩, by decide, by decide⟩
theorem k_L_holds_X6_lottery : CW rm_L_holds wsL_holds RL RX6 97 yX6_lottery cX6_lottery 3 (some .int) wsX6_lottery rm_X6_lottery 2 := ⟨gL_holds_X6_lottery, ⟨_, rfl⟩, rfl, rfl, ⟨rfl, by decide +kernel, by decide +kernel, by decide +kernel⟩, by decide, by decide⟩
theorem k_L_holds_X6_odds : CW rm_L_holds wsL_holds RL RX6 90 yX6_odds cX6_odds 4 (some .int) wsX6_odds rm_X6_odds 1 := ⟨gL_holds_X6_odds, ⟨_, rfl⟩, rfl, rfl, ⟨rfl, by decide +kernel, by decide +kernel, by decide +kernel⟩, by decide, by decide⟩
theorem k_L_holds_X6_onRoute : CW rm_L_holds wsL_holds RL RX6 93 yX6_onRoute cX6_onRoute 4 (some .int) wsX6_onRoute rm_X6_onRoute 3 := ⟨gL_holds_X6_onRoute, ⟨_, rfl⟩, rfl, rfl, ⟨rfl, by decide +kernel, by decide +kernel, by decide +kernel⟩, by decide, by decide⟩
set_option maxHeartbeats 4000000 in
set_option maxRecDepth 100000 in
theorem c_L_holds (l : Launch) (G : MG) (B : Nat) (E : State → Prop) (hG : GB B G) (hE : KMv (AB B) E) (z : St) {r : Nat} {d : Nat} {b : Nat} (hJ : JI z b) (hb : b + 100 ≤ 50000) (hr : r < NR z) (hd : d < 60) (hT : TN z ≤ d) : CL l G B E yL_holds wsL_holds rm_L_holds [.ref (G.2.2 192), .int (nI r), .int (nI d)] z (fun ρ ζ => ρ = 1 ∧ JI ζ (b + 100)) 3 64 := by
  refine cl_of (own := RL) (cc := cL_holds) (maxL := 16) (ret := .boolean) hG hE (by decide +kernel) rfl rfl ?_ (Nat.le_of_ble_eq_true rfl) ?_
  · rintro v z' ⟨rfl, -⟩; rfl
  · intro X hX ret
    refine q_lv (lv' := [(0, .ref (G.2.2 192)), (1, .int (nI r)), (2, .int (nI d))]) rfl ?_
    have hT0 := hJ.t0.2
    obtain ⟨-, hN6, hN1⟩ := hJ.nr
    obtain ⟨-, hC12, hC1⟩ := hJ.nc
    obtain ⟨-, hA40⟩ := hJ.na
    refine q_aload_n hX 0 dL_holds_0 rfl ?_
    refine q_iconst hX 3 dL_holds_1 (by decide) ?_
    refine q_cv hX hG (by decide) (by decide) (As := [.int 3]) (rest := []) (c_X6_count l G z (w := 3) (hI := hJ.io)) k_L_holds_X6_count (fun _ _ => rfl) rfl rfl (Nat.le_of_ble_eq_true rfl) dL_holds_2 ?_
    refine q_top (nI (nA z)) (ct3 hJ) ?_
    refine q_istore_n hX [(3, .int (nI (nA z))), (0, .ref (G.2.2 192)), (1, .int (nI r)), (2, .int (nI d))] dL_holds_5 (by decide) rfl ?_
    refine q_bipush hX 40 dL_holds_6 (by decide) ?_
    refine q_newa hX (by rfl) (List.mem_of_getElem? (i := 1) rfl) (by decide) (by decide) dL_holds_8 (fun ar1 har1 => ?_)
    refine q_wid (kc2 := 1) (ks2 := 40) (by decide) (by decide) ?_
    obtain ⟨w0, hd0⟩ : ∃ y : St, y = (fun f i => if f = 75 + 0 then 0 else z f i) := ⟨_, rfl⟩
    refine q_z (z2 := w0) hd0.symm ?_
    have hw0 : Same w0 z := by rw [hd0]; exact Same.zero (Same.rfl' z) (by decide)
    have hj0 : JI w0 b := hw0.ji hJ
    refine q_astore hX [(4, .ref (ar1 0)), (3, .int (nI (nA z))), (0, .ref (G.2.2 192)), (1, .int (nI r)), (2, .int (nI d))] dL_holds_10 (by decide) rfl ?_
    refine q_bipush hX 12 dL_holds_12 (by decide) ?_
    refine q_newa hX (by rfl) (List.mem_of_getElem? (i := 1) rfl) (by decide) (by decide) dL_holds_14 (fun ar2 har2 => ?_)
    refine q_wid (kc2 := 2) (ks2 := 52) (by decide) (by decide) ?_
    refine q_lv (lv' := [(4, .ref (ar2 0)), (3, .int (nI (nA z))), (0, .ref (G.2.2 192)), (1, .int (nI r)), (2, .int (nI d))]) (by rw [har2 0 (by decide)]) ?_
    obtain ⟨w1, hd1⟩ : ∃ y : St, y = (fun f i => if f = 75 + 1 then 0 else w0 f i) := ⟨_, rfl⟩
    refine q_z (z2 := w1) hd1.symm ?_
    have hw1 : Same w1 z := by rw [hd1]; exact Same.zero hw0 (by decide)
    have hj1 : JI w1 b := hw1.ji hJ
    refine q_astore hX [(5, .ref (ar2 1)), (4, .ref (ar2 0)), (3, .int (nI (nA z))), (0, .ref (G.2.2 192)), (1, .int (nI r)), (2, .int (nI d))] dL_holds_16 (by decide) rfl ?_
    refine q_bipush hX 12 dL_holds_18 (by decide) ?_
    refine q_newa hX (by rfl) (List.mem_of_getElem? (i := 1) rfl) (by decide) (by decide) dL_holds_20 (fun ar3 har3 => ?_)
    refine q_wid (kc2 := 3) (ks2 := 64) (by decide) (by decide) ?_
    refine q_lv (lv' := [(5, .ref (ar3 1)), (4, .ref (ar3 0)), (3, .int (nI (nA z))), (0, .ref (G.2.2 192)), (1, .int (nI r)), (2, .int (nI d))]) (by rw [har3 0 (by decide), har3 1 (by decide)]) ?_
    obtain ⟨w2, hd2⟩ : ∃ y : St, y = (fun f i => if f = 75 + 2 then 0 else w1 f i) := ⟨_, rfl⟩
    refine q_z (z2 := w2) hd2.symm ?_
    have hw2 : Same w2 z := by rw [hd2]; exact Same.zero hw1 (by decide)
    have hj2 : JI w2 b := hw2.ji hJ
    refine q_astore hX [(6, .ref (ar3 2)), (5, .ref (ar3 1)), (4, .ref (ar3 0)), (3, .int (nI (nA z))), (0, .ref (G.2.2 192)), (1, .int (nI r)), (2, .int (nI d))] dL_holds_22 (by decide) rfl ?_
    refine q_iconst hX 0 dL_holds_24 (by decide) ?_
    refine q_istore hX [(7, .int 0), (6, .ref (ar3 2)), (5, .ref (ar3 1)), (4, .ref (ar3 0)), (3, .int (nI (nA z))), (0, .ref (G.2.2 192)), (1, .int (nI r)), (2, .int (nI d))] dL_holds_25 (by decide) rfl ?_
    refine q_iconst hX 0 dL_holds_27 (by decide) ?_
    refine q_istore hX [(8, .int 0), (7, .int 0), (6, .ref (ar3 2)), (5, .ref (ar3 1)), (4, .ref (ar3 0)), (3, .int (nI (nA z))), (0, .ref (G.2.2 192)), (1, .int (nI r)), (2, .int (nI d))] dL_holds_28 (by decide) rfl ?_
    have loop30 : ∀ (nf30 : Nat) (k : Nat) (w : St), (nA z < k + nf30) → (k ≤ nA z) → (SamS w z) → (∀ a, a < k → w (75 + 0) a = nI (wsN z r d a)) → (∀ c, c < 12 → w (75 + 2) c = nI (inC z r d k c)) → LG X B 3 ar3 G 3 64 w 30 [(0, .ref (G.2.2 192)), (1, .int (nI r)), (2, .int (nI d)), (3, .int (nI (nA z))), (4, .ref (ar3 0)), (5, .ref (ar3 1)), (6, .ref (ar3 2)), (7, .int (nI (nS (odF z r d) k))), (8, .int (nI k))] [] := by
      intro nf30
      induction nf30 with
      | zero =>
        intro k w hmu30 hk0 hwz hwas hin
        exfalso; omega
      | succ nf30 ih30 =>
        intro k w hmu30 hk0 hwz hwas hin
        have hw := hwz.ji hJ
        refine q_iload hX 8 dL_holds_30 rfl ?_
        refine q_iload_n hX 3 dL_holds_32 rfl ?_
        refine q_ic_ge hX 175 dL_holds_33 (by decide) (fun c4 => ?_) (fun c4 => ?_)
        · -- jump 175
          have nc4 : ((nA z : Nat) ≤ k) := (nI_leI (a := nA z) (b := k) (by omega) (by omega)).mp c4
          have ek : k = nA z := by omega
          have hos := odd_sum (z := z) (r := r) (d := d)
          have hst := stN_le z r d 0
          refine q_lv (lv' := [(0, .ref (G.2.2 192)), (1, .int (nI r)), (2, .int (nI d)), (3, .int (nI (nA z))), (4, .ref (ar3 0)), (5, .ref (ar3 1)), (6, .ref (ar3 2)), (7, .int (nI (nS (odF z r d) (nA z)))), (8, .int (nI k))]) (by rw [ek]) ?_
          refine q_iconst hX 0 dL_holds_175 (by decide) ?_
          refine q_istore hX [(8, .int 0), (0, .ref (G.2.2 192)), (1, .int (nI r)), (2, .int (nI d)), (3, .int (nI (nA z))), (4, .ref (ar3 0)), (5, .ref (ar3 1)), (6, .ref (ar3 2)), (7, .int (nI (nS (odF z r d) (nA z))))] dL_holds_176 (by decide) rfl ?_
          have loop178 : ∀ (nf178 : Nat) (c : Nat) (v : St), (NC z < c + nf178) → (c ≤ NC z) → (SamS v z) → (∀ a, a < nA z → v (75 + 0) a = nI (wsN z r d a)) → (∀ c, c < 12 → v (75 + 2) c = nI (inC z r d (nA z) c)) → (∀ i, i < c → v (75 + 1) i = z 8 i) → LG X B 3 ar3 G 3 64 v 178 [(0, .ref (G.2.2 192)), (1, .int (nI r)), (2, .int (nI d)), (3, .int (nI (nA z))), (4, .ref (ar3 0)), (5, .ref (ar3 1)), (6, .ref (ar3 2)), (7, .int (nI (nS (odF z r d) (nA z)))), (8, .int (nI c))] [] := by
            intro nf178
            induction nf178 with
            | zero =>
              intro c v hmu178 hc0 hvz hwas hin hmem
              exfalso; omega
            | succ nf178 ih178 =>
              intro c v hmu178 hc0 hvz hwas hin hmem
              have hv := hvz.ji hJ
              refine q_iload hX 8 dL_holds_178 rfl ?_
              refine q_aload_n hX 0 dL_holds_180 rfl ?_
              refine q_iconst hX 2 dL_holds_181 (by decide) ?_
              refine q_cv hX hG (by decide) (by decide) (As := [.int 2]) (rest := [.int (nI c)]) (c_X6_count l G v (w := 2) (hI := hv.io)) k_L_holds_X6_count (fun _ _ => rfl) rfl rfl (Nat.le_of_ble_eq_true rfl) dL_holds_182 ?_
              refine q_top (nI (NC z)) ((cgs_count hvz).trans (ct2 hJ)) ?_
              refine q_ic_ge hX 206 dL_holds_185 (by decide) (fun c5 => ?_) (fun c5 => ?_)
              · -- jump 206
                have nc5 : ((NC z : Nat) ≤ c) := (nI_leI (a := NC z) (b := c) (by omega) (by omega)).mp c5
                refine q_aload_n hX 0 dL_holds_206 rfl ?_
                refine q_iload_n hX 1 dL_holds_207 rfl ?_
                refine q_iload_n hX 2 dL_holds_208 rfl ?_
                refine q_iconst hX 3 dL_holds_209 (by decide) ?_
                refine q_cv hX hG (by decide) (by decide) (As := [.int (nI r), .int (nI d), .int 3]) (rest := []) (c_X6_onRoute l G v (r := (nI r)) (d := (nI d)) (w := 3) (hI := hv.io)) k_L_holds_X6_onRoute (fun _ _ => rfl) rfl rfl (Nat.le_of_ble_eq_true rfl) dL_holds_210 ?_
                refine q_top (nI (pl_N z r d)) ((cgs_onRoute hvz).trans (rt3 hJ (r := r) (d := d) (by omega) (by omega))) ?_
                refine q_istore hX [(8, .int (nI (pl_N z r d))), (0, .ref (G.2.2 192)), (1, .int (nI r)), (2, .int (nI d)), (3, .int (nI (nA z))), (4, .ref (ar3 0)), (5, .ref (ar3 1)), (6, .ref (ar3 2)), (7, .int (nI (nS (odF z r d) (nA z))))] dL_holds_213 (by decide) rfl ?_
                refine q_aload_n hX 1 dL_holds_215 rfl ?_
                refine q_bipush hX 11 dL_holds_216 (by decide) ?_
                refine q_cv hX hG (by decide) (by decide) (As := [.int 11]) (rest := []) (c_X6_count l G v (w := 11) (hI := hv.io)) k_L_holds_X6_count (fun _ _ => rfl) rfl rfl (Nat.le_of_ble_eq_true rfl) dL_holds_218 ?_
                refine q_top (paidBy z (-1)) ((cgs_count hvz).trans (ct11 hJ)) ?_
                refine q_istore hX [(9, .int (paidBy z (-1))), (8, .int (nI (pl_N z r d))), (0, .ref (G.2.2 192)), (1, .int (nI r)), (2, .int (nI d)), (3, .int (nI (nA z))), (4, .ref (ar3 0)), (5, .ref (ar3 1)), (6, .ref (ar3 2)), (7, .int (nI (nS (odF z r d) (nA z))))] dL_holds_221 (by decide) rfl ?_
                refine q_aload_n hX 2 dL_holds_223 rfl ?_
                refine q_iload_n hX 3 dL_holds_224 rfl ?_
                refine q_iload_n hX 4 dL_holds_225 rfl ?_
                refine q_iconst hX 4 dL_holds_226 (by decide) ?_
                refine q_cv hX hG (by decide) (by decide) (As := [.int (nI r), .int (nI d), .int 4]) (rest := []) (c_X6_onRoute l G v (r := (nI r)) (d := (nI d)) (w := 4) (hI := hv.io)) k_L_holds_X6_onRoute (fun _ _ => rfl) rfl rfl (Nat.le_of_ble_eq_true rfl) dL_holds_227 ?_
                refine q_top (nI (stN z r d 0)) ((cgs_onRoute hvz).trans (rt4 hJ (r := r) (d := d) (by omega) (by omega))) ?_
                refine q_istore hX [(10, .int (nI (stN z r d 0))), (9, .int (paidBy z (-1))), (8, .int (nI (pl_N z r d))), (0, .ref (G.2.2 192)), (1, .int (nI r)), (2, .int (nI d)), (3, .int (nI (nA z))), (4, .ref (ar3 0)), (5, .ref (ar3 1)), (6, .ref (ar3 2)), (7, .int (nI (nS (odF z r d) (nA z))))] dL_holds_230 (by decide) rfl ?_
                refine q_aload_n hX 3 dL_holds_232 rfl ?_
                refine q_iload_n hX 4 dL_holds_233 rfl ?_
                refine q_iload_n hX 5 dL_holds_234 rfl ?_
                refine q_cv hX hG (by decide) (by decide) (As := [.int (nI r), .int (nI d)]) (rest := []) (c_X6_lottery l G hG.1 v (r := (nI r)) (d := (nI d)) (hI := hv.io)) k_L_holds_X6_lottery (fun i hi => lot_hi hv _ _ (by omega) (by omega)) rfl rfl (Nat.le_of_ble_eq_true rfl) dL_holds_235 ?_
                obtain ⟨L0, L1⟩ := lot_law hJ hvz hb hr hd hT
                by_cases h0 : stN z r d 0 = 0
                · -- case
                  refine q_top (-5) (by rw [L0 h0]) ?_
                  refine q_z (z2 := v) (by rw [L0 h0]) ?_
                  refine q_istore hX [(11, .int (-5)), (10, .int (nI (stN z r d 0))), (9, .int (paidBy z (-1))), (8, .int (nI (pl_N z r d))), (0, .ref (G.2.2 192)), (1, .int (nI r)), (2, .int (nI d)), (3, .int (nI (nA z))), (4, .ref (ar3 0)), (5, .ref (ar3 1)), (6, .ref (ar3 2)), (7, .int (nI (nS (odF z r d) (nA z))))] dL_holds_238 (by decide) rfl ?_
                  refine q_iload hX 1 dL_holds_240 rfl ?_
                  refine q_if_ne hX 258 dL_holds_242 (by decide) (fun c6 => ?_) (fun c6 => ?_)
                  · -- jump 258
                    have nc6 : ¬ ((stN z r d 0 : Nat) = 0) := fun q => c6 ((nI_eq (a := stN z r d 0) (b := 0) (by omega) (by omega)).mpr q)
                    exfalso; omega
                  · -- on 245
                    have nc6 : ((stN z r d 0 : Nat) = 0) := (nI_eq (a := stN z r d 0) (b := 0) (by omega) (by omega)).mp (Decidable.not_not.mp c6)
                    refine q_iload hX 0 dL_holds_245 rfl ?_
                    refine q_bipush hX (-5) dL_holds_247 (by decide) ?_
                    refine q_ic_ne hX 256 dL_holds_249 (by decide) (fun c7 => ?_) (fun c7 => ?_)
                    · -- jump 256
                      exact absurd c7 (by decide)
                    · -- on 252
                      refine q_iconst hX 1 dL_holds_252 (by decide) ?_
                      refine q_goto hX 257 dL_holds_253 (by decide) ?_
                      refine q_drop (ar2 := fun _ => 0) ?_
                      refine ret _ _ _ _ _ _ (by decide) (by decide) dL_holds_257 ?_
                      exact ⟨rfl, (hv).mono (by omega) (by omega)⟩
                · -- case
                  obtain ⟨y, hyc, hy75, hy, hF, eG⟩ := L1 (by omega)
                  refine q_cg (z2 := y) hyc (fun i hi => by rw [hy75 i hi, lot_hi hv _ _ (by omega) (by omega)]) ?_
                  refine q_top (nI (nS (wnF z y r d) (nA z))) eG ?_
                  have hwn := wn_le z y r d
                  have hpl := hJ.pl12 (r := r) (d := d) hr
                  have eny : nA y = nA z := by unfold nA; rw [hF.1 3 (by decide) (by decide) (by decide) (by decide) (by decide)]
                  have enc : NC y = NC z := by unfold NC; rw [hF.1 2 (by decide) (by decide) (by decide) (by decide) (by decide)]
                  have enr : NR y = NR z := by unfold NR; rw [hF.1 1 (by decide) (by decide) (by decide) (by decide) (by decide)]
                  have hPW := hF.2.2.2.2.2.2.1
                  have hya0 : ∀ a, a < nA z → y (75 + 0) a = nI (wsN z r d a) := fun a ha => by rw [hy75 0 (by decide)]; exact hwas a ha
                  have hya1 : ∀ i, i < NC z → y (75 + 1) i = z 8 i := fun i hi => by rw [hy75 1 (by decide)]; exact hmem i (by omega)
                  have hya2 : ∀ i, i < 12 → y (75 + 2) i = nI (i2K z y r d 0 i) := fun i hi => by rw [hy75 2 (by decide)]; exact hin i hi
                  refine q_istore hX [(11, .int (nI (nS (wnF z y r d) (nA z)))), (10, .int (nI (stN z r d 0))), (9, .int (paidBy z (-1))), (8, .int (nI (pl_N z r d))), (0, .ref (G.2.2 192)), (1, .int (nI r)), (2, .int (nI d)), (3, .int (nI (nA z))), (4, .ref (ar3 0)), (5, .ref (ar3 1)), (6, .ref (ar3 2)), (7, .int (nI (nS (odF z r d) (nA z))))] dL_holds_238 (by decide) rfl ?_
                  refine q_iload hX 1 dL_holds_240 rfl ?_
                  refine q_if_ne hX 258 dL_holds_242 (by decide) (fun c8 => ?_) (fun c8 => ?_)
                  · -- jump 258
                    have nc8 : ¬ ((stN z r d 0 : Nat) = 0) := fun q => c8 ((nI_eq (a := stN z r d 0) (b := 0) (by omega) (by omega)).mpr q)
                    refine q_iload hX 0 dL_holds_258 rfl ?_
                    refine q_if_lt hX 284 dL_holds_260 (by decide) (fun c9 => ?_) (fun c9 => ?_)
                    · -- jump 284
                      have nc9 : ((nS (wnF z y r d) (nA z) : Nat) < 0) := (nI_ltI (a := nS (wnF z y r d) (nA z)) (b := 0) (by omega) (by omega)).mp c9
                      refine q_iconst hX 0 dL_holds_284 (by decide) ?_
                      exfalso
                      omega
                    · -- on 263
                      have nc9 : ¬ ((nS (wnF z y r d) (nA z) : Nat) < 0) := fun q => c9 ((nI_ltI (a := nS (wnF z y r d) (nA z)) (b := 0) (by omega) (by omega)).mpr q)
                      refine q_iload hX 11 dL_holds_263 rfl ?_
                      refine q_ldc hX 1000000 dL_holds_265 (List.mem_of_getElem? (i := 2) rfl) ?_
                      refine q_ic_gt hX 284 dL_holds_267 (by decide) (fun c10 => ?_) (fun c10 => ?_)
                      · -- jump 284
                        have nc10 : ((1000000 : Nat) < nS (odF z r d) (nA z)) := (nI_ltI (a := 1000000) (b := nS (odF z r d) (nA z)) (by omega) (by omega)).mp c10
                        refine q_iconst hX 0 dL_holds_284 (by decide) ?_
                        exfalso
                        omega
                      · -- on 270
                        have nc10 : ¬ ((1000000 : Nat) < nS (odF z r d) (nA z)) := fun q => c10 ((nI_ltI (a := 1000000) (b := nS (odF z r d) (nA z)) (by omega) (by omega)).mpr q)
                        have km11 : LG X B 3 ar3 G 3 64 y 286 [(11, .int (nI (nS (wnF z y r d) (nA z)))), (10, .int (nI (stN z r d 0))), (9, .int (paidBy z (-1))), (8, .int (nI (pl_N z r d))), (0, .ref (G.2.2 192)), (1, .int (nI r)), (2, .int (nI d)), (3, .int (nI (nA z))), (4, .ref (ar3 0)), (5, .ref (ar3 1)), (6, .ref (ar3 2)), (7, .int (nI (nS (odF z r d) (nA z))))] [] := by
                          refine q_iconst hX 0 dL_holds_286 (by decide) ?_
                          refine q_istore hX [(12, .int 0), (11, .int (nI (nS (wnF z y r d) (nA z)))), (10, .int (nI (stN z r d 0))), (9, .int (paidBy z (-1))), (8, .int (nI (pl_N z r d))), (0, .ref (G.2.2 192)), (1, .int (nI r)), (2, .int (nI d)), (3, .int (nI (nA z))), (4, .ref (ar3 0)), (5, .ref (ar3 1)), (6, .ref (ar3 2)), (7, .int (nI (nS (odF z r d) (nA z))))] dL_holds_287 (by decide) rfl ?_
                          refine q_iconst hX 0 dL_holds_289 (by decide) ?_
                          refine q_istore hX [(13, .int 0), (12, .int 0), (11, .int (nI (nS (wnF z y r d) (nA z)))), (10, .int (nI (stN z r d 0))), (9, .int (paidBy z (-1))), (8, .int (nI (pl_N z r d))), (0, .ref (G.2.2 192)), (1, .int (nI r)), (2, .int (nI d)), (3, .int (nI (nA z))), (4, .ref (ar3 0)), (5, .ref (ar3 1)), (6, .ref (ar3 2)), (7, .int (nI (nS (odF z r d) (nA z))))] dL_holds_290 (by decide) rfl ?_
                          refine q_iconst hX 0 dL_holds_292 (by decide) ?_
                          refine q_istore hX [(14, .int 0), (13, .int 0), (12, .int 0), (11, .int (nI (nS (wnF z y r d) (nA z)))), (10, .int (nI (stN z r d 0))), (9, .int (paidBy z (-1))), (8, .int (nI (pl_N z r d))), (0, .ref (G.2.2 192)), (1, .int (nI r)), (2, .int (nI d)), (3, .int (nI (nA z))), (4, .ref (ar3 0)), (5, .ref (ar3 1)), (6, .ref (ar3 2)), (7, .int (nI (nS (odF z r d) (nA z))))] dL_holds_293 (by decide) rfl ?_
                          have loop295 : ∀ (nf295 : Nat) (x : Nat) (u : St), (nA z < x + nf295) → (x ≤ nA z) → (Same u y) → (∀ a, a < nA z → u (75 + 0) a = nI (wsN z r d a)) → (∀ i, i < NC z → u (75 + 1) i = z 8 i) → (∀ c, c < 12 → u (75 + 2) c = nI (i2K z y r d x c)) → LG X B 3 ar3 G 3 64 u 295 [(0, .ref (G.2.2 192)), (1, .int (nI r)), (2, .int (nI d)), (3, .int (nI (nA z))), (4, .ref (ar3 0)), (5, .ref (ar3 1)), (6, .ref (ar3 2)), (8, .int (nI (pl_N z r d))), (9, .int (paidBy z (-1))), (11, .int (nI (nS (wnF z y r d) (nA z)))), (12, .int (nI (nS (wnF z y r d) x))), (13, .int (nI (nS (wpF z y r d) x))), (14, .int (nI x))] [] := by
                            intro nf295
                            induction nf295 with
                            | zero =>
                              intro x u hmu295 hx0 huy hu0 hu1 hu2
                              exfalso; omega
                            | succ nf295 ih295 =>
                              intro x u hmu295 hx0 huy hu0 hu1 hu2
                              have hu := huy.ji hy
                              refine q_iload hX 12 dL_holds_295 rfl ?_
                              refine q_iload_n hX 3 dL_holds_297 rfl ?_
                              refine q_ic_ge hX 407 dL_holds_298 (by decide) (fun c12 => ?_) (fun c12 => ?_)
                              · -- jump 407
                                have nc12 : ((nA z : Nat) ≤ x) := (nI_leI (a := nA z) (b := x) (by omega) (by omega)).mp c12
                                have ex : x = nA z := by omega
                                rw [ex] at hu2
                                refine q_lv (lv' := [(0, .ref (G.2.2 192)), (1, .int (nI r)), (2, .int (nI d)), (3, .int (nI (nA z))), (4, .ref (ar3 0)), (5, .ref (ar3 1)), (6, .ref (ar3 2)), (8, .int (nI (pl_N z r d))), (9, .int (paidBy z (-1))), (11, .int (nI (nS (wnF z y r d) (nA z)))), (12, .int (nI (nS (wnF z y r d) (nA z)))), (13, .int (nI (nS (wpF z y r d) (nA z)))), (14, .int (nI x))]) (by rw [ex]) ?_
                                refine q_iconst hX 0 dL_holds_407 (by decide) ?_
                                refine q_istore hX [(14, .int 0), (0, .ref (G.2.2 192)), (1, .int (nI r)), (2, .int (nI d)), (3, .int (nI (nA z))), (4, .ref (ar3 0)), (5, .ref (ar3 1)), (6, .ref (ar3 2)), (8, .int (nI (pl_N z r d))), (9, .int (paidBy z (-1))), (11, .int (nI (nS (wnF z y r d) (nA z)))), (12, .int (nI (nS (wnF z y r d) (nA z)))), (13, .int (nI (nS (wpF z y r d) (nA z))))] dL_holds_408 (by decide) rfl ?_
                                have loop410 : ∀ (nf410 : Nat) (x : Nat), (nA z < x + nf410) → (x ≤ nA z) → LG X B 3 ar3 G 3 64 u 410 [(0, .ref (G.2.2 192)), (1, .int (nI r)), (2, .int (nI d)), (3, .int (nI (nA z))), (4, .ref (ar3 0)), (5, .ref (ar3 1)), (6, .ref (ar3 2)), (8, .int (nI (pl_N z r d))), (9, .int (paidBy z (-1))), (11, .int (nI (nS (wnF z y r d) (nA z)))), (12, .int (nI (nS (wnF z y r d) (nA z)))), (13, .int (nI (nS (wpF z y r d) (nA z)))), (14, .int (nI x))] [] := by
                                  intro nf410
                                  induction nf410 with
                                  | zero =>
                                    intro x hmu410 hx0
                                    exfalso; omega
                                  | succ nf410 ih410 =>
                                    intro x hmu410 hx0
                                    refine q_iload hX 12 dL_holds_410 rfl ?_
                                    refine q_iload_n hX 3 dL_holds_412 rfl ?_
                                    refine q_ic_ge hX 474 dL_holds_413 (by decide) (fun c13 => ?_) (fun c13 => ?_)
                                    · -- jump 474
                                      have nc13 : ((nA z : Nat) ≤ x) := (nI_leI (a := nA z) (b := x) (by omega) (by omega)).mp c13
                                      refine q_iconst hX 0 dL_holds_474 (by decide) ?_
                                      refine q_istore hX [(14, .int 0), (0, .ref (G.2.2 192)), (1, .int (nI r)), (2, .int (nI d)), (3, .int (nI (nA z))), (4, .ref (ar3 0)), (5, .ref (ar3 1)), (6, .ref (ar3 2)), (8, .int (nI (pl_N z r d))), (9, .int (paidBy z (-1))), (11, .int (nI (nS (wnF z y r d) (nA z)))), (12, .int (nI (nS (wnF z y r d) (nA z)))), (13, .int (nI (nS (wpF z y r d) (nA z))))] dL_holds_475 (by decide) rfl ?_
                                      have loop477 : ∀ (nf477 : Nat) (c : Nat), (NC z < c + nf477) → (c ≤ NC z) → LG X B 3 ar3 G 3 64 u 477 [(0, .ref (G.2.2 192)), (1, .int (nI r)), (2, .int (nI d)), (3, .int (nI (nA z))), (4, .ref (ar3 0)), (5, .ref (ar3 1)), (6, .ref (ar3 2)), (8, .int (nI (pl_N z r d))), (9, .int (paidBy z (-1))), (11, .int (nI (nS (wnF z y r d) (nA z)))), (12, .int (nI (nS (wnF z y r d) (nA z)))), (13, .int (nI (nS (wpF z y r d) (nA z)))), (14, .int (nI c))] [] := by
                                        intro nf477
                                        induction nf477 with
                                        | zero =>
                                          intro c hmu477 hc1
                                          exfalso; omega
                                        | succ nf477 ih477 =>
                                          intro c hmu477 hc1
                                          refine q_iload hX 12 dL_holds_477 rfl ?_
                                          refine q_aload_n hX 0 dL_holds_479 rfl ?_
                                          refine q_iconst hX 2 dL_holds_480 (by decide) ?_
                                          refine q_cv hX hG (by decide) (by decide) (As := [.int 2]) (rest := [.int (nI c)]) (c_X6_count l G u (w := 2) (hI := hu.io)) k_L_holds_X6_count (fun _ _ => rfl) rfl rfl (Nat.le_of_ble_eq_true rfl) dL_holds_481 ?_
                                          refine q_top (nI (NC y)) ((cg_count huy).trans (ct2 hy)) ?_
                                          refine q_ic_ge hX 529 dL_holds_484 (by decide) (fun c14 => ?_) (fun c14 => ?_)
                                          · -- jump 529
                                            have nc14 : ((NC y : Nat) ≤ c) := (nI_leI (a := NC y) (b := c) (by omega) (by omega)).mp c14
                                            have h9 := hF.2.2.2.2.2.2.2.2.1
                                            refine q_iload hX 10 dL_holds_529 rfl ?_
                                            refine q_iload hX 9 dL_holds_531 rfl ?_
                                            refine q_ic_ne hX 578 dL_holds_533 (by decide) (fun c15 => ?_) (fun c15 => ?_)
                                            · -- jump 578
                                              exact absurd rfl c15
                                            · -- on 536
                                              refine q_iload hX 11 dL_holds_536 rfl ?_
                                              refine q_iload hX 7 dL_holds_538 rfl ?_
                                              refine q_ic_gt hX 578 dL_holds_540 (by decide) (fun c16 => ?_) (fun c16 => ?_)
                                              · -- jump 578
                                                have nc16 : ((pl_N z r d : Nat) < nS (wpF z y r d) (nA z)) := (nI_ltI (a := pl_N z r d) (b := nS (wpF z y r d) (nA z)) (by omega) (by omega)).mp c16
                                                refine q_iconst hX 0 dL_holds_578 (by decide) ?_
                                                exfalso
                                                omega
                                              · -- on 543
                                                have nc16 : ¬ ((pl_N z r d : Nat) < nS (wpF z y r d) (nA z)) := fun q => c16 ((nI_ltI (a := pl_N z r d) (b := nS (wpF z y r d) (nA z)) (by omega) (by omega)).mpr q)
                                                refine q_aload_n hX 0 dL_holds_543 rfl ?_
                                                refine q_bipush hX 11 dL_holds_544 (by decide) ?_
                                                refine q_cv hX hG (by decide) (by decide) (As := [.int 11]) (rest := []) (c_X6_count l G u (w := 11) (hI := hu.io)) k_L_holds_X6_count (fun _ _ => rfl) rfl rfl (Nat.le_of_ble_eq_true rfl) dL_holds_546 ?_
                                                refine q_top (paidBy y (-1)) ((cg_count huy).trans (ct11 hy)) ?_
                                                refine q_iload hX 8 dL_holds_549 rfl ?_
                                                refine q_iload hX 11 dL_holds_551 rfl ?_
                                                refine q_aload_n hX 0 dL_holds_553 rfl ?_
                                                refine q_bipush hX 15 dL_holds_554 (by decide) ?_
                                                refine q_cv hX hG (by decide) (by decide) (As := [.int 15]) (rest := [.int (nI (nS (wpF z y r d) (nA z))), .int (paidBy z (-1)), .int (paidBy y (-1))]) (c_X6_count l G u (w := 15) (hI := hu.io)) k_L_holds_X6_count (fun _ _ => rfl) rfl rfl (Nat.le_of_ble_eq_true rfl) dL_holds_556 ?_
                                                refine q_top (y 4 0) ((cg_count huy).trans (ct15 hy)) ?_
                                                refine q_imul hX dL_holds_559 ?_
                                                refine q_iadd hX dL_holds_560 ?_
                                                refine q_ic_ne hX 578 dL_holds_561 (by decide) (fun c17 => ?_) (fun c17 => ?_)
                                                · -- jump 578
                                                  exact absurd (by rw [hF.2.1 0 (by decide)]; exact hF.2.2.2.2.2.2.2.1) c17
                                                · -- on 564
                                                  refine q_aload_n hX 0 dL_holds_564 rfl ?_
                                                  refine q_iload_n hX 1 dL_holds_565 rfl ?_
                                                  refine q_iload_n hX 2 dL_holds_566 rfl ?_
                                                  refine q_iconst hX 4 dL_holds_567 (by decide) ?_
                                                  refine q_cv hX hG (by decide) (by decide) (As := [.int (nI r), .int (nI d), .int 4]) (rest := []) (c_X6_onRoute l G u (r := (nI r)) (d := (nI d)) (w := 4) (hI := hu.io)) k_L_holds_X6_onRoute (fun _ _ => rfl) rfl rfl (Nat.le_of_ble_eq_true rfl) dL_holds_568 ?_
                                                  refine q_top (nI (stN y r d 0)) ((cg_onRoute huy).trans (rt4 hy (r := r) (d := d) (by omega) (by omega))) ?_
                                                  refine q_if_ne hX 578 dL_holds_571 (by decide) (fun c18 => ?_) (fun c18 => ?_)
                                                  · -- jump 578
                                                    have nc18 : ¬ ((stN y r d 0 : Nat) = 0) := fun q => c18 ((nI_eq (a := stN y r d 0) (b := 0) (by omega) (by omega)).mpr q)
                                                    refine q_iconst hX 0 dL_holds_578 (by decide) ?_
                                                    exfalso
                                                    omega
                                                  · -- on 574
                                                    have nc18 : ((stN y r d 0 : Nat) = 0) := (nI_eq (a := stN y r d 0) (b := 0) (by omega) (by omega)).mp (Decidable.not_not.mp c18)
                                                    refine q_iconst hX 1 dL_holds_574 (by decide) ?_
                                                    refine q_goto hX 579 dL_holds_575 (by decide) ?_
                                                    refine q_drop (ar2 := fun _ => 0) ?_
                                                    refine ret _ _ _ _ _ _ (by decide) (by decide) dL_holds_579 ?_
                                                    exact ⟨rfl, hu⟩
                                          · -- on 487
                                            have nc14 : ¬ ((NC y : Nat) ≤ c) := fun q => c14 ((nI_leI (a := NC y) (b := c) (by omega) (by omega)).mpr q)
                                            have hi2 := i2K_le z y r d (nA z) c
                                            refine q_aload_n hX 0 dL_holds_487 rfl ?_
                                            refine q_iload hX 12 dL_holds_488 rfl ?_
                                            refine q_iconst hX 0 dL_holds_490 (by decide) ?_
                                            refine q_cv hX hG (by decide) (by decide) (As := [.int (nI c), .int 0]) (rest := []) (c_X6_climber l G u (c := (nI c)) (w := 0) (hI := hu.io)) k_L_holds_X6_climber (fun _ _ => rfl) rfl rfl (Nat.le_of_ble_eq_true rfl) dL_holds_491 ?_
                                            refine q_top (y 8 c) ((cg_climber huy).trans (cl0 hy (c := c) (by omega))) ?_
                                            have km19 : LG X B 3 ar3 G 3 64 u 518 [(0, .ref (G.2.2 192)), (1, .int (nI r)), (2, .int (nI d)), (3, .int (nI (nA z))), (4, .ref (ar3 0)), (5, .ref (ar3 1)), (6, .ref (ar3 2)), (8, .int (nI (pl_N z r d))), (9, .int (paidBy z (-1))), (11, .int (nI (nS (wnF z y r d) (nA z)))), (12, .int (nI (nS (wnF z y r d) (nA z)))), (13, .int (nI (nS (wpF z y r d) (nA z)))), (14, .int (nI c))] [.int (mmV z y r d c), .int (y 8 c)] := by
                                              refine q_ic_eq hX 523 dL_holds_518 (by decide) (fun c20 => ?_) (fun c20 => ?_)
                                              · -- jump 523
                                                refine q_iinc hX (nI (c + 1)) 12 [(14, .int (nI (c + 1))), (0, .ref (G.2.2 192)), (1, .int (nI r)), (2, .int (nI d)), (3, .int (nI (nA z))), (4, .ref (ar3 0)), (5, .ref (ar3 1)), (6, .ref (ar3 2)), (8, .int (nI (pl_N z r d))), (9, .int (paidBy z (-1))), (11, .int (nI (nS (wnF z y r d) (nA z)))), (12, .int (nI (nS (wnF z y r d) (nA z)))), (13, .int (nI (nS (wpF z y r d) (nA z))))] dL_holds_523 rfl (nI_1 c) (by decide) rfl ?_
                                                refine q_goto hX 477 dL_holds_526 (by decide) ?_
                                                refine q_sub [1, 2, 3, 4, 5, 6, 7, 8, 9, 10, 11, 12, 0] [(0, .ref (G.2.2 192)), (1, .int (nI r)), (2, .int (nI d)), (3, .int (nI (nA z))), (4, .ref (ar3 0)), (5, .ref (ar3 1)), (6, .ref (ar3 2)), (8, .int (nI (pl_N z r d))), (9, .int (paidBy z (-1))), (11, .int (nI (nS (wnF z y r d) (nA z)))), (12, .int (nI (nS (wnF z y r d) (nA z)))), (13, .int (nI (nS (wpF z y r d) (nA z)))), (14, .int (nI (c + 1)))] rfl ?_
                                                exact ih477 (c + 1) (by omega) (by omega)
                                              · -- on 521
                                                exact absurd (mem_ok hF) c20
                                            refine q_aload hX 6 dL_holds_494 rfl ?_
                                            refine q_iload hX 12 dL_holds_496 rfl ?_
                                            refine q_iald hX 2 (by decide) c rfl (show c < arL 2 from (by omega : c < 12)) dL_holds_498 ?_
                                            refine q_top (nI (i2K z y r d (nA z) c)) (hu2 c (by omega)) ?_
                                            refine q_iconst hX 2 dL_holds_499 (by decide) ?_
                                            refine q_ic_ne hX 507 dL_holds_500 (by decide) (fun c21 => ?_) (fun c21 => ?_)
                                            · -- jump 507
                                              have nc21 : ¬ ((i2K z y r d (nA z) c : Nat) = 2) := fun q => c21 ((nI_eq (a := i2K z y r d (nA z) c) (b := 2) (by omega) (by omega)).mpr q)
                                              refine q_aload hX 5 dL_holds_507 rfl ?_
                                              refine q_iload hX 12 dL_holds_509 rfl ?_
                                              refine q_iald hX 1 (by decide) c rfl (show c < arL 1 from (by omega : c < 12)) dL_holds_511 ?_
                                              refine q_top (z 8 c) (hu1 c (by omega)) ?_
                                              refine q_aload hX 6 dL_holds_512 rfl ?_
                                              refine q_iload hX 12 dL_holds_514 rfl ?_
                                              refine q_iald hX 2 (by decide) c rfl (show c < arL 2 from (by omega : c < 12)) dL_holds_516 ?_
                                              refine q_top (nI (i2K z y r d (nA z) c)) (hu2 c (by omega)) ?_
                                              refine q_iadd hX dL_holds_517 ?_
                                              refine q_top (mmV z y r d c) (by
                                                first | exact (if_pos (by omega)).symm | exact (if_neg (by omega)).symm) ?_
                                              refine q_sub [0, 1, 2, 3, 4, 5, 6, 7, 8, 9, 10, 11, 12] [(0, .ref (G.2.2 192)), (1, .int (nI r)), (2, .int (nI d)), (3, .int (nI (nA z))), (4, .ref (ar3 0)), (5, .ref (ar3 1)), (6, .ref (ar3 2)), (8, .int (nI (pl_N z r d))), (9, .int (paidBy z (-1))), (11, .int (nI (nS (wnF z y r d) (nA z)))), (12, .int (nI (nS (wnF z y r d) (nA z)))), (13, .int (nI (nS (wpF z y r d) (nA z)))), (14, .int (nI c))] rfl ?_
                                              exact km19
                                            · -- on 503
                                              have nc21 : ((i2K z y r d (nA z) c : Nat) = 2) := (nI_eq (a := i2K z y r d (nA z) c) (b := 2) (by omega) (by omega)).mp (Decidable.not_not.mp c21)
                                              refine q_iconst hX 0 dL_holds_503 (by decide) ?_
                                              refine q_goto hX 518 dL_holds_504 (by decide) ?_
                                              refine q_top (mmV z y r d c) (by
                                                first | exact (if_pos (by omega)).symm | exact (if_neg (by omega)).symm) ?_
                                              refine q_sub [0, 1, 2, 3, 4, 5, 6, 7, 8, 9, 10, 11, 12] [(0, .ref (G.2.2 192)), (1, .int (nI r)), (2, .int (nI d)), (3, .int (nI (nA z))), (4, .ref (ar3 0)), (5, .ref (ar3 1)), (6, .ref (ar3 2)), (8, .int (nI (pl_N z r d))), (9, .int (paidBy z (-1))), (11, .int (nI (nS (wnF z y r d) (nA z)))), (12, .int (nI (nS (wnF z y r d) (nA z)))), (13, .int (nI (nS (wpF z y r d) (nA z)))), (14, .int (nI c))] rfl ?_
                                              exact km19
                                      refine q_sub [1, 2, 3, 4, 5, 6, 7, 8, 9, 10, 11, 12, 0] [(0, .ref (G.2.2 192)), (1, .int (nI r)), (2, .int (nI d)), (3, .int (nI (nA z))), (4, .ref (ar3 0)), (5, .ref (ar3 1)), (6, .ref (ar3 2)), (8, .int (nI (pl_N z r d))), (9, .int (paidBy z (-1))), (11, .int (nI (nS (wnF z y r d) (nA z)))), (12, .int (nI (nS (wnF z y r d) (nA z)))), (13, .int (nI (nS (wpF z y r d) (nA z)))), (14, .int 0)] rfl ?_
                                      have el14 : (0 : Int32) = nI 0 := by rfl
                                      refine q_lv (lv' := [(0, .ref (G.2.2 192)), (1, .int (nI r)), (2, .int (nI d)), (3, .int (nI (nA z))), (4, .ref (ar3 0)), (5, .ref (ar3 1)), (6, .ref (ar3 2)), (8, .int (nI (pl_N z r d))), (9, .int (paidBy z (-1))), (11, .int (nI (nS (wnF z y r d) (nA z)))), (12, .int (nI (nS (wnF z y r d) (nA z)))), (13, .int (nI (nS (wpF z y r d) (nA z)))), (14, .int (nI 0))]) (by rw [← el14]) ?_
                                      exact loop477 (NC z + 1) 0 (by omega) (Nat.zero_le _)
                                    · -- on 416
                                      have nc13 : ¬ ((nA z : Nat) ≤ x) := fun q => c13 ((nI_leI (a := nA z) (b := x) (by omega) (by omega)).mpr q)
                                      have hk : x < nA z := by omega
                                      have hky : x < nA y := by omega
                                      have ys7 := (hy.ap hky).2.2.2.2.1.2
                                      have hs7 := (hJ.ap hk).2.2.2.2.1.2
                                      have hwl := ws_le hJ (r := r) (d := d) hk
                                      have ep : a_p y x = a_p z x := by unfold a_p; rw [hF.1 14 (by decide) (by decide) (by decide) (by decide) (by decide)]
                                      have ec : a_c y x = a_c z x := by unfold a_c; rw [hF.1 11 (by decide) (by decide) (by decide) (by decide) (by decide)]
                                      have hc12 := (hy.ap hky).1.2.2
                                      have hp4 := (hy.ap hky).2.2.2.1.2
                                      have hi2 := i2K_le z y r d (nA z) (a_c y x)
                                      refine q_aload hX 4 dL_holds_416 rfl ?_
                                      refine q_iload hX 12 dL_holds_418 rfl ?_
                                      refine q_iald hX 0 (by decide) x rfl (show x < arL 0 from (by omega : x < 40)) dL_holds_420 ?_
                                      refine q_top (nI (wsN z r d x)) (hu0 x (by omega)) ?_
                                      refine q_bipush hX 10 dL_holds_421 (by decide) ?_
                                      refine q_ic_ne hX 468 dL_holds_423 (by decide) (fun c22 => ?_) (fun c22 => ?_)
                                      · -- jump 468
                                        have nc22 : ¬ ((wsN z r d x : Nat) = 10) := fun q => c22 ((nI_eq (a := wsN z r d x) (b := 10) (by omega) (by omega)).mpr q)
                                        refine q_iinc hX (nI (x + 1)) 12 [(14, .int (nI (x + 1))), (0, .ref (G.2.2 192)), (1, .int (nI r)), (2, .int (nI d)), (3, .int (nI (nA z))), (4, .ref (ar3 0)), (5, .ref (ar3 1)), (6, .ref (ar3 2)), (8, .int (nI (pl_N z r d))), (9, .int (paidBy z (-1))), (11, .int (nI (nS (wnF z y r d) (nA z)))), (12, .int (nI (nS (wnF z y r d) (nA z)))), (13, .int (nI (nS (wpF z y r d) (nA z))))] dL_holds_468 rfl (nI_1 x) (by decide) rfl ?_
                                        refine q_goto hX 410 dL_holds_471 (by decide) ?_
                                        refine q_sub [1, 2, 3, 4, 5, 6, 7, 8, 9, 10, 11, 12, 0] [(0, .ref (G.2.2 192)), (1, .int (nI r)), (2, .int (nI d)), (3, .int (nI (nA z))), (4, .ref (ar3 0)), (5, .ref (ar3 1)), (6, .ref (ar3 2)), (8, .int (nI (pl_N z r d))), (9, .int (paidBy z (-1))), (11, .int (nI (nS (wnF z y r d) (nA z)))), (12, .int (nI (nS (wnF z y r d) (nA z)))), (13, .int (nI (nS (wpF z y r d) (nA z)))), (14, .int (nI (x + 1)))] rfl ?_
                                        exact ih410 (x + 1) (by omega) (by omega)
                                      · -- on 426
                                        have nc22 : ((wsN z r d x : Nat) = 10) := (nI_eq (a := wsN z r d x) (b := 10) (by omega) (by omega)).mp (Decidable.not_not.mp c22)
                                        refine q_aload_n hX 0 dL_holds_426 rfl ?_
                                        refine q_iload hX 12 dL_holds_427 rfl ?_
                                        refine q_iconst hX 4 dL_holds_429 (by decide) ?_
                                        refine q_cv hX hG (by decide) (by decide) (As := [.int (nI x), .int 4]) (rest := []) (c_X6_application l G u (a := (nI x)) (w := 4) (hI := hu.io)) k_L_holds_X6_application (fun _ _ => rfl) rfl rfl (Nat.le_of_ble_eq_true rfl) dL_holds_430 ?_
                                        refine q_top (nI (a_s y x)) ((cg_application huy).trans (ap4 hy (a := x) (by omega))) ?_
                                        refine q_iconst hX 2 dL_holds_433 (by decide) ?_
                                        refine q_ic_ne hX 468 dL_holds_434 (by decide) (fun c23 => ?_) (fun c23 => ?_)
                                        · -- jump 468
                                          have nc23 : ¬ ((a_s y x : Nat) = 2) := fun q => c23 ((nI_eq (a := a_s y x) (b := 2) (by omega) (by omega)).mpr q)
                                          refine q_iinc hX (nI (x + 1)) 12 [(14, .int (nI (x + 1))), (0, .ref (G.2.2 192)), (1, .int (nI r)), (2, .int (nI d)), (3, .int (nI (nA z))), (4, .ref (ar3 0)), (5, .ref (ar3 1)), (6, .ref (ar3 2)), (8, .int (nI (pl_N z r d))), (9, .int (paidBy z (-1))), (11, .int (nI (nS (wnF z y r d) (nA z)))), (12, .int (nI (nS (wnF z y r d) (nA z)))), (13, .int (nI (nS (wpF z y r d) (nA z))))] dL_holds_468 rfl (nI_1 x) (by decide) rfl ?_
                                          refine q_goto hX 410 dL_holds_471 (by decide) ?_
                                          refine q_sub [1, 2, 3, 4, 5, 6, 7, 8, 9, 10, 11, 12, 0] [(0, .ref (G.2.2 192)), (1, .int (nI r)), (2, .int (nI d)), (3, .int (nI (nA z))), (4, .ref (ar3 0)), (5, .ref (ar3 1)), (6, .ref (ar3 2)), (8, .int (nI (pl_N z r d))), (9, .int (paidBy z (-1))), (11, .int (nI (nS (wnF z y r d) (nA z)))), (12, .int (nI (nS (wnF z y r d) (nA z)))), (13, .int (nI (nS (wpF z y r d) (nA z)))), (14, .int (nI (x + 1)))] rfl ?_
                                          exact ih410 (x + 1) (by omega) (by omega)
                                        · -- on 437
                                          have nc23 : ((a_s y x : Nat) = 2) := (nI_eq (a := a_s y x) (b := 2) (by omega) (by omega)).mp (Decidable.not_not.mp c23)
                                          refine q_aload hX 6 dL_holds_437 rfl ?_
                                          refine q_aload_n hX 0 dL_holds_439 rfl ?_
                                          refine q_iload hX 12 dL_holds_440 rfl ?_
                                          refine q_iconst hX 0 dL_holds_442 (by decide) ?_
                                          refine q_cv hX hG (by decide) (by decide) (As := [.int (nI x), .int 0]) (rest := [.ref (ar3 2)]) (c_X6_application l G u (a := (nI x)) (w := 0) (hI := hu.io)) k_L_holds_X6_application (fun _ _ => rfl) rfl rfl (Nat.le_of_ble_eq_true rfl) dL_holds_443 ?_
                                          refine q_top (nI (a_c y x)) ((cg_application huy).trans (ap0 hy (a := x) (by omega))) ?_
                                          refine q_iald hX 2 (by decide) (a_c y x) rfl (show a_c y x < arL 2 from (by omega : a_c y x < 12)) dL_holds_446 ?_
                                          refine q_top (nI (i2K z y r d (nA z) (a_c y x))) (hu2 _ (by omega)) ?_
                                          refine q_iconst hX 1 dL_holds_447 (by decide) ?_
                                          refine q_ic_ne hX 468 dL_holds_448 (by decide) (fun c24 => ?_) (fun c24 => ?_)
                                          · -- jump 468
                                            have nc24 : ¬ ((i2K z y r d (nA z) (a_c y x) : Nat) = 1) := fun q => c24 ((nI_eq (a := i2K z y r d (nA z) (a_c y x)) (b := 1) (by omega) (by omega)).mpr q)
                                            refine q_iinc hX (nI (x + 1)) 12 [(14, .int (nI (x + 1))), (0, .ref (G.2.2 192)), (1, .int (nI r)), (2, .int (nI d)), (3, .int (nI (nA z))), (4, .ref (ar3 0)), (5, .ref (ar3 1)), (6, .ref (ar3 2)), (8, .int (nI (pl_N z r d))), (9, .int (paidBy z (-1))), (11, .int (nI (nS (wnF z y r d) (nA z)))), (12, .int (nI (nS (wnF z y r d) (nA z)))), (13, .int (nI (nS (wpF z y r d) (nA z))))] dL_holds_468 rfl (nI_1 x) (by decide) rfl ?_
                                            refine q_goto hX 410 dL_holds_471 (by decide) ?_
                                            refine q_sub [1, 2, 3, 4, 5, 6, 7, 8, 9, 10, 11, 12, 0] [(0, .ref (G.2.2 192)), (1, .int (nI r)), (2, .int (nI d)), (3, .int (nI (nA z))), (4, .ref (ar3 0)), (5, .ref (ar3 1)), (6, .ref (ar3 2)), (8, .int (nI (pl_N z r d))), (9, .int (paidBy z (-1))), (11, .int (nI (nS (wnF z y r d) (nA z)))), (12, .int (nI (nS (wnF z y r d) (nA z)))), (13, .int (nI (nS (wpF z y r d) (nA z)))), (14, .int (nI (x + 1)))] rfl ?_
                                            exact ih410 (x + 1) (by omega) (by omega)
                                          · -- on 451
                                            have nc24 : ((i2K z y r d (nA z) (a_c y x) : Nat) = 1) := (nI_eq (a := i2K z y r d (nA z) (a_c y x)) (b := 1) (by omega) (by omega)).mp (Decidable.not_not.mp c24)
                                            refine q_aload_n hX 0 dL_holds_451 rfl ?_
                                            refine q_iload hX 12 dL_holds_452 rfl ?_
                                            refine q_iconst hX 3 dL_holds_454 (by decide) ?_
                                            refine q_cv hX hG (by decide) (by decide) (As := [.int (nI x), .int 3]) (rest := []) (c_X6_application l G u (a := (nI x)) (w := 3) (hI := hu.io)) k_L_holds_X6_application (fun _ _ => rfl) rfl rfl (Nat.le_of_ble_eq_true rfl) dL_holds_455 ?_
                                            refine q_top (nI (a_p y x)) ((cg_application huy).trans (ap3 hy (a := x) (by omega))) ?_
                                            refine q_iload hX 7 dL_holds_458 rfl ?_
                                            refine q_iload hX 11 dL_holds_460 rfl ?_
                                            refine q_isub hX dL_holds_462 ?_
                                            refine q_top (nI (pl_N z r d - nS (wpF z y r d) (nA z))) (pk_sub (a := pl_N z r d) (b := nS (wpF z y r d) (nA z)) (by omega)) ?_
                                            refine q_ic_gt hX 468 dL_holds_463 (by decide) (fun c25 => ?_) (fun c25 => ?_)
                                            · -- jump 468
                                              have nc25 : ((pl_N z r d - nS (wpF z y r d) (nA z) : Nat) < a_p y x) := (nI_ltI (a := pl_N z r d - nS (wpF z y r d) (nA z)) (b := a_p y x) (by omega) (by omega)).mp c25
                                              refine q_iinc hX (nI (x + 1)) 12 [(14, .int (nI (x + 1))), (0, .ref (G.2.2 192)), (1, .int (nI r)), (2, .int (nI d)), (3, .int (nI (nA z))), (4, .ref (ar3 0)), (5, .ref (ar3 1)), (6, .ref (ar3 2)), (8, .int (nI (pl_N z r d))), (9, .int (paidBy z (-1))), (11, .int (nI (nS (wnF z y r d) (nA z)))), (12, .int (nI (nS (wnF z y r d) (nA z)))), (13, .int (nI (nS (wpF z y r d) (nA z))))] dL_holds_468 rfl (nI_1 x) (by decide) rfl ?_
                                              refine q_goto hX 410 dL_holds_471 (by decide) ?_
                                              refine q_sub [1, 2, 3, 4, 5, 6, 7, 8, 9, 10, 11, 12, 0] [(0, .ref (G.2.2 192)), (1, .int (nI r)), (2, .int (nI d)), (3, .int (nI (nA z))), (4, .ref (ar3 0)), (5, .ref (ar3 1)), (6, .ref (ar3 2)), (8, .int (nI (pl_N z r d))), (9, .int (paidBy z (-1))), (11, .int (nI (nS (wnF z y r d) (nA z)))), (12, .int (nI (nS (wnF z y r d) (nA z)))), (13, .int (nI (nS (wpF z y r d) (nA z)))), (14, .int (nI (x + 1)))] rfl ?_
                                              exact ih410 (x + 1) (by omega) (by omega)
                                            · -- on 466
                                              have nc25 : ¬ ((pl_N z r d - nS (wpF z y r d) (nA z) : Nat) < a_p y x) := fun q => c25 ((nI_ltI (a := pl_N z r d - nS (wpF z y r d) (nA z)) (b := a_p y x) (by omega) (by omega)).mpr q)
                                              refine q_iconst hX 0 dL_holds_466 (by decide) ?_
                                              exfalso
                                              have hiN : iN z r d x := (ws_10 hJ hk).mp (by omega)
                                              have := lost_bad hF hk hiN (by omega) (by rw [← ec]; omega)
                                              omega
                                refine q_sub [1, 2, 3, 4, 5, 6, 7, 8, 9, 10, 11, 12, 0] [(0, .ref (G.2.2 192)), (1, .int (nI r)), (2, .int (nI d)), (3, .int (nI (nA z))), (4, .ref (ar3 0)), (5, .ref (ar3 1)), (6, .ref (ar3 2)), (8, .int (nI (pl_N z r d))), (9, .int (paidBy z (-1))), (11, .int (nI (nS (wnF z y r d) (nA z)))), (12, .int (nI (nS (wnF z y r d) (nA z)))), (13, .int (nI (nS (wpF z y r d) (nA z)))), (14, .int 0)] rfl ?_
                                have el14 : (0 : Int32) = nI 0 := by rfl
                                refine q_lv (lv' := [(0, .ref (G.2.2 192)), (1, .int (nI r)), (2, .int (nI d)), (3, .int (nI (nA z))), (4, .ref (ar3 0)), (5, .ref (ar3 1)), (6, .ref (ar3 2)), (8, .int (nI (pl_N z r d))), (9, .int (paidBy z (-1))), (11, .int (nI (nS (wnF z y r d) (nA z)))), (12, .int (nI (nS (wnF z y r d) (nA z)))), (13, .int (nI (nS (wpF z y r d) (nA z)))), (14, .int (nI 0))]) (by rw [← el14]) ?_
                                exact loop410 (nA z + 1) 0 (by omega) (Nat.zero_le _)
                              · -- on 301
                                have nc12 : ¬ ((nA z : Nat) ≤ x) := fun q => c12 ((nI_leI (a := nA z) (b := x) (by omega) (by omega)).mpr q)
                                have hk : x < nA z := by omega
                                have hky : x < nA y := by omega
                                have ys7 := (hy.ap hky).2.2.2.2.1.2
                                have hs7 := (hJ.ap hk).2.2.2.2.1.2
                                have hwl := ws_le hJ (r := r) (d := d) hk
                                have ep : a_p y x = a_p z x := by unfold a_p; rw [hF.1 14 (by decide) (by decide) (by decide) (by decide) (by decide)]
                                have ec : a_c y x = a_c z x := by unfold a_c; rw [hF.1 11 (by decide) (by decide) (by decide) (by decide) (by decide)]
                                have hc12 := (hy.ap hky).1.2.2
                                have hp4 := (hy.ap hky).2.2.2.1.2
                                refine q_aload_n hX 0 dL_holds_301 rfl ?_
                                refine q_iload hX 12 dL_holds_302 rfl ?_
                                refine q_iconst hX 4 dL_holds_304 (by decide) ?_
                                refine q_cv hX hG (by decide) (by decide) (As := [.int (nI x), .int 4]) (rest := []) (c_X6_application l G u (a := (nI x)) (w := 4) (hI := hu.io)) k_L_holds_X6_application (fun _ _ => rfl) rfl rfl (Nat.le_of_ble_eq_true rfl) dL_holds_305 ?_
                                refine q_top (nI (a_s y x)) ((cg_application huy).trans (ap4 hy (a := x) (by omega))) ?_
                                refine q_istore hX [(15, .int (nI (a_s y x))), (0, .ref (G.2.2 192)), (1, .int (nI r)), (2, .int (nI d)), (3, .int (nI (nA z))), (4, .ref (ar3 0)), (5, .ref (ar3 1)), (6, .ref (ar3 2)), (8, .int (nI (pl_N z r d))), (9, .int (paidBy z (-1))), (11, .int (nI (nS (wnF z y r d) (nA z)))), (12, .int (nI (nS (wnF z y r d) x))), (13, .int (nI (nS (wpF z y r d) x))), (14, .int (nI x))] dL_holds_308 (by decide) rfl ?_
                                refine q_aload hX 5 dL_holds_310 rfl ?_
                                refine q_iload hX 13 dL_holds_312 rfl ?_
                                refine q_iald hX 0 (by decide) x rfl (show x < arL 0 from (by omega : x < 40)) dL_holds_314 ?_
                                refine q_top (nI (wsN z r d x)) (hu0 x (by omega)) ?_
                                refine q_bipush hX 10 dL_holds_315 (by decide) ?_
                                refine q_ic_eq hX 332 dL_holds_317 (by decide) (fun c26 => ?_) (fun c26 => ?_)
                                · -- jump 332
                                  have nc26 : ((wsN z r d x : Nat) = 10) := (nI_eq (a := wsN z r d x) (b := 10) (by omega) (by omega)).mp c26
                                  have hiN := (ws_10 hJ hk).mp nc26
                                  have km27 : LG X B 3 ar3 G 3 64 u 346 [(15, .int (nI (a_s y x))), (0, .ref (G.2.2 192)), (1, .int (nI r)), (2, .int (nI d)), (3, .int (nI (nA z))), (4, .ref (ar3 0)), (5, .ref (ar3 1)), (6, .ref (ar3 2)), (8, .int (nI (pl_N z r d))), (9, .int (paidBy z (-1))), (11, .int (nI (nS (wnF z y r d) (nA z)))), (12, .int (nI (nS (wnF z y r d) x))), (13, .int (nI (nS (wpF z y r d) x))), (14, .int (nI x))] [] := by
                                    refine q_iload hX 11 dL_holds_346 rfl ?_
                                    have km28 : LG X B 3 ar3 G 3 64 u 359 [(15, .int (nI (a_s y x))), (0, .ref (G.2.2 192)), (1, .int (nI r)), (2, .int (nI d)), (3, .int (nI (nA z))), (4, .ref (ar3 0)), (5, .ref (ar3 1)), (6, .ref (ar3 2)), (8, .int (nI (pl_N z r d))), (9, .int (paidBy z (-1))), (11, .int (nI (nS (wnF z y r d) (nA z)))), (12, .int (nI (nS (wnF z y r d) x))), (13, .int (nI (nS (wpF z y r d) x))), (14, .int (nI x))] [.int (nI (wnF z y r d x)), .int (nI (nS (wnF z y r d) x))] := by
                                      refine q_iadd hX dL_holds_359 ?_
                                      refine q_top (nI (nS (wnF z y r d) x + wnF z y r d x)) (nI_add (nS (wnF z y r d) x) (wnF z y r d x)) ?_
                                      refine q_istore hX [(12, .int (nI (nS (wnF z y r d) x + wnF z y r d x))), (15, .int (nI (a_s y x))), (0, .ref (G.2.2 192)), (1, .int (nI r)), (2, .int (nI d)), (3, .int (nI (nA z))), (4, .ref (ar3 0)), (5, .ref (ar3 1)), (6, .ref (ar3 2)), (8, .int (nI (pl_N z r d))), (9, .int (paidBy z (-1))), (11, .int (nI (nS (wnF z y r d) (nA z)))), (13, .int (nI (nS (wpF z y r d) x))), (14, .int (nI x))] dL_holds_360 (by decide) rfl ?_
                                      refine q_iload hX 12 dL_holds_362 rfl ?_
                                      have km29 : LG X B 3 ar3 G 3 64 u 381 [(12, .int (nI (nS (wnF z y r d) x + wnF z y r d x))), (15, .int (nI (a_s y x))), (0, .ref (G.2.2 192)), (1, .int (nI r)), (2, .int (nI d)), (3, .int (nI (nA z))), (4, .ref (ar3 0)), (5, .ref (ar3 1)), (6, .ref (ar3 2)), (8, .int (nI (pl_N z r d))), (9, .int (paidBy z (-1))), (11, .int (nI (nS (wnF z y r d) (nA z)))), (13, .int (nI (nS (wpF z y r d) x))), (14, .int (nI x))] [.int (nI (wpF z y r d x)), .int (nI (nS (wpF z y r d) x))] := by
                                        refine q_iadd hX dL_holds_381 ?_
                                        refine q_top (nI (nS (wpF z y r d) x + wpF z y r d x)) (nI_add (nS (wpF z y r d) x) (wpF z y r d x)) ?_
                                        refine q_istore hX [(13, .int (nI (nS (wpF z y r d) x + wpF z y r d x))), (12, .int (nI (nS (wnF z y r d) x + wnF z y r d x))), (15, .int (nI (a_s y x))), (0, .ref (G.2.2 192)), (1, .int (nI r)), (2, .int (nI d)), (3, .int (nI (nA z))), (4, .ref (ar3 0)), (5, .ref (ar3 1)), (6, .ref (ar3 2)), (8, .int (nI (pl_N z r d))), (9, .int (paidBy z (-1))), (11, .int (nI (nS (wnF z y r d) (nA z)))), (14, .int (nI x))] dL_holds_382 (by decide) rfl ?_
                                        refine q_iload hX 2 dL_holds_384 rfl ?_
                                        refine q_iconst hX 1 dL_holds_386 (by decide) ?_
                                        refine q_ic_ne hX 401 dL_holds_387 (by decide) (fun c30 => ?_) (fun c30 => ?_)
                                        · -- jump 401
                                          have nc30 : ¬ ((a_s y x : Nat) = 1) := fun q => c30 ((nI_eq (a := a_s y x) (b := 1) (by omega) (by omega)).mpr q)
                                          have hnw : ¬ (iN z r d x ∧ a_s y x = 1) := fun q => nc30 q.2
                                          refine q_iinc hX (nI (x + 1)) 13 [(14, .int (nI (x + 1))), (13, .int (nI (nS (wpF z y r d) x + wpF z y r d x))), (12, .int (nI (nS (wnF z y r d) x + wnF z y r d x))), (15, .int (nI (a_s y x))), (0, .ref (G.2.2 192)), (1, .int (nI r)), (2, .int (nI d)), (3, .int (nI (nA z))), (4, .ref (ar3 0)), (5, .ref (ar3 1)), (6, .ref (ar3 2)), (8, .int (nI (pl_N z r d))), (9, .int (paidBy z (-1))), (11, .int (nI (nS (wnF z y r d) (nA z))))] dL_holds_401 rfl (nI_1 x) (by decide) rfl ?_
                                          refine q_goto hX 295 dL_holds_404 (by decide) ?_
                                          refine q_sub [4, 5, 6, 7, 8, 9, 10, 11, 12, 13, 2, 1, 0] [(0, .ref (G.2.2 192)), (1, .int (nI r)), (2, .int (nI d)), (3, .int (nI (nA z))), (4, .ref (ar3 0)), (5, .ref (ar3 1)), (6, .ref (ar3 2)), (8, .int (nI (pl_N z r d))), (9, .int (paidBy z (-1))), (11, .int (nI (nS (wnF z y r d) (nA z)))), (12, .int (nI (nS (wnF z y r d) x + wnF z y r d x))), (13, .int (nI (nS (wpF z y r d) x + wpF z y r d x))), (14, .int (nI (x + 1)))] rfl ?_
                                          have el12 : (nI (nS (wnF z y r d) x + wnF z y r d x) : Int32) = nI (nS (wnF z y r d) (x + 1)) := by first | rfl | (show nI (nS (wnF z y r d) x) = nI (nS (wnF z y r d) x + wnF z y r d x); rw [show wnF z y r d x = 0 from if_neg hnw, Nat.add_zero])
                                          refine q_lv (lv' := [(0, .ref (G.2.2 192)), (1, .int (nI r)), (2, .int (nI d)), (3, .int (nI (nA z))), (4, .ref (ar3 0)), (5, .ref (ar3 1)), (6, .ref (ar3 2)), (8, .int (nI (pl_N z r d))), (9, .int (paidBy z (-1))), (11, .int (nI (nS (wnF z y r d) (nA z)))), (12, .int (nI (nS (wnF z y r d) (x + 1)))), (13, .int (nI (nS (wpF z y r d) x + wpF z y r d x))), (14, .int (nI (x + 1)))]) (by rw [← el12]) ?_
                                          have el13 : (nI (nS (wpF z y r d) x + wpF z y r d x) : Int32) = nI (nS (wpF z y r d) (x + 1)) := by first | rfl | (show nI (nS (wpF z y r d) x) = nI (nS (wpF z y r d) x + wpF z y r d x); rw [show wpF z y r d x = 0 from if_neg hnw, Nat.add_zero])
                                          refine q_lv (lv' := [(0, .ref (G.2.2 192)), (1, .int (nI r)), (2, .int (nI d)), (3, .int (nI (nA z))), (4, .ref (ar3 0)), (5, .ref (ar3 1)), (6, .ref (ar3 2)), (8, .int (nI (pl_N z r d))), (9, .int (paidBy z (-1))), (11, .int (nI (nS (wnF z y r d) (nA z)))), (12, .int (nI (nS (wnF z y r d) (x + 1)))), (13, .int (nI (nS (wpF z y r d) (x + 1)))), (14, .int (nI (x + 1)))]) (by rw [← el13]) ?_
                                          exact ih295 (x + 1) u (by omega) (by omega) huy hu0 hu1 (fun c hc => by rw [i2K_n (fun q => hnw q)]; exact hu2 c hc)
                                        · -- on 390
                                          have nc30 : ((a_s y x : Nat) = 1) := (nI_eq (a := a_s y x) (b := 1) (by omega) (by omega)).mp (Decidable.not_not.mp c30)
                                          refine q_aload hX 9 dL_holds_390 rfl ?_
                                          refine q_aload_n hX 3 dL_holds_392 rfl ?_
                                          refine q_iload hX 13 dL_holds_393 rfl ?_
                                          refine q_iconst hX 0 dL_holds_395 (by decide) ?_
                                          refine q_cv hX hG (by decide) (by decide) (As := [.int (nI x), .int 0]) (rest := [.ref (ar3 2)]) (c_X6_application l G u (a := (nI x)) (w := 0) (hI := hu.io)) k_L_holds_X6_application (fun _ _ => rfl) rfl rfl (Nat.le_of_ble_eq_true rfl) dL_holds_396 ?_
                                          refine q_top (nI (a_c y x)) ((cg_application huy).trans (ap0 hy (a := x) (by omega))) ?_
                                          refine q_iconst hX 2 dL_holds_399 (by decide) ?_
                                          refine q_iast hX 2 (by decide) (a_c y x) rfl (show a_c y x < arL 2 from (by omega : a_c y x < 12)) dL_holds_400 ?_
                                          obtain ⟨ub, hdub⟩ : ∃ s_ : St, s_ = u2 u (75 + 2) (a_c y x) 2 := ⟨_, rfl⟩
                                          refine q_z (z2 := ub) hdub.symm ?_
                                          have hwub : Same ub y := by rw [hdub]; exact Same.u2 huy (by decide) (by decide)
                                          have hjub : JI ub (b + 100) := hwub.ji hy
                                          refine q_iinc hX (nI (x + 1)) 13 [(14, .int (nI (x + 1))), (13, .int (nI (nS (wpF z y r d) x + wpF z y r d x))), (12, .int (nI (nS (wnF z y r d) x + wnF z y r d x))), (15, .int (nI (a_s y x))), (0, .ref (G.2.2 192)), (1, .int (nI r)), (2, .int (nI d)), (3, .int (nI (nA z))), (4, .ref (ar3 0)), (5, .ref (ar3 1)), (6, .ref (ar3 2)), (8, .int (nI (pl_N z r d))), (9, .int (paidBy z (-1))), (11, .int (nI (nS (wnF z y r d) (nA z))))] dL_holds_401 rfl (nI_1 x) (by decide) rfl ?_
                                          refine q_goto hX 295 dL_holds_404 (by decide) ?_
                                          refine q_sub [4, 5, 6, 7, 8, 9, 10, 11, 12, 13, 2, 1, 0] [(0, .ref (G.2.2 192)), (1, .int (nI r)), (2, .int (nI d)), (3, .int (nI (nA z))), (4, .ref (ar3 0)), (5, .ref (ar3 1)), (6, .ref (ar3 2)), (8, .int (nI (pl_N z r d))), (9, .int (paidBy z (-1))), (11, .int (nI (nS (wnF z y r d) (nA z)))), (12, .int (nI (nS (wnF z y r d) x + wnF z y r d x))), (13, .int (nI (nS (wpF z y r d) x + wpF z y r d x))), (14, .int (nI (x + 1)))] rfl ?_
                                          have el12 : (nI (nS (wnF z y r d) x + wnF z y r d x) : Int32) = nI (nS (wnF z y r d) (x + 1)) := by first | rfl | (show nI (nS (wnF z y r d) x) = nI (nS (wnF z y r d) x + wnF z y r d x); rw [show wnF z y r d x = 0 from if_neg hnw, Nat.add_zero])
                                          refine q_lv (lv' := [(0, .ref (G.2.2 192)), (1, .int (nI r)), (2, .int (nI d)), (3, .int (nI (nA z))), (4, .ref (ar3 0)), (5, .ref (ar3 1)), (6, .ref (ar3 2)), (8, .int (nI (pl_N z r d))), (9, .int (paidBy z (-1))), (11, .int (nI (nS (wnF z y r d) (nA z)))), (12, .int (nI (nS (wnF z y r d) (x + 1)))), (13, .int (nI (nS (wpF z y r d) x + wpF z y r d x))), (14, .int (nI (x + 1)))]) (by rw [← el12]) ?_
                                          have el13 : (nI (nS (wpF z y r d) x + wpF z y r d x) : Int32) = nI (nS (wpF z y r d) (x + 1)) := by first | rfl | (show nI (nS (wpF z y r d) x) = nI (nS (wpF z y r d) x + wpF z y r d x); rw [show wpF z y r d x = 0 from if_neg hnw, Nat.add_zero])
                                          refine q_lv (lv' := [(0, .ref (G.2.2 192)), (1, .int (nI r)), (2, .int (nI d)), (3, .int (nI (nA z))), (4, .ref (ar3 0)), (5, .ref (ar3 1)), (6, .ref (ar3 2)), (8, .int (nI (pl_N z r d))), (9, .int (paidBy z (-1))), (11, .int (nI (nS (wnF z y r d) (nA z)))), (12, .int (nI (nS (wnF z y r d) (x + 1)))), (13, .int (nI (nS (wpF z y r d) (x + 1)))), (14, .int (nI (x + 1)))]) (by rw [← el13]) ?_
                                          exact ih295 (x + 1) ub (by omega) (by omega) hwub (fun a ha => by rw [hdub, u2_f (by decide)]; exact hu0 a ha) (fun a ha => by rw [hdub, u2_f (by decide)]; exact hu1 a ha) (fun c hc => by rw [hdub, u2_ff, ec]; exact i2_step hu2 ⟨hiN, by omega⟩ hc)
                                      refine q_iload hX 1 dL_holds_364 rfl ?_
                                      refine q_iconst hX 1 dL_holds_366 (by decide) ?_
                                      refine q_ic_ne hX 380 dL_holds_367 (by decide) (fun c31 => ?_) (fun c31 => ?_)
                                      · -- jump 380
                                        have nc31 : ¬ ((a_s y x : Nat) = 1) := fun q => c31 ((nI_eq (a := a_s y x) (b := 1) (by omega) (by omega)).mpr q)
                                        refine q_iconst hX 0 dL_holds_380 (by decide) ?_
                                        refine q_top (nI (wpF z y r d x)) (by
                                          first | (rw [show wpF z y r d x = a_p z x from if_pos ⟨hiN, by omega⟩, ep]) | (rw [show wpF z y r d x = 0 from if_neg (fun q => absurd q.2 (by omega))]; rfl)) ?_
                                        refine q_sub [0, 1, 2, 3, 4, 5, 6, 7, 8, 9, 10, 11, 12, 13] [(12, .int (nI (nS (wnF z y r d) x + wnF z y r d x))), (15, .int (nI (a_s y x))), (0, .ref (G.2.2 192)), (1, .int (nI r)), (2, .int (nI d)), (3, .int (nI (nA z))), (4, .ref (ar3 0)), (5, .ref (ar3 1)), (6, .ref (ar3 2)), (8, .int (nI (pl_N z r d))), (9, .int (paidBy z (-1))), (11, .int (nI (nS (wnF z y r d) (nA z)))), (13, .int (nI (nS (wpF z y r d) x))), (14, .int (nI x))] rfl ?_
                                        exact km29
                                      · -- on 370
                                        have nc31 : ((a_s y x : Nat) = 1) := (nI_eq (a := a_s y x) (b := 1) (by omega) (by omega)).mp (Decidable.not_not.mp c31)
                                        refine q_aload_n hX 2 dL_holds_370 rfl ?_
                                        refine q_iload hX 13 dL_holds_371 rfl ?_
                                        refine q_iconst hX 3 dL_holds_373 (by decide) ?_
                                        refine q_cv hX hG (by decide) (by decide) (As := [.int (nI x), .int 3]) (rest := [.int (nI (nS (wpF z y r d) x))]) (c_X6_application l G u (a := (nI x)) (w := 3) (hI := hu.io)) k_L_holds_X6_application (fun _ _ => rfl) rfl rfl (Nat.le_of_ble_eq_true rfl) dL_holds_374 ?_
                                        refine q_top (nI (a_p y x)) ((cg_application huy).trans (ap3 hy (a := x) (by omega))) ?_
                                        refine q_goto hX 381 dL_holds_377 (by decide) ?_
                                        refine q_top (nI (wpF z y r d x)) (by
                                          first | (rw [show wpF z y r d x = a_p z x from if_pos ⟨hiN, by omega⟩, ep]) | (rw [show wpF z y r d x = 0 from if_neg (fun q => absurd q.2 (by omega))]; rfl)) ?_
                                        refine q_sub [0, 1, 2, 3, 4, 5, 6, 7, 8, 9, 10, 11, 12, 13] [(12, .int (nI (nS (wnF z y r d) x + wnF z y r d x))), (15, .int (nI (a_s y x))), (0, .ref (G.2.2 192)), (1, .int (nI r)), (2, .int (nI d)), (3, .int (nI (nA z))), (4, .ref (ar3 0)), (5, .ref (ar3 1)), (6, .ref (ar3 2)), (8, .int (nI (pl_N z r d))), (9, .int (paidBy z (-1))), (11, .int (nI (nS (wnF z y r d) (nA z)))), (13, .int (nI (nS (wpF z y r d) x))), (14, .int (nI x))] rfl ?_
                                        exact km29
                                    refine q_iload hX 0 dL_holds_348 rfl ?_
                                    refine q_iconst hX 1 dL_holds_350 (by decide) ?_
                                    refine q_ic_ne hX 358 dL_holds_351 (by decide) (fun c32 => ?_) (fun c32 => ?_)
                                    · -- jump 358
                                      have nc32 : ¬ ((a_s y x : Nat) = 1) := fun q => c32 ((nI_eq (a := a_s y x) (b := 1) (by omega) (by omega)).mpr q)
                                      refine q_iconst hX 0 dL_holds_358 (by decide) ?_
                                      refine q_top (nI (wnF z y r d x)) (by
                                        first | (rw [show wnF z y r d x = 1 from if_pos ⟨hiN, by omega⟩]; rfl) | (rw [show wnF z y r d x = 0 from if_neg (fun q => absurd q.2 (by omega))]; rfl)) ?_
                                      refine q_sub [0, 1, 2, 3, 4, 5, 6, 7, 8, 9, 10, 11, 12, 13] [(15, .int (nI (a_s y x))), (0, .ref (G.2.2 192)), (1, .int (nI r)), (2, .int (nI d)), (3, .int (nI (nA z))), (4, .ref (ar3 0)), (5, .ref (ar3 1)), (6, .ref (ar3 2)), (8, .int (nI (pl_N z r d))), (9, .int (paidBy z (-1))), (11, .int (nI (nS (wnF z y r d) (nA z)))), (12, .int (nI (nS (wnF z y r d) x))), (13, .int (nI (nS (wpF z y r d) x))), (14, .int (nI x))] rfl ?_
                                      exact km28
                                    · -- on 354
                                      have nc32 : ((a_s y x : Nat) = 1) := (nI_eq (a := a_s y x) (b := 1) (by omega) (by omega)).mp (Decidable.not_not.mp c32)
                                      refine q_iconst hX 1 dL_holds_354 (by decide) ?_
                                      refine q_goto hX 359 dL_holds_355 (by decide) ?_
                                      refine q_top (nI (wnF z y r d x)) (by
                                        first | (rw [show wnF z y r d x = 1 from if_pos ⟨hiN, by omega⟩]; rfl) | (rw [show wnF z y r d x = 0 from if_neg (fun q => absurd q.2 (by omega))]; rfl)) ?_
                                      refine q_sub [0, 1, 2, 3, 4, 5, 6, 7, 8, 9, 10, 11, 12, 13] [(15, .int (nI (a_s y x))), (0, .ref (G.2.2 192)), (1, .int (nI r)), (2, .int (nI d)), (3, .int (nI (nA z))), (4, .ref (ar3 0)), (5, .ref (ar3 1)), (6, .ref (ar3 2)), (8, .int (nI (pl_N z r d))), (9, .int (paidBy z (-1))), (11, .int (nI (nS (wnF z y r d) (nA z)))), (12, .int (nI (nS (wnF z y r d) x))), (13, .int (nI (nS (wpF z y r d) x))), (14, .int (nI x))] rfl ?_
                                      exact km28
                                  refine q_iload hX 0 dL_holds_332 rfl ?_
                                  refine q_iconst hX 1 dL_holds_334 (by decide) ?_
                                  refine q_ic_eq hX 346 dL_holds_335 (by decide) (fun c33 => ?_) (fun c33 => ?_)
                                  · -- jump 346
                                    have nc33 : ((a_s y x : Nat) = 1) := (nI_eq (a := a_s y x) (b := 1) (by omega) (by omega)).mp c33
                                    refine q_sub [0, 1, 2, 3, 4, 5, 6, 7, 8, 9, 10, 11, 12, 13] [(15, .int (nI (a_s y x))), (0, .ref (G.2.2 192)), (1, .int (nI r)), (2, .int (nI d)), (3, .int (nI (nA z))), (4, .ref (ar3 0)), (5, .ref (ar3 1)), (6, .ref (ar3 2)), (8, .int (nI (pl_N z r d))), (9, .int (paidBy z (-1))), (11, .int (nI (nS (wnF z y r d) (nA z)))), (12, .int (nI (nS (wnF z y r d) x))), (13, .int (nI (nS (wpF z y r d) x))), (14, .int (nI x))] rfl ?_
                                    exact km27
                                  · -- on 338
                                    have nc33 : ¬ ((a_s y x : Nat) = 1) := fun q => c33 ((nI_eq (a := a_s y x) (b := 1) (by omega) (by omega)).mpr q)
                                    refine q_iload hX 0 dL_holds_338 rfl ?_
                                    refine q_iconst hX 2 dL_holds_340 (by decide) ?_
                                    refine q_ic_eq hX 346 dL_holds_341 (by decide) (fun c34 => ?_) (fun c34 => ?_)
                                    · -- jump 346
                                      have nc34 : ((a_s y x : Nat) = 2) := (nI_eq (a := a_s y x) (b := 2) (by omega) (by omega)).mp c34
                                      refine q_sub [0, 1, 2, 3, 4, 5, 6, 7, 8, 9, 10, 11, 12, 13] [(15, .int (nI (a_s y x))), (0, .ref (G.2.2 192)), (1, .int (nI r)), (2, .int (nI d)), (3, .int (nI (nA z))), (4, .ref (ar3 0)), (5, .ref (ar3 1)), (6, .ref (ar3 2)), (8, .int (nI (pl_N z r d))), (9, .int (paidBy z (-1))), (11, .int (nI (nS (wnF z y r d) (nA z)))), (12, .int (nI (nS (wnF z y r d) x))), (13, .int (nI (nS (wpF z y r d) x))), (14, .int (nI x))] rfl ?_
                                      exact km27
                                    · -- on 344
                                      have nc34 : ¬ ((a_s y x : Nat) = 2) := fun q => c34 ((nI_eq (a := a_s y x) (b := 2) (by omega) (by omega)).mpr q)
                                      refine q_iconst hX 0 dL_holds_344 (by decide) ?_
                                      exfalso
                                      rcases hF.2.2.2.1 x hk hiN with q | q
                                      · have := q.1; omega
                                      · omega
                                · -- on 320
                                  have nc26 : ¬ ((wsN z r d x : Nat) = 10) := fun q => c26 ((nI_eq (a := wsN z r d x) (b := 10) (by omega) (by omega)).mpr q)
                                  have hnn := ws_n nc26
                                  have hnw : ¬ (iN z r d x ∧ a_s y x = 1) := fun q => hnn.1 q.1
                                  refine q_iload hX 0 dL_holds_320 rfl ?_
                                  refine q_aload hX 5 dL_holds_322 rfl ?_
                                  refine q_iload hX 13 dL_holds_324 rfl ?_
                                  refine q_iald hX 0 (by decide) x rfl (show x < arL 0 from (by omega : x < 40)) dL_holds_326 ?_
                                  refine q_top (nI (wsN z r d x)) (hu0 x (by omega)) ?_
                                  refine q_ic_eq hX 401 dL_holds_327 (by decide) (fun c35 => ?_) (fun c35 => ?_)
                                  · -- jump 401
                                    have nc35 : ((a_s y x : Nat) = wsN z r d x) := (nI_eq (a := a_s y x) (b := wsN z r d x) (by omega) (by omega)).mp c35
                                    refine q_iinc hX (nI (x + 1)) 13 [(14, .int (nI (x + 1))), (15, .int (nI (a_s y x))), (0, .ref (G.2.2 192)), (1, .int (nI r)), (2, .int (nI d)), (3, .int (nI (nA z))), (4, .ref (ar3 0)), (5, .ref (ar3 1)), (6, .ref (ar3 2)), (8, .int (nI (pl_N z r d))), (9, .int (paidBy z (-1))), (11, .int (nI (nS (wnF z y r d) (nA z)))), (12, .int (nI (nS (wnF z y r d) x))), (13, .int (nI (nS (wpF z y r d) x)))] dL_holds_401 rfl (nI_1 x) (by decide) rfl ?_
                                    refine q_goto hX 295 dL_holds_404 (by decide) ?_
                                    refine q_sub [2, 3, 4, 5, 6, 7, 8, 9, 10, 11, 12, 13, 0] [(0, .ref (G.2.2 192)), (1, .int (nI r)), (2, .int (nI d)), (3, .int (nI (nA z))), (4, .ref (ar3 0)), (5, .ref (ar3 1)), (6, .ref (ar3 2)), (8, .int (nI (pl_N z r d))), (9, .int (paidBy z (-1))), (11, .int (nI (nS (wnF z y r d) (nA z)))), (12, .int (nI (nS (wnF z y r d) x))), (13, .int (nI (nS (wpF z y r d) x))), (14, .int (nI (x + 1)))] rfl ?_
                                    have el12 : (nI (nS (wnF z y r d) x) : Int32) = nI (nS (wnF z y r d) (x + 1)) := by first | rfl | (show nI (nS (wnF z y r d) x) = nI (nS (wnF z y r d) x + wnF z y r d x); rw [show wnF z y r d x = 0 from if_neg hnw, Nat.add_zero])
                                    refine q_lv (lv' := [(0, .ref (G.2.2 192)), (1, .int (nI r)), (2, .int (nI d)), (3, .int (nI (nA z))), (4, .ref (ar3 0)), (5, .ref (ar3 1)), (6, .ref (ar3 2)), (8, .int (nI (pl_N z r d))), (9, .int (paidBy z (-1))), (11, .int (nI (nS (wnF z y r d) (nA z)))), (12, .int (nI (nS (wnF z y r d) (x + 1)))), (13, .int (nI (nS (wpF z y r d) x))), (14, .int (nI (x + 1)))]) (by rw [← el12]) ?_
                                    have el13 : (nI (nS (wpF z y r d) x) : Int32) = nI (nS (wpF z y r d) (x + 1)) := by first | rfl | (show nI (nS (wpF z y r d) x) = nI (nS (wpF z y r d) x + wpF z y r d x); rw [show wpF z y r d x = 0 from if_neg hnw, Nat.add_zero])
                                    refine q_lv (lv' := [(0, .ref (G.2.2 192)), (1, .int (nI r)), (2, .int (nI d)), (3, .int (nI (nA z))), (4, .ref (ar3 0)), (5, .ref (ar3 1)), (6, .ref (ar3 2)), (8, .int (nI (pl_N z r d))), (9, .int (paidBy z (-1))), (11, .int (nI (nS (wnF z y r d) (nA z)))), (12, .int (nI (nS (wnF z y r d) (x + 1)))), (13, .int (nI (nS (wpF z y r d) (x + 1)))), (14, .int (nI (x + 1)))]) (by rw [← el13]) ?_
                                    exact ih295 (x + 1) u (by omega) (by omega) huy hu0 hu1 (fun c hc => by rw [i2K_n (fun q => hnw q)]; exact hu2 c hc)
                                  · -- on 330
                                    have nc35 : ¬ ((a_s y x : Nat) = wsN z r d x) := fun q => c35 ((nI_eq (a := a_s y x) (b := wsN z r d x) (by omega) (by omega)).mpr q)
                                    refine q_iconst hX 0 dL_holds_330 (by decide) ?_
                                    exfalso
                                    have := hF.2.2.1 x hk hnn.1
                                    have := hnn.2
                                    omega
                          refine q_sub [7, 8, 9, 10, 11, 12, 13, 6, 5, 3, 2, 1, 0] [(0, .ref (G.2.2 192)), (1, .int (nI r)), (2, .int (nI d)), (3, .int (nI (nA z))), (4, .ref (ar3 0)), (5, .ref (ar3 1)), (6, .ref (ar3 2)), (8, .int (nI (pl_N z r d))), (9, .int (paidBy z (-1))), (11, .int (nI (nS (wnF z y r d) (nA z)))), (12, .int 0), (13, .int 0), (14, .int 0)] rfl ?_
                          have el12 : (0 : Int32) = nI (nS (wnF z y r d) 0) := by rfl
                          refine q_lv (lv' := [(0, .ref (G.2.2 192)), (1, .int (nI r)), (2, .int (nI d)), (3, .int (nI (nA z))), (4, .ref (ar3 0)), (5, .ref (ar3 1)), (6, .ref (ar3 2)), (8, .int (nI (pl_N z r d))), (9, .int (paidBy z (-1))), (11, .int (nI (nS (wnF z y r d) (nA z)))), (12, .int (nI (nS (wnF z y r d) 0))), (13, .int 0), (14, .int 0)]) (by rw [← el12]) ?_
                          have el13 : (0 : Int32) = nI (nS (wpF z y r d) 0) := by rfl
                          refine q_lv (lv' := [(0, .ref (G.2.2 192)), (1, .int (nI r)), (2, .int (nI d)), (3, .int (nI (nA z))), (4, .ref (ar3 0)), (5, .ref (ar3 1)), (6, .ref (ar3 2)), (8, .int (nI (pl_N z r d))), (9, .int (paidBy z (-1))), (11, .int (nI (nS (wnF z y r d) (nA z)))), (12, .int (nI (nS (wnF z y r d) 0))), (13, .int (nI (nS (wpF z y r d) 0))), (14, .int 0)]) (by rw [← el13]) ?_
                          have el14 : (0 : Int32) = nI 0 := by rfl
                          refine q_lv (lv' := [(0, .ref (G.2.2 192)), (1, .int (nI r)), (2, .int (nI d)), (3, .int (nI (nA z))), (4, .ref (ar3 0)), (5, .ref (ar3 1)), (6, .ref (ar3 2)), (8, .int (nI (pl_N z r d))), (9, .int (paidBy z (-1))), (11, .int (nI (nS (wnF z y r d) (nA z)))), (12, .int (nI (nS (wnF z y r d) 0))), (13, .int (nI (nS (wpF z y r d) 0))), (14, .int (nI 0))]) (by rw [← el14]) ?_
                          exact loop295 (nA z + 1) 0 y (by omega) (Nat.zero_le _) (Same.rfl' y) hya0 hya1 hya2
                        refine q_iload hX 11 dL_holds_270 rfl ?_
                        refine q_if_le hX 286 dL_holds_272 (by decide) (fun c36 => ?_) (fun c36 => ?_)
                        · -- jump 286
                          have nc36 : ((nS (odF z r d) (nA z) : Nat) ≤ 0) := (nI_leI (a := nS (odF z r d) (nA z)) (b := 0) (by omega) (by omega)).mp c36
                          refine q_sub [0, 1, 2, 3, 4, 5, 6, 7, 8, 9, 10, 11] [(11, .int (nI (nS (wnF z y r d) (nA z)))), (10, .int (nI (stN z r d 0))), (9, .int (paidBy z (-1))), (8, .int (nI (pl_N z r d))), (0, .ref (G.2.2 192)), (1, .int (nI r)), (2, .int (nI d)), (3, .int (nI (nA z))), (4, .ref (ar3 0)), (5, .ref (ar3 1)), (6, .ref (ar3 2)), (7, .int (nI (nS (odF z r d) (nA z))))] rfl ?_
                          exact km11
                        · -- on 275
                          have nc36 : ¬ ((nS (odF z r d) (nA z) : Nat) ≤ 0) := fun q => c36 ((nI_leI (a := nS (odF z r d) (nA z)) (b := 0) (by omega) (by omega)).mpr q)
                          refine q_iload hX 11 dL_holds_275 rfl ?_
                          refine q_ldc hX 1000000 dL_holds_277 (List.mem_of_getElem? (i := 2) rfl) ?_
                          refine q_iload_n hX 7 dL_holds_279 rfl ?_
                          refine q_isub hX dL_holds_280 ?_
                          refine q_top (nI (1000000 - nA z)) (pk_sub (a := 1000000) (b := nA z) (by omega)) ?_
                          refine q_ic_ge hX 286 dL_holds_281 (by decide) (fun c37 => ?_) (fun c37 => ?_)
                          · -- jump 286
                            have nc37 : ((1000000 - nA z : Nat) ≤ nS (odF z r d) (nA z)) := (nI_leI (a := 1000000 - nA z) (b := nS (odF z r d) (nA z)) (by omega) (by omega)).mp c37
                            refine q_sub [0, 1, 2, 3, 4, 5, 6, 7, 8, 9, 10, 11] [(11, .int (nI (nS (wnF z y r d) (nA z)))), (10, .int (nI (stN z r d 0))), (9, .int (paidBy z (-1))), (8, .int (nI (pl_N z r d))), (0, .ref (G.2.2 192)), (1, .int (nI r)), (2, .int (nI d)), (3, .int (nI (nA z))), (4, .ref (ar3 0)), (5, .ref (ar3 1)), (6, .ref (ar3 2)), (7, .int (nI (nS (odF z r d) (nA z))))] rfl ?_
                            exact km11
                          · -- on 284
                            have nc37 : ¬ ((1000000 - nA z : Nat) ≤ nS (odF z r d) (nA z)) := fun q => c37 ((nI_leI (a := 1000000 - nA z) (b := nS (odF z r d) (nA z)) (by omega) (by omega)).mpr q)
                            refine q_iconst hX 0 dL_holds_284 (by decide) ?_
                            exfalso
                            omega
                  · -- on 245
                    have nc8 : ((stN z r d 0 : Nat) = 0) := (nI_eq (a := stN z r d 0) (b := 0) (by omega) (by omega)).mp (Decidable.not_not.mp c8)
                    exfalso; omega
              · -- on 188
                have nc5 : ¬ ((NC z : Nat) ≤ c) := fun q => c5 ((nI_leI (a := NC z) (b := c) (by omega) (by omega)).mpr q)
                refine q_aload hX 5 dL_holds_188 rfl ?_
                refine q_iload hX 8 dL_holds_190 rfl ?_
                refine q_aload_n hX 0 dL_holds_192 rfl ?_
                refine q_iload hX 8 dL_holds_193 rfl ?_
                refine q_iconst hX 0 dL_holds_195 (by decide) ?_
                refine q_cv hX hG (by decide) (by decide) (As := [.int (nI c), .int 0]) (rest := [.int (nI c), .ref (ar3 1)]) (c_X6_climber l G v (c := (nI c)) (w := 0) (hI := hv.io)) k_L_holds_X6_climber (fun _ _ => rfl) rfl rfl (Nat.le_of_ble_eq_true rfl) dL_holds_196 ?_
                refine q_top (z 8 c) ((cgs_climber hvz).trans (cl0 hJ (c := c) (by omega))) ?_
                refine q_iast hX 1 (by decide) c rfl (show c < arL 1 from (by omega : c < 12)) dL_holds_199 ?_
                obtain ⟨va, hdva⟩ : ∃ s_ : St, s_ = u2 v (75 + 1) c (z 8 c) := ⟨_, rfl⟩
                refine q_z (z2 := va) hdva.symm ?_
                have hwva : SamS va z := by rw [hdva]; exact SamS.u2 hvz (by decide) (by decide)
                have hjva : JI va b := hwva.ji hJ
                refine q_iinc hX (nI (c + 1)) 8 [(8, .int (nI (c + 1))), (0, .ref (G.2.2 192)), (1, .int (nI r)), (2, .int (nI d)), (3, .int (nI (nA z))), (4, .ref (ar3 0)), (5, .ref (ar3 1)), (6, .ref (ar3 2)), (7, .int (nI (nS (odF z r d) (nA z))))] dL_holds_200 rfl (nI_1 c) (by decide) rfl ?_
                refine q_goto hX 178 dL_holds_203 (by decide) ?_
                refine q_sub [1, 2, 3, 4, 5, 6, 7, 8, 0] [(0, .ref (G.2.2 192)), (1, .int (nI r)), (2, .int (nI d)), (3, .int (nI (nA z))), (4, .ref (ar3 0)), (5, .ref (ar3 1)), (6, .ref (ar3 2)), (7, .int (nI (nS (odF z r d) (nA z)))), (8, .int (nI (c + 1)))] rfl ?_
                exact ih178 (c + 1) va (by omega) (by omega) hwva (fun a ha => by rw [hdva, u2_f (by decide)]; exact hwas a ha) (fun c hc => by rw [hdva, u2_f (by decide)]; exact hin c hc) (by rw [hdva, u2_ff]; exact fill_upd hmem rfl)
          refine q_sub [1, 2, 3, 4, 5, 6, 7, 8, 0] [(0, .ref (G.2.2 192)), (1, .int (nI r)), (2, .int (nI d)), (3, .int (nI (nA z))), (4, .ref (ar3 0)), (5, .ref (ar3 1)), (6, .ref (ar3 2)), (7, .int (nI (nS (odF z r d) (nA z)))), (8, .int 0)] rfl ?_
          have el8 : (0 : Int32) = nI 0 := by rfl
          refine q_lv (lv' := [(0, .ref (G.2.2 192)), (1, .int (nI r)), (2, .int (nI d)), (3, .int (nI (nA z))), (4, .ref (ar3 0)), (5, .ref (ar3 1)), (6, .ref (ar3 2)), (7, .int (nI (nS (odF z r d) (nA z)))), (8, .int (nI 0))]) (by rw [← el8]) ?_
          exact loop178 (NC z + 1) 0 w (by omega) (Nat.zero_le _) hwz (fun a ha => hwas a (by omega)) (fun c hc => by rw [← ek]; exact hin c hc) (fun a ha => absurd ha (Nat.not_lt_zero _))
        · -- on 36
          have nc4 : ¬ ((nA z : Nat) ≤ k) := fun q => c4 ((nI_leI (a := nA z) (b := k) (by omega) (by omega)).mpr q)
          have hk : k < nA z := by omega
          obtain ⟨⟨-, hc1, hc2⟩, ⟨-, hr1, hr2⟩, ⟨-, hd6⟩, ⟨-, hp1, hp4⟩, ⟨-, hs7⟩, hk40⟩ := hJ.ap hk
          have j4 := (hJ.aj hk).2.2.2.1.2
          have j5 := (hJ.aj hk).2.2.2.2.1.2
          have hhe := he_le z r d k
          refine q_aload hX 4 dL_holds_36 rfl ?_
          refine q_iload hX 8 dL_holds_38 rfl ?_
          refine q_aload_n hX 0 dL_holds_40 rfl ?_
          refine q_iload hX 8 dL_holds_41 rfl ?_
          refine q_iconst hX 4 dL_holds_43 (by decide) ?_
          refine q_cv hX hG (by decide) (by decide) (As := [.int (nI k), .int 4]) (rest := [.int (nI k), .ref (ar3 0)]) (c_X6_application l G w (a := (nI k)) (w := 4) (hI := hw.io)) k_L_holds_X6_application (fun _ _ => rfl) rfl rfl (Nat.le_of_ble_eq_true rfl) dL_holds_44 ?_
          refine q_top (nI (a_s z k)) ((cgs_application hwz).trans (ap4 hJ (a := k) (by omega))) ?_
          refine q_iast hX 0 (by decide) k rfl (show k < arL 0 from (by omega : k < 40)) dL_holds_47 ?_
          obtain ⟨s1, hds1⟩ : ∃ s_ : St, s_ = u2 w (75 + 0) k (nI (a_s z k)) := ⟨_, rfl⟩
          refine q_z (z2 := s1) hds1.symm ?_
          have hws1 : SamS s1 z := by rw [hds1]; exact SamS.u2 hwz (by decide) (by decide)
          have hjs1 : JI s1 b := hws1.ji hJ
          have km38 : LG X B 3 ar3 G 3 64 s1 83 [(0, .ref (G.2.2 192)), (1, .int (nI r)), (2, .int (nI d)), (3, .int (nI (nA z))), (4, .ref (ar3 0)), (5, .ref (ar3 1)), (6, .ref (ar3 2)), (7, .int (nI (nS (odF z r d) k))), (8, .int (nI k))] [.int (nI (heN z r d k))] := by
            refine q_istore hX [(9, .int (nI (heN z r d k))), (0, .ref (G.2.2 192)), (1, .int (nI r)), (2, .int (nI d)), (3, .int (nI (nA z))), (4, .ref (ar3 0)), (5, .ref (ar3 1)), (6, .ref (ar3 2)), (7, .int (nI (nS (odF z r d) k))), (8, .int (nI k))] dL_holds_83 (by decide) rfl ?_
            refine q_aload hX 5 dL_holds_85 rfl ?_
            refine q_iload hX 9 dL_holds_87 rfl ?_
            have km39 : LG X B 3 ar3 G 3 64 s1 104 [(9, .int (nI (heN z r d k))), (0, .ref (G.2.2 192)), (1, .int (nI r)), (2, .int (nI d)), (3, .int (nI (nA z))), (4, .ref (ar3 0)), (5, .ref (ar3 1)), (6, .ref (ar3 2)), (7, .int (nI (nS (odF z r d) k))), (8, .int (nI k))] [.int (nI (wsN z r d k)), .int (nI k), .ref (ar3 0)] := by
              refine q_iast hX 0 (by decide) k rfl (show k < arL 0 from (by omega : k < 40)) dL_holds_104 ?_
              obtain ⟨s2, hds2⟩ : ∃ s_ : St, s_ = u2 s1 (75 + 0) k (nI (wsN z r d k)) := ⟨_, rfl⟩
              refine q_z (z2 := s2) hds2.symm ?_
              have hws2 : SamS s2 z := by rw [hds2]; exact SamS.u2 hws1 (by decide) (by decide)
              have hjs2 : JI s2 b := hws2.ji hJ
              refine q_iload hX 0 dL_holds_105 rfl ?_
              refine q_if_eq hX 151 dL_holds_107 (by decide) (fun c40 => ?_) (fun c40 => ?_)
              · -- jump 151
                have nc40 : ((heN z r d k : Nat) = 0) := (nI_eq (a := heN z r d k) (b := 0) (by omega) (by omega)).mp c40
                refine q_iload hX 0 dL_holds_151 rfl ?_
                refine q_if_eq hX 169 dL_holds_153 (by decide) (fun c41 => ?_) (fun c41 => ?_)
                · -- jump 169
                  have nc41 : ((heN z r d k : Nat) = 0) := (nI_eq (a := heN z r d k) (b := 0) (by omega) (by omega)).mp c41
                  refine q_iinc hX (nI (k + 1)) 9 [(8, .int (nI (k + 1))), (9, .int (nI (heN z r d k))), (0, .ref (G.2.2 192)), (1, .int (nI r)), (2, .int (nI d)), (3, .int (nI (nA z))), (4, .ref (ar3 0)), (5, .ref (ar3 1)), (6, .ref (ar3 2)), (7, .int (nI (nS (odF z r d) k)))] dL_holds_169 rfl (nI_1 k) (by decide) rfl ?_
                  refine q_goto hX 30 dL_holds_172 (by decide) ?_
                  refine q_sub [2, 3, 4, 5, 6, 7, 8, 9, 0] [(0, .ref (G.2.2 192)), (1, .int (nI r)), (2, .int (nI d)), (3, .int (nI (nA z))), (4, .ref (ar3 0)), (5, .ref (ar3 1)), (6, .ref (ar3 2)), (7, .int (nI (nS (odF z r d) k))), (8, .int (nI (k + 1)))] rfl ?_
                  have el7 : (nI (nS (odF z r d) k) : Int32) = nI (nS (odF z r d) (k + 1)) := by first | rfl | (show nI (nS (odF z r d) k) = nI (nS (odF z r d) k + odF z r d k); rw [show odF z r d k = 0 from if_neg (fun q => by first | exact hnL q | exact he_i.mpr q.1 (by omega)), Nat.add_zero])
                  refine q_lv (lv' := [(0, .ref (G.2.2 192)), (1, .int (nI r)), (2, .int (nI d)), (3, .int (nI (nA z))), (4, .ref (ar3 0)), (5, .ref (ar3 1)), (6, .ref (ar3 2)), (7, .int (nI (nS (odF z r d) (k + 1)))), (8, .int (nI (k + 1)))]) (by rw [← el7]) ?_
                  exact ih30 (k + 1) s2 (by omega) (by omega) hws2 (by rw [hds2, u2_ff, hds1, u2_ff, upd_upd]; exact fill_upd hwas rfl) (fun c hc => by rw [hds2, u2_f (by decide), hds1, u2_f (by decide), in_n (show ¬ iL z r d k from fun q => he_i.mpr q.1 (by omega))]; exact hin c hc)
                · -- on 156
                  have nc41 : ¬ ((heN z r d k : Nat) = 0) := fun q => c41 ((nI_eq (a := heN z r d k) (b := 0) (by omega) (by omega)).mpr q)
                  exfalso; omega
              · -- on 110
                have nc40 : ¬ ((heN z r d k : Nat) = 0) := fun q => c40 ((nI_eq (a := heN z r d k) (b := 0) (by omega) (by omega)).mpr q)
                have hiN := he_i.mp nc40
                refine q_aload_n hX 1 dL_holds_110 rfl ?_
                refine q_aload_n hX 1 dL_holds_111 rfl ?_
                refine q_iload hX 9 dL_holds_112 rfl ?_
                refine q_iconst hX 0 dL_holds_114 (by decide) ?_
                refine q_cv hX hG (by decide) (by decide) (As := [.int (nI k), .int 0]) (rest := [.ref (G.2.2 192)]) (c_X6_application l G s2 (a := (nI k)) (w := 0) (hI := hjs2.io)) k_L_holds_X6_application (fun _ _ => rfl) rfl rfl (Nat.le_of_ble_eq_true rfl) dL_holds_115 ?_
                refine q_top (nI (a_c z k)) ((cgs_application hws2).trans (ap0 hJ (a := k) (by omega))) ?_
                refine q_iconst hX 2 dL_holds_118 (by decide) ?_
                refine q_cv hX hG (by decide) (by decide) (As := [.int (nI (a_c z k)), .int 2]) (rest := []) (c_X6_climber l G s2 (c := (nI (a_c z k))) (w := 2) (hI := hjs2.io)) k_L_holds_X6_climber (fun _ _ => rfl) rfl rfl (Nat.le_of_ble_eq_true rfl) dL_holds_119 ?_
                refine q_top (z 10 (a_c z k)) ((cgs_climber hws2).trans (cl2 hJ (c := (a_c z k)) (by omega))) ?_
                refine q_iload_n hX 3 dL_holds_122 rfl ?_
                refine q_ic_ge hX 151 dL_holds_123 (by decide) (fun c42 => ?_) (fun c42 => ?_)
                · -- jump 151
                  have hnL : ¬ iL z r d k := fun q => absurd q.2 (Int32.not_lt.mpr c42)
                  refine q_iload hX 0 dL_holds_151 rfl ?_
                  refine q_if_eq hX 169 dL_holds_153 (by decide) (fun c43 => ?_) (fun c43 => ?_)
                  · -- jump 169
                    have nc43 : ((heN z r d k : Nat) = 0) := (nI_eq (a := heN z r d k) (b := 0) (by omega) (by omega)).mp c43
                    exfalso; omega
                  · -- on 156
                    have nc43 : ¬ ((heN z r d k : Nat) = 0) := fun q => c43 ((nI_eq (a := heN z r d k) (b := 0) (by omega) (by omega)).mpr q)
                    refine q_aload_n hX 1 dL_holds_156 rfl ?_
                    refine q_iload hX 9 dL_holds_157 rfl ?_
                    refine q_cv hX hG (by decide) (by decide) (As := [.int (nI k)]) (rest := []) (c_X6_odds l G hG.1 s2 (a := (nI k)) (hI := hjs2.io)) k_L_holds_X6_odds (fun i hi => (odds_law hJ hws2 hr hd hk hiN).2.2 _ (by omega)) rfl rfl (Nat.le_of_ble_eq_true rfl) dL_holds_159 ?_
                    obtain ⟨o1, o2, o3⟩ := odds_law hJ hws2 hr hd hk hiN
                    obtain ⟨s5, hds5⟩ : ∃ s_ : St, s_ = (cOdds s2 (nI k)).2 := ⟨_, rfl⟩
                    refine q_z (z2 := s5) hds5.symm ?_
                    have hws5 : SamS s5 z := fun f hf h1 h2 h3 => by rw [hds5, o3 f hf]; exact hws2 f hf h1 h2 h3
                    have hjs5 : JI s5 b := hws5.ji hJ
                    refine q_top ((-5)) (o2 hnL) ?_
                    refine q_bipush hX (-5) dL_holds_162 (by decide) ?_
                    refine q_ic_eq hX 169 dL_holds_164 (by decide) (fun c44 => ?_) (fun c44 => ?_)
                    · -- jump 169
                      refine q_iinc hX (nI (k + 1)) 9 [(8, .int (nI (k + 1))), (9, .int (nI (heN z r d k))), (0, .ref (G.2.2 192)), (1, .int (nI r)), (2, .int (nI d)), (3, .int (nI (nA z))), (4, .ref (ar3 0)), (5, .ref (ar3 1)), (6, .ref (ar3 2)), (7, .int (nI (nS (odF z r d) k)))] dL_holds_169 rfl (nI_1 k) (by decide) rfl ?_
                      refine q_goto hX 30 dL_holds_172 (by decide) ?_
                      refine q_sub [2, 3, 4, 5, 6, 7, 8, 9, 0] [(0, .ref (G.2.2 192)), (1, .int (nI r)), (2, .int (nI d)), (3, .int (nI (nA z))), (4, .ref (ar3 0)), (5, .ref (ar3 1)), (6, .ref (ar3 2)), (7, .int (nI (nS (odF z r d) k))), (8, .int (nI (k + 1)))] rfl ?_
                      have el7 : (nI (nS (odF z r d) k) : Int32) = nI (nS (odF z r d) (k + 1)) := by first | rfl | (show nI (nS (odF z r d) k) = nI (nS (odF z r d) k + odF z r d k); rw [show odF z r d k = 0 from if_neg (fun q => by first | exact hnL q | exact he_i.mpr q.1 (by omega)), Nat.add_zero])
                      refine q_lv (lv' := [(0, .ref (G.2.2 192)), (1, .int (nI r)), (2, .int (nI d)), (3, .int (nI (nA z))), (4, .ref (ar3 0)), (5, .ref (ar3 1)), (6, .ref (ar3 2)), (7, .int (nI (nS (odF z r d) (k + 1)))), (8, .int (nI (k + 1)))]) (by rw [← el7]) ?_
                      exact ih30 (k + 1) s5 (by omega) (by omega) hws5 (by rw [hds5, o3 _ (by decide), hds2, u2_ff, hds1, u2_ff, upd_upd]; exact fill_upd hwas rfl) (fun c hc => by rw [hds5, o3 _ (by decide), hds2, u2_f (by decide), hds1, u2_f (by decide), in_n hnL]; exact hin c hc)
                    · -- on 167
                      exact absurd c44 (by decide)
                · -- on 126
                  have hiL : iL z r d k := ⟨hiN, Int32.not_le.mp c42⟩
                  refine q_aload hX 7 dL_holds_126 rfl ?_
                  refine q_aload_n hX 1 dL_holds_128 rfl ?_
                  refine q_iload hX 9 dL_holds_129 rfl ?_
                  refine q_iconst hX 0 dL_holds_131 (by decide) ?_
                  refine q_cv hX hG (by decide) (by decide) (As := [.int (nI k), .int 0]) (rest := [.ref (ar3 2)]) (c_X6_application l G s2 (a := (nI k)) (w := 0) (hI := hjs2.io)) k_L_holds_X6_application (fun _ _ => rfl) rfl rfl (Nat.le_of_ble_eq_true rfl) dL_holds_132 ?_
                  refine q_top (nI (a_c z k)) ((cgs_application hws2).trans (ap0 hJ (a := k) (by omega))) ?_
                  refine q_iconst hX 1 dL_holds_135 (by decide) ?_
                  refine q_iast hX 2 (by decide) (a_c z k) rfl (show a_c z k < arL 2 from (by omega : a_c z k < 12)) dL_holds_136 ?_
                  obtain ⟨s3, hds3⟩ : ∃ s_ : St, s_ = u2 s2 (75 + 2) (a_c z k) 1 := ⟨_, rfl⟩
                  refine q_z (z2 := s3) hds3.symm ?_
                  have hws3 : SamS s3 z := by rw [hds3]; exact SamS.u2 hws2 (by decide) (by decide)
                  have hjs3 : JI s3 b := hws3.ji hJ
                  refine q_iload hX 8 dL_holds_137 rfl ?_
                  refine q_aload_n hX 1 dL_holds_139 rfl ?_
                  refine q_iload hX 9 dL_holds_140 rfl ?_
                  refine q_cv hX hG (by decide) (by decide) (As := [.int (nI k)]) (rest := [.int (nI (nS (odF z r d) k))]) (c_X6_odds l G hG.1 s3 (a := (nI k)) (hI := hjs3.io)) k_L_holds_X6_odds (fun i hi => (odds_law hJ hws3 hr hd hk hiN).2.2 _ (by omega)) rfl rfl (Nat.le_of_ble_eq_true rfl) dL_holds_142 ?_
                  obtain ⟨o1, o2, o3⟩ := odds_law hJ hws3 hr hd hk hiN
                  obtain ⟨s4, hds4⟩ : ∃ s_ : St, s_ = (cOdds s3 (nI k)).2 := ⟨_, rfl⟩
                  refine q_z (z2 := s4) hds4.symm ?_
                  have hws4 : SamS s4 z := fun f hf h1 h2 h3 => by rw [hds4, o3 f hf]; exact hws3 f hf h1 h2 h3
                  have hjs4 : JI s4 b := hws4.ji hJ
                  refine q_top (nI (odF z r d k)) (o1 hiL) ?_
                  refine q_iadd hX dL_holds_145 ?_
                  refine q_top (nI (nS (odF z r d) k + odF z r d k)) (nI_add (nS (odF z r d) k) (odF z r d k)) ?_
                  refine q_istore hX [(7, .int (nI (nS (odF z r d) k + odF z r d k))), (9, .int (nI (heN z r d k))), (0, .ref (G.2.2 192)), (1, .int (nI r)), (2, .int (nI d)), (3, .int (nI (nA z))), (4, .ref (ar3 0)), (5, .ref (ar3 1)), (6, .ref (ar3 2)), (8, .int (nI k))] dL_holds_146 (by decide) rfl ?_
                  refine q_goto hX 169 dL_holds_148 (by decide) ?_
                  refine q_iinc hX (nI (k + 1)) 9 [(8, .int (nI (k + 1))), (7, .int (nI (nS (odF z r d) k + odF z r d k))), (9, .int (nI (heN z r d k))), (0, .ref (G.2.2 192)), (1, .int (nI r)), (2, .int (nI d)), (3, .int (nI (nA z))), (4, .ref (ar3 0)), (5, .ref (ar3 1)), (6, .ref (ar3 2))] dL_holds_169 rfl (nI_1 k) (by decide) rfl ?_
                  refine q_goto hX 30 dL_holds_172 (by decide) ?_
                  refine q_sub [3, 4, 5, 6, 7, 8, 9, 1, 0] [(0, .ref (G.2.2 192)), (1, .int (nI r)), (2, .int (nI d)), (3, .int (nI (nA z))), (4, .ref (ar3 0)), (5, .ref (ar3 1)), (6, .ref (ar3 2)), (7, .int (nI (nS (odF z r d) k + odF z r d k))), (8, .int (nI (k + 1)))] rfl ?_
                  have el7 : (nI (nS (odF z r d) k + odF z r d k) : Int32) = nI (nS (odF z r d) (k + 1)) := by first | rfl | (show nI (nS (odF z r d) k) = nI (nS (odF z r d) k + odF z r d k); rw [show odF z r d k = 0 from if_neg (fun q => by first | exact hnL q | exact he_i.mpr q.1 (by omega)), Nat.add_zero])
                  refine q_lv (lv' := [(0, .ref (G.2.2 192)), (1, .int (nI r)), (2, .int (nI d)), (3, .int (nI (nA z))), (4, .ref (ar3 0)), (5, .ref (ar3 1)), (6, .ref (ar3 2)), (7, .int (nI (nS (odF z r d) (k + 1)))), (8, .int (nI (k + 1)))]) (by rw [← el7]) ?_
                  exact ih30 (k + 1) s4 (by omega) (by omega) hws4 (by rw [hds4, o3 _ (by decide), hds3, u2_f (by decide), hds2, u2_ff, hds1, u2_ff, upd_upd]; exact fill_upd hwas rfl) (fun c hc => by rw [hds4, o3 _ (by decide), hds3, u2_ff, hds2, u2_f (by decide), hds1, u2_f (by decide)]; exact in_step hin hiL hc)
            refine q_iload hX 0 dL_holds_89 rfl ?_
            refine q_if_eq hX 99 dL_holds_91 (by decide) (fun c45 => ?_) (fun c45 => ?_)
            · -- jump 99
              have nc45 : ((heN z r d k : Nat) = 0) := (nI_eq (a := heN z r d k) (b := 0) (by omega) (by omega)).mp c45
              refine q_aload hX 5 dL_holds_99 rfl ?_
              refine q_iload hX 9 dL_holds_101 rfl ?_
              refine q_iald hX 0 (by decide) k rfl (show k < arL 0 from (by omega : k < 40)) dL_holds_103 ?_
              refine q_top (nI (a_s z k)) (by rw [hds1]; exact u2_s _ _ _ _) ?_
              refine q_top (nI (wsN z r d k)) (by
                first | (rw [ws_t (by omega)]; rfl) | (rw [ws_f (by omega)])) ?_
              refine q_sub [0, 1, 2, 3, 4, 5, 6, 7, 8, 9] [(9, .int (nI (heN z r d k))), (0, .ref (G.2.2 192)), (1, .int (nI r)), (2, .int (nI d)), (3, .int (nI (nA z))), (4, .ref (ar3 0)), (5, .ref (ar3 1)), (6, .ref (ar3 2)), (7, .int (nI (nS (odF z r d) k))), (8, .int (nI k))] rfl ?_
              exact km39
            · -- on 94
              have nc45 : ¬ ((heN z r d k : Nat) = 0) := fun q => c45 ((nI_eq (a := heN z r d k) (b := 0) (by omega) (by omega)).mpr q)
              refine q_bipush hX 10 dL_holds_94 (by decide) ?_
              refine q_goto hX 104 dL_holds_96 (by decide) ?_
              refine q_top (nI (wsN z r d k)) (by
                first | (rw [ws_t (by omega)]; rfl) | (rw [ws_f (by omega)])) ?_
              refine q_sub [0, 1, 2, 3, 4, 5, 6, 7, 8, 9] [(9, .int (nI (heN z r d k))), (0, .ref (G.2.2 192)), (1, .int (nI r)), (2, .int (nI d)), (3, .int (nI (nA z))), (4, .ref (ar3 0)), (5, .ref (ar3 1)), (6, .ref (ar3 2)), (7, .int (nI (nS (odF z r d) k))), (8, .int (nI k))] rfl ?_
              exact km39
          refine q_aload hX 4 dL_holds_48 rfl ?_
          refine q_iload hX 8 dL_holds_50 rfl ?_
          refine q_iald hX 0 (by decide) k rfl (show k < arL 0 from (by omega : k < 40)) dL_holds_52 ?_
          refine q_top (nI (a_s z k)) (by rw [hds1]; exact u2_s _ _ _ _) ?_
          refine q_if_ne hX 82 dL_holds_53 (by decide) (fun c46 => ?_) (fun c46 => ?_)
          · -- jump 82
            have nc46 : ¬ ((a_s z k : Nat) = 0) := fun q => c46 ((nI_eq (a := a_s z k) (b := 0) (by omega) (by omega)).mpr q)
            refine q_iconst hX 0 dL_holds_82 (by decide) ?_
            refine q_top (nI (heN z r d k)) (by
              first | (rw [show heN z r d k = 1 from if_pos ⟨by omega, by omega, by omega⟩]; rfl) | (rw [show heN z r d k = 0 from if_neg (show ¬ (a_s z k = 0 ∧ a_r z k = r ∧ a_d z k = d) by omega)]; rfl)) ?_
            refine q_sub [0, 1, 2, 3, 4, 5, 6, 7, 8] [(0, .ref (G.2.2 192)), (1, .int (nI r)), (2, .int (nI d)), (3, .int (nI (nA z))), (4, .ref (ar3 0)), (5, .ref (ar3 1)), (6, .ref (ar3 2)), (7, .int (nI (nS (odF z r d) k))), (8, .int (nI k))] rfl ?_
            exact km38
          · -- on 56
            have nc46 : ((a_s z k : Nat) = 0) := (nI_eq (a := a_s z k) (b := 0) (by omega) (by omega)).mp (Decidable.not_not.mp c46)
            refine q_aload_n hX 0 dL_holds_56 rfl ?_
            refine q_iload hX 8 dL_holds_57 rfl ?_
            refine q_iconst hX 1 dL_holds_59 (by decide) ?_
            refine q_cv hX hG (by decide) (by decide) (As := [.int (nI k), .int 1]) (rest := []) (c_X6_application l G s1 (a := (nI k)) (w := 1) (hI := hjs1.io)) k_L_holds_X6_application (fun _ _ => rfl) rfl rfl (Nat.le_of_ble_eq_true rfl) dL_holds_60 ?_
            refine q_top (nI (a_r z k)) ((cgs_application hws1).trans (ap1 hJ (a := k) (by omega))) ?_
            refine q_iload_n hX 1 dL_holds_63 rfl ?_
            refine q_ic_ne hX 82 dL_holds_64 (by decide) (fun c47 => ?_) (fun c47 => ?_)
            · -- jump 82
              have nc47 : ¬ ((a_r z k : Nat) = r) := fun q => c47 ((nI_eq (a := a_r z k) (b := r) (by omega) (by omega)).mpr q)
              refine q_iconst hX 0 dL_holds_82 (by decide) ?_
              refine q_top (nI (heN z r d k)) (by
                first | (rw [show heN z r d k = 1 from if_pos ⟨by omega, by omega, by omega⟩]; rfl) | (rw [show heN z r d k = 0 from if_neg (show ¬ (a_s z k = 0 ∧ a_r z k = r ∧ a_d z k = d) by omega)]; rfl)) ?_
              refine q_sub [0, 1, 2, 3, 4, 5, 6, 7, 8] [(0, .ref (G.2.2 192)), (1, .int (nI r)), (2, .int (nI d)), (3, .int (nI (nA z))), (4, .ref (ar3 0)), (5, .ref (ar3 1)), (6, .ref (ar3 2)), (7, .int (nI (nS (odF z r d) k))), (8, .int (nI k))] rfl ?_
              exact km38
            · -- on 67
              have nc47 : ((a_r z k : Nat) = r) := (nI_eq (a := a_r z k) (b := r) (by omega) (by omega)).mp (Decidable.not_not.mp c47)
              refine q_aload_n hX 0 dL_holds_67 rfl ?_
              refine q_iload hX 8 dL_holds_68 rfl ?_
              refine q_iconst hX 2 dL_holds_70 (by decide) ?_
              refine q_cv hX hG (by decide) (by decide) (As := [.int (nI k), .int 2]) (rest := []) (c_X6_application l G s1 (a := (nI k)) (w := 2) (hI := hjs1.io)) k_L_holds_X6_application (fun _ _ => rfl) rfl rfl (Nat.le_of_ble_eq_true rfl) dL_holds_71 ?_
              refine q_top (nI (a_d z k)) ((cgs_application hws1).trans (ap2 hJ (a := k) (by omega))) ?_
              refine q_iload_n hX 2 dL_holds_74 rfl ?_
              refine q_ic_ne hX 82 dL_holds_75 (by decide) (fun c48 => ?_) (fun c48 => ?_)
              · -- jump 82
                have nc48 : ¬ ((a_d z k : Nat) = d) := fun q => c48 ((nI_eq (a := a_d z k) (b := d) (by omega) (by omega)).mpr q)
                refine q_iconst hX 0 dL_holds_82 (by decide) ?_
                refine q_top (nI (heN z r d k)) (by
                  first | (rw [show heN z r d k = 1 from if_pos ⟨by omega, by omega, by omega⟩]; rfl) | (rw [show heN z r d k = 0 from if_neg (show ¬ (a_s z k = 0 ∧ a_r z k = r ∧ a_d z k = d) by omega)]; rfl)) ?_
                refine q_sub [0, 1, 2, 3, 4, 5, 6, 7, 8] [(0, .ref (G.2.2 192)), (1, .int (nI r)), (2, .int (nI d)), (3, .int (nI (nA z))), (4, .ref (ar3 0)), (5, .ref (ar3 1)), (6, .ref (ar3 2)), (7, .int (nI (nS (odF z r d) k))), (8, .int (nI k))] rfl ?_
                exact km38
              · -- on 78
                have nc48 : ((a_d z k : Nat) = d) := (nI_eq (a := a_d z k) (b := d) (by omega) (by omega)).mp (Decidable.not_not.mp c48)
                refine q_iconst hX 1 dL_holds_78 (by decide) ?_
                refine q_goto hX 83 dL_holds_79 (by decide) ?_
                refine q_top (nI (heN z r d k)) (by
                  first | (rw [show heN z r d k = 1 from if_pos ⟨by omega, by omega, by omega⟩]; rfl) | (rw [show heN z r d k = 0 from if_neg (show ¬ (a_s z k = 0 ∧ a_r z k = r ∧ a_d z k = d) by omega)]; rfl)) ?_
                refine q_sub [0, 1, 2, 3, 4, 5, 6, 7, 8] [(0, .ref (G.2.2 192)), (1, .int (nI r)), (2, .int (nI d)), (3, .int (nI (nA z))), (4, .ref (ar3 0)), (5, .ref (ar3 1)), (6, .ref (ar3 2)), (7, .int (nI (nS (odF z r d) k))), (8, .int (nI k))] rfl ?_
                exact km38
    refine q_sub [6, 7, 8, 5, 4, 3, 2, 1, 0] [(0, .ref (G.2.2 192)), (1, .int (nI r)), (2, .int (nI d)), (3, .int (nI (nA z))), (4, .ref (ar3 0)), (5, .ref (ar3 1)), (6, .ref (ar3 2)), (7, .int 0), (8, .int 0)] rfl ?_
    have el7 : (0 : Int32) = nI (nS (odF z r d) 0) := by rfl
    refine q_lv (lv' := [(0, .ref (G.2.2 192)), (1, .int (nI r)), (2, .int (nI d)), (3, .int (nI (nA z))), (4, .ref (ar3 0)), (5, .ref (ar3 1)), (6, .ref (ar3 2)), (7, .int (nI (nS (odF z r d) 0))), (8, .int 0)]) (by rw [← el7]) ?_
    have el8 : (0 : Int32) = nI 0 := by rfl
    refine q_lv (lv' := [(0, .ref (G.2.2 192)), (1, .int (nI r)), (2, .int (nI d)), (3, .int (nI (nA z))), (4, .ref (ar3 0)), (5, .ref (ar3 1)), (6, .ref (ar3 2)), (7, .int (nI (nS (odF z r d) 0))), (8, .int (nI 0))]) (by rw [← el8]) ?_
    exact loop30 (nA z + 1) 0 w2 (by omega) (Nat.zero_le _) hw2.s (fun a ha => absurd ha (Nat.not_lt_zero _)) (fun c hc => by rw [hd2]; exact if_pos rfl)
