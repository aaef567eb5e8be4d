/-! ===== slots; what holds of all between the calls ===== -/
def vC (z : St) (o : Nat) : St := fun f i => if f < 20 then z (20 * o + f) i else if f = 87 then z (87 + o) i else 0
theorem OI_in {z y : St} {B : Nat} (h : OI z B) (e : ∀ f i, f < 20 → i < limF f → y f i = z f i) (e87 : ∀ i, i < 12 → y 87 i = z 87 i) : OI y B := by
  have h40 := (iNa h.io).2
  have h12 := (iNc h.io).2
  have a : ∀ f i, 11 ≤ f → f < 20 → i < 40 → y f i = z f i := fun f i a b c => e f i b (by unfold limF; (repeat' split) <;> omega)
  have c : ∀ f i, 8 ≤ f → f < 11 → i < 12 → y f i = z f i := fun f i a b d => e f i (by omega) (by unfold limF; (repeat' split) <;> omega)
  have h0 : ∀ f, f < 4 → y f 0 = z f 0 := fun f a => e f 0 (by omega) (by unfold limF; (repeat' split) <;> omega)
  have s : ∀ i, i < 6 → y 4 i = z 4 i := fun i hi => e 4 i (by decide) (by simpa [limF] using hi)
  have d : ∀ i, i < 60 → y 7 i = z 7 i := fun i hi => e 7 i (by decide) (by simpa [limF] using hi)
  have en : nA y = nA z := by unfold nA; rw [h0 3 (by decide)]
  refine ⟨?_, ?_, ?_, ?_, ?_, ?_, ?_, ?_, ?_, ?_, ?_, ?_, ?_, ?_, ?_, ?_⟩
  · unfold IO
    rw [en, h0 0 (by decide), h0 1 (by decide), h0 2 (by decide), h0 3 (by decide)]
    refine ⟨h.io.1, h.io.2.1, h.io.2.2.1, h.io.2.2.2.1, fun b hb => ?_⟩
    rw [a 11 b (by decide) (by decide) (by omega), a 12 b (by decide) (by decide) (by omega), a 13 b (by decide) (by decide) (by omega)]
    exact h.io.2.2.2.2 b hb
  · intro i hi; rw [d i hi]; exact h.cl i hi
  · rw [h0 2 (by decide)]
    intro b hb
    rw [e87 b (by omega), c 10 b (by decide) (by decide) (by omega)]; exact h.h87c b hb
  · unfold ClimIn
    rw [en, h0 2 (by decide)]
    intro b hb; rw [a 11 b (by decide) (by decide) (by omega)]; exact h.cin b hb
  · rw [en]
    intro b hb
    unfold routeP
    rw [h0 1 (by decide), a 12 b (by decide) (by decide) (by omega)]; exact h.rin b hb
  · rw [en]; intro b hb; rw [a 15 b (by decide) (by decide) (by omega)]; exact h.st b hb
  · rw [en]; intro b hb; rw [a 15 b (by decide) (by decide) (by omega), a 16 b (by decide) (by decide) (by omega)]; exact h.h16 b hb
  · rw [en]; intro b hb; unfold aliveP; rw [a 15 b (by decide) (by decide) (by omega), a 17 b (by decide) (by decide) (by omega)]; exact h.h17 b hb
  · intro b hb; rw [a 18 b (by decide) (by decide) hb]; exact h.h18 b hb
  · rw [en]; intro b hb; rw [a 14 b (by decide) (by decide) (by omega)]; exact h.par b hb
  · rw [en, h0 0 (by decide)]; intro b hb; rw [a 15 b (by decide) (by decide) (by omega), a 13 b (by decide) (by decide) (by omega)]; exact h.ht b hb
  · intro i hi; rw [s i hi]; exact h.set i hi
  · intro i hi; rw [c 8 i (by decide) (by decide) hi]; exact h.mem i hi
  · rw [en]; intro b h1 h2
    rw [a 15 b (by decide) (by decide) h2, a 16 b (by decide) (by decide) h2, a 17 b (by decide) (by decide) h2, a 18 b (by decide) (by decide) h2]; exact h.fra b h1 h2
  · rw [h0 2 (by decide)]; intro b h1 h2
    rw [c 8 b (by decide) (by decide) h2, c 9 b (by decide) (by decide) h2, c 10 b (by decide) (by decide) h2]; exact h.frc b h1 h2
  · unfold Uniq
    rw [en]
    intro p q hp hq
    rw [a 15 p (by decide) (by decide) (by omega), a 15 q (by decide) (by decide) (by omega), a 11 p (by decide) (by decide) (by omega), a 11 q (by decide) (by decide) (by omega), a 12 p (by decide) (by decide) (by omega), a 12 q (by decide) (by decide) (by omega), a 13 p (by decide) (by decide) (by omega), a 13 q (by decide) (by decide) (by omega)]
    exact h.uq p q hp hq
def SlotOK (z : St) (s B : Nat) : Prop := (∀ f i, f < 20 → f ≠ 10 → i < limF f → z (20 * (s + 1) + f) i = z (80 + 20 * (s + 1) + f) i) ∧ OI (vC z (s + 1)) B
def Inv (z : St) (B : Nat) : Prop := PO z ∧ OI z B ∧ (∀ o, o < 3 → ∀ a, a < 40 → z (20 * o + 18) a = 0 ∨ z (20 * o + 18) a = 1) ∧ (∀ o, o < 3 → ∀ d, d < 60 → z (20 * o + 7) d = 0 ∨ z (20 * o + 7) d = 1) ∧ ∀ s, s < 2 → z 60 s = 0 ∨ (z 60 s = 1 ∧ SlotOK z s B)
theorem SlotOK.of {z y : St} {s B B' : Nat} (h : SlotOK z s B) (hB : B ≤ B') (hs : s < 2) (e1 : ∀ f, f < 20 → y (20 * (s + 1) + f) = z (20 * (s + 1) + f)) (e2 : ∀ f, f < 20 → y (80 + 20 * (s + 1) + f) = z (80 + 20 * (s + 1) + f)) (e3 : y (88 + s) = z (88 + s)) : SlotOK y s B' := by
  refine ⟨fun f i hf h10 hi => by rw [e1 f hf, e2 f hf]; exact h.1 f i hf h10 hi, ?_⟩
  refine OI_of (h.2.mono hB) (fun f hf _ _ _ => ?_)
  unfold vC
  funext i
  by_cases q : f < 20
  · rw [if_pos q, if_pos q, e1 f q]
  · rw [if_neg q, if_neg q]
    by_cases q2 : f = 87
    · rw [if_pos q2, if_pos q2, show 87 + (s + 1) = 88 + s from by omega, e3]
    · rw [if_neg q2, if_neg q2]
theorem Inv_comb {z zc zm : St} {B B' : Nat} (h : Inv z B) (hB : B ≤ B') (hO : OI (comb zc zm) B') (hP : PO (comb zc zm)) (hc : ∀ f, 20 ≤ f → f < 60 → zc f = z f) (hm : ∀ f, (88 ≤ f ∧ f < 90) ∨ (100 ≤ f ∧ f < 140) ∨ f = 60 → zm f = z f) : Inv (comb zc zm) B' := by
  obtain ⟨h1, h2, h3, h4, h5⟩ := h
  refine ⟨hP, hO, fun o ho => ?_, fun o ho => ?_, fun s hs => ?_⟩
  · by_cases q : o = 0
    · subst q; exact hO.h18
    · rw [comb_c _ _ (by omega), hc _ (by omega) (by omega)]; exact h3 o ho
  · by_cases q : o = 0
    · subst q; exact hO.cl
    · rw [comb_c _ _ (by omega), hc _ (by omega) (by omega)]; exact h4 o ho
  · rw [comb_m _ _ (by decide), hm 60 (by omega)]
    rcases h5 s hs with q | ⟨q1, q2⟩
    · exact Or.inl q
    · refine Or.inr ⟨q1, q2.of hB hs (fun f hf => ?_) (fun f hf => ?_) ?_⟩
      · rw [comb_c _ _ (by omega), hc _ (by omega) (by omega)]
      · rw [comb_m _ _ (by omega), hm _ (by omega)]
      · rw [comb_m _ _ (by omega), hm _ (by omega)]
theorem comb_self (z : St) : comb z z = z := by funext f; unfold comb; split <;> rfl
/-- both calls answer alike, and all holds of what they leave -/
def PairOK (B' : Nat) (F G : Int32 × St) : Prop := F.1 = G.1 ∧ Inv (comb F.2 G.2) B' ∧ ∀ f, Sh f → F.2 f = G.2 f
theorem Inv.mono {z : St} {B B' : Nat} (h : Inv z B) (hB : B ≤ B') : Inv z B' := ⟨h.1, h.2.1.mono hB, h.2.2.1, h.2.2.2.1, fun s hs => (h.2.2.2.2 s hs).imp id (fun q => ⟨q.1, q.2.1, q.2.2.mono hB⟩)⟩
theorem pair_q {z : St} {B : Nat} (h : Inv z B) (r : Int32) : PairOK (B + 100) (r, z) (r, z) := ⟨rfl, by dsimp only; rw [comb_self]; exact h.mono (by omega), fun _ _ => rfl⟩
/-- a call that both make alike, and that changes fields of the office alone -/
theorem pair_s {z : St} {B : Nat} (h : Inv z B) {F : Int32 × St} (hO : OI F.2 (B + 100)) (hl : ∀ f, 20 ≤ f → F.2 f = z f) : PairOK (B + 100) F F := by
  refine ⟨rfl, ?_, fun _ _ => rfl⟩
  refine Inv_comb h (by omega) ?_ ?_ (fun f a b => hl f a) (fun f hf => hl f (by omega))
  · rw [comb_self]; exact hO
  · rw [comb_self]; exact PO_of h.1 (hl 68 (by decide)) (hl 69 (by decide))
theorem pair_route {z : St} {B : Nat} (h : Inv z B) (x y : Int32) : PairOK (B + 100) (spRoute z x y) (spRoute z x y) := by
  refine pair_s h ((OI_route h.2.1 x y).mono (by omega)) (fun f hf => ?_)
  unfold spRoute
  (repeat' split) <;> first | rfl | (dsimp only; rw [u2_f (by omega), u2_f (by omega), u2_f (by omega)])
theorem pair_buffer {z : St} {B : Nat} (h : Inv z B) (x y : Int32) : PairOK (B + 100) (spBuffer z x y) (spBuffer z x y) := by
  refine pair_s h ((OI_buffer h.2.1 x y).mono (by omega)) (fun f hf => ?_)
  unfold spBuffer
  (repeat' split) <;> first | rfl | (dsimp only; rw [u2_f (by omega)])
theorem pair_set {z : St} {B : Nat} (h : Inv z B) (x y : Int32) : PairOK (B + 100) (spSet z x y) (spSet z x y) := by
  refine pair_s h ((OI_set h.2.1 x y).mono (by omega)) (fun f hf => ?_)
  unfold spSet
  (repeat' split) <;> first | rfl | (dsimp only; rw [u2_f (by omega)])
theorem pair_apply {z : St} {B : Nat} (h : Inv z B) (c r d p : Int32) : PairOK (B + 100) (spApply z c r d p) (spApply z c r d p) :=
  pair_s h ((OI_apply h.2.1 c r d p).mono (by omega)) (fun f hf => apply_lo _ _ _ _ _ (by omega))
theorem pair_standby {z : St} {B : Nat} (h : Inv z B) (x : Int32) : PairOK (B + 100) (spStandby z x) (spStandby z x) := by
  refine pair_s h ((OI_standby h.2.1 x).mono (by omega)) (fun f hf => ?_)
  unfold spStandby permit
  (repeat' split) <;> first | rfl | (dsimp only; rw [u2_f (by omega), u2_f (by omega)])
theorem pair_show {z : St} {B : Nat} (h : Inv z B) (x : Int32) : PairOK (B + 100) (spShow z x) (spShow z x) := by
  refine pair_s h ((OI_show h.2.1 x).mono (by omega)) (fun f hf => ?_)
  unfold spShow
  (repeat' split) <;> first | rfl | (dsimp only; rw [u2_f (by omega)])
theorem pair_cancel {z : St} {B : Nat} (h : Inv z B) (x : Int32) : PairOK (B + 100) (spCancel z x) (spCancel z x) := by
  refine pair_s h ((OI_cancel h.2.1 x).mono (by omega)) (fun f hf => ?_)
  unfold spCancel
  (repeat' split) <;> first | rfl | (dsimp only; rw [u2_f (by omega)]; done) | (dsimp only; split <;> first | (rw [serve_lo _ _ _ _ (by omega), u2_f (by omega), u2_f (by omega)]; done) | (rw [u2_f (by omega), u2_f (by omega)]))
theorem pair_close {z : St} {B : Nat} (h : Inv z B) (x : Int32) : PairOK (B + 100) (spClose z x) (spClose z x) := by
  refine pair_s h ((OI_close h.2.1 x).mono (by omega)) (fun f hf => ?_)
  unfold spClose
  (repeat' split) <;> first | rfl | (dsimp only; funext i; rw [loseK_ne (Or.inl (by omega)), moveK_lo _ _ _ (by omega), u2_f (by omega)])
theorem pair_join {z : St} {B : Nat} (h : Inv z B) : PairOK (B + 100) (spJoin z) ((spJoin z).1, mJoin z) := by
  obtain ⟨j1, j2⟩ := join_eq h.2.1
  have c1 : ∀ f, f ≠ 2 → (spJoin z).2 f = z f := fun f hf => by
    unfold spJoin
    split
    · rfl
    · dsimp only; rw [u2_f hf]
  have c2 : ∀ f, f ≠ 2 → f ≠ 8 → f ≠ 9 → f ≠ 87 → mJoin z f = z f := fun f a b c d => by
    unfold mJoin
    split
    · rfl
    · rw [u2_f a, u2_f d, u2_f c, u2_f b]
  refine ⟨rfl, Inv_comb h (by omega) (j2.mono (by omega)) ?_ (fun f a b => c1 f (by omega)) (fun f hf => c2 f (by omega) (by omega) (by omega) (by omega)), j1⟩
  exact PO_of h.1 ((comb_m _ _ (by decide)).trans (c2 68 (by decide) (by decide) (by decide) (by decide))) ((comb_m _ _ (by decide)).trans (c2 69 (by decide) (by decide) (by decide) (by decide)))
theorem pair_end {z : St} {B : Nat} (h : Inv z B) : PairOK (B + 100) (spEnd z) (mEnd z) := by
  obtain ⟨j0, j1, j2⟩ := end_eq h.2.1
  have c1 : ∀ f, 20 ≤ f → (spEnd z).2 f = z f := fun f hf => by
    unfold spEnd
    split
    · rfl
    · dsimp only
      rw [u2_f (by omega)]
      funext i
      rw [loseK_ne (Or.inl (by omega)), judgeK_lo z _ (by omega)]
  have c2 : ∀ f, 20 ≤ f → f ≠ 87 → (mEnd z).2 f = z f := fun f hf h8 => by
    unfold mEnd
    split
    · rfl
    · dsimp only
      rw [u2_f (by omega)]
      funext i
      rw [loseK_ne (Or.inl (by omega)), judgeM_lo z _ (by omega)]
  refine ⟨j0, Inv_comb h (by omega) (j2.mono (by omega)) ?_ (fun f a b => c1 f a) (fun f hf => c2 f (by omega) (by omega)), j1⟩
  exact PO_of h.1 ((comb_m _ _ (by decide)).trans (c2 68 (by decide) (by decide))) ((comb_m _ _ (by decide)).trans (c2 69 (by decide) (by decide)))
theorem Sh_Shr {f : Nat} (h : Sh f) : Shr f := by omega
theorem pair_lottery {z : St} {B : Nat} (h : Inv z B) (hB : B ≤ 100000) (r d : Int32) : PairOK (B + 100) (cLottery z r d) (mLottery z r d) := by
  obtain ⟨e1, e2⟩ := lottery_eq h.2.1 hB r d
  have c2 : ∀ f, f ≠ 4 ∧ f ≠ 8 ∧ f ≠ 15 ∧ f ≠ 16 ∧ f ≠ 81 ∧ f ≠ 82 → (mLottery z r d).2 f = z f := fun f hf => by
    unfold mLottery
    split
    · rfl
    · split
      · rfl
      · exact mHold_lo z r d hf
  have hO := OI_lot h.2.1 hB r d
  refine ⟨e1, Inv_comb h (by omega) ?_ ?_ (fun f a b => (e2 f (by omega)).trans (c2 f (by omega))) (fun f hf => c2 f (by omega)), fun f hf => e2 f (Sh_Shr hf)⟩
  · refine OI_of (hO.mono (by omega)) (fun f hf _ _ _ => ?_)
    unfold comb
    split
    · exact e2 f (by omega)
    · rfl
  · exact PO_of h.1 ((comb_m _ _ (by decide)).trans (c2 68 (by decide))) ((comb_m _ _ (by decide)).trans (c2 69 (by decide)))
/-- calls that leave the office, its slots and the pad -/
theorem pair_n {z : St} {B : Nat} (h : Inv z B) {F G : Int32 × St} (e : F.1 = G.1) (hc : ∀ f, f < 60 → F.2 f = z f) (hs : ∀ f, Sh f → F.2 f = z f) (hm : ∀ f, Sh f ∨ 87 ≤ f → G.2 f = z f) : PairOK (B + 100) F G := by
  refine ⟨e, Inv_comb h (by omega) ?_ ?_ (fun f a b => hc f b) (fun f hf => hm f (by omega)), fun f hf => (hs f hf).trans (hm f (Or.inl hf)).symm⟩
  · refine OI_of (h.2.1.mono (by omega)) (fun f hf _ _ _ => ?_)
    unfold comb
    split
    · exact hc f (by omega)
    · exact hm f (by omega)
  · exact PO_of h.1 ((comb_m _ _ (by decide)).trans (hm 68 (by omega))) ((comb_m _ _ (by decide)).trans (hm 69 (by omega)))
theorem pair_odds {z : St} {B : Nat} (h : Inv z B) (hB : B ≤ 100000) (x : Int32) : PairOK (B + 100) (cOdds z x) (mOdds z x, z) := by
  obtain ⟨e1, e2⟩ := odds_eq (x := x) h.2.1.io h.2.1.h87 (h.2.1.tk hB)
  exact pair_n h e1 (fun f hf => e2 f (by omega)) (fun f hf => e2 f (by omega)) (fun f _ => rfl)
theorem tries_hi {z : St} {B : Nat} (h : Inv z B) (hB : B ≤ 100000) (x t : Int32) {f : Nat} (hf : 87 ≤ f) : (mTries z x t).2 f = z f :=
  (tries_eq (x := x) (t := t) h.2.1.io h.2.1.h87 (h.2.1.tk hB) h.2.1.uq h.2.1.cin h.2.1.rin h.2.1.sd).2.2 f (by omega)
theorem pair_tries {z : St} {B : Nat} (h : Inv z B) (hB : B ≤ 100000) (x t : Int32) : PairOK (B + 100) (cTries z x t) (mTries z x t) := by
  obtain ⟨e1, e2, e3⟩ := tries_eq (x := x) (t := t) h.2.1.io h.2.1.h87 (h.2.1.tk hB) h.2.1.uq h.2.1.cin h.2.1.rin h.2.1.sd
  exact pair_n h e1 (fun f hf => e2 f (by omega)) (fun f hf => e2 f (by omega)) (fun f hf => e3 f (by omega))
theorem pair_fault {z : St} {B : Nat} (h : Inv z B) : PairOK (B + 100) (spFault z) ((mFault z).1, mfZ z) := by
  obtain ⟨e1, -⟩ := fault_eq h.1
  have c1 : ∀ f, f < 70 → (spFault z).2 f = z f := fun f hf => fault_lo z hf
  have c2 : ∀ f, f ≠ 83 ∧ f ≠ 84 ∧ f ≠ 85 ∧ f ≠ 86 → mfZ z f = z f := fun f hf => mfZ_lo z hf
  generalize mfZ z = Y at c2 ⊢
  generalize (mFault z).1 = μ at e1 ⊢
  exact pair_n h e1 (fun f hf => c1 f (by omega)) (fun f hf => c1 f (by omega)) (fun f hf => c2 f (by omega))
theorem apd_lo (c : Int64) : ∀ (b : Nat) (y : St) {f : Nat}, f ≠ 68 → f ≠ 69 → apd c b y f = y f := by
  intro b
  induction b with
  | zero => intro y f _ _; rfl
  | succ b ih => intro y f h1 h2; rw [apd, ih _ h1 h2, u2_f h2, u2_f h1]
theorem pair_p {z : St} {B : Nat} (h : Inv z B) {F : Int32 × St} (hP : PO F.2) (hl : ∀ f, f ≠ 68 → f ≠ 69 → F.2 f = z f) : PairOK (B + 100) F F := by
  refine ⟨rfl, Inv_comb h (by omega) ?_ (by rw [comb_self]; exact hP) (fun f a b => hl f (by omega) (by omega)) (fun f hf => hl f (by omega) (by omega)), fun _ _ => rfl⟩
  rw [comb_self]
  exact OI_of (h.2.1.mono (by omega)) (fun f hf _ _ _ => hl f (by omega) (by omega))
theorem pair_wipe {z : St} {B : Nat} (h : Inv z B) : PairOK (B + 100) (spWipe z) (spWipe z) := by
  refine pair_p h ?_ (fun f _ h2 => u2_f h2)
  refine ⟨⟨0, by decide, u2_s z 69 0 0⟩, fun i hi => ?_⟩
  show ∃ c, c < 128 ∧ u2 z 69 0 0 68 i = nI c
  rw [u2_f (by decide)]; exact h.1.2 i hi
theorem byte_n (r : Int64) : r &&& 255 = Int64.ofNat (r.toUInt64.toNat % 256) ∧ (r &&& 255).toInt32 = nI (r.toUInt64.toNat % 256) := by
  obtain ⟨m, m1, m2, m3⟩ := b255 r
  have e : m = r.toUInt64.toNat % 256 := by
    have h1 : (r &&& 255).toBitVec.toNat = m := by
      rw [m2, Int64.toBitVec_ofNat', BitVec.toNat_ofNat]
      omega
    have h2 : (r &&& 255).toBitVec.toNat = r.toBitVec.toNat % 256 := by
      show (r.toBitVec &&& 255#64).toNat = _
      rw [BitVec.toNat_and]
      exact Nat.and_two_pow_sub_one_eq_mod _ 8
    rw [← h1, h2]
    rfl
  rw [← e]
  exact ⟨m2, m3⟩
theorem chrAt_n (c : Int64) {b : Nat} (hb : b < 8) : chrAt c b = nI (c.toUInt64.toNat / 256 ^ b % 256) := by
  rw [← chr_m c hb]
  have key : ∀ k : Nat, k ≤ 56 → ∀ a : Int64, a.toBitVec.toNat = k → c >>> a &&& 255 = (c.toUInt64 >>> UInt64.ofNat k).toInt64 &&& 255 := by
    intro k hk a ha
    have h := chr_m c hb
    apply Int64.toBitVec_inj.mp
    rw [Int64.toBitVec_and, Int64.toBitVec_and, Int64.toBitVec_shiftRight]
    have e1 : (a.toBitVec.smod 64) = a.toBitVec := by
      apply BitVec.eq_of_toInt_eq
      rw [BitVec.toInt_smod]
      have : a.toBitVec.toInt = k := by rw [BitVec.toInt_eq_toNat_cond, ha, if_pos (by omega)]
      rw [this]
      have : (64 : BitVec 64).toInt = 64 := by decide
      rw [this]
      exact Int.fmod_eq_of_lt (by omega) (by omega)
    have e2 : (c.toUInt64 >>> UInt64.ofNat k).toInt64.toBitVec = c.toBitVec >>> k := by
      show (c.toUInt64 >>> UInt64.ofNat k).toBitVec = _
      rw [UInt64.toBitVec_shiftRight]
      show c.toBitVec >>> ((UInt64.ofNat k).toBitVec % 64#64) = _
      have hk2 : (UInt64.ofNat k).toBitVec.toNat = k := by
        show (UInt64.ofNat k).toNat = k
        rw [UInt64.toNat_ofNat']
        omega
      have : ((UInt64.ofNat k).toBitVec % 64#64).toNat = k := by
        rw [BitVec.toNat_umod, hk2]
        have : (64#64 : BitVec 64).toNat = 64 := by decide
        rw [this]; omega
      apply BitVec.eq_of_toNat_eq
      simp only [BitVec.ushiftRight_eq', BitVec.toNat_ushiftRight, this]
    rw [e1, e2]
    show BitVec.sshiftRight _ (a.toBitVec.toNat) &&& _ = _
    rw [ha]
    apply BitVec.eq_of_getLsbD_eq
    intro i hi
    rw [BitVec.getLsbD_and, BitVec.getLsbD_and]
    by_cases h8 : i < 8
    · rw [BitVec.getLsbD_sshiftRight, BitVec.getLsbD_ushiftRight]
      have h1 : ¬ 64 ≤ i := by omega
      have h2 : k + i < 64 := by omega
      simp [h1, h2]
    · have : (Int64.toBitVec 255).getLsbD i = false := by
        have e : (Int64.toBitVec 255 : BitVec 64) = BitVec.ofNat 64 (2 ^ 8 - 1) := by decide
        rw [e, BitVec.getLsbD_ofNat]
        rw [Nat.testBit_two_pow_sub_one]
        simp [h8]
      have this2 : (255#64 : BitVec 64).getLsbD i = false := this
      simp [this2]
  have hk : ((8 * nI b : Int32).toInt64 &&& 63).toBitVec.toNat = 8 * b := by
    have : b = 0 ∨ b = 1 ∨ b = 2 ∨ b = 3 ∨ b = 4 ∨ b = 5 ∨ b = 6 ∨ b = 7 := by omega
    rcases this with rfl | rfl | rfl | rfl | rfl | rfl | rfl | rfl <;> decide
  rw [key (8 * b) (by omega) _ hk, (byte_n _).2]
  congr 2
  have : (c.toUInt64 >>> UInt64.ofNat (8 * b)).toInt64.toUInt64 = c.toUInt64 >>> UInt64.ofNat (8 * b) := by simp
  rw [this, UInt64.toNat_shiftRight]
  have h3 : (UInt64.ofNat (8 * b)).toNat % 64 = 8 * b := by
    rw [UInt64.toNat_ofNat']
    omega
  rw [h3, Nat.shiftRight_eq_div_pow, Nat.pow_mul]
theorem szK_ok (c : Int64) : ∀ (n s : Nat) (r : Int64), s + n = 8 → r.toUInt64.toNat = c.toUInt64.toNat / 256 ^ s → ∀ b, s ≤ b → b < cn (szK n s r) → c.toUInt64.toNat / 256 ^ b % 256 ≤ 126 := by
  intro n
  induction n with
  | zero =>
    intro s r hs hr b h1 h2
    have : cn (szK 0 s r) = 8 := rfl
    omega
  | succ n ih =>
    intro s r hs hr b h1 h2
    unfold szK at h2
    by_cases h0 : r = 0
    · rw [if_pos h0, cn_nI (by omega)] at h2
      omega
    · rw [if_neg h0] at h2
      by_cases hv : r &&& 255 < 33 ∨ ¬ r &&& 255 ≤ 126
      · rw [if_pos hv] at h2
        exact absurd h2 (Nat.not_lt_zero _)
      · rw [if_neg hv] at h2
        by_cases e : b = s
        · subst e
          have h3 : r &&& 255 ≤ 126 := Decidable.not_not.mp (fun q => hv (Or.inr q))
          rw [(byte_n r).1, hr] at h3
          have hm := Nat.mod_lt (c.toUInt64.toNat / 256 ^ b) (show 0 < 256 by decide)
          have i1 : (Int64.ofNat (c.toUInt64.toNat / 256 ^ b % 256)).toInt = (c.toUInt64.toNat / 256 ^ b % 256 : Nat) := Int64.toInt_ofNat_of_lt (by omega)
          have h4 := Int64.le_iff_toInt_le.mp h3
          have i126 : (126 : Int64).toInt = 126 := by decide
          rw [i1, i126] at h4
          omega
        · refine ih (s + 1) (shr8 r) (by omega) ?_ b (by omega) h2
          rw [shr8_nat, hr, Nat.div_div_eq_div_mul, Nat.pow_succ]
theorem PO_put {z : St} (h : PO z) (c : Int64) : PO (spPut z c).2 := by
  unfold spPut
  split
  · exact h
  · split
    · exact h
    · rename_i h1 h2
      obtain ⟨e69, h60⟩ := pL h
      obtain ⟨n, hn8, hn⟩ := szK_rng 8 0 c rfl
      have hle := Decidable.not_not.mp h2
      rw [e69, hn, nI_add] at hle
      have hle2 := (nI_leI (b := 60) (by omega) (by omega)).mp hle
      have hok := szK_ok c 8 0 c rfl (by simp)
      rw [hn, cn_nI (by omega)] at hok
      dsimp only
      rw [hn, cn_nI (by omega), apd_wr e69 hle2]
      have hw : ∀ i, i ≤ n → ∀ j, j < 60 → ∃ k, k < 128 ∧ wrK z c n i 68 j = nI k := by
        intro i
        induction i with
        | zero => intro _ j hj; exact h.2 j hj
        | succ i ih =>
          intro hi j hj
          rw [wrK]
          by_cases q : j = lenN z + i
          · subst q
            rw [u2_s, chrAt_n c (by omega)]
            have := hok (n - 1 - i) (Nat.zero_le _) (by omega)
            exact ⟨_, by omega, rfl⟩
          · rw [u2_i _ q]; exact ih (by omega) j hj
      refine ⟨⟨lenN z + n, hle2, u2_s _ _ _ _⟩, fun i hi => ?_⟩
      rw [u2_f (by decide)]
      exact hw n (Nat.le_refl _) i hi
theorem pair_put {z : St} {B : Nat} (h : Inv z B) (c : Int64) : PairOK (B + 100) (spPut z c) (spPut z c) := by
  refine pair_p h (PO_put h.1 c) (fun f h1 h2 => ?_)
  unfold spPut
  (repeat' split) <;> first | rfl | (dsimp only; exact apd_lo _ _ _ h1 h2)
theorem ldK_10 : ∀ (f : Nat) (y : St) (p : Nat) (m : Int32), (ldK f y p m).2 10 = y 10 := by
  intro f
  induction f with
  | zero => intro y p m; rfl
  | succ f ih =>
    intro y p m
    have e : (ldA y p).2 10 = y 10 := by unfold ldA; rw [apply_lo _ _ _ _ _ (by decide), apR_lo _ _ (by decide)]
    unfold ldK
    split
    · exact e
    · split
      · rw [ih, u2_f (by decide)]; exact e
      · exact e
theorem mlK_10 : ∀ (f : Nat) (y : St) (n : Nat), (mlK f y n).2 10 = y 10 := by
  intro f
  induction f with
  | zero => intro y n; rfl
  | succ f ih =>
    intro y n
    have e : (ml1 y n).2 10 = y 10 := by unfold ml1; exact apply_lo _ _ _ _ _ (by decide)
    unfold mlK
    split
    · split
      · exact e
      · rw [ih]; exact e
    · rfl
theorem load_10 (z : St) : (spLoad z).2 10 = z 10 ∧ (mLoad z).2 10 = z 10 := by
  have k1 : (spFault z).2 10 = z 10 := fault_lo z (by decide)
  have k2 : mfZ z 10 = z 10 := mfZ_lo z (by decide)
  constructor
  · unfold spLoad
    generalize (spFault z).2 = Z at k1 ⊢
    split
    · exact k1
    · dsimp only
      rw [u2_f (by decide), ldK_10, u2_f (by decide), k1]
  · unfold mLoad
    generalize mfZ z = Z at k2 ⊢
    split
    · exact k2
    · dsimp only
      rw [u2_f (by decide), mlK_10]; exact k2
theorem pair_load {z : St} {B : Nat} (h : Inv z B) : PairOK (B + 100) (spLoad z) (mLoad z) := by
  obtain ⟨e1, e2⟩ := load_eq h.1
  have hO := OI_load h.2.1
  have c1 : ∀ f, 20 ≤ f → f < 68 → (spLoad z).2 f = z f := by
    intro f a b
    have k : ∀ g, g < 70 → (spFault z).2 g = z g := fun g hg => fault_lo z hg
    unfold spLoad
    generalize (spFault z).2 = Z at k ⊢
    split
    · exact k f (by omega)
    · dsimp only
      rw [u2_f (by omega), ldK_lo _ _ _ _ (by omega), u2_f (by omega), k f (by omega)]
  have c2 : ∀ f, 20 ≤ f → f ≠ 69 → f ≠ 83 → f ≠ 84 → f ≠ 85 → f ≠ 86 → (mLoad z).2 f = z f := by
    intro f a b c d e g
    have k : mfZ z f = z f := mfZ_lo z ⟨c, d, e, g⟩
    unfold mLoad
    generalize mfZ z = Z at k ⊢
    split
    · exact k
    · dsimp only
      rw [u2_f b, mlK_lo _ _ _ a]; exact k
  have c69 : ∃ n, n ≤ 60 ∧ (mLoad z).2 69 0 = nI n := by
    have k : mfZ z 69 = z 69 := mfZ_lo z (by decide)
    unfold mLoad
    generalize mfZ z = Z at k ⊢
    split
    · dsimp only; rw [k]; exact h.1.1
    · exact ⟨0, by decide, u2_s (mlK 10 Z 0).2 69 0 0⟩
  obtain ⟨k1, k2⟩ := load_10 z
  generalize spLoad z = F at e1 e2 c1 k1 ⊢
  generalize mLoad z = G at e1 e2 hO c2 c69 k2 ⊢
  refine ⟨e1, Inv_comb h (by omega) ?_ ?_ (fun f a b => c1 f a (by omega)) (fun f hf => c2 f (by omega) (by omega) (by omega) (by omega) (by omega) (by omega)), e2⟩
  · refine OI_of (hO.mono (by omega)) (fun f hf _ _ _ => ?_)
    unfold comb
    split
    · have : f = 10 := by omega
      subst this
      rw [k1, k2]
    · rfl
  · unfold PO
    rw [comb_m _ _ (show ¬ CP 69 by decide), comb_m _ _ (show ¬ CP 68 by decide), c2 68 (by decide) (by decide) (by decide) (by decide) (by decide) (by decide)]
    exact ⟨c69, h.1.2⟩
/-! slots are filled and read again -/
theorem cpAll_v (z : St) {o1 o2 f i : Nat} (hf : f < 20) (hi : i < limF f) : cpAll z o1 o2 (20 * o1 + f) i = z (20 * o2 + f) i := by
  unfold cpAll cpS
  rw [if_pos]
  · congr 1; omega
  · refine ⟨by omega, ?_⟩
    have : 20 * o1 + f - 20 * o1 = f := by omega
    rw [this]
    simpa using hi
theorem cpAll_o (z : St) {o1 o2 f : Nat} (hf : ¬ (20 * o1 ≤ f ∧ f < 20 * o1 + 20)) : cpAll z o1 o2 f = z f := by
  unfold cpAll cpS
  funext i
  rw [if_neg (fun q => hf q.1)]
theorem cpAll_j (z : St) {o1 o2 f i : Nat} (hi : ¬ i < limF f) : cpAll z o1 o2 (20 * o1 + f) i = z (20 * o1 + f) i := by
  unfold cpAll cpS
  rw [if_neg]
  rintro ⟨-, q⟩
  have : 20 * o1 + f - 20 * o1 = f := by omega
  rw [this] at q
  exact hi (by simpa using q)
theorem gO_s {o f : Nat} (ho : o ≠ 0) (hf : f ≠ 10) : gO o f = 80 + 20 * o + f := by unfold gO; rw [if_neg hf, if_neg ho]
theorem cpK_v (z : St) {o : Nat} (ho : o < 3) (v : Nat → Int32) {f i : Nat} (hf : f < 20) (hi : i < limF f) : cpK z o 478 v (gO o f) i = v (kO f i) := by
  obtain ⟨h1, h2, h3⟩ := limF_k hf hi
  have := cpK_s z ho v h1
  unfold atF at this
  rw [h2, h3] at this
  exact this
theorem inK_lim {o f i : Nat} (ho : o < 3) (h : inK o 478 f i = true) : ∃ g, g < 20 ∧ i < limF g ∧ f = gO o g := by
  obtain ⟨k, h1, h2, h3⟩ := inK_f ho h
  refine ⟨fO k, fO_lt k, ?_, h2.symm⟩
  rw [← h3]
  unfold limF fO iO
  (repeat' split) <;> omega
theorem cpK_out (z : St) {o : Nat} (ho : o < 3) (v : Nat → Int32) {f : Nat} (hf : ∀ g, g < 20 → f ≠ gO o g) : cpK z o 478 v f = z f := by
  funext i
  unfold cpK
  rw [if_neg]
  intro h
  obtain ⟨g, g1, -, g3⟩ := inK_lim ho h
  exact hf g g1 g3
theorem gO_val {o g : Nat} (hg : g < 20) : gO o g = (if g = 10 then 87 + o else if o = 0 then g else 80 + 20 * o + g) := rfl
theorem pair_save {z : St} {B : Nat} (h : Inv z B) (x : Int32) : PairOK (B + 100) (spSave z x) (mSave z x) := by
  obtain ⟨hP, hO, h18, h7, hS⟩ := h
  unfold spSave mSave
  by_cases hx : 0 ≤ x ∧ x ≤ 1
  · obtain ⟨x1, x2⟩ := rng2 hx (by decide) 1 (by decide) rfl
    have c1 : ¬ (x < 0 ∨ ¬ x < 2) := by
      intro q
      rcases q with q | q
      · exact absurd hx.1 (Int32.not_le.mpr q)
      · apply q
        rw [x1]
        exact (nI_ltI (b := 2) (by omega) (by omega)).mpr (by omega)
    rw [if_neg c1, if_neg (not_not_intro hx)]
    generalize cn x = s at x2
    have hs : s < 2 := by omega
    have hz : ∀ f, (f < 20 ∨ f = 60 ∨ f = 68 ∨ f = 69 ∨ f = 87) → f ≠ 60 → u2 (cpAll z (s + 1) 0) 60 s 1 f = z f ∧ u2 (cpK z (s + 1) 478 (fun j => atF z 0 j)) 60 s 1 f = z f := by
      intro f hf h60
      rw [u2_f h60, u2_f h60, cpAll_o z (by omega), cpK_out z (by omega) _ (fun g hg => by rw [gO_val hg]; (repeat' split) <;> omega)]
      exact ⟨rfl, rfl⟩
    have h60 : u2 (cpAll z (s + 1) 0) 60 s 1 60 = u2 (cpK z (s + 1) 478 (fun j => atF z 0 j)) 60 s 1 60 := by
      rw [u2_ff, u2_ff, cpAll_o z (by omega), cpK_out z (by omega) _ (fun g hg => by rw [gO_val hg]; (repeat' split) <;> omega)]
    refine ⟨rfl, ?_, fun f hf => ?_⟩
    · dsimp only
      have hOc : OI (comb (u2 (cpAll z (s + 1) 0) 60 s 1) (u2 (cpK z (s + 1) 478 (fun j => atF z 0 j)) 60 s 1)) (B + 100) := by
        refine OI_of (hO.mono (by omega)) (fun f hf _ _ _ => ?_)
        unfold comb
        split
        · exact (hz f (by omega) (by omega)).1
        · exact (hz f (by omega) (by omega)).2
      have vC1 : ∀ o f i, 0 < o → o < 3 → f < 20 → comb (u2 (cpAll z (s + 1) 0) 60 s 1) (u2 (cpK z (s + 1) 478 (fun j => atF z 0 j)) 60 s 1) (20 * o + f) i = if o = s + 1 ∧ i < limF f then z f i else z (20 * o + f) i := by
        intro o f i o0 o3 hf
        rw [comb_c _ _ (by omega), u2_f (by omega)]
        by_cases q : o = s + 1
        · subst q
          by_cases q2 : i < limF f
          · rw [if_pos ⟨rfl, q2⟩, cpAll_v z hf q2]; congr 1; omega
          · rw [if_neg (fun q => q2 q.2), cpAll_j z q2]
        · rw [if_neg (fun w => q w.1), cpAll_o z (by omega)]
      refine ⟨?_, hOc, fun o ho a ha => ?_, fun o ho d hd => ?_, fun t ht => ?_⟩
      · exact PO_of hP ((comb_m _ _ (by decide)).trans (hz 68 (by omega) (by decide)).2) ((comb_m _ _ (by decide)).trans (hz 69 (by omega) (by decide)).2)
      · by_cases q : o = 0
        · subst q; exact hOc.h18 a ha
        · rw [vC1 o 18 a (by omega) ho (by decide)]
          split
          · exact hO.h18 a ha
          · exact h18 o ho a ha
      · by_cases q : o = 0
        · subst q; exact hOc.cl d hd
        · rw [vC1 o 7 d (by omega) ho (by decide)]
          split
          · exact hO.cl d hd
          · exact h7 o ho d hd
      · have e60 : comb (u2 (cpAll z (s + 1) 0) 60 s 1) (u2 (cpK z (s + 1) 478 (fun j => atF z 0 j)) 60 s 1) 60 t = if t = s then 1 else z 60 t := by
          rw [comb_m _ _ (by decide)]
          by_cases q : t = s
          · subst q; rw [u2_s, if_pos rfl]
          · rw [u2_i _ q, if_neg q, cpK_out z (by omega) _ (fun g hg => by rw [gO_val hg]; (repeat' split) <;> omega)]
        rw [e60]
        by_cases q : t = s
        · subst q
          rw [if_pos rfl]
          refine Or.inr ⟨rfl, fun f i hf h10 hi => ?_, ?_⟩
          · rw [vC1 (t + 1) f i (by omega) (by omega) hf, if_pos ⟨rfl, hi⟩, comb_m _ _ (by omega), u2_f (by omega)]
            have := cpK_v z (o := t + 1) (by omega) (fun j => atF z 0 j) hf hi
            rw [gO_s (by omega) h10] at this
            rw [this]
            obtain ⟨l1, l2, l3⟩ := limF_k hf hi
            unfold atF
            rw [l2, l3, gO_ne h10]
          · refine OI_in (hO.mono (by omega)) (fun f i hf hi => ?_) (fun i hi => ?_)
            · show (if f < 20 then _ else _) = _
              rw [if_pos hf, vC1 (t + 1) f i (by omega) (by omega) hf, if_pos ⟨rfl, hi⟩]
            · show (if 87 < 20 then _ else if 87 = 87 then _ else _) = _
              rw [if_neg (by decide), if_pos rfl, comb_m _ _ (by omega), u2_f (by omega)]
              have := cpK_v z (o := t + 1) (by omega) (fun j => atF z 0 j) (f := 10) (i := i) (by decide) (by simpa [limF] using hi)
              have eg : gO (t + 1) 10 = 87 + (t + 1) := rfl
              rw [eg] at this
              rw [this]
              obtain ⟨l1, l2, l3⟩ := limF_k (f := 10) (i := i) (by decide) (by simpa [limF] using hi)
              unfold atF
              rw [l2, l3]
              rfl
        · rw [if_neg q]
          rcases hS t ht with w | ⟨w1, w2⟩
          · exact Or.inl w
          · refine Or.inr ⟨w1, w2.of (by omega) ht (fun f hf => ?_) (fun f hf => ?_) ?_⟩
            · funext i
              rw [vC1 (t + 1) f i (by omega) (by omega) hf, if_neg (by omega)]
            · rw [comb_m _ _ (by omega), u2_f (by omega), cpK_out z (by omega) _ (fun g hg => by rw [gO_val hg]; (repeat' split) <;> omega)]
            · rw [comb_m _ _ (by omega), u2_f (by omega), cpK_out z (by omega) _ (fun g hg => by rw [gO_val hg]; (repeat' split) <;> omega)]
    · dsimp only
      by_cases q : f = 60
      · subst q; exact h60
      · exact (hz f (by omega) q).1.trans (hz f (by omega) q).2.symm
  · have c1 : x < 0 ∨ ¬ x < 2 := by
      by_cases q : x < 0
      · exact Or.inl q
      · right
        intro w
        have := rng (x := x) (n := 2) (by decide) q w
        apply hx
        rw [this.1]
        exact ⟨nI_pos' (by omega), (nI_leI (b := 1) (by omega) (by omega)).mpr (by omega)⟩
    rw [if_pos c1, if_pos hx]
    exact pair_q ⟨hP, hO, h18, h7, hS⟩ (-2)
theorem pair_restore {z : St} {B : Nat} (h : Inv z B) (x : Int32) : PairOK (B + 100) (spRestore z x) (mRestore z x) := by
  obtain ⟨hP, hO, h18, h7, hS⟩ := h
  unfold spRestore mRestore
  by_cases hx : 0 ≤ x ∧ x ≤ 1
  · obtain ⟨x1, x2⟩ := rng2 hx (by decide) 1 (by decide) rfl
    have c1 : ¬ (x < 0 ∨ ¬ x < 2) := by
      intro q
      rcases q with q | q
      · exact absurd hx.1 (Int32.not_le.mpr q)
      · apply q
        rw [x1]
        exact (nI_ltI (b := 2) (by omega) (by omega)).mpr (by omega)
    rw [if_neg c1, if_neg (not_not_intro hx)]
    generalize cn x = s at x2
    have hs : s < 2 := by omega
    by_cases h60 : z 60 s = 0
    · rw [if_pos h60, if_pos h60]
      exact pair_q ⟨hP, hO, h18, h7, hS⟩ (-5)
    · rw [if_neg h60, if_neg h60]
      obtain ⟨s1, s2, s3⟩ := (hS s hs).resolve_left h60
      have mv : ∀ f i, f < 20 → f ≠ 10 → i < limF f → cpK z 0 478 (fun j => atF z (s + 1) j) f i = z (20 * (s + 1) + f) i := by
        intro f i hf h10 hi
        have := cpK_v z (o := 0) (by decide) (fun j => atF z (s + 1) j) hf hi
        rw [gO_ne h10] at this
        rw [this]
        obtain ⟨l1, l2, l3⟩ := limF_k hf hi
        unfold atF
        rw [l2, l3, gO_s (by omega) h10]
        exact (s2 f i hf h10 hi).symm
      have cv : ∀ f i, f < 20 → i < limF f → cpAll z 0 (s + 1) f i = z (20 * (s + 1) + f) i := by
        intro f i hf hi
        have := cpAll_v z (o1 := 0) (o2 := s + 1) hf hi
        rw [show 20 * 0 + f = f from by omega] at this
        exact this
      have eqf : ∀ f, f < 20 → f ≠ 10 → cpAll z 0 (s + 1) f = cpK z 0 478 (fun j => atF z (s + 1) j) f := by
        intro f hf h10
        funext i
        by_cases hi : i < limF f
        · rw [cv f i hf hi, mv f i hf h10 hi]
        · have a : cpAll z 0 (s + 1) f i = z f i := by
            have := cpAll_j z (o1 := 0) (o2 := s + 1) (f := f) hi
            rw [show 20 * 0 + f = f from by omega] at this
            exact this
          rw [a]
          unfold cpK
          rw [if_neg]
          intro q
          obtain ⟨g, g1, g2, g3⟩ := inK_lim (by decide) q
          rw [gO_val g1] at g3
          have : f = g := by (repeat' split at g3) <;> omega
          subst this
          exact hi g2
      have co : ∀ f, 20 ≤ f → cpAll z 0 (s + 1) f = z f := fun f hf => cpAll_o z (by omega)
      have mo : ∀ f, 20 ≤ f → f ≠ 87 → cpK z 0 478 (fun j => atF z (s + 1) j) f = z f := fun f hf h8 => cpK_out z (by decide) _ (fun g hg => by rw [gO_val hg]; (repeat' split) <;> omega)
      have m87 : ∀ i, i < 12 → cpK z 0 478 (fun j => atF z (s + 1) j) 87 i = z (87 + (s + 1)) i := by
        intro i hi
        have := cpK_v z (o := 0) (by decide) (fun j => atF z (s + 1) j) (f := 10) (i := i) (by decide) (by simpa [limF] using hi)
        have eg : gO 0 10 = 87 := rfl
        rw [eg] at this
        rw [this]
        obtain ⟨l1, l2, l3⟩ := limF_k (f := 10) (i := i) (by decide) (by simpa [limF] using hi)
        unfold atF
        rw [l2, l3]
        rfl
      generalize cpAll z 0 (s + 1) = F at cv eqf co ⊢
      generalize cpK z 0 478 (fun j => atF z (s + 1) j) = M at mv eqf mo m87 ⊢
      refine ⟨by dsimp only; rw [eqf 0 (by decide) (by decide)], ?_, fun f hf => ?_⟩
      · refine Inv_comb ⟨hP, hO, h18, h7, hS⟩ (by omega) ?_ ?_ (fun f a b => co f a) (fun f hf => mo f (by omega) (by omega))
        · refine OI_in (s3.mono (by omega)) (fun f i hf hi => ?_) (fun i hi => ?_)
          · show _ = (if f < 20 then _ else _)
            rw [if_pos hf]
            unfold comb
            split
            · exact cv f i hf hi
            · exact mv f i hf (by omega) hi
          · show _ = (if 87 < 20 then _ else if 87 = 87 then _ else _)
            rw [if_neg (by decide), if_pos rfl, comb_m _ _ (by decide)]
            exact m87 i hi
        · exact PO_of hP ((comb_m _ _ (by decide)).trans (mo 68 (by decide) (by decide))) ((comb_m _ _ (by decide)).trans (mo 69 (by decide) (by decide)))
      · dsimp only
        by_cases q : f < 20
        · exact eqf f q (by omega)
        · rw [co f (by omega), mo f (by omega) (by omega)]
  · have c1 : x < 0 ∨ ¬ x < 2 := by
      by_cases q : x < 0
      · exact Or.inl q
      · right
        intro w
        have := rng (x := x) (n := 2) (by decide) q w
        apply hx
        rw [this.1]
        exact ⟨nI_pos' (by omega), (nI_leI (b := 1) (by omega) (by omega)).mpr (by omega)⟩
    rw [if_pos c1, if_pos hx]
    exact pair_q ⟨hP, hO, h18, h7, hS⟩ (-2)
