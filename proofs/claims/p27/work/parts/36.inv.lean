/-! ===== what holds of an office between the calls ===== -/
def SetOK (z : St) : Prop := ∀ s, s < 6 → ¬ z 4 s < fLOW s ∧ z 4 s ≤ fHIGH s
def OI (z : St) (B : Nat) : Prop :=
  IO z ∧ (∀ d, d < 60 → z 7 d = 0 ∨ z 7 d = 1) ∧ (∀ c, c < cn (z 2 0) → z 87 c = z 10 c) ∧ ClimIn z ∧ (∀ a, a < nA z → routeP z (z 12 a)) ∧
  (∀ a, a < nA z → ∃ s, s < 7 ∧ z 15 a = nI s) ∧ (∀ a, a < nA z → (z 15 a = 0 ∨ z 15 a = 2) → z 16 a = 0) ∧ (∀ a, a < nA z → aliveP z a → z 17 a = 0) ∧
  (∀ a, a < 40 → z 18 a = 0 ∨ z 18 a = 1) ∧ (∀ a, a < nA z → ∃ p, 1 ≤ p ∧ p ≤ 4 ∧ z 14 a = nI p) ∧ (∀ a, a < nA z → z 15 a = 1 → z 0 0 ≤ z 13 a) ∧ SetOK z ∧
  (∀ c, c < 12 → ∃ m, m ≤ B ∧ z 8 c = nI m) ∧ (∀ a, nA z ≤ a → a < 40 → z 15 a = 0 ∧ z 16 a = 0 ∧ z 17 a = 0 ∧ z 18 a = 0) ∧ (∀ c, cn (z 2 0) ≤ c → c < 12 → z 8 c = 0 ∧ z 9 c = 0 ∧ z 10 c = -6) ∧ Uniq z
theorem OI.io {z : St} {B : Nat} (h : OI z B) : IO z := h.1
theorem OI.cl {z : St} {B : Nat} (h : OI z B) : ∀ d, d < 60 → z 7 d = 0 ∨ z 7 d = 1 := h.2.1
theorem OI.h87c {z : St} {B : Nat} (h : OI z B) : ∀ c, c < cn (z 2 0) → z 87 c = z 10 c := h.2.2.1
theorem OI.cin {z : St} {B : Nat} (h : OI z B) : ClimIn z := h.2.2.2.1
theorem OI.rin {z : St} {B : Nat} (h : OI z B) : ∀ a, a < nA z → routeP z (z 12 a) := h.2.2.2.2.1
theorem OI.st {z : St} {B : Nat} (h : OI z B) : ∀ a, a < nA z → ∃ s, s < 7 ∧ z 15 a = nI s := h.2.2.2.2.2.1
theorem OI.h16 {z : St} {B : Nat} (h : OI z B) : ∀ a, a < nA z → (z 15 a = 0 ∨ z 15 a = 2) → z 16 a = 0 := h.2.2.2.2.2.2.1
theorem OI.h17 {z : St} {B : Nat} (h : OI z B) : ∀ a, a < nA z → aliveP z a → z 17 a = 0 := h.2.2.2.2.2.2.2.1
theorem OI.h18 {z : St} {B : Nat} (h : OI z B) : ∀ a, a < 40 → z 18 a = 0 ∨ z 18 a = 1 := h.2.2.2.2.2.2.2.2.1
theorem OI.par {z : St} {B : Nat} (h : OI z B) : ∀ a, a < nA z → ∃ p, 1 ≤ p ∧ p ≤ 4 ∧ z 14 a = nI p := h.2.2.2.2.2.2.2.2.2.1
theorem OI.ht {z : St} {B : Nat} (h : OI z B) : ∀ a, a < nA z → z 15 a = 1 → z 0 0 ≤ z 13 a := h.2.2.2.2.2.2.2.2.2.2.1
theorem OI.set {z : St} {B : Nat} (h : OI z B) : SetOK z := h.2.2.2.2.2.2.2.2.2.2.2.1
theorem OI.mem {z : St} {B : Nat} (h : OI z B) : ∀ c, c < 12 → ∃ m, m ≤ B ∧ z 8 c = nI m := h.2.2.2.2.2.2.2.2.2.2.2.2.1
theorem OI.fra {z : St} {B : Nat} (h : OI z B) : ∀ a, nA z ≤ a → a < 40 → z 15 a = 0 ∧ z 16 a = 0 ∧ z 17 a = 0 ∧ z 18 a = 0 := h.2.2.2.2.2.2.2.2.2.2.2.2.2.1
theorem OI.frc {z : St} {B : Nat} (h : OI z B) : ∀ c, cn (z 2 0) ≤ c → c < 12 → z 8 c = 0 ∧ z 9 c = 0 ∧ z 10 c = -6 := h.2.2.2.2.2.2.2.2.2.2.2.2.2.2.1
theorem OI.uq {z : St} {B : Nat} (h : OI z B) : Uniq z := h.2.2.2.2.2.2.2.2.2.2.2.2.2.2.2
/-- settings as numbers -/
theorem set_num {z : St} (h : SetOK z) {s : Nat} (hs : s < 6) : ∃ v, z 4 s = nI v ∧ (fLOW s).toInt ≤ v ∧ (v : Int) ≤ (fHIGH s).toInt ∧ v ≤ 65535 := by
  obtain ⟨h1, h2⟩ := h s hs
  have a1 := Int32.not_lt.mp h1
  have a2 := Int32.le_iff_toInt_le.mp a1
  have a3 := Int32.le_iff_toInt_le.mp h2
  have e : (0 ≤ (fLOW s).toInt ∧ (fHIGH s).toInt ≤ 65535) := by
    have : s = 0 ∨ s = 1 ∨ s = 2 ∨ s = 3 ∨ s = 4 ∨ s = 5 := by omega
    rcases this with rfl | rfl | rfl | rfl | rfl | rfl <;> decide
  obtain ⟨v, hv, ev⟩ := nI_of (x := z 4 s) (by
    rw [Int32.lt_iff_toInt_lt]
    have : (0 : Int32).toInt = 0 := by decide
    omega)
  rw [ev, nI_toInt hv] at a2 a3
  exact ⟨v, ev, a2, a3, by omega⟩
theorem OI.fee {z : St} {B : Nat} (h : OI z B) : ∃ f, 1 ≤ f ∧ f ≤ 1000 ∧ z 4 0 = nI f := by
  obtain ⟨v, e, h1, h2, -⟩ := set_num h.set (s := 0) (by decide)
  have a : (fLOW 0).toInt = 1 := by decide
  have b : (fHIGH 0).toInt = 1000 := by decide
  exact ⟨v, by omega, by omega, e⟩
theorem OI.sh {z : St} {B : Nat} (h : OI z B) : z 4 4 = nI (cn (z 4 4)) ∧ cn (z 4 4) ≤ 10 := by
  obtain ⟨v, e, h1, h2, -⟩ := set_num h.set (s := 4) (by decide)
  have b : (fHIGH 4).toInt = 10 := by decide
  rw [e, cn_nI (by omega)]
  exact ⟨rfl, by omega⟩
theorem OI.sd {z : St} {B : Nat} (h : OI z B) : ∃ s, s < 65536 ∧ z 4 5 = nI s := by
  obtain ⟨v, e, h1, h2, h3⟩ := set_num h.set (s := 5) (by decide)
  exact ⟨v, by omega, e⟩
theorem OI.pay {z : St} {B : Nat} (h : OI z B) : ∀ a, a < nA z → 0 < z 4 0 * z 14 a := by
  intro a ha
  obtain ⟨f, f1, f2, f3⟩ := h.fee
  obtain ⟨p, p1, p2, p3⟩ := h.par a ha
  rw [f3, p3, pk_mul]
  have h1 : f * p ≤ 1000 * 4 := Nat.mul_le_mul f2 p2
  have h2 : 1 * 1 ≤ f * p := Nat.mul_le_mul f1 p1
  exact (nI_ltI (a := 0) (by omega) (by omega)).mpr (by omega)
theorem OI.tk {z : St} {B : Nat} (h : OI z B) (hB : B ≤ 100000) : TkB z := by
  intro a ha
  obtain ⟨v, e, h1, h2, -⟩ := set_num h.set (s := 1) (by decide)
  have b : (fHIGH 1).toInt = 9 := by decide
  obtain ⟨m, m1, m2⟩ := h.mem _ (iC h.io ha).2
  have e2 : tkt z a = nI (1 + v * m) := by
    unfold tkt
    rw [e, m2, pk_mul]
    exact nI_add 1 _
  have h3 : v * m ≤ 9 * 100000 := Nat.mul_le_mul (by omega) (by omega)
  rw [e2, cn_nI (by omega)]
  exact ⟨rfl, by omega, by omega⟩
theorem OI.h87 {z : St} {B : Nat} (h : OI z B) : B87 z := fun a ha => h.h87c _ (h.cin a ha)
theorem OI.m0 {z : St} {B : Nat} (h : OI z B) (hB : B ≤ 100000) : ∀ c, c < 12 → 0 ≤ z 8 c := by
  intro c hc
  obtain ⟨m, m1, m2⟩ := h.mem c hc
  rw [m2]; exact nI_pos' (by omega)
theorem OI.od {z : St} {B : Nat} (h : OI z B) (hB : B ≤ 100000) : ∀ a, a < nA z → inO z (z 12 a) (z 13 a) a → 0 < odS z (z 12 a) (z 13 a) (nA z) := fun a ha hin => odS_pos h.io (h.tk hB) ha hin
theorem OI.ai {z : St} {B : Nat} (h : OI z B) : AI z := ⟨h.io, h.cl, h.h87c, h.st, h.fra⟩
/-- only these fields matter -/
theorem OI_of {z y : St} {B : Nat} (h : OI z B) (e : ∀ f, f < 20 ∨ f = 87 → f ≠ 5 → f ≠ 6 → f ≠ 19 → y f = z f) : OI y B := by
  have en : nA y = nA z := nA_of (e 3 (by omega) (by decide) (by decide) (by decide))
  unfold OI SetOK ClimIn Uniq routeP aliveP
  rw [en, e 0 (by omega) (by decide) (by decide) (by decide), e 1 (by omega) (by decide) (by decide) (by decide), e 2 (by omega) (by decide) (by decide) (by decide), e 4 (by omega) (by decide) (by decide) (by decide), e 7 (by omega) (by decide) (by decide) (by decide), e 8 (by omega) (by decide) (by decide) (by decide), e 9 (by omega) (by decide) (by decide) (by decide), e 10 (by omega) (by decide) (by decide) (by decide), e 11 (by omega) (by decide) (by decide) (by decide), e 12 (by omega) (by decide) (by decide) (by decide), e 13 (by omega) (by decide) (by decide) (by decide), e 14 (by omega) (by decide) (by decide) (by decide), e 15 (by omega) (by decide) (by decide) (by decide), e 16 (by omega) (by decide) (by decide) (by decide), e 17 (by omega) (by decide) (by decide) (by decide), e 18 (by omega) (by decide) (by decide) (by decide), e 87 (by omega) (by decide) (by decide) (by decide)]
  exact ⟨IO_of h.io (fun f hf => e f (by omega) (by omega) (by omega) (by omega)), h.2⟩
theorem OI.mono {z : St} {B B' : Nat} (h : OI z B) (hB : B ≤ B') : OI z B' := by
  obtain ⟨a1, a2, a3, a4, a5, a6, a7, a8, a9, a10, a11, a12, a13, a14⟩ := h
  exact ⟨a1, a2, a3, a4, a5, a6, a7, a8, a9, a10, a11, a12, fun c hc => by obtain ⟨m, m1, m2⟩ := a13 c hc; exact ⟨m, by omega, m2⟩, a14⟩
/-- what an application may become -/
def AppOK (z y : St) (a : Nat) : Prop := (∃ d, d < 60 ∧ y 13 a = nI d) ∧ (∃ s, s < 7 ∧ y 15 a = nI s) ∧ ((y 15 a = 0 ∨ y 15 a = 2) → y 16 a = 0) ∧ (aliveP y a → y 17 a = 0) ∧ (y 18 a = 0 ∨ y 18 a = 1) ∧ (y 15 a = 1 → z 0 0 ≤ y 13 a) ∧ (y 15 a = 0 → z 15 a = 0 ∧ y 13 a = z 13 a)
theorem AppOK_same {z y : St} {B a : Nat} (h : OI z B) (ha : a < nA z) (e13 : y 13 a = z 13 a) (e15 : y 15 a = z 15 a) (e16 : y 16 a = z 16 a) (e17 : y 17 a = z 17 a) (e18 : y 18 a = z 18 a) : AppOK z y a := by
  have h40 := (iNa h.io).2
  unfold AppOK aliveP
  rw [e13, e15, e16, e17, e18]
  exact ⟨⟨_, (iD h.io ha).2, (iD h.io ha).1⟩, h.st a ha, h.h16 a ha, h.h17 a ha, h.h18 a (by omega), h.ht a ha, fun q => ⟨q, rfl⟩⟩
theorem OI_gen {z y : St} {B B' : Nat} (h : OI z B) (e : ∀ f, f = 0 ∨ f = 1 ∨ f = 2 ∨ f = 3 ∨ f = 10 ∨ f = 11 ∨ f = 12 ∨ f = 14 ∨ f = 87 → y f = z f) (hcl : ∀ d, d < 60 → y 7 d = 0 ∨ y 7 d = 1) (hset : SetOK y) (hmem : ∀ c, c < 12 → ∃ m, m ≤ B' ∧ y 8 c = nI m)
    (hfc : ∀ c, cn (z 2 0) ≤ c → c < 12 → y 8 c = 0 ∧ y 9 c = 0) (hfa : ∀ a, nA z ≤ a → a < 40 → y 15 a = 0 ∧ y 16 a = 0 ∧ y 17 a = 0 ∧ y 18 a = 0) (happ : ∀ a, a < nA z → AppOK z y a) : OI y B' := by
  have en : nA y = nA z := nA_of (e 3 (by omega))
  have hI := h.io
  refine ⟨?_, hcl, ?_, ?_, ?_, ?_, ?_, ?_, ?_, ?_, ?_, hset, hmem, ?_, ?_, ?_⟩
  · unfold IO
    rw [en, e 0 (by omega), e 1 (by omega), e 2 (by omega), e 3 (by omega), e 11 (by omega), e 12 (by omega)]
    exact ⟨hI.1, hI.2.1, hI.2.2.1, hI.2.2.2.1, fun a ha => ⟨(hI.2.2.2.2 a ha).1, (hI.2.2.2.2 a ha).2.1, (happ a ha).1⟩⟩
  · rw [e 2 (by omega), e 10 (by omega), e 87 (by omega)]; exact h.h87c
  · unfold ClimIn; rw [en, e 2 (by omega), e 11 (by omega)]; exact h.cin
  · unfold routeP; rw [en, e 1 (by omega), e 12 (by omega)]; exact h.rin
  · rw [en]; exact fun a ha => (happ a ha).2.1
  · rw [en]; exact fun a ha => (happ a ha).2.2.1
  · rw [en]; exact fun a ha => (happ a ha).2.2.2.1
  · intro a ha
    by_cases q : a < nA z
    · exact (happ a q).2.2.2.2.1
    · exact Or.inl (hfa a (by omega) ha).2.2.2
  · rw [en, e 14 (by omega)]; exact h.par
  · rw [en, e 0 (by omega)]; exact fun a ha => (happ a ha).2.2.2.2.2.1
  · rw [en]; exact hfa
  · rw [e 2 (by omega), e 10 (by omega)]; exact fun c h1 h2 => ⟨(hfc c h1 h2).1, (hfc c h1 h2).2, (h.frc c h1 h2).2.2⟩
  · unfold Uniq
    rw [en, e 11 (by omega), e 12 (by omega)]
    intro a b ha hb h1 h2 h3 h4 h5
    obtain ⟨a1, a2⟩ := (happ a ha).2.2.2.2.2.2 h1
    obtain ⟨b1, b2⟩ := (happ b hb).2.2.2.2.2.2 h2
    exact h.uq a b ha hb a1 b1 h3 h4 (by rw [← a2, ← b2]; exact h5)
/-- one application and one climber change -/
theorem OI_one {z y : St} {B B' a c : Nat} (h : OI z B) (hB : B ≤ B') (ha : a < nA z) (hc : c < cn (z 2 0))
    (e : ∀ f i, (f < 20 ∨ f = 87) → ¬ (i = a ∧ (f = 13 ∨ f = 15 ∨ f = 16 ∨ f = 17 ∨ f = 18)) → ¬ (i = c ∧ (f = 8 ∨ f = 9)) → y f i = z f i) (hm : ∃ m, m ≤ B' ∧ y 8 c = nI m) (happ : AppOK z y a) : OI y B' := by
  have hI := h.io
  refine OI_gen h ?_ ?_ ?_ ?_ ?_ ?_ ?_
  · intro f hf
    funext i
    exact e f i (by omega) (by omega) (by omega)
  · intro d hd
    rw [e 7 d (by omega) (by omega) (by omega)]; exact h.cl d hd
  · intro s hs
    rw [e 4 s (by omega) (by omega) (by omega)]; exact h.set s hs
  · intro b hb
    by_cases q : b = c
    · subst q; exact hm
    · rw [e 8 b (by omega) (by omega) (by omega)]
      obtain ⟨m, m1, m2⟩ := h.mem b hb
      exact ⟨m, by omega, m2⟩
  · intro b h1 h2
    rw [e 8 b (by omega) (by omega) (by omega), e 9 b (by omega) (by omega) (by omega)]
    have := h.frc b h1 h2
    exact ⟨this.1, this.2.1⟩
  · intro b h1 h2
    rw [e 15 b (by omega) (by omega) (by omega), e 16 b (by omega) (by omega) (by omega), e 17 b (by omega) (by omega) (by omega), e 18 b (by omega) (by omega) (by omega)]
    exact h.fra b h1 h2
  · intro b hb
    by_cases q : b = a
    · subst q; exact happ
    · exact AppOK_same h hb (e 13 b (by omega) (by omega) (by omega)) (e 15 b (by omega) (by omega) (by omega)) (e 16 b (by omega) (by omega) (by omega)) (e 17 b (by omega) (by omega) (by omega)) (e 18 b (by omega) (by omega) (by omega))
theorem OI_a {z y : St} {B a : Nat} (h : OI z B) (ha : a < nA z) (e : ∀ f i, (f < 20 ∨ f = 87) → ¬ (i = a ∧ (f = 13 ∨ f = 15 ∨ f = 16 ∨ f = 17 ∨ f = 18)) → y f i = z f i) (happ : AppOK z y a) : OI y B := by
  have hc := h.cin a ha
  have := (iC h.io ha).2
  obtain ⟨m, m1, m2⟩ := h.mem _ this
  exact OI_one h (Nat.le_refl _) ha hc (fun f i h1 h2 _ => e f i h1 h2) ⟨m, m1, by rw [e 8 _ (by omega) (by omega)]; exact m2⟩ happ
/-! the changes that the calls make -/
theorem OI_lose1 {z : St} {B a : Nat} (h : OI z B) (ha : a < nA z) (h0 : z 15 a = 0) : OI (u2 z 15 a 2) B := by
  refine OI_a h ha (fun f i _ h2 => u2_ne (by omega)) ?_
  unfold AppOK aliveP
  rw [u2_s, u2_f (show 13 ≠ 15 by decide), u2_f (show 16 ≠ 15 by decide), u2_f (show 17 ≠ 15 by decide), u2_f (show 18 ≠ 15 by decide)]
  have h40 := (iNa h.io).2
  exact ⟨⟨_, (iD h.io ha).2, (iD h.io ha).1⟩, ⟨2, by decide, rfl⟩, fun _ => h.h16 a ha (Or.inl h0), fun _ => h.h17 a ha (Or.inl h0), h.h18 a (by omega), fun q => absurd q (by decide), fun q => absurd q (by decide)⟩
theorem OI_loseK {z : St} {B : Nat} (h : OI z B) (r d : Int32) : ∀ k, k ≤ nA z → OI (loseK z r d k) B := by
  intro k
  induction k with
  | zero => intro _; exact h
  | succ k ih =>
    intro hk
    have ih := ih (by omega)
    have en : nA (loseK z r d k) = nA z := by unfold nA; rw [loseK_ne (Or.inl (by decide))]
    unfold loseK
    split
    · rename_i h1
      exact OI_lose1 ih (by omega) (by rw [loseK_ne (Or.inr (Nat.le_refl _))]; exact h1.1)
    · exact ih
theorem OI_permit {z : St} {B a : Nat} (h : OI z B) (ha : a < nA z) (h0 : z 15 a = 0 ∨ z 15 a = 2) (ht : z 0 0 ≤ z 13 a) : OI (permit z a) B := by
  refine OI_a h ha (fun f i _ h2 => by unfold permit; rw [u2_ne (by omega), u2_ne (by omega)]) ?_
  have h40 := (iNa h.io).2
  unfold AppOK aliveP permit
  rw [u2_s, u2_f (show 15 ≠ 16 by decide), u2_s, u2_f (show 13 ≠ 16 by decide), u2_f (show 13 ≠ 15 by decide), u2_f (show 17 ≠ 16 by decide), u2_f (show 17 ≠ 15 by decide), u2_f (show 18 ≠ 16 by decide), u2_f (show 18 ≠ 15 by decide)]
  exact ⟨⟨_, (iD h.io ha).2, (iD h.io ha).1⟩, ⟨1, by decide, rfl⟩, fun q => absurd q (by decide), fun _ => h.h17 a ha (by rcases h0 with q | q; exact Or.inl q; exact Or.inr (Or.inr q)), h.h18 a (by omega), fun _ => ht, fun q => absurd q (by decide)⟩
theorem OI_mem1 {z : St} {B B' c : Nat} {v : Int32} (h : OI z B) (hB : B ≤ B') (hc : c < cn (z 2 0)) (hv : ∃ m, m ≤ B' ∧ v = nI m) : OI (u2 z 8 c v) B' := by
  have hI := h.io
  refine OI_gen h ?_ ?_ ?_ ?_ ?_ ?_ ?_
  · intro f hf; exact u2_f (by omega)
  · rw [u2_f (by decide)]; exact h.cl
  · unfold SetOK; rw [u2_f (by decide)]; exact h.set
  · intro b hb
    by_cases q : b = c
    · subst q; rw [u2_s]; exact hv
    · rw [u2_i _ q]
      obtain ⟨m, m1, m2⟩ := h.mem b hb
      exact ⟨m, by omega, m2⟩
  · intro b h1 h2
    rw [u2_i _ (by omega), u2_f (by decide)]
    have := h.frc b h1 h2
    exact ⟨this.1, this.2.1⟩
  · rw [u2_f (show 15 ≠ 8 by decide), u2_f (show 16 ≠ 8 by decide), u2_f (show 17 ≠ 8 by decide), u2_f (show 18 ≠ 8 by decide)]; exact h.fra
  · intro b hb
    exact AppOK_same h hb (by rw [u2_f (by decide)]) (by rw [u2_f (by decide)]) (by rw [u2_f (by decide)]) (by rw [u2_f (by decide)]) (by rw [u2_f (by decide)])
theorem OI_serve1 {z : St} {B b : Nat} (h : OI z B) (ha : b < nA z) (h2 : z 15 b = 2) (ht : z 0 0 ≤ z 13 b) : OI (serve1 z b) B := by
  unfold serve1
  refine OI_mem1 (OI_permit h ha (Or.inr h2) ht) (Nat.le_refl _) ?_ ⟨0, Nat.zero_le _, rfl⟩
  have : permit z b 2 = z 2 := by unfold permit; rw [u2_f (by decide), u2_f (by decide)]
  rw [this]
  exact h.cin b ha
theorem OI_serve {r d : Int32} {B : Nat} : ∀ (k : Nat) (z : St), OI z B → z 0 0 ≤ d → OI (serve r d k z) B := by
  intro k
  induction k with
  | zero => intro z h _; exact h
  | succ k ih =>
    intro z h ht
    unfold serve
    split
    · exact h
    · rename_i h1
      obtain ⟨-, f2, f3, f4, -⟩ := fw_in h.io h1
      refine ih _ (OI_serve1 h f2 f3 (by rw [f4.2]; exact ht)) ?_
      rw [serve1_lo _ _ (by decide)]; exact ht
