/-! ===== what both sides know beside their cells; contracts of the class's methods and of the model's ===== -/
def stA (A : Nat → Prop) (n : String) (t : Nat) (f : Nat → Int32) (U : State) : Prop := va_Z "ClimbPermits" n "[I" (.ref t) A U U.heap ∧ va_T .int t 6 (fun j => .int (f j)) A U U.heap
def fFIRST (j : Nat) : Int32 := if j = 0 then 100 else if j = 1 then 1 else if j = 2 then 2 else if j = 3 then 10 else if j = 4 then 3 else 1
def fLOW (j : Nat) : Int32 := if j = 0 then 1 else if j = 2 then 1 else 0
def fHIGH (j : Nat) : Int32 := if j = 0 then 1000 else if j = 1 then 9 else if j = 2 then 5 else if j = 3 then 30 else if j = 4 then 10 else 65535
def ExS (A : Nat → Prop) (U : State) : Prop := ∃ t1 t2 t3 : Nat, stA A "FIRST" t1 fFIRST U ∧ stA A "LOWEST" t2 fLOW U ∧ stA A "HIGHEST" t3 fHIGH U
def ExC (G : MG) (U : State) : Prop := va_Nw (.methodLinkNest RX3 70 yX6_isDay "ClimbPermits") U ∧ ExS (AA 203 G.2.2) U
def ExM : State → Prop := fun _ => True
theorem stA_mv {A : Nat → Prop} {n : String} {t : Nat} {f : Nat → Int32} {u U : State} (h1 : u.WarmedH U.vm) (h2 : u.heap.size ≤ U.heap.size) (h3 : ∀ q : Nat, q < u.heap.size → ¬ A q → U.heap[q]? = u.heap[q]?) (h : stA A n t f u) : stA A n t f U :=
  ⟨(h.1.moved h1.alike).kept h3, (h.2.moved h1.alike).kept h3⟩
theorem ExS_mv (A : Nat → Prop) : KMv A (ExS A) := by
  intro u U h1 h2 h3 ⟨t1, t2, t3, a, b, c⟩
  exact ⟨t1, t2, t3, stA_mv h1 h2 h3 a, stA_mv h1 h2 h3 b, stA_mv h1 h2 h3 c⟩
theorem ExC_mv (G : MG) : KMv (AA 203 G.2.2) (ExC G) := fun u U h1 h2 h3 h => ⟨h.1.warmM h1, ExS_mv _ u U h1 h2 h3 h.2⟩
theorem ExM_mv (G : MG) : KMv (AA 9 G.2.2) ExM := fun _ _ _ _ _ _ => trivial
abbrev CIc (l : Launch) (G : MG) (y : MethodName) (ws : List Cond) (rm : Room) (vs : List Value) (z : St) (post : Int32 → St → Prop) : Prop := CI l (AA 203 G.2.2) (PW 203 G cfC) (KQ G (ExC G)) y ws rm vs z post
abbrev CVc (l : Launch) (G : MG) (y : MethodName) (ws : List Cond) (rm : Room) (vs : List Value) (z : St) (post : St → Prop) : Prop := CV l (AA 203 G.2.2) (PW 203 G cfC) (KQ G (ExC G)) y ws rm vs z post
theorem nz_bi (P : Prop) [Decidable P] : narrow .boolean (.int (bi P)) = .int (bi P) := by rcases bi_01 P with h | h <;> rw [h] <;> rfl
/-! ===== words for states ===== -/
def cn (x : Int32) : Nat := x.toNatClampNeg
theorem cn_nI {n : Nat} (h : n < 2 ^ 31) : cn (nI n) = n := nI_clamp h
abbrev nA (z : St) : Nat := cn (z 3 0)
/-- what keeps every index in its row -/
def IO (z : St) : Prop := (∃ t, t < 60 ∧ z 0 0 = nI t) ∧ (∃ n, n ≤ 6 ∧ z 1 0 = nI n) ∧ (∃ n, n ≤ 12 ∧ z 2 0 = nI n) ∧ (∃ n, n ≤ 40 ∧ z 3 0 = nI n) ∧ ∀ a, a < nA z → (∃ c, c < 12 ∧ z 11 a = nI c) ∧ (∃ r, r < 6 ∧ z 12 a = nI r) ∧ (∃ d, d < 60 ∧ z 13 a = nI d)
theorem of_ex {x : Int32} {b : Nat} (hb : b ≤ 2 ^ 31) (h : ∃ c, c < b ∧ x = nI c) : x = nI (cn x) ∧ cn x < b := by
  obtain ⟨c, h1, rfl⟩ := h
  rw [cn_nI (by omega)]
  exact ⟨rfl, h1⟩
theorem of_ex2 {x : Int32} {b : Nat} (hb : b < 2 ^ 31) (h : ∃ c, c ≤ b ∧ x = nI c) : x = nI (cn x) ∧ cn x ≤ b := by
  obtain ⟨c, h1, rfl⟩ := h
  rw [cn_nI (by omega)]
  exact ⟨rfl, h1⟩
theorem iT {z : St} (h : IO z) : z 0 0 = nI (cn (z 0 0)) ∧ cn (z 0 0) < 60 := of_ex (by decide) h.1
theorem iNr {z : St} (h : IO z) : z 1 0 = nI (cn (z 1 0)) ∧ cn (z 1 0) ≤ 6 := of_ex2 (by decide) h.2.1
theorem iNc {z : St} (h : IO z) : z 2 0 = nI (cn (z 2 0)) ∧ cn (z 2 0) ≤ 12 := of_ex2 (by decide) h.2.2.1
theorem iNa {z : St} (h : IO z) : z 3 0 = nI (nA z) ∧ nA z ≤ 40 := of_ex2 (by decide) h.2.2.2.1
theorem iC {z : St} (h : IO z) {a : Nat} (ha : a < nA z) : z 11 a = nI (cn (z 11 a)) ∧ cn (z 11 a) < 12 := of_ex (by decide) (h.2.2.2.2 a ha).1
theorem iR {z : St} (h : IO z) {a : Nat} (ha : a < nA z) : z 12 a = nI (cn (z 12 a)) ∧ cn (z 12 a) < 6 := of_ex (by decide) (h.2.2.2.2 a ha).2.1
theorem iD {z : St} (h : IO z) {a : Nat} (ha : a < nA z) : z 13 a = nI (cn (z 13 a)) ∧ cn (z 13 a) < 60 := of_ex (by decide) (h.2.2.2.2 a ha).2.2
/-- a change that no index hangs on -/
theorem IO_u2 {z : St} (h : IO z) {f i : Nat} {v : Int32} (hf : 4 ≤ f ∧ f ≠ 11 ∧ f ≠ 12 ∧ f ≠ 13) : IO (u2 z f i v) := by
  have e : ∀ g, g ≠ f → u2 z f i v g = z g := fun g hg => u2_f hg
  unfold IO nA
  rw [e 0 (by omega), e 1 (by omega), e 2 (by omega), e 3 (by omega), e 11 (by omega), e 12 (by omega), e 13 (by omega)]
  exact h
theorem nA_u2 {z : St} {f i : Nat} {v : Int32} (hf : f ≠ 3) : nA (u2 z f i v) = nA z := by unfold nA; rw [u2_f (Ne.symm hf)]
/-- a range test on an Int32, as a number -/
theorem rng {x : Int32} {n : Nat} (hn : n < 2 ^ 31) (h0 : ¬ x < 0) (h1 : x < nI n) : x = nI (cn x) ∧ cn x < n := by
  obtain ⟨j, hj, rfl⟩ := nI_of h0
  rw [cn_nI hj]
  exact ⟨rfl, (nI_ltI hj hn).mp h1⟩
theorem rng0 {x : Int32} {n : Nat} (hn : n < 2 ^ 31) (h0 : 0 ≤ x) (h1 : x < nI n) : x = nI (cn x) ∧ cn x < n := rng hn (by simpa using h0) h1
def sm (g : Nat → Int32) : Nat → Int32
  | 0 => 0
  | n + 1 => sm g n + g n
theorem sm_congr {g g' : Nat → Int32} {n : Nat} (h : ∀ a, a < n → g a = g' a) : sm g n = sm g' n := by
  induction n with
  | zero => rfl
  | succ n ih => simp only [sm]; rw [ih (fun a ha => h a (by omega)), h n (by omega)]
theorem sm_t {P : Nat → Prop} [DecidablePred P] {g : Nat → Int32} {k : Nat} (h : P k) : sm (fun a => if P a then g a else 0) k + g k = sm (fun a => if P a then g a else 0) (k + 1) := by
  simp only [sm, if_pos h]
theorem sm_f {P : Nat → Prop} [DecidablePred P] {g : Nat → Int32} {k : Nat} (h : ¬ P k) : sm (fun a => if P a then g a else 0) k = sm (fun a => if P a then g a else 0) (k + 1) := by
  simp only [sm, if_neg h, Int32.add_zero]
theorem sm_t2 {f : Nat → Int32} {k : Nat} (h : ¬ f k = 0) : sm (fun a => if f a = 0 then 0 else 1) k + 1 = sm (fun a => if f a = 0 then 0 else 1) (k + 1) := by
  simp only [sm, if_neg h]
theorem sm_f2 {f : Nat → Int32} {k : Nat} (h : f k = 0) : sm (fun a => if f a = 0 then 0 else 1) k = sm (fun a => if f a = 0 then 0 else 1) (k + 1) := by
  simp only [sm, if_pos h, Int32.add_zero]
/-- is there one -/
def anyN (p : Nat → Bool) : Nat → Bool
  | 0 => false
  | n + 1 => anyN p n || p n
theorem anyN_congr {p q : Nat → Bool} {n : Nat} (h : ∀ a, a < n → p a = q a) : anyN p n = anyN q n := by
  induction n with
  | zero => rfl
  | succ n ih => simp only [anyN]; rw [ih (fun a ha => h a (by omega)), h n (by omega)]
theorem anyN_iff {p : Nat → Bool} {n : Nat} : anyN p n = true ↔ ∃ a, a < n ∧ p a = true := by
  induction n with
  | zero => simp [anyN]
  | succ n ih =>
    simp only [anyN, Bool.or_eq_true, ih]
    constructor
    · rintro (⟨a, h1, h2⟩ | h)
      · exact ⟨a, by omega, h2⟩
      · exact ⟨n, by omega, h⟩
    · rintro ⟨a, h1, h2⟩
      by_cases e : a = n
      · subst e; exact Or.inr h2
      · exact Or.inl ⟨a, by omega, h2⟩
abbrev onP (z : St) (a : Nat) (r d : Int32) : Prop := z 12 a = r ∧ z 13 a = d
abbrev takesP (z : St) (a : Nat) : Prop := z 15 a = 1 ∨ z 15 a = 5 ∨ z 15 a = 6
abbrev aliveP (z : St) (a : Nat) : Prop := z 15 a = 0 ∨ z 15 a = 1 ∨ z 15 a = 2
abbrev dayP (d : Int32) : Prop := 0 ≤ d ∧ d < 60
abbrev routeP (z : St) (r : Int32) : Prop := 0 ≤ r ∧ r < z 1 0
abbrev climP (z : St) (c : Int32) : Prop := 0 ≤ c ∧ c < z 2 0
abbrev appP (z : St) (a : Int32) : Prop := 0 ≤ a ∧ a < z 3 0
abbrev openP (z : St) (d : Int32) : Prop := z 0 0 ≤ d ∧ dayP d ∧ z 7 (cn d) = 0
abbrev brdP (z : St) (a : Nat) : Prop := z 13 a ≤ z 10 (cn (z 11 a))
def taken (z : St) (r d : Int32) : Int32 := sm (fun a => if takesP z a ∧ onP z a r d then z 14 a else 0) (nA z)
def freeP (z : St) (r d : Int32) : Int32 := z 5 (cn r) - taken z r d
def leftP (z : St) (r d : Int32) : Int32 := freeP z r d - z 6 (cn r)
def inSt (z : St) (r d s : Int32) : Int32 := sm (fun a => if onP z a r d ∧ z 15 a = s then 1 else 0) (nA z)
abbrev byP (z : St) (a : Nat) (c : Int32) : Prop := c = -1 ∨ c = z 11 a
def cntIn (z : St) (c s : Int32) : Int32 := sm (fun a => if z 15 a = s ∧ byP z a c then 1 else 0) (nA z)
def cntBy (z : St) (c : Int32) : Int32 := sm (fun a => if byP z a c then 1 else 0) (nA z)
def paidBy (z : St) (c : Int32) : Int32 := sm (fun a => if byP z a c then z 16 a else 0) (nA z)
def backTo (z : St) (c : Int32) : Int32 := sm (fun a => if byP z a c then z 17 a else 0) (nA z)
def closedN (z : St) : Int32 := sm (fun d => if z 7 d = 0 then 0 else 1) 60
def hasOne (z : St) (c r d : Int32) : Bool := anyN (fun a => decide (z 11 a = c ∧ onP z a r d ∧ aliveP z a)) (nA z)
def tkt (z : St) (a : Nat) : Int32 := 1 + z 4 1 * z 8 (cn (z 11 a))
/-- a permit is given -/
def permit (z : St) (a : Nat) : St := u2 (u2 z 15 a 1) 16 a (z 4 0 * z 14 a)
/-- those applied for that become lost, of a route (-1: of all) and a day, the first k -/
def loseK (z : St) (r d : Int32) : Nat → St
  | 0 => z
  | k + 1 => if z 15 k = 0 ∧ (z 13 k = d ∧ (r = -1 ∨ r = z 12 k)) then u2 (loseK z r d k) 15 k 2 else loseK z r d k
/-- the first that waits, of the first k, with so many places -/
def fwK (z : St) (r d p : Int32) : Nat → Int32
  | 0 => -6
  | k + 1 => if (z 15 k = 2 ∧ onP z k r d ∧ z 14 k ≤ p ∧ ¬ brdP z k) ∧ (fwK z r d p k < 0 ∨ z 8 (cn (z 11 (cn (fwK z r d p k)))) < z 8 (cn (z 11 k))) then nI k else fwK z r d p k
def fw (z : St) (r d p : Int32) : Int32 := fwK z r d p (nA z)
theorem nI_m1 {n : Nat} (h : n < 2 ^ 31) : ¬ nI n = -1 := by
  intro e
  have h1 : (nI n).toInt = (-1 : Int32).toInt := by rw [e]
  rw [nI_toInt h] at h1
  have : (-1 : Int32).toInt = -1 := by decide
  omega
theorem loseK_ne {z : St} {r d : Int32} {k f i : Nat} (h : f ≠ 15 ∨ k ≤ i) : loseK z r d k f i = z f i := by
  induction k with
  | zero => rfl
  | succ k ih =>
    have ih := ih (by omega)
    unfold loseK
    split
    · have : ¬ (f = 15 ∧ i = k) := by omega
      simp only [u2, if_neg this]; exact ih
    · exact ih
def backNow (z : St) (a : Nat) : Int32 := if ¬ z 13 a - z 0 0 < 7 then z 16 a else if ¬ z 13 a - z 0 0 < 3 then z 16 a / 2 else 0
def strikeZ (z : St) (i : Nat) (most to : Int32) : St :=
  if ¬ z 9 i + 1 < most then u2 (u2 (u2 z 9 i (z 9 i + 1)) 9 i 0) 10 i (if z 10 i < to then to else z 10 i) else u2 z 9 i (z 9 i + 1)
/-- the memory of the one found -/
def mostK (z : St) (r d p : Int32) (k : Nat) : Int32 := if fwK z r d p k < 0 then -1 else z 8 (cn (z 11 (cn (fwK z r d p k))))
theorem fw_step {z : St} {r d p : Int32} {k : Nat} (hm : 0 ≤ z 8 (cn (z 11 k))) (hk : k < 2 ^ 31 := by omega) : ((z 15 k = 2 ∧ onP z k r d ∧ z 14 k ≤ p ∧ ¬ brdP z k ∧ mostK z r d p k < z 8 (cn (z 11 k))) → fwK z r d p (k + 1) = nI k ∧ mostK z r d p (k + 1) = z 8 (cn (z 11 k))) ∧ (¬ (z 15 k = 2 ∧ onP z k r d ∧ z 14 k ≤ p ∧ ¬ brdP z k ∧ mostK z r d p k < z 8 (cn (z 11 k))) → fwK z r d p (k + 1) = fwK z r d p k ∧ mostK z r d p (k + 1) = mostK z r d p k) := by
  have e : (fwK z r d p k < 0 ∨ z 8 (cn (z 11 (cn (fwK z r d p k)))) < z 8 (cn (z 11 k))) ↔ mostK z r d p k < z 8 (cn (z 11 k)) := by
    unfold mostK
    split
    · rename_i h
      have : (-1 : Int32) < z 8 (cn (z 11 k)) := by
        rw [Int32.lt_iff_toInt_lt]
        have h1 := Int32.le_iff_toInt_le.mp hm
        have h2 : (0 : Int32).toInt = 0 := by decide
        have h3 : (-1 : Int32).toInt = -1 := by decide
        omega
      simp [h, this]
    · rename_i h
      simp [h]
  constructor
  · rintro ⟨h1, h2, h3, h4, h5⟩
    have h6 : fwK z r d p (k + 1) = nI k := by
      rw [fwK, if_pos ⟨⟨h1, h2, h3, h4⟩, e.mpr h5⟩]
    refine ⟨h6, ?_⟩
    unfold mostK
    rw [h6, if_neg (nI_pos hk), cn_nI hk]
  · intro h
    have h6 : fwK z r d p (k + 1) = fwK z r d p k := by
      rw [fwK, if_neg]
      rintro ⟨⟨h1, h2, h3, h4⟩, h5⟩
      exact h ⟨h1, h2, h3, h4, e.mp h5⟩
    refine ⟨h6, ?_⟩
    unfold mostK
    rw [h6]
/-! ===== the class's static arrays ===== -/
def StR (X : GC) (cc : ByteArray) (own n : String) (Ts : List Cond) (t : Nat) (f : Nat → Int32) : Prop :=
  (∀ (z : St) (pc index : Nat) (lv : List (Nat × Value)) (st : List Value), decode cc pc = .ok (.getstatic index, 3) → Cond.fieldLink own index "ClimbPermits" n "[I" ∈ Ts → Go X z (pc + 3) lv (.ref t :: st) → Go X z pc lv st) ∧
  (∀ (z : St) (pc : Nat) (lv : List (Nat × Value)) (st : List Value), decode cc pc = .ok (.arraylength, 1) → Go X z (pc + 1) lv (.int 6 :: st) → Go X z pc lv (.ref t :: st)) ∧
  ∀ (z : St) (pc : Nat) (lv : List (Nat × Value)) (st : List Value) (i : Int32) (q : Nat), i = nI q → q < 6 → decode cc pc = .ok (.iaload, 1) → Go X z (pc + 1) lv (.int (f q) :: st) → Go X z pc lv (.int i :: .ref t :: st)
theorem stR {X : GC} {l : Launch} {R : Room} {cc : ByteArray} {nL : Nat} {Ts : List Cond} {own : String} {A : Nat → Prop} {P : St → Heap → Prop} {K : State → Prop} (hX : GX X l R cc nL Ts own A P K) (hE : ∀ U, K U → ExS A U) : ∃ t1 t2 t3, StR X cc own "FIRST" Ts t1 fFIRST ∧ StR X cc own "LOWEST" Ts t2 fLOW ∧ StR X cc own "HIGHEST" Ts t3 fHIGH := by
  obtain ⟨p, l', e, R', s, m, args, below, meth, c, Q, A', P', K', nL'⟩ := X
  obtain ⟨rfl, rfl, rfl, rfl, rfl, rfl, ⟨hx, hb, hml, hown, hts⟩, hK, hKM⟩ := hX
  obtain ⟨t1, t2, t3, h1, h2, h3⟩ := hE s hK
  have key : ∀ (n : String) (t : Nat) (f : Nat → Int32), stA A' n t f s → StR (p, l', e, R', s, m, args, below, meth, c, Q, A', P', K', nL') cc own n Ts t f := by
    intro n t f h
    refine ⟨fun z pc index lv st hd hl k => ?_, fun z pc lv st hd k => ?_, fun z pc lv st i q hi hq hd k => ?_⟩
    · intro H locs ls hP hS hl'
      exact va_gets hx hb h.1 hS hown (hts _ hl) (fun _ h => h) hd (k H locs ls hP hS hl')
    · intro H locs ls hP hS hl'
      exact va_tlen hx hb h.2 hS rfl hd (k H locs ls hP hS hl')
    · intro H locs ls hP hS hl'
      obtain ⟨h1, h2⟩ := nI_i hi hq (by decide)
      exact va_ti hx hb h.2 hS h1 (by rw [h2]) hd (k H locs ls hP hS hl')
  exact ⟨t1, t2, t3, key _ _ _ h1, key _ _ _ h2, key _ _ _ h3⟩
