/-! ===== the law's methods: a judgement over the class's picture, own arrays beside it; cells are counted ===== -/
def arL (i : Nat) : Nat := if i = 0 then 40 else 12
def arC (G : MG) (z : St) (i : Nat) : va_E := .inl (G.2.1 0, arL i, .inl (z (75 + i)))
def WL (na : Nat) (ar : Nat → Nat) (G : MG) (z : St) : va_W := Wl 203 G.2.2 (cfC G z) ++ Wl na ar (arC G z)
abbrev AB (B : Nat) : Nat → Prop := fun q => B ≤ q
def LG (X : GC) (B na : Nat) (ar : Nat → Nat) (G : MG) (kc kd : Nat) (z : St) (pc : Nat) (lv : List (Nat × Value)) (st : List Value) : Prop :=
  match X with
  | (p, l, e, R, s, m, args, below, meth, c, Q, _, _, _, nL) => ∀ (H : Heap) (locs : List Loc) (ls : Array Slot), va_P G.1 vwCl (WL na ar G z) H → va_D (AB B) (WL na ar G z) → B ≤ H.size → va_S (AB B) s.heap H locs → lv_has ls nL lv → W p l e R s m args below meth c H locs kc kd Q (F0 m pc ls st)
def KL (G : MG) (B : Nat) (E : State → Prop) (U : State) : Prop := (va_K G.1 vwCl (tysG G) U ∧ va_Nw (.methodLinkNest RX3 70 yX6_isDay "ClimbPermits") U ∧ ExS (AB B) U) ∧ E U
def HL (X : GC) (l : Launch) (R : Room) (cc : ByteArray) (nL : Nat) (Ts : List Cond) (own : String) (G : MG) (B : Nat) (E : State → Prop) : Prop :=
  match X with
  | (p, l', _, R', s, m, args, _, _, c, _, _, _, _, nL') => l' = l ∧ R' = R ∧ nL' = nL ∧ CallFix p m c cc nL s args Ts own ∧ KL G B E s ∧ KMv (AB B) E ∧ B ≤ s.heap.size
/-- the class's cells: apart, and not below B -/
def GB (B : Nat) (G : MG) : Prop := Ap 203 G.2.2 ∧ ∀ k, k < 203 → B ≤ G.2.2 k
theorem GB.D {B : Nat} {G : MG} (h : GB B G) (ct : Nat → va_E) : va_D (AB B) (Wl 203 G.2.2 ct) := by
  obtain ⟨h1, h2⟩ := Wl_D (ct := ct) h.1
  refine ⟨h1, fun k q hk => ?_⟩
  obtain ⟨i, hi, e⟩ := h2 k q hk
  rw [e]
  exact h.2 i hi
theorem GB.AA {B : Nat} {G : MG} (h : GB B G) {q : Nat} (hq : AA 203 G.2.2 q) : AB B q := by
  obtain ⟨i, hi, rfl⟩ := hq
  exact h.2 i hi
theorem ExS_nar {A B : Nat → Prop} {U : State} (h : ExS A U) (hAB : ∀ q, B q → A q) : ExS B U := by
  obtain ⟨t1, t2, t3, a, b, c⟩ := h
  exact ⟨t1, t2, t3, ⟨a.1.narrow hAB, a.2.narrow hAB⟩, ⟨b.1.narrow hAB, b.2.narrow hAB⟩, ⟨c.1.narrow hAB, c.2.narrow hAB⟩⟩
theorem KL_mv {G : MG} {B : Nat} {E : State → Prop} (hE : KMv (AB B) E) : KMv (AB B) (KL G B E) := fun u U h1 h2 h3 h =>
  ⟨⟨h.1.1.moved h1.alike, h.1.2.1.warmM h1, ExS_mv _ u U h1 h2 h3 h.1.2.2⟩, hE u U h1 h2 h3 h.2⟩
theorem KL.c {G : MG} {B : Nat} {E : State → Prop} {U : State} (hG : GB B G) (h : KL G B E U) : KQ G (ExC G) U := ⟨h.1.1, h.1.2.1, ExS_nar h.1.2.2 (fun _ hq => hG.AA hq)⟩
theorem va_P_app {D : va_G} {cl : List vw_C} {a b : va_W} {H : Heap} : va_P D cl (a ++ b) H ↔ va_P D cl a H ∧ va_P D cl b H := by
  constructor
  · intro h
    refine ⟨fun k q hk => h k q ?_, fun k q hk => h (a.length + k) q ?_⟩
    · rw [List.getElem?_append_left (List.getElem?_eq_some_iff.mp hk).1]; exact hk
    · rw [List.getElem?_append_right (by omega)]; simpa using hk
  · rintro ⟨h1, h2⟩ k q hk
    by_cases hlt : k < a.length
    · rw [List.getElem?_append_left hlt] at hk; exact h1 k q hk
    · rw [List.getElem?_append_right (by omega)] at hk; exact h2 _ q hk
theorem va_D_l {A : Nat → Prop} {a b : va_W} (h : va_D A (a ++ b)) : va_D A a := by
  refine ⟨fun i j p q hi hj e => h.1 i j p q ?_ ?_ e, fun k q hk => h.2 k q ?_⟩
  · rw [List.getElem?_append_left (List.getElem?_eq_some_iff.mp hi).1]; exact hi
  · rw [List.getElem?_append_left (List.getElem?_eq_some_iff.mp hj).1]; exact hj
  · rw [List.getElem?_append_left (List.getElem?_eq_some_iff.mp hk).1]; exact hk
theorem va_D_ne {A : Nat → Prop} {a b : va_W} (h : va_D A (a ++ b)) {i j : Nat} {p q : Nat × va_E} (hi : a[i]? = some p) (hj : b[j]? = some q) : p.1 ≠ q.1 := by
  intro e
  have h1 := (List.getElem?_eq_some_iff.mp hi).1
  have := h.1 i (a.length + j) p q (by rw [List.getElem?_append_left h1]; exact hi) (by rw [List.getElem?_append_right (by omega)]; simpa using hj) e
  omega
theorem Wl_len {N : Nat} {ad : Nat → Nat} {ct : Nat → va_E} : (Wl N ad ct).length = N := by simp [Wl]
theorem va_D_cg {A : Nat → Prop} {a b : va_W} (h : va_D A a) (e : a.map Prod.fst = b.map Prod.fst) : va_D A b := by
  have key : ∀ (k : Nat) (q : Nat × va_E), b[k]? = some q → ∃ p, a[k]? = some p ∧ p.1 = q.1 := by
    intro k q hk
    have h1 : (b.map Prod.fst)[k]? = some q.1 := by rw [List.getElem?_map, hk]; rfl
    rw [← e, List.getElem?_map] at h1
    cases ha : a[k]? with
    | none => rw [ha] at h1; cases h1
    | some p => rw [ha] at h1; exact ⟨p, rfl, Option.some.inj h1⟩
  refine ⟨fun i j p q hi hj hpq => ?_, fun k q hk => ?_⟩
  · obtain ⟨p', h1, e1⟩ := key i p hi
    obtain ⟨q', h2, e2⟩ := key j q hj
    exact h.1 i j p' q' h1 h2 (by rw [e1, e2]; exact hpq)
  · obtain ⟨p', h1, e1⟩ := key k q hk
    rw [← e1]; exact h.2 k p' h1
theorem Wl_fst {N : Nat} {ad : Nat → Nat} {ct : Nat → va_E} : (Wl N ad ct).map Prod.fst = (List.range N).map ad := by
  unfold Wl
  rw [List.map_map]
  rfl
theorem WL_0 {ar : Nat → Nat} {G : MG} {z : St} : WL 0 ar G z = Wl 203 G.2.2 (cfC G z) := by
  unfold WL
  exact List.append_nil _
theorem WL_at {na : Nat} {ar : Nat → Nat} {G : MG} {z : St} {k : Nat} (hk : k < na) : (WL na ar G z)[203 + k]? = some (ar k, arC G z k) := by
  unfold WL
  rw [List.getElem?_append_right (by rw [Wl_len]; omega), Wl_len, show 203 + k - 203 = k from by omega, Wl_get hk]
theorem WL_fst {na : Nat} {ar : Nat → Nat} {G : MG} {z z2 : St} : (WL na ar G z).map Prod.fst = (WL na ar G z2).map Prod.fst := by
  unfold WL
  rw [List.map_append, List.map_append, Wl_fst, Wl_fst, Wl_fst, Wl_fst]
theorem cfC_eq {G : MG} {w z : St} (h : ∀ f, f < 75 → w f = z f) : cfC G w = cfC G z := by
  funext k
  have hz : ∀ o, o < 3 → zo w o = zo z o := by
    intro o ho
    funext f i
    unfold zo
    split
    · rw [h _ (by omega)]
    · rfl
  unfold cfC
  by_cases q : k < 192
  · rw [if_pos q, if_pos q, hz _ (by omega)]
  · rw [if_neg q, if_neg q, h 60 (by decide), h 66 (by decide), h 67 (by decide), h 61 (by decide), h 62 (by decide), h 63 (by decide), h 64 (by decide), h 65 (by decide), h 69 (by decide), h 70 (by decide), h 71 (by decide), h 72 (by decide), h 73 (by decide), h 74 (by decide), h 68 (by decide)]
theorem WL_eq {na : Nat} {ar : Nat → Nat} {G : MG} {w z : St} (h : ∀ f, f < 75 → w f = z f) (h2 : ∀ i, i < na → w (75 + i) = z (75 + i)) : WL na ar G w = WL na ar G z := by
  unfold WL
  rw [cfC_eq h, Wl_congr (fun i hi => show arC G w i = arC G z i by unfold arC; rw [h2 i hi])]
/-- contracts of the law's methods -/
def CL (l : Launch) (G : MG) (B : Nat) (E : State → Prop) (y : MethodName) (ws : List Cond) (rm : Room) (vs : List Value) (z : St) (post : Int32 → St → Prop) (mc ms : Nat) : Prop :=
  Met l y ws rm (va_Pc vs (fun U => PW 203 G cfC z U.heap ∧ B ≤ U.heap.size ∧ KL G B E U)) (va_Qi post (fun z' t => PW 203 G cfC z' t.heap ∧ B ≤ t.heap.size) (AB B)) mc ms (AB B)
theorem cl_of {l : Launch} {G : MG} {B : Nat} {E : State → Prop} {y : MethodName} {ws ws' : List Cond} {rm : Room} {vs : List Value} {z : St} {cc : ByteArray} {maxL : Nat} {own : String} {ret : FieldType} {post : Int32 → St → Prop} {mc ms : Nat} (hG : GB B G) (hE : KMv (AB B) E) (hy : plainName y.cls = true) (hw : ws = Cond.code y cc maxL (some ret) :: ws') (how : y.cls = own) (hrt : ∀ v z', post v z' → narrow ret (.int v) = .int v) (hsz : (lg_sl vs).length ≤ maxL)
    (body : ∀ X : GC, HL X l rm cc maxL ws own G B E → (∀ z' pc lv v kc kd, kc ≤ mc → kd ≤ ms → decode cc pc = .ok (.ireturn, 1) → post v z' → LG X B 0 (fun _ => 0) G kc kd z' pc lv [.int v]) → LG X B 0 (fun _ => 0) G 0 0 z 0 (lv_args 0 vs) []) : CL l G B E y ws rm vs z post mc ms := by
  refine Met.ofW hy hw ?_
  intro p e s m args below meth c s₁ B0 hml hv
  obtain ⟨rfl, hP, hB, hK⟩ := hv
  have hown : s.vm.findClass own = some m.cls := by rw [← how]; exact findClass_of_methodNamed B0.named
  have hts := atoms_spec (ws := ws) B0.pre
  have hl := lv_entry vs (n := maxL) hsz
  rw [lg_entry_eq]
  refine body (p, l, e, rm, s, m, vs.toArray, below, meth, c, MQ below (va_Qi post (fun z' t => PW 203 G cfC z' t.heap ∧ B ≤ t.heap.size) (AB B)) vs.toArray s mc ms (AB B), AB B, fun _ _ => True, fun _ => True, maxL) ⟨rfl, rfl, rfl, ⟨B0.exec, B0.bytes, hml, hown, hts⟩, hK, hE, hB⟩ ?_ s.heap [] _ (by rw [WL_0]; exact hP) (by rw [WL_0]; exact hG.D _) hB va_S.rf hl
  intro z' pc lv v kc kd h1 h2 hd hpost H locs ls hP' hD' hB' hS hl'
  refine W.widen h1 h2 ?_
  exact W.zret (v := v) (ty := ret) B0.exec B0.bytes B0.returns (hrt v z' hpost) (fun t ht hW => ⟨⟨v, z', rfl, hpost, by rw [ht]; rw [WL_0] at hP'; exact hP', by rw [ht]; exact hB'⟩, hS.F ht⟩) hS.2.2 hd
section LGR
variable {X : GC} {l : Launch} {R : Room} {cc : ByteArray} {nL : Nat} {Ts : List Cond} {own : String} {G : MG} {B na kc kd : Nat} {ar : Nat → Nat} {E : State → Prop} {z : St} {pc : Nat} {lv lv' : List (Nat × Value)} {st : List Value}
theorem q_iconst (hX : HL X l R cc nL Ts own G B E) {n : Int} (v : Int32) (hd : decode cc pc = .ok (.iconst n, 1)) (hv : Int32.ofInt n = v) (k : LG X B na ar G kc kd z (pc + 1) lv (.int v :: st)) : LG X B na ar G kc kd z pc lv (st) := by
  obtain ⟨p, l', e, R', s, m, args, below, meth, c, Q, A', P', K', nL'⟩ := X
  obtain ⟨rfl, rfl, rfl, ⟨hx, hb, hml, hown, hts⟩, hK, hE⟩ := hX
  intro H locs ls hP hD hB hS hl
  exact lv_iconst hx hb hd hv (k H locs ls hP hD hB hS hl)
theorem q_bipush (hX : HL X l R cc nL Ts own G B E) {n : Int} (v : Int32) (hd : decode cc pc = .ok (.bipush n, 2)) (hv : (Int8.ofInt n).toInt32 = v) (k : LG X B na ar G kc kd z (pc + 2) lv (.int v :: st)) : LG X B na ar G kc kd z pc lv (st) := by
  obtain ⟨p, l', e, R', s, m, args, below, meth, c, Q, A', P', K', nL'⟩ := X
  obtain ⟨rfl, rfl, rfl, ⟨hx, hb, hml, hown, hts⟩, hK, hE⟩ := hX
  intro H locs ls hP hD hB hS hl
  exact lv_bipush hx hb hd hv (k H locs ls hP hD hB hS hl)
theorem q_sipush (hX : HL X l R cc nL Ts own G B E) {n : Int} (v : Int32) (hd : decode cc pc = .ok (.sipush n, 3)) (hv : (Int16.ofInt n).toInt32 = v) (k : LG X B na ar G kc kd z (pc + 3) lv (.int v :: st)) : LG X B na ar G kc kd z pc lv (st) := by
  obtain ⟨p, l', e, R', s, m, args, below, meth, c, Q, A', P', K', nL'⟩ := X
  obtain ⟨rfl, rfl, rfl, ⟨hx, hb, hml, hown, hts⟩, hK, hE⟩ := hX
  intro H locs ls hP hD hB hS hl
  exact lv_sipush hx hb hd hv (k H locs ls hP hD hB hS hl)
theorem q_lconst (hX : HL X l R cc nL Ts own G B E) {n : Fin 2} (v : Int64) (hd : decode cc pc = .ok (.lconst n, 1)) (hv : Int64.ofNat (n : Nat) = v) (k : LG X B na ar G kc kd z (pc + 1) lv (.long v :: st)) : LG X B na ar G kc kd z pc lv (st) := by
  obtain ⟨p, l', e, R', s, m, args, below, meth, c, Q, A', P', K', nL'⟩ := X
  obtain ⟨rfl, rfl, rfl, ⟨hx, hb, hml, hown, hts⟩, hK, hE⟩ := hX
  intro H locs ls hP hD hB hS hl
  exact lv_lconst hx hb hd hv (k H locs ls hP hD hB hS hl)
theorem q_ldc (hX : HL X l R cc nL Ts own G B E) {index : Nat} (v : Int32) (hd : decode cc pc = .ok (.ldc index, 2)) (hw : Cond.constant own index v ∈ Ts) (k : LG X B na ar G kc kd z (pc + 2) lv (.int v :: st)) : LG X B na ar G kc kd z pc lv (st) := by
  obtain ⟨p, l', e, R', s, m, args, below, meth, c, Q, A', P', K', nL'⟩ := X
  obtain ⟨rfl, rfl, rfl, ⟨hx, hb, hml, hown, hts⟩, hK, hE⟩ := hX
  intro H locs ls hP hD hB hS hl
  exact lv_ldc hx hb hown (hts _ hw) hd (k H locs ls hP hD hB hS hl)
theorem q_ldc2 (hX : HL X l R cc nL Ts own G B E) {index : Nat} (v : Int64) (hd : decode cc pc = .ok (.ldc2_w index, 3)) (hw : Cond.constantLong own index v ∈ Ts) (k : LG X B na ar G kc kd z (pc + 3) lv (.long v :: st)) : LG X B na ar G kc kd z pc lv (st) := by
  obtain ⟨p, l', e, R', s, m, args, below, meth, c, Q, A', P', K', nL'⟩ := X
  obtain ⟨rfl, rfl, rfl, ⟨hx, hb, hml, hown, hts⟩, hK, hE⟩ := hX
  intro H locs ls hP hD hB hS hl
  exact lv_ldc2 hx hb hown (hts _ hw) hd (k H locs ls hP hD hB hS hl)
theorem q_iload_n (hX : HL X l R cc nL Ts own G B E) {n : Fin 4} {x : Int32} (q : Nat) (hd : decode cc pc = .ok (.iload_n n, 1)) (hk : lv[q]? = some ((n : Nat), .int x)) (k : LG X B na ar G kc kd z (pc + 1) lv (.int x :: st)) : LG X B na ar G kc kd z pc lv (st) := by
  obtain ⟨p, l', e, R', s, m, args, below, meth, c, Q, A', P', K', nL'⟩ := X
  obtain ⟨rfl, rfl, rfl, ⟨hx, hb, hml, hown, hts⟩, hK, hE⟩ := hX
  intro H locs ls hP hD hB hS hl
  exact lv_iload_n hx hb hd rfl (lv_at hl q hk) (k H locs ls hP hD hB hS hl)
theorem q_iload (hX : HL X l R cc nL Ts own G B E) {i : Nat} {x : Int32} (q : Nat) (hd : decode cc pc = .ok (.iload i, 2)) (hk : lv[q]? = some (i, .int x)) (k : LG X B na ar G kc kd z (pc + 2) lv (.int x :: st)) : LG X B na ar G kc kd z pc lv (st) := by
  obtain ⟨p, l', e, R', s, m, args, below, meth, c, Q, A', P', K', nL'⟩ := X
  obtain ⟨rfl, rfl, rfl, ⟨hx, hb, hml, hown, hts⟩, hK, hE⟩ := hX
  intro H locs ls hP hD hB hS hl
  exact lv_iload hx hb hd (lv_at hl q hk) (k H locs ls hP hD hB hS hl)
theorem q_lload_n (hX : HL X l R cc nL Ts own G B E) {n : Fin 4} {x : Int64} (q : Nat) (hd : decode cc pc = .ok (.lload_n n, 1)) (hk : lv[q]? = some ((n : Nat), .long x)) (k : LG X B na ar G kc kd z (pc + 1) lv (.long x :: st)) : LG X B na ar G kc kd z pc lv (st) := by
  obtain ⟨p, l', e, R', s, m, args, below, meth, c, Q, A', P', K', nL'⟩ := X
  obtain ⟨rfl, rfl, rfl, ⟨hx, hb, hml, hown, hts⟩, hK, hE⟩ := hX
  intro H locs ls hP hD hB hS hl
  exact lv_lload_n hx hb hd rfl (lv_at hl q hk) (k H locs ls hP hD hB hS hl)
theorem q_lload (hX : HL X l R cc nL Ts own G B E) {i : Nat} {x : Int64} (q : Nat) (hd : decode cc pc = .ok (.lload i, 2)) (hk : lv[q]? = some (i, .long x)) (k : LG X B na ar G kc kd z (pc + 2) lv (.long x :: st)) : LG X B na ar G kc kd z pc lv (st) := by
  obtain ⟨p, l', e, R', s, m, args, below, meth, c, Q, A', P', K', nL'⟩ := X
  obtain ⟨rfl, rfl, rfl, ⟨hx, hb, hml, hown, hts⟩, hK, hE⟩ := hX
  intro H locs ls hP hD hB hS hl
  exact lv_lload hx hb hd (lv_at hl q hk) (k H locs ls hP hD hB hS hl)
theorem q_aload_n (hX : HL X l R cc nL Ts own G B E) {n : Fin 4} {x : Nat} (q : Nat) (hd : decode cc pc = .ok (.aload_n n, 1)) (hk : lv[q]? = some ((n : Nat), .ref x)) (k : LG X B na ar G kc kd z (pc + 1) lv (.ref x :: st)) : LG X B na ar G kc kd z pc lv (st) := by
  obtain ⟨p, l', e, R', s, m, args, below, meth, c, Q, A', P', K', nL'⟩ := X
  obtain ⟨rfl, rfl, rfl, ⟨hx, hb, hml, hown, hts⟩, hK, hE⟩ := hX
  intro H locs ls hP hD hB hS hl
  exact lv_aload_n hx hb hd rfl (lv_at hl q hk) (k H locs ls hP hD hB hS hl)
theorem q_aload (hX : HL X l R cc nL Ts own G B E) {i : Nat} {x : Nat} (q : Nat) (hd : decode cc pc = .ok (.aload i, 2)) (hk : lv[q]? = some (i, .ref x)) (k : LG X B na ar G kc kd z (pc + 2) lv (.ref x :: st)) : LG X B na ar G kc kd z pc lv (st) := by
  obtain ⟨p, l', e, R', s, m, args, below, meth, c, Q, A', P', K', nL'⟩ := X
  obtain ⟨rfl, rfl, rfl, ⟨hx, hb, hml, hown, hts⟩, hK, hE⟩ := hX
  intro H locs ls hP hD hB hS hl
  exact lv_aload hx hb hd (lv_at hl q hk) (k H locs ls hP hD hB hS hl)
theorem q_istore_n (hX : HL X l R cc nL Ts own G B E) {n : Fin 4} {x : Int32} (lv2 : List (Nat × Value)) (hd : decode cc pc = .ok (.istore_n n, 1)) (hn : (n : Nat) < nL) (hl2 : ((n : Nat), Value.int x) :: lv.filter (fun q => !(q.1 == (n : Nat)) && !(q.1 + 1 == (n : Nat) && q.2.category == 2)) = lv2) (k : LG X B na ar G kc kd z (pc + 1) lv2 (st)) : LG X B na ar G kc kd z pc lv (.int x :: st) := by
  obtain ⟨p, l', e, R', s, m, args, below, meth, c, Q, A', P', K', nL'⟩ := X
  obtain ⟨rfl, rfl, rfl, ⟨hx, hb, hml, hown, hts⟩, hK, hE⟩ := hX
  intro H locs ls hP hD hB hS hl
  exact lv_istore_n hx hb hd rfl hl hn hl2 (fun ls1 hl1 => k H locs ls1 hP hD hB hS hl1)
theorem q_istore (hX : HL X l R cc nL Ts own G B E) {i : Nat} {x : Int32} (lv2 : List (Nat × Value)) (hd : decode cc pc = .ok (.istore i, 2)) (hn : i < nL) (hl2 : (i, Value.int x) :: lv.filter (fun q => !(q.1 == i) && !(q.1 + 1 == i && q.2.category == 2)) = lv2) (k : LG X B na ar G kc kd z (pc + 2) lv2 (st)) : LG X B na ar G kc kd z pc lv (.int x :: st) := by
  obtain ⟨p, l', e, R', s, m, args, below, meth, c, Q, A', P', K', nL'⟩ := X
  obtain ⟨rfl, rfl, rfl, ⟨hx, hb, hml, hown, hts⟩, hK, hE⟩ := hX
  intro H locs ls hP hD hB hS hl
  exact lv_istore hx hb hd hl hn hl2 (fun ls1 hl1 => k H locs ls1 hP hD hB hS hl1)
theorem q_lstore_n (hX : HL X l R cc nL Ts own G B E) {n : Fin 4} {x : Int64} (lv2 : List (Nat × Value)) (hd : decode cc pc = .ok (.lstore_n n, 1)) (hn : (n : Nat) + 1 < nL) (hl2 : ((n : Nat), Value.long x) :: lv.filter (fun q => !(q.1 == (n : Nat)) && (!(q.1 == (n : Nat) + 1) && !(q.1 + 1 == (n : Nat) && q.2.category == 2))) = lv2) (k : LG X B na ar G kc kd z (pc + 1) lv2 (st)) : LG X B na ar G kc kd z pc lv (.long x :: st) := by
  obtain ⟨p, l', e, R', s, m, args, below, meth, c, Q, A', P', K', nL'⟩ := X
  obtain ⟨rfl, rfl, rfl, ⟨hx, hb, hml, hown, hts⟩, hK, hE⟩ := hX
  intro H locs ls hP hD hB hS hl
  exact lv_lstore_n hx hb hd rfl hl hn hl2 (fun ls1 hl1 => k H locs ls1 hP hD hB hS hl1)
theorem q_lstore (hX : HL X l R cc nL Ts own G B E) {i : Nat} {x : Int64} (lv2 : List (Nat × Value)) (hd : decode cc pc = .ok (.lstore i, 2)) (hn : i + 1 < nL) (hl2 : (i, Value.long x) :: lv.filter (fun q => !(q.1 == i) && (!(q.1 == i + 1) && !(q.1 + 1 == i && q.2.category == 2))) = lv2) (k : LG X B na ar G kc kd z (pc + 2) lv2 (st)) : LG X B na ar G kc kd z pc lv (.long x :: st) := by
  obtain ⟨p, l', e, R', s, m, args, below, meth, c, Q, A', P', K', nL'⟩ := X
  obtain ⟨rfl, rfl, rfl, ⟨hx, hb, hml, hown, hts⟩, hK, hE⟩ := hX
  intro H locs ls hP hD hB hS hl
  exact lv_lstore hx hb hd hl hn hl2 (fun ls1 hl1 => k H locs ls1 hP hD hB hS hl1)
theorem q_astore_n (hX : HL X l R cc nL Ts own G B E) {n : Fin 4} {x : Nat} (lv2 : List (Nat × Value)) (hd : decode cc pc = .ok (.astore_n n, 1)) (hn : (n : Nat) < nL) (hl2 : ((n : Nat), Value.ref x) :: lv.filter (fun q => !(q.1 == (n : Nat)) && !(q.1 + 1 == (n : Nat) && q.2.category == 2)) = lv2) (k : LG X B na ar G kc kd z (pc + 1) lv2 (st)) : LG X B na ar G kc kd z pc lv (.ref x :: st) := by
  obtain ⟨p, l', e, R', s, m, args, below, meth, c, Q, A', P', K', nL'⟩ := X
  obtain ⟨rfl, rfl, rfl, ⟨hx, hb, hml, hown, hts⟩, hK, hE⟩ := hX
  intro H locs ls hP hD hB hS hl
  exact lv_astore_n hx hb hd rfl hl hn hl2 (fun ls1 hl1 => k H locs ls1 hP hD hB hS hl1)
theorem q_astore (hX : HL X l R cc nL Ts own G B E) {i : Nat} {x : Nat} (lv2 : List (Nat × Value)) (hd : decode cc pc = .ok (.astore i, 2)) (hn : i < nL) (hl2 : (i, Value.ref x) :: lv.filter (fun q => !(q.1 == i) && !(q.1 + 1 == i && q.2.category == 2)) = lv2) (k : LG X B na ar G kc kd z (pc + 2) lv2 (st)) : LG X B na ar G kc kd z pc lv (.ref x :: st) := by
  obtain ⟨p, l', e, R', s, m, args, below, meth, c, Q, A', P', K', nL'⟩ := X
  obtain ⟨rfl, rfl, rfl, ⟨hx, hb, hml, hown, hts⟩, hK, hE⟩ := hX
  intro H locs ls hP hD hB hS hl
  exact lv_astore hx hb hd hl hn hl2 (fun ls1 hl1 => k H locs ls1 hP hD hB hS hl1)
theorem q_iinc (hX : HL X l R cc nL Ts own G B E) {i : Nat} {n : Int} {x : Int32} (v : Int32) (q : Nat) (lv2 : List (Nat × Value)) (hd : decode cc pc = .ok (.iinc i n, 3)) (hk : lv[q]? = some (i, .int x)) (hv : x + Int32.ofInt n = v) (hn : i < nL) (hl2 : (i, Value.int v) :: lv.filter (fun q => !(q.1 == i) && !(q.1 + 1 == i && q.2.category == 2)) = lv2) (k : LG X B na ar G kc kd z (pc + 3) lv2 (st)) : LG X B na ar G kc kd z pc lv (st) := by
  obtain ⟨p, l', e, R', s, m, args, below, meth, c, Q, A', P', K', nL'⟩ := X
  obtain ⟨rfl, rfl, rfl, ⟨hx, hb, hml, hown, hts⟩, hK, hE⟩ := hX
  intro H locs ls hP hD hB hS hl
  exact lv_iinc hx hb hd hl hk hv hn hl2 (fun ls1 hl1 => k H locs ls1 hP hD hB hS hl1)
theorem q_iadd (hX : HL X l R cc nL Ts own G B E) {x y : Int32} (hd : decode cc pc = .ok (.iadd, 1)) (k : LG X B na ar G kc kd z (pc + 1) lv (.int (x + y) :: st)) : LG X B na ar G kc kd z pc lv (.int y :: .int x :: st) := by
  obtain ⟨p, l', e, R', s, m, args, below, meth, c, Q, A', P', K', nL'⟩ := X
  obtain ⟨rfl, rfl, rfl, ⟨hx, hb, hml, hown, hts⟩, hK, hE⟩ := hX
  intro H locs ls hP hD hB hS hl
  exact lv_iadd hx hb hd (k H locs ls hP hD hB hS hl)
theorem q_ladd (hX : HL X l R cc nL Ts own G B E) {x y : Int64} (hd : decode cc pc = .ok (.ladd, 1)) (k : LG X B na ar G kc kd z (pc + 1) lv (.long (x + y) :: st)) : LG X B na ar G kc kd z pc lv (.long y :: .long x :: st) := by
  obtain ⟨p, l', e, R', s, m, args, below, meth, c, Q, A', P', K', nL'⟩ := X
  obtain ⟨rfl, rfl, rfl, ⟨hx, hb, hml, hown, hts⟩, hK, hE⟩ := hX
  intro H locs ls hP hD hB hS hl
  exact lv_ladd hx hb hd (k H locs ls hP hD hB hS hl)
theorem q_isub (hX : HL X l R cc nL Ts own G B E) {x y : Int32} (hd : decode cc pc = .ok (.isub, 1)) (k : LG X B na ar G kc kd z (pc + 1) lv (.int (x - y) :: st)) : LG X B na ar G kc kd z pc lv (.int y :: .int x :: st) := by
  obtain ⟨p, l', e, R', s, m, args, below, meth, c, Q, A', P', K', nL'⟩ := X
  obtain ⟨rfl, rfl, rfl, ⟨hx, hb, hml, hown, hts⟩, hK, hE⟩ := hX
  intro H locs ls hP hD hB hS hl
  exact lv_isub hx hb hd (k H locs ls hP hD hB hS hl)
theorem q_lsub (hX : HL X l R cc nL Ts own G B E) {x y : Int64} (hd : decode cc pc = .ok (.lsub, 1)) (k : LG X B na ar G kc kd z (pc + 1) lv (.long (x - y) :: st)) : LG X B na ar G kc kd z pc lv (.long y :: .long x :: st) := by
  obtain ⟨p, l', e, R', s, m, args, below, meth, c, Q, A', P', K', nL'⟩ := X
  obtain ⟨rfl, rfl, rfl, ⟨hx, hb, hml, hown, hts⟩, hK, hE⟩ := hX
  intro H locs ls hP hD hB hS hl
  exact lv_lsub hx hb hd (k H locs ls hP hD hB hS hl)
theorem q_imul (hX : HL X l R cc nL Ts own G B E) {x y : Int32} (hd : decode cc pc = .ok (.imul, 1)) (k : LG X B na ar G kc kd z (pc + 1) lv (.int (x * y) :: st)) : LG X B na ar G kc kd z pc lv (.int y :: .int x :: st) := by
  obtain ⟨p, l', e, R', s, m, args, below, meth, c, Q, A', P', K', nL'⟩ := X
  obtain ⟨rfl, rfl, rfl, ⟨hx, hb, hml, hown, hts⟩, hK, hE⟩ := hX
  intro H locs ls hP hD hB hS hl
  exact lv_imul hx hb hd (k H locs ls hP hD hB hS hl)
theorem q_lmul (hX : HL X l R cc nL Ts own G B E) {x y : Int64} (hd : decode cc pc = .ok (.lmul, 1)) (k : LG X B na ar G kc kd z (pc + 1) lv (.long (x * y) :: st)) : LG X B na ar G kc kd z pc lv (.long y :: .long x :: st) := by
  obtain ⟨p, l', e, R', s, m, args, below, meth, c, Q, A', P', K', nL'⟩ := X
  obtain ⟨rfl, rfl, rfl, ⟨hx, hb, hml, hown, hts⟩, hK, hE⟩ := hX
  intro H locs ls hP hD hB hS hl
  exact lv_lmul hx hb hd (k H locs ls hP hD hB hS hl)
theorem q_iand (hX : HL X l R cc nL Ts own G B E) {x y : Int32} (hd : decode cc pc = .ok (.iand, 1)) (k : LG X B na ar G kc kd z (pc + 1) lv (.int (x &&& y) :: st)) : LG X B na ar G kc kd z pc lv (.int y :: .int x :: st) := by
  obtain ⟨p, l', e, R', s, m, args, below, meth, c, Q, A', P', K', nL'⟩ := X
  obtain ⟨rfl, rfl, rfl, ⟨hx, hb, hml, hown, hts⟩, hK, hE⟩ := hX
  intro H locs ls hP hD hB hS hl
  exact lv_iand hx hb hd (k H locs ls hP hD hB hS hl)
theorem q_land (hX : HL X l R cc nL Ts own G B E) {x y : Int64} (hd : decode cc pc = .ok (.land, 1)) (k : LG X B na ar G kc kd z (pc + 1) lv (.long (x &&& y) :: st)) : LG X B na ar G kc kd z pc lv (.long y :: .long x :: st) := by
  obtain ⟨p, l', e, R', s, m, args, below, meth, c, Q, A', P', K', nL'⟩ := X
  obtain ⟨rfl, rfl, rfl, ⟨hx, hb, hml, hown, hts⟩, hK, hE⟩ := hX
  intro H locs ls hP hD hB hS hl
  exact lv_land hx hb hd (k H locs ls hP hD hB hS hl)
theorem q_ior (hX : HL X l R cc nL Ts own G B E) {x y : Int32} (hd : decode cc pc = .ok (.ior, 1)) (k : LG X B na ar G kc kd z (pc + 1) lv (.int (x ||| y) :: st)) : LG X B na ar G kc kd z pc lv (.int y :: .int x :: st) := by
  obtain ⟨p, l', e, R', s, m, args, below, meth, c, Q, A', P', K', nL'⟩ := X
  obtain ⟨rfl, rfl, rfl, ⟨hx, hb, hml, hown, hts⟩, hK, hE⟩ := hX
  intro H locs ls hP hD hB hS hl
  exact lv_ior hx hb hd (k H locs ls hP hD hB hS hl)
theorem q_lor (hX : HL X l R cc nL Ts own G B E) {x y : Int64} (hd : decode cc pc = .ok (.lor, 1)) (k : LG X B na ar G kc kd z (pc + 1) lv (.long (x ||| y) :: st)) : LG X B na ar G kc kd z pc lv (.long y :: .long x :: st) := by
  obtain ⟨p, l', e, R', s, m, args, below, meth, c, Q, A', P', K', nL'⟩ := X
  obtain ⟨rfl, rfl, rfl, ⟨hx, hb, hml, hown, hts⟩, hK, hE⟩ := hX
  intro H locs ls hP hD hB hS hl
  exact lv_lor hx hb hd (k H locs ls hP hD hB hS hl)
theorem q_ixor (hX : HL X l R cc nL Ts own G B E) {x y : Int32} (hd : decode cc pc = .ok (.ixor, 1)) (k : LG X B na ar G kc kd z (pc + 1) lv (.int (x ^^^ y) :: st)) : LG X B na ar G kc kd z pc lv (.int y :: .int x :: st) := by
  obtain ⟨p, l', e, R', s, m, args, below, meth, c, Q, A', P', K', nL'⟩ := X
  obtain ⟨rfl, rfl, rfl, ⟨hx, hb, hml, hown, hts⟩, hK, hE⟩ := hX
  intro H locs ls hP hD hB hS hl
  exact lv_ixor hx hb hd (k H locs ls hP hD hB hS hl)
theorem q_lxor (hX : HL X l R cc nL Ts own G B E) {x y : Int64} (hd : decode cc pc = .ok (.lxor, 1)) (k : LG X B na ar G kc kd z (pc + 1) lv (.long (x ^^^ y) :: st)) : LG X B na ar G kc kd z pc lv (.long y :: .long x :: st) := by
  obtain ⟨p, l', e, R', s, m, args, below, meth, c, Q, A', P', K', nL'⟩ := X
  obtain ⟨rfl, rfl, rfl, ⟨hx, hb, hml, hown, hts⟩, hK, hE⟩ := hX
  intro H locs ls hP hD hB hS hl
  exact lv_lxor hx hb hd (k H locs ls hP hD hB hS hl)
theorem q_idiv (hX : HL X l R cc nL Ts own G B E) {x y : Int32} (hd : decode cc pc = .ok (.idiv, 1)) (hne : ¬ y = 0) (k : LG X B na ar G kc kd z (pc + 1) lv (.int (x / y) :: st)) : LG X B na ar G kc kd z pc lv (.int y :: .int x :: st) := by
  obtain ⟨p, l', e, R', s, m, args, below, meth, c, Q, A', P', K', nL'⟩ := X
  obtain ⟨rfl, rfl, rfl, ⟨hx, hb, hml, hown, hts⟩, hK, hE⟩ := hX
  intro H locs ls hP hD hB hS hl
  exact lv_idiv hx hb hd hne (k H locs ls hP hD hB hS hl)
theorem q_irem (hX : HL X l R cc nL Ts own G B E) {x y : Int32} (hd : decode cc pc = .ok (.irem, 1)) (hne : ¬ y = 0) (k : LG X B na ar G kc kd z (pc + 1) lv (.int (x - x / y * y) :: st)) : LG X B na ar G kc kd z pc lv (.int y :: .int x :: st) := by
  obtain ⟨p, l', e, R', s, m, args, below, meth, c, Q, A', P', K', nL'⟩ := X
  obtain ⟨rfl, rfl, rfl, ⟨hx, hb, hml, hown, hts⟩, hK, hE⟩ := hX
  intro H locs ls hP hD hB hS hl
  exact lv_irem hx hb hd hne (k H locs ls hP hD hB hS hl)
theorem q_ldiv (hX : HL X l R cc nL Ts own G B E) {x y : Int64} (hd : decode cc pc = .ok (.ldiv, 1)) (hne : ¬ y = 0) (k : LG X B na ar G kc kd z (pc + 1) lv (.long (x / y) :: st)) : LG X B na ar G kc kd z pc lv (.long y :: .long x :: st) := by
  obtain ⟨p, l', e, R', s, m, args, below, meth, c, Q, A', P', K', nL'⟩ := X
  obtain ⟨rfl, rfl, rfl, ⟨hx, hb, hml, hown, hts⟩, hK, hE⟩ := hX
  intro H locs ls hP hD hB hS hl
  exact lv_ldiv hx hb hd hne (k H locs ls hP hD hB hS hl)
theorem q_i2l (hX : HL X l R cc nL Ts own G B E) {x : Int32} (hd : decode cc pc = .ok (.i2l, 1)) (k : LG X B na ar G kc kd z (pc + 1) lv (.long x.toInt64 :: st)) : LG X B na ar G kc kd z pc lv (.int x :: st) := by
  obtain ⟨p, l', e, R', s, m, args, below, meth, c, Q, A', P', K', nL'⟩ := X
  obtain ⟨rfl, rfl, rfl, ⟨hx, hb, hml, hown, hts⟩, hK, hE⟩ := hX
  intro H locs ls hP hD hB hS hl
  exact lv_i2l hx hb hd rfl (k H locs ls hP hD hB hS hl)
theorem q_l2i (hX : HL X l R cc nL Ts own G B E) {x : Int64} (hd : decode cc pc = .ok (.l2i, 1)) (k : LG X B na ar G kc kd z (pc + 1) lv (.int x.toInt32 :: st)) : LG X B na ar G kc kd z pc lv (.long x :: st) := by
  obtain ⟨p, l', e, R', s, m, args, below, meth, c, Q, A', P', K', nL'⟩ := X
  obtain ⟨rfl, rfl, rfl, ⟨hx, hb, hml, hown, hts⟩, hK, hE⟩ := hX
  intro H locs ls hP hD hB hS hl
  exact lv_l2i hx hb hd rfl (k H locs ls hP hD hB hS hl)
theorem q_lshl (hX : HL X l R cc nL Ts own G B E) {x : Int64} {y : Int32} (hd : decode cc pc = .ok (.lshl, 1)) (k : LG X B na ar G kc kd z (pc + 1) lv (.long (x <<< (y.toInt64 &&& 63)) :: st)) : LG X B na ar G kc kd z pc lv (.int y :: .long x :: st) := by
  obtain ⟨p, l', e, R', s, m, args, below, meth, c, Q, A', P', K', nL'⟩ := X
  obtain ⟨rfl, rfl, rfl, ⟨hx, hb, hml, hown, hts⟩, hK, hE⟩ := hX
  intro H locs ls hP hD hB hS hl
  exact lv_lshl hx hb hd rfl (k H locs ls hP hD hB hS hl)
theorem q_lshr (hX : HL X l R cc nL Ts own G B E) {x : Int64} {y : Int32} (hd : decode cc pc = .ok (.lshr, 1)) (k : LG X B na ar G kc kd z (pc + 1) lv (.long (x >>> (y.toInt64 &&& 63)) :: st)) : LG X B na ar G kc kd z pc lv (.int y :: .long x :: st) := by
  obtain ⟨p, l', e, R', s, m, args, below, meth, c, Q, A', P', K', nL'⟩ := X
  obtain ⟨rfl, rfl, rfl, ⟨hx, hb, hml, hown, hts⟩, hK, hE⟩ := hX
  intro H locs ls hP hD hB hS hl
  exact lv_lshr hx hb hd rfl (k H locs ls hP hD hB hS hl)
theorem q_dup (hX : HL X l R cc nL Ts own G B E) {va : Value} (hd : decode cc pc = .ok (.dup, 1)) (h1 : va.category = 1) (k : LG X B na ar G kc kd z (pc + 1) lv (va :: va :: st)) : LG X B na ar G kc kd z pc lv (va :: st) := by
  obtain ⟨p, l', e, R', s, m, args, below, meth, c, Q, A', P', K', nL'⟩ := X
  obtain ⟨rfl, rfl, rfl, ⟨hx, hb, hml, hown, hts⟩, hK, hE⟩ := hX
  intro H locs ls hP hD hB hS hl
  exact lv_dup hx hb hd h1 (k H locs ls hP hD hB hS hl)
theorem q_pop (hX : HL X l R cc nL Ts own G B E) {va : Value} (hd : decode cc pc = .ok (.pop, 1)) (h1 : va.category = 1) (k : LG X B na ar G kc kd z (pc + 1) lv (st)) : LG X B na ar G kc kd z pc lv (va :: st) := by
  obtain ⟨p, l', e, R', s, m, args, below, meth, c, Q, A', P', K', nL'⟩ := X
  obtain ⟨rfl, rfl, rfl, ⟨hx, hb, hml, hown, hts⟩, hK, hE⟩ := hX
  intro H locs ls hP hD hB hS hl
  exact lv_pop hx hb hd h1 (k H locs ls hP hD hB hS hl)
theorem q_dup2 (hX : HL X l R cc nL Ts own G B E) {va vb : Value} (hd : decode cc pc = .ok (.dup2, 1)) (h1 : va.category = 1) (h2 : vb.category = 1) (k : LG X B na ar G kc kd z (pc + 1) lv (va :: vb :: va :: vb :: st)) : LG X B na ar G kc kd z pc lv (va :: vb :: st) := by
  obtain ⟨p, l', e, R', s, m, args, below, meth, c, Q, A', P', K', nL'⟩ := X
  obtain ⟨rfl, rfl, rfl, ⟨hx, hb, hml, hown, hts⟩, hK, hE⟩ := hX
  intro H locs ls hP hD hB hS hl
  exact lv_dup2_11 hx hb hd h1 h2 (k H locs ls hP hD hB hS hl)
theorem q_goto (hX : HL X l R cc nL Ts own G B E) {off : Int} (tgt : Nat) (hd : decode cc pc = .ok (.goto off, 3)) (ht : (pc : Int) + off = (tgt : Int)) (k : LG X B na ar G kc kd z (tgt) lv (st)) : LG X B na ar G kc kd z pc lv (st) := by
  obtain ⟨p, l', e, R', s, m, args, below, meth, c, Q, A', P', K', nL'⟩ := X
  obtain ⟨rfl, rfl, rfl, ⟨hx, hb, hml, hown, hts⟩, hK, hE⟩ := hX
  intro H locs ls hP hD hB hS hl
  exact lv_goto hx hb hd ht (k H locs ls hP hD hB hS hl)
theorem q_if_eq (hX : HL X l R cc nL Ts own G B E) {x : Int32} {off : Int} (tgt : Nat) (hd : decode cc pc = .ok (.ifCond .eq off, 3)) (ht : (pc : Int) + off = (tgt : Int)) (kt : x = 0 → LG X B na ar G kc kd z tgt lv st) (kf : ¬ (x = 0) → LG X B na ar G kc kd z (pc + 3) lv st) : LG X B na ar G kc kd z pc lv (.int x :: st) := by
  obtain ⟨p, l', e, R', s, m, args, below, meth, c, Q, A', P', K', nL'⟩ := X
  obtain ⟨rfl, rfl, rfl, ⟨hx, hb, hml, hown, hts⟩, hK, hE⟩ := hX
  intro H locs ls hP hD hB hS hl
  exact lv_if_eq hx hb hd ht (fun q => kt q H locs ls hP hD hB hS hl) (fun q => kf (by simpa using q) H locs ls hP hD hB hS hl)
theorem q_ic_eq (hX : HL X l R cc nL Ts own G B E) {x y : Int32} {off : Int} (tgt : Nat) (hd : decode cc pc = .ok (.if_icmp .eq off, 3)) (ht : (pc : Int) + off = (tgt : Int)) (kt : x = y → LG X B na ar G kc kd z tgt lv st) (kf : ¬ (x = y) → LG X B na ar G kc kd z (pc + 3) lv st) : LG X B na ar G kc kd z pc lv (.int y :: .int x :: st) := by
  obtain ⟨p, l', e, R', s, m, args, below, meth, c, Q, A', P', K', nL'⟩ := X
  obtain ⟨rfl, rfl, rfl, ⟨hx, hb, hml, hown, hts⟩, hK, hE⟩ := hX
  intro H locs ls hP hD hB hS hl
  exact lv_icmp_eq hx hb hd ht (fun q => kt q H locs ls hP hD hB hS hl) (fun q => kf (by simpa using q) H locs ls hP hD hB hS hl)
theorem q_if_ne (hX : HL X l R cc nL Ts own G B E) {x : Int32} {off : Int} (tgt : Nat) (hd : decode cc pc = .ok (.ifCond .ne off, 3)) (ht : (pc : Int) + off = (tgt : Int)) (kt : ¬ x = 0 → LG X B na ar G kc kd z tgt lv st) (kf : ¬ (¬ x = 0) → LG X B na ar G kc kd z (pc + 3) lv st) : LG X B na ar G kc kd z pc lv (.int x :: st) := by
  obtain ⟨p, l', e, R', s, m, args, below, meth, c, Q, A', P', K', nL'⟩ := X
  obtain ⟨rfl, rfl, rfl, ⟨hx, hb, hml, hown, hts⟩, hK, hE⟩ := hX
  intro H locs ls hP hD hB hS hl
  exact lv_if_ne hx hb hd ht (fun q => kt q H locs ls hP hD hB hS hl) (fun q => kf (by simpa using q) H locs ls hP hD hB hS hl)
theorem q_ic_ne (hX : HL X l R cc nL Ts own G B E) {x y : Int32} {off : Int} (tgt : Nat) (hd : decode cc pc = .ok (.if_icmp .ne off, 3)) (ht : (pc : Int) + off = (tgt : Int)) (kt : ¬ x = y → LG X B na ar G kc kd z tgt lv st) (kf : ¬ (¬ x = y) → LG X B na ar G kc kd z (pc + 3) lv st) : LG X B na ar G kc kd z pc lv (.int y :: .int x :: st) := by
  obtain ⟨p, l', e, R', s, m, args, below, meth, c, Q, A', P', K', nL'⟩ := X
  obtain ⟨rfl, rfl, rfl, ⟨hx, hb, hml, hown, hts⟩, hK, hE⟩ := hX
  intro H locs ls hP hD hB hS hl
  exact lv_icmp_ne hx hb hd ht (fun q => kt q H locs ls hP hD hB hS hl) (fun q => kf (by simpa using q) H locs ls hP hD hB hS hl)
theorem q_if_lt (hX : HL X l R cc nL Ts own G B E) {x : Int32} {off : Int} (tgt : Nat) (hd : decode cc pc = .ok (.ifCond .lt off, 3)) (ht : (pc : Int) + off = (tgt : Int)) (kt : x < 0 → LG X B na ar G kc kd z tgt lv st) (kf : ¬ (x < 0) → LG X B na ar G kc kd z (pc + 3) lv st) : LG X B na ar G kc kd z pc lv (.int x :: st) := by
  obtain ⟨p, l', e, R', s, m, args, below, meth, c, Q, A', P', K', nL'⟩ := X
  obtain ⟨rfl, rfl, rfl, ⟨hx, hb, hml, hown, hts⟩, hK, hE⟩ := hX
  intro H locs ls hP hD hB hS hl
  exact lv_if_lt hx hb hd ht (fun q => kt q H locs ls hP hD hB hS hl) (fun q => kf (by simpa using q) H locs ls hP hD hB hS hl)
theorem q_ic_lt (hX : HL X l R cc nL Ts own G B E) {x y : Int32} {off : Int} (tgt : Nat) (hd : decode cc pc = .ok (.if_icmp .lt off, 3)) (ht : (pc : Int) + off = (tgt : Int)) (kt : x < y → LG X B na ar G kc kd z tgt lv st) (kf : ¬ (x < y) → LG X B na ar G kc kd z (pc + 3) lv st) : LG X B na ar G kc kd z pc lv (.int y :: .int x :: st) := by
  obtain ⟨p, l', e, R', s, m, args, below, meth, c, Q, A', P', K', nL'⟩ := X
  obtain ⟨rfl, rfl, rfl, ⟨hx, hb, hml, hown, hts⟩, hK, hE⟩ := hX
  intro H locs ls hP hD hB hS hl
  exact lv_icmp_lt hx hb hd ht (fun q => kt q H locs ls hP hD hB hS hl) (fun q => kf (by simpa using q) H locs ls hP hD hB hS hl)
theorem q_if_ge (hX : HL X l R cc nL Ts own G B E) {x : Int32} {off : Int} (tgt : Nat) (hd : decode cc pc = .ok (.ifCond .ge off, 3)) (ht : (pc : Int) + off = (tgt : Int)) (kt : 0 ≤ x → LG X B na ar G kc kd z tgt lv st) (kf : ¬ (0 ≤ x) → LG X B na ar G kc kd z (pc + 3) lv st) : LG X B na ar G kc kd z pc lv (.int x :: st) := by
  obtain ⟨p, l', e, R', s, m, args, below, meth, c, Q, A', P', K', nL'⟩ := X
  obtain ⟨rfl, rfl, rfl, ⟨hx, hb, hml, hown, hts⟩, hK, hE⟩ := hX
  intro H locs ls hP hD hB hS hl
  exact lv_if_ge hx hb hd ht (fun q => kt q H locs ls hP hD hB hS hl) (fun q => kf (by simpa using q) H locs ls hP hD hB hS hl)
theorem q_ic_ge (hX : HL X l R cc nL Ts own G B E) {x y : Int32} {off : Int} (tgt : Nat) (hd : decode cc pc = .ok (.if_icmp .ge off, 3)) (ht : (pc : Int) + off = (tgt : Int)) (kt : y ≤ x → LG X B na ar G kc kd z tgt lv st) (kf : ¬ (y ≤ x) → LG X B na ar G kc kd z (pc + 3) lv st) : LG X B na ar G kc kd z pc lv (.int y :: .int x :: st) := by
  obtain ⟨p, l', e, R', s, m, args, below, meth, c, Q, A', P', K', nL'⟩ := X
  obtain ⟨rfl, rfl, rfl, ⟨hx, hb, hml, hown, hts⟩, hK, hE⟩ := hX
  intro H locs ls hP hD hB hS hl
  exact lv_icmp_ge hx hb hd ht (fun q => kt q H locs ls hP hD hB hS hl) (fun q => kf (by simpa using q) H locs ls hP hD hB hS hl)
theorem q_if_gt (hX : HL X l R cc nL Ts own G B E) {x : Int32} {off : Int} (tgt : Nat) (hd : decode cc pc = .ok (.ifCond .gt off, 3)) (ht : (pc : Int) + off = (tgt : Int)) (kt : 0 < x → LG X B na ar G kc kd z tgt lv st) (kf : ¬ (0 < x) → LG X B na ar G kc kd z (pc + 3) lv st) : LG X B na ar G kc kd z pc lv (.int x :: st) := by
  obtain ⟨p, l', e, R', s, m, args, below, meth, c, Q, A', P', K', nL'⟩ := X
  obtain ⟨rfl, rfl, rfl, ⟨hx, hb, hml, hown, hts⟩, hK, hE⟩ := hX
  intro H locs ls hP hD hB hS hl
  exact lv_if_gt hx hb hd ht (fun q => kt q H locs ls hP hD hB hS hl) (fun q => kf (by simpa using q) H locs ls hP hD hB hS hl)
theorem q_ic_gt (hX : HL X l R cc nL Ts own G B E) {x y : Int32} {off : Int} (tgt : Nat) (hd : decode cc pc = .ok (.if_icmp .gt off, 3)) (ht : (pc : Int) + off = (tgt : Int)) (kt : y < x → LG X B na ar G kc kd z tgt lv st) (kf : ¬ (y < x) → LG X B na ar G kc kd z (pc + 3) lv st) : LG X B na ar G kc kd z pc lv (.int y :: .int x :: st) := by
  obtain ⟨p, l', e, R', s, m, args, below, meth, c, Q, A', P', K', nL'⟩ := X
  obtain ⟨rfl, rfl, rfl, ⟨hx, hb, hml, hown, hts⟩, hK, hE⟩ := hX
  intro H locs ls hP hD hB hS hl
  exact lv_icmp_gt hx hb hd ht (fun q => kt q H locs ls hP hD hB hS hl) (fun q => kf (by simpa using q) H locs ls hP hD hB hS hl)
theorem q_if_le (hX : HL X l R cc nL Ts own G B E) {x : Int32} {off : Int} (tgt : Nat) (hd : decode cc pc = .ok (.ifCond .le off, 3)) (ht : (pc : Int) + off = (tgt : Int)) (kt : x ≤ 0 → LG X B na ar G kc kd z tgt lv st) (kf : ¬ (x ≤ 0) → LG X B na ar G kc kd z (pc + 3) lv st) : LG X B na ar G kc kd z pc lv (.int x :: st) := by
  obtain ⟨p, l', e, R', s, m, args, below, meth, c, Q, A', P', K', nL'⟩ := X
  obtain ⟨rfl, rfl, rfl, ⟨hx, hb, hml, hown, hts⟩, hK, hE⟩ := hX
  intro H locs ls hP hD hB hS hl
  exact lv_if_le hx hb hd ht (fun q => kt q H locs ls hP hD hB hS hl) (fun q => kf (by simpa using q) H locs ls hP hD hB hS hl)
theorem q_ic_le (hX : HL X l R cc nL Ts own G B E) {x y : Int32} {off : Int} (tgt : Nat) (hd : decode cc pc = .ok (.if_icmp .le off, 3)) (ht : (pc : Int) + off = (tgt : Int)) (kt : x ≤ y → LG X B na ar G kc kd z tgt lv st) (kf : ¬ (x ≤ y) → LG X B na ar G kc kd z (pc + 3) lv st) : LG X B na ar G kc kd z pc lv (.int y :: .int x :: st) := by
  obtain ⟨p, l', e, R', s, m, args, below, meth, c, Q, A', P', K', nL'⟩ := X
  obtain ⟨rfl, rfl, rfl, ⟨hx, hb, hml, hown, hts⟩, hK, hE⟩ := hX
  intro H locs ls hP hD hB hS hl
  exact lv_icmp_le hx hb hd ht (fun q => kt q H locs ls hP hD hB hS hl) (fun q => kf (by simpa using q) H locs ls hP hD hB hS hl)
theorem q_bi_eq (hX : HL X l R cc nL Ts own G B E) {Pp : Prop} [Decidable Pp] {off : Int} (tgt : Nat) (hd : decode cc pc = .ok (.ifCond .eq off, 3)) (ht : (pc : Int) + off = (tgt : Int)) (kt : ¬ Pp → LG X B na ar G kc kd z tgt lv st) (kf : Pp → LG X B na ar G kc kd z (pc + 3) lv st) : LG X B na ar G kc kd z pc lv (.int (bi Pp) :: st) :=
  q_if_eq hX tgt hd ht (fun q => kt (bi_0.mp q)) (fun q => kf (Decidable.not_not.mp (fun n => q (bi_0.mpr n))))
theorem q_bi_ne (hX : HL X l R cc nL Ts own G B E) {Pp : Prop} [Decidable Pp] {off : Int} (tgt : Nat) (hd : decode cc pc = .ok (.ifCond .ne off, 3)) (ht : (pc : Int) + off = (tgt : Int)) (kt : Pp → LG X B na ar G kc kd z tgt lv st) (kf : ¬ Pp → LG X B na ar G kc kd z (pc + 3) lv st) : LG X B na ar G kc kd z pc lv (.int (bi Pp) :: st) :=
  q_if_ne hX tgt hd ht (fun q => kt (Decidable.not_not.mp (fun n => q (bi_0.mpr n)))) (fun q => kf (bi_0.mp (Decidable.not_not.mp q)))
theorem q_tabIn (hX : HL X l R cc nL Ts own G B E) {dflt lo hi : Int} {offs : Array Int} {len : Nat} {x : Int32} {off : Int} (tgt : Nat) (hd : decode cc pc = .ok (.tableswitch dflt lo hi offs, len)) (h1 : ¬ x.toInt < lo) (h2 : ¬ hi < x.toInt) (ho : offs[(x.toInt - lo).toNat]? = some off) (ht : (pc : Int) + off = (tgt : Int)) (k : LG X B na ar G kc kd z tgt lv st) : LG X B na ar G kc kd z pc lv (.int x :: st) := by
  obtain ⟨p, l', e, R', s, m, args, below, meth, c, Q, A', P', K', nL'⟩ := X
  obtain ⟨rfl, rfl, rfl, ⟨hx, hb, hml, hown, hts⟩, hK, hE⟩ := hX
  intro H locs ls hP hD hB hS hl
  exact lv_tableIn hx hb hd h1 h2 ho ht (k H locs ls hP hD hB hS hl)
theorem q_tabOut (hX : HL X l R cc nL Ts own G B E) {dflt lo hi : Int} {offs : Array Int} {len : Nat} {x : Int32} (tgt : Nat) (hd : decode cc pc = .ok (.tableswitch dflt lo hi offs, len)) (h : x.toInt < lo ∨ hi < x.toInt) (ht : (pc : Int) + dflt = (tgt : Int)) (k : LG X B na ar G kc kd z tgt lv st) : LG X B na ar G kc kd z pc lv (.int x :: st) := by
  obtain ⟨p, l', e, R', s, m, args, below, meth, c, Q, A', P', K', nL'⟩ := X
  obtain ⟨rfl, rfl, rfl, ⟨hx, hb, hml, hown, hts⟩, hK, hE⟩ := hX
  intro H locs ls hP hD hB hS hl
  exact lv_tableOut hx hb hd h ht (k H locs ls hP hD hB hS hl)
theorem q_sub (ks : List Nat) (lv2 : List (Nat × Value)) (hl2 : lv_pick lv ks = lv2) (k : LG X B na ar G kc kd z pc lv2 st) : LG X B na ar G kc kd z pc lv st := by
  obtain ⟨p, l', e, R', s, m, args, below, meth, c, Q, A', P', K', nL'⟩ := X
  intro H locs ls hP hD hB hS hl
  exact k H locs ls hP hD hB hS (lv_sub hl ks hl2)
theorem q_z {z2 : St} (h : z = z2) (k : LG X B na ar G kc kd z2 pc lv st) : LG X B na ar G kc kd z pc lv st := h ▸ k
theorem q_st {st2 : List Value} (h : st = st2) (k : LG X B na ar G kc kd z pc lv st2) : LG X B na ar G kc kd z pc lv st := h ▸ k
theorem q_lv (h : lv = lv') (k : LG X B na ar G kc kd z pc lv' st) : LG X B na ar G kc kd z pc lv st := h ▸ k
theorem q_pc {pc2 : Nat} (h : pc = pc2) (k : LG X B na ar G kc kd z pc2 lv st) : LG X B na ar G kc kd z pc lv st := h ▸ k
theorem q_top {x : Int32} (y : Int32) (h : x = y) (k : LG X B na ar G kc kd z pc lv (.int y :: st)) : LG X B na ar G kc kd z pc lv (.int x :: st) := h ▸ k
theorem q_ishr (hX : HL X l R cc nL Ts own G B E) {x y : Int32} (hd : decode cc pc = .ok (.ishr, 1)) (k : LG X B na ar G kc kd z (pc + 1) lv (.int (x >>> (y &&& 31)) :: st)) : LG X B na ar G kc kd z pc lv (.int y :: .int x :: st) := by
  obtain ⟨p, l', e, R', s, m, args, below, meth, c, Q, A', P', K', nL'⟩ := X
  obtain ⟨rfl, rfl, rfl, ⟨hx, hb, hml, hown, hts⟩, hK, hE⟩ := hX
  intro H locs ls hP hD hB hS hl
  exact lv_ishr hx hb hd (k H locs ls hP hD hB hS hl)
/-- another state with the same cells -/
theorem q_cg {z2 : St} (h : ∀ f, f < 75 → z2 f = z f) (h2 : ∀ i, i < na → z2 (75 + i) = z (75 + i)) (k : LG X B na ar G kc kd z2 pc lv st) : LG X B na ar G kc kd z pc lv st := by
  obtain ⟨p, l', e, R', s, m, args, below, meth, c, Q, A', P', K', nL'⟩ := X
  intro H locs ls hP hD hB hS hl
  refine k H locs ls ?_ ?_ hB hS hl
  · rw [WL_eq h h2]; exact hP
  · rw [WL_eq h h2]; exact hD
theorem q_wid {kc2 ks2 : Nat} (h1 : kc ≤ kc2) (h2 : kd ≤ ks2) (k : LG X B na ar G kc2 ks2 z pc lv st) : LG X B na ar G kc kd z pc lv st := by
  obtain ⟨p, l', e, R', s, m, args, below, meth, c, Q, A', P', K', nL'⟩ := X
  intro H locs ls hP hD hB hS hl
  exact W.widen h1 h2 (k H locs ls hP hD hB hS hl)
/-- the arrays are left -/
theorem q_drop {ar2 : Nat → Nat} (k : LG X B 0 ar2 G kc kd z pc lv st) : LG X B na ar G kc kd z pc lv st := by
  obtain ⟨p, l', e, R', s, m, args, below, meth, c, Q, A', P', K', nL'⟩ := X
  intro H locs ls hP hD hB hS hl
  exact k H locs ls (by rw [WL_0]; exact (va_P_app.mp hP).1) (by rw [WL_0]; exact va_D_l hD) hB hS hl
theorem q_iald (hX : HL X l R cc nL Ts own G B E) {i : Int32} (k : Nat) (hk : k < na) (q : Nat) (hi : i = nI q) (hq : q < arL k) (hd : decode cc pc = .ok (.iaload, 1)) (kk : LG X B na ar G kc kd z (pc + 1) lv (.int (z (75 + k) q) :: st)) : LG X B na ar G kc kd z pc lv (.int i :: .ref (ar k) :: st) := by
  obtain ⟨p, l', e, R', s, m, args, below, meth, c, Q, A', P', K', nL'⟩ := X
  obtain ⟨rfl, rfl, rfl, ⟨hx, hb, hml, hown, hts⟩, hK, hE⟩ := hX
  intro H locs ls hP hD hB hS hl
  obtain ⟨h1, h2⟩ := nI_i hi hq (by unfold arL; split <;> omega)
  refine va_iald (f := z (75 + k)) hx hb hK.1.1 hP (203 + k) 0 (WL_at hk) rfl h1 hd ?_
  rw [h2]
  exact kk H locs ls hP hD hB hS hl
theorem q_iast (hX : HL X l R cc nL Ts own G B E) {i x : Int32} (k : Nat) (hk : k < na) (q : Nat) (hi : i = nI q) (hq : q < arL k) (hd : decode cc pc = .ok (.iastore, 1)) (kk : LG X B na ar G kc kd (u2 z (75 + k) q x) (pc + 1) lv st) : LG X B na ar G kc kd z pc lv (.int x :: .int i :: .ref (ar k) :: st) := by
  obtain ⟨p, l', e, R', s, m, args, below, meth, c, Q, A', P', K', nL'⟩ := X
  obtain ⟨rfl, rfl, rfl, ⟨hx, hb, hml, hown, hts⟩, hK, hE⟩ := hX
  intro H locs ls hP hD hB hS hl
  obtain ⟨h1, h2⟩ := nI_i hi hq (by unfold arL; split <;> omega)
  have hset : (WL na ar G z).set (203 + k) (ar k, .inl (G.2.1 0, arL k, .inl (upd (z (75 + k)) q x))) = WL na ar G (u2 z (75 + k) q x) := by
    unfold WL
    rw [List.set_append_right _ _ (by rw [Wl_len]; omega), Wl_len, show 203 + k - 203 = k from by omega, Wl_set _ hk]
    congr 1
    · rw [cfC_eq (fun f hf => u2_f (by omega))]
    · refine Wl_congr (fun j hj => ?_)
      unfold va_up arC
      by_cases e : j = k
      · subst e; rw [if_pos rfl, u2_ff]
      · rw [if_neg e, u2_f (by omega)]
  refine va_iast (f := z (75 + k)) hx hb hK.1.1 hP hD hS (203 + k) 0 (WL_at hk) rfl h1 hd (fun H1 locs1 hP1 hD1 hS1 => kk H1 locs1 ls ?_ ?_ (Nat.le_trans hE.2 hS1.1) hS1 hl)
  · rw [h2, hset] at hP1; exact hP1
  · rw [h2, hset] at hD1; exact hD1
/-- a new array: zeros, or whatever the state tells of its row -/
theorem q_newa (hX : HL X l R cc nL Ts own G B E) {x : Int32} (hx0 : x = nI (arL na)) (harr : Cond.arrayClass .int ∈ Ts) (hcells : kc + 1 ≤ R.cells) (hslots : kd + arL na ≤ R.slots) (hd : decode cc pc = .ok (.newarray .int, 2)) (kk : ∀ ar2 : Nat → Nat, (∀ i, i < na → ar2 i = ar i) → LG X B (na + 1) ar2 G (kc + 1) (kd + arL na) (fun f i => if f = 75 + na then 0 else z f i) (pc + 2) lv (.ref (ar2 na) :: st)) : LG X B na ar G kc kd z pc lv (.int x :: st) := by
  obtain ⟨p, l', e, R', s, m, args, below, meth, c, Q, A', P', K', nL'⟩ := X
  obtain ⟨rfl, rfl, rfl, ⟨hx, hb, hml, hown, hts⟩, hK, hE⟩ := hX
  intro H locs ls hP hD hB hS hl
  have hal : arL na ≤ 40 := by unfold arL; split <;> omega
  refine va_newa (a0 := (arL na, .inl (fun _ => 0))) (atype := .int) (ty := .int) (N' := arL na) (n := x) hx hb (hts _ harr) rfl hK.1.1 hP hD hS (fun q hq => Nat.le_trans hE.2 hq) (fun cA => rfl) (by rw [hx0]; exact nI_pos (by omega)) (by rw [hx0]; exact nI_clamp (by omega)) (by show arL na * 4 ≤ _; omega) hcells hslots hd (fun q cA H1 hK1 hP1 hD1 hS1 => ?_)
  have e1 := (hK1.2 (tysG G).length (cA, .int) (by simp)).2
  have e2 := (hK.1.1.2 0 (G.2.1 0, .int) rfl).2
  have e3 : cA = G.2.1 0 := Option.some.inj (e1.symm.trans e2)
  subst e3
  have hW : Wl (na + 1) (va_up ar na q) (arC G (fun f i => if f = 75 + na then 0 else z f i)) = Wl na ar (arC G z) ++ [(q, .inl (G.2.1 0, arL na, .inl (fun _ => 0)))] := by
    refine (Wl_app (fun i hi => by simp [va_up]; omega) (fun i hi => ?_) (by simp [va_up]) ?_).symm
    · unfold arC
      have : ¬ (75 + i = 75 + na) := by omega
      simp only [this, if_false]
    · unfold arC
      simp only [if_true]
  have hC : cfC G (fun f i => if f = 75 + na then 0 else z f i) = cfC G z := cfC_eq (fun f hf => by
    have : ¬ (f = 75 + na) := by omega
    simp only [this, if_false])
  have hWL : WL (na + 1) (va_up ar na q) G (fun f i => if f = 75 + na then 0 else z f i) = WL na ar G z ++ [(q, .inl (G.2.1 0, arL na, .inl (fun _ => 0)))] := by
    unfold WL
    rw [hW, hC, List.append_assoc]
  have h9 := kk (va_up ar na q) (fun i hi => by simp [va_up]; omega) H1 _ ls (by rw [hWL]; exact hP1) (by rw [hWL]; exact hD1) (Nat.le_trans hE.2 hS1.1) hS1 hl
  simpa [va_up] using h9
/-- a call of the class -/
theorem q_cv (hX : HL X l R cc nL Ts own G B E) (hG : GB B G) (hkc : kc ≤ R.cells) (hks : kd ≤ R.slots) {y : MethodName} {index n maxL : Nat} {bytes : ByteArray} {ret : Option FieldType} {ws : List Cond} {rm : Room} {As rest : List Value} {R0 : Int32} {Z0 : St} (hc : CIc l G y ws rm (.ref (G.2.2 192) :: As) z (fun ρ ζ => ρ = R0 ∧ ζ = Z0)) (hk : CW R Ts own RX6 index y bytes maxL ret ws rm n) (hz : ∀ i, i < na → Z0 (75 + i) = z (75 + i)) (hn : As.length = n) (hst : st = As.reverse ++ .ref (G.2.2 192) :: rest) (hW : (rest.map fun v => v.category).sum ≤ 8) (hd : decode cc pc = .ok (.invokevirtual index, 3)) (kk : LG X B na ar G kc kd Z0 (pc + 3) lv (.int R0 :: rest)) : LG X B na ar G kc kd z pc lv st := by
  obtain ⟨p, l', e, R', s, m, args, below, meth, c, Q, A', P', K', nL'⟩ := X
  obtain ⟨rfl, rfl, rfl, ⟨hx, hb, hml, hown, hts⟩, hK, hE⟩ := hX
  obtain ⟨hG1, ⟨ws', hw⟩, h1, h2, h3, h4⟩ := hk
  subst hst
  intro H locs ls hP hD hB hS hl
  obtain ⟨hP1, hP2⟩ := va_P_app.mp hP
  have hKs : KQ G (ExC G) s := hK.c hG
  refine va_calli (va_runV (As := As) (rest := rest) ⟨hx, hb, hml, hown, hts⟩ hc (cwV n hts hG1 hw h1 h2 h3 h4) ⟨fun a U g mk q => ⟨q.1, q.2.1, KQ_mv (ExC_mv G) U _ (State.WarmedH.refl U) (Nat.le_refl _) (fun _ _ _ => rfl) q.2.2⟩, rc_Main s H hKs hP1, fun U hU hW => ⟨rfl, by rw [hU]; exact hP1, (KL_mv hE.1 s U hW (by rw [hU]; exact hS.1) (fun q h1 h2 => by rw [hU]; exact hS.2.1 q h1 h2) hK).c hG⟩⟩ rfl hn (hl.1.trans rfl) rfl (lv_room hW) hd ⟨hkc, hks⟩) hS (fun q _ h => hG.AA h) (fun q h => hG.AA h) (fun r u t H1 locs1 ht hvm hp hB1 hz1 hk1 hS1 => ?_)
  obtain ⟨rfl, rfl⟩ := hp
  have hQ : va_P G.1 vwCl (Wl na ar (arC G u)) H1 := by
    rw [Wl_congr (fun i hi => show arC G u i = arC G z i by unfold arC; rw [hz i hi])]
    refine va_P.kept hP2 (fun k x hx => hk1 _ (hP2 k x hx).lt ?_)
    rintro ⟨i, hi, e⟩
    exact va_D_ne hD (Wl_get (ct := cfC G z) hi) hx e.symm
  exact kk H1 locs1 ls (va_P_app.mpr ⟨ht ▸ hB1.1, hQ⟩) (va_D_cg hD WL_fst) (Nat.le_trans hB hz1) hS1 hl
/-- a call of the law's own -/
def CT3 (R : Room) (Ts : List Cond) (own : String) (index : Nat) (y : MethodName) (bytes : ByteArray) (maxL : Nat) (ret : Option FieldType) (ws : List Cond) (rm : Room) (mc ms n : Nat) : Prop :=
  GoodIn Ts (va_wsS own index y ws) ∧ (∃ ws', ws = Cond.code y bytes maxL ret :: ws') ∧ rm.cells = mc ∧ rm.slots = ms ∧ (y.cls ≠ "java/lang/invoke/MethodHandle" ∧ y.cls ≠ "java/lang/invoke/VarHandle" ∧ (parseMethodDescriptor y.desc).map (fun d => d.parameters.length) = some n) ∧ rm.frames + 1 ≤ R.frames ∧ 8 + (maxL + 11) + rm.locals ≤ R.locals
theorem q_ct (hX : HL X l R cc nL Ts own G B E) (hG : GB B G) {y : MethodName} {index n maxL mc ms : Nat} {bytes : ByteArray} {ret : Option FieldType} {ws : List Cond} {rm : Room} {As rest : List Value} {post : Int32 → St → Prop} (hkc : kc + mc ≤ R.cells) (hks : kd + ms ≤ R.slots) (hc : CL l G B E y ws rm As z post mc ms) (hk : CT3 R Ts own index y bytes maxL ret ws rm mc ms n) (hn : As.length = n) (hst : st = As.reverse ++ rest) (hW : (rest.map fun v => v.category).sum ≤ 8) (hd : decode cc pc = .ok (.invokestatic index, 3)) (kk : ∀ r z', post r z' → LG X B 0 ar G (kc + mc) (kd + ms) z' (pc + 3) lv (.int r :: rest)) : LG X B 0 ar G kc kd z pc lv st := by
  obtain ⟨p, l', e, R', s, m, args, below, meth, c, Q, A', P', K', nL'⟩ := X
  obtain ⟨rfl, rfl, rfl, ⟨hx, hb, hml, hown, hts⟩, hK, hE⟩ := hX
  obtain ⟨hG1, ⟨ws', hw⟩, h1, h2, h3, h4⟩ := hk
  subst hst
  intro H locs ls hP hD hB hS hl
  rw [WL_0] at hP
  refine va_calli (va_runS (As := As) (rest := rest) ⟨hx, hb, hml, hown, hts⟩ hc (va_cwS n hts hG1 hw h1 h2 h3 h4) ⟨fun a U g mk q => ⟨q.1, q.2.1, q.2.2.1, KL_mv hE.1 U _ (State.WarmedH.refl U) (Nat.le_refl _) (fun _ _ _ => rfl) q.2.2.2⟩, fun U hU hW => ⟨rfl, by rw [hU]; exact hP, by rw [hU]; exact hB, KL_mv hE.1 s U hW (by rw [hU]; exact hS.1) (fun q h1 h2 => by rw [hU]; exact hS.2.1 q h1 h2) hK⟩⟩ rfl hn (hl.1.trans rfl) rfl (lv_room hW) hd ⟨hkc, hks⟩) hS (fun q _ h => h) (fun q h => h) (fun r u t H1 locs1 ht hvm hp hB1 hz1 hk1 hS1 => ?_)
  have hP1 : va_P G.1 vwCl (Wl 203 G.2.2 (cfC G u)) H1 := ht ▸ hB1.1
  exact kk r u hp H1 locs1 ls (by rw [WL_0]; exact hP1) (by rw [WL_0]; exact hG.D _) (Nat.le_trans hB hz1) hS1 hl
/-- the script -/
def SE (b L : Nat) (xs : Nat → Int32) (B : Nat) (U : State) : Prop := va_X b L xs U U.heap ∧ b < U.heap.size ∧ b < B
theorem SE_mv (b L : Nat) (xs : Nat → Int32) (B : Nat) : KMv (AB B) (SE b L xs B) := fun u U h1 h2 h3 h =>
  ⟨(h.1.moved h1.alike).kept (h3 b h.2.1 (Nat.not_le.mpr h.2.2)), Nat.lt_of_lt_of_le h.2.1 h2, h.2.2⟩
theorem q_slen {b L : Nat} {xs : Nat → Int32} (hX : HL X l R cc nL Ts own G B (SE b L xs B)) (hd : decode cc pc = .ok (.arraylength, 1)) (k : LG X B na ar G kc kd z (pc + 1) lv (.int (nI L) :: st)) : LG X B na ar G kc kd z pc lv (.ref b :: st) := by
  obtain ⟨p, l', e, R', s, m, args, below, meth, c, Q, A', P', K', nL'⟩ := X
  obtain ⟨rfl, rfl, rfl, ⟨hx, hb, hml, hown, hts⟩, hK, hE⟩ := hX
  intro H locs ls hP hD hB hS hl
  exact va_slen hx hb hK.2.1 hK.2.2.1 (Nat.not_le.mpr hK.2.2.2) hS hd (k H locs ls hP hD hB hS hl)
theorem q_sld {b L : Nat} {xs : Nat → Int32} (hX : HL X l R cc nL Ts own G B (SE b L xs B)) {i : Int32} (q : Nat) (hi : i = nI q) (hq : q < L) (hL : L < 2 ^ 31) (hd : decode cc pc = .ok (.iaload, 1)) (k : LG X B na ar G kc kd z (pc + 1) lv (.int (xs q) :: st)) : LG X B na ar G kc kd z pc lv (.int i :: .ref b :: st) := by
  obtain ⟨p, l', e, R', s, m, args, below, meth, c, Q, A', P', K', nL'⟩ := X
  obtain ⟨rfl, rfl, rfl, ⟨hx, hb, hml, hown, hts⟩, hK, hE⟩ := hX
  intro H locs ls hP hD hB hS hl
  obtain ⟨h1, h2⟩ := nI_i hi hq hL
  refine va_sld hx hb hK.2.1 hK.2.2.1 (Nat.not_le.mpr hK.2.2.2) hS h1 hd ?_
  rw [h2]
  exact k H locs ls hP hD hB hS hl
end LGR
