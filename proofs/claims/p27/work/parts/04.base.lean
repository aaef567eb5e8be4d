/-! ===== the judgement Go: the machine over a pure state z, its locals and its stack as lists ===== -/
abbrev St : Type := Nat → Nat → Int32
/-- one place of a state changed -/
def u2 (z : St) (f i : Nat) (v : Int32) : St := fun g j => if g = f ∧ j = i then v else z g j
theorem u2_s (z : St) (f i : Nat) (v : Int32) : u2 z f i v f i = v := by simp [u2]
theorem u2_f {z : St} {f i g : Nat} {v : Int32} (h : g ≠ f) : u2 z f i v g = z g := by funext j; simp [u2, h]
theorem u2_i {z : St} {f i j : Nat} {v : Int32} (g : Nat) (h : j ≠ i) : u2 z f i v g j = z g j := by simp [u2, h]
theorem u2_ff (z : St) (f i : Nat) (v : Int32) : u2 z f i v f = upd (z f) i v := by funext j; simp [u2, upd]
/-- a truth value as the machine has it -/
def bi (P : Prop) [Decidable P] : Int32 := if P then 1 else 0
theorem bi_t {P : Prop} [Decidable P] (h : P) : bi P = 1 := by simp [bi, h]
theorem bi_f {P : Prop} [Decidable P] (h : ¬ P) : bi P = 0 := by simp [bi, h]
theorem bi_0 {P : Prop} [Decidable P] : bi P = 0 ↔ ¬ P := by by_cases h : P <;> simp [bi, h]
theorem bi_1 {P : Prop} [Decidable P] : bi P = 1 ↔ P := by by_cases h : P <;> simp [bi, h]
theorem bi_01 (P : Prop) [Decidable P] : bi P = 0 ∨ bi P = 1 := by by_cases h : P <;> simp [bi, h]
abbrev GC : Type := Program × Launch × Env × Room × State × MethodId × Array Value × List Frame × Method × Code × (State → Prop) × (Nat → Prop) × (St → Heap → Prop) × (State → Prop) × Nat
def Go (X : GC) (z : St) (pc : Nat) (lv : List (Nat × Value)) (st : List Value) : Prop :=
  match X with
  | (p, l, e, R, s, m, args, below, meth, c, Q, A, P, _, nL) => ∀ (H : Heap) (locs : List Loc) (ls : Array Slot), P z H → va_S A s.heap H locs → lv_has ls nL lv → W p l e R s m args below meth c H locs 0 0 Q (F0 m pc ls st)
/-- what a state knows beside its own cells stays when only cells of A change -/
def KMv (A : Nat → Prop) (K : State → Prop) : Prop := ∀ u U : State, u.WarmedH U.vm → u.heap.size ≤ U.heap.size → (∀ q : Nat, q < u.heap.size → ¬ A q → U.heap[q]? = u.heap[q]?) → K u → K U
def GX (X : GC) (l : Launch) (R : Room) (cc : ByteArray) (nL : Nat) (Ts : List Cond) (own : String) (A : Nat → Prop) (P : St → Heap → Prop) (K : State → Prop) : Prop :=
  match X with
  | (p, l', _, R', s, m, args, _, _, c, _, A', P', K', nL') => l' = l ∧ R' = R ∧ A' = A ∧ P' = P ∧ K' = K ∧ nL' = nL ∧ CallFix p m c cc nL s args Ts own ∧ K s ∧ KMv A K
/-- contracts: a method with an int answer, one without -/
def CI (l : Launch) (A : Nat → Prop) (P : St → Heap → Prop) (K : State → Prop) (y : MethodName) (ws : List Cond) (rm : Room) (vs : List Value) (z : St) (post : Int32 → St → Prop) : Prop :=
  Met l y ws rm (va_Pc vs (fun U => P z U.heap ∧ K U)) (va_Qi post (fun z' t => P z' t.heap ∧ K t) A) 0 0 A
def CV (l : Launch) (A : Nat → Prop) (P : St → Heap → Prop) (K : State → Prop) (y : MethodName) (ws : List Cond) (rm : Room) (vs : List Value) (z : St) (post : St → Prop) : Prop :=
  Met l y ws rm (va_Pc vs (fun U => P z U.heap ∧ K U)) (va_Qv post (fun z' t => P z' t.heap ∧ K t) A) 0 0 A
/-- a call's words and room -/
def CW (R : Room) (Ts : List Cond) (own C : String) (index : Nat) (y : MethodName) (bytes : ByteArray) (maxL : Nat) (ret : Option FieldType) (ws : List Cond) (rm : Room) (n : Nat) : Prop :=
  GoodIn Ts (wsV own index C y ws) ∧ (∃ ws', ws = Cond.code y bytes maxL ret :: ws') ∧ rm.cells = 0 ∧ rm.slots = 0 ∧ (y.cls = C ∧ y.cls ≠ "java/lang/invoke/MethodHandle" ∧ y.cls ≠ "java/lang/invoke/VarHandle" ∧ (parseMethodDescriptor y.desc).map (fun d => d.parameters.length) = some n) ∧ rm.frames + 1 ≤ R.frames ∧ 8 + (maxL + 11) + rm.locals ≤ R.locals
def CS (R : Room) (Ts : List Cond) (own : String) (index : Nat) (y : MethodName) (bytes : ByteArray) (maxL : Nat) (ret : Option FieldType) (ws : List Cond) (rm : Room) (n : Nat) : Prop :=
  GoodIn Ts (wsS own index y ws) ∧ (∃ ws', ws = Cond.code y bytes maxL ret :: ws') ∧ rm.cells = 0 ∧ rm.slots = 0 ∧ (y.cls = own ∧ y.cls ≠ "java/lang/invoke/MethodHandle" ∧ y.cls ≠ "java/lang/invoke/VarHandle" ∧ (parseMethodDescriptor y.desc).map (fun d => d.parameters.length) = some n) ∧ rm.frames + 1 ≤ R.frames ∧ 8 + (maxL + 11) + rm.locals ≤ R.locals
def CN (R : Room) (Ts : List Cond) (y : MethodName) (bytes : ByteArray) (maxL : Nat) (ret : Option FieldType) (ws : List Cond) (rm : Room) (n : Nat) : Prop :=
  GoodIn Ts ws ∧ (∃ ws', ws = Cond.code y bytes maxL ret :: ws') ∧ rm.cells = 0 ∧ rm.slots = 0 ∧ (y.cls ≠ "java/lang/invoke/MethodHandle" ∧ y.cls ≠ "java/lang/invoke/VarHandle" ∧ (parseMethodDescriptor y.desc).map (fun d => d.parameters.length) = some n) ∧ (rm.frames + 1 ≤ R.frames ∧ 8 + (maxL + 11) + rm.locals ≤ R.locals) ∧ Cond.static y ∈ Ts ∧ Cond.initialized y.cls ∈ Ts
/-- the receiver is an object of the class -/
def RC (P : St → Heap → Prop) (K : State → Prop) (z : St) (C : String) (b : Nat) : Prop := ∀ (s : State) (H : Heap), K s → P z H → ∃ cell : Cell, H[b]? = some cell ∧ cell.vm.isStatics = false ∧ s.vm.findClass C = some cell.cls
section GOA
variable {l : Launch} {A : Nat → Prop} {P : St → Heap → Prop} {K : State → Prop} {y : MethodName} {ws ws' : List Cond} {rm : Room} {vs : List Value} {z : St} {cc : ByteArray} {maxL : Nat} {own : String}
theorem ci_of {ret : FieldType} {post : Int32 → St → Prop} (hy : plainName y.cls = true) (hw : ws = Cond.code y cc maxL (some ret) :: ws') (how : y.cls = own) (hrt : ∀ v z', post v z' → narrow ret (.int v) = .int v) (hsz : (lg_sl vs).length ≤ maxL) (hKM : KMv A K)
    (body : ∀ X : GC, GX X l rm cc maxL ws own A P K → (∀ z' pc lv v, decode cc pc = .ok (.ireturn, 1) → post v z' → Go X z' pc lv [.int v]) → Go X z 0 (lv_args 0 vs) []) : CI l A P K y ws rm vs z post := by
  refine Met.ofW hy hw ?_
  intro p e s m args below meth c s₁ B hml hv
  obtain ⟨rfl, hP, hK⟩ := hv
  have hown : s.vm.findClass own = some m.cls := by rw [← how]; exact findClass_of_methodNamed B.named
  have hts := atoms_spec (ws := ws) B.pre
  have hl := lv_entry vs (n := maxL) hsz
  rw [lg_entry_eq]
  refine body (p, l, e, rm, s, m, vs.toArray, below, meth, c, MQ below (va_Qi post (fun z' t => P z' t.heap ∧ K t) A) vs.toArray s 0 0 A, A, P, K, maxL) ⟨rfl, rfl, rfl, rfl, rfl, rfl, ⟨B.exec, B.bytes, hml, hown, hts⟩, hK, hKM⟩ ?_ s.heap [] _ hP va_S.rf hl
  intro z' pc lv v hd hpost H locs ls hP' hS hl'
  exact W.zret (v := v) (ty := ret) B.exec B.bytes B.returns (hrt v z' hpost) (fun t ht hW => ⟨⟨v, z', rfl, hpost, by rw [ht]; exact hP', hKM s t hW (by rw [ht]; exact hS.1) (fun q h1 h2 => by rw [ht]; exact hS.2.1 q h1 h2) hK⟩, hS.F ht⟩) hS.2.2 hd
theorem cv_of {post : St → Prop} (hy : plainName y.cls = true) (hw : ws = Cond.code y cc maxL none :: ws') (how : y.cls = own) (hsz : (lg_sl vs).length ≤ maxL) (hKM : KMv A K)
    (body : ∀ X : GC, GX X l rm cc maxL ws own A P K → (∀ z' pc lv, decode cc pc = .ok (.return_, 1) → post z' → Go X z' pc lv []) → Go X z 0 (lv_args 0 vs) []) : CV l A P K y ws rm vs z post := by
  refine Met.ofW hy hw ?_
  intro p e s m args below meth c s₁ B hml hv
  obtain ⟨rfl, hP, hK⟩ := hv
  have hown : s.vm.findClass own = some m.cls := by rw [← how]; exact findClass_of_methodNamed B.named
  have hts := atoms_spec (ws := ws) B.pre
  have hl := lv_entry vs (n := maxL) hsz
  rw [lg_entry_eq]
  refine body (p, l, e, rm, s, m, vs.toArray, below, meth, c, MQ below (va_Qv post (fun z' t => P z' t.heap ∧ K t) A) vs.toArray s 0 0 A, A, P, K, maxL) ⟨rfl, rfl, rfl, rfl, rfl, rfl, ⟨B.exec, B.bytes, hml, hown, hts⟩, hK, hKM⟩ ?_ s.heap [] _ hP va_S.rf hl
  intro z' pc lv hd hpost H locs ls hP' hS hl'
  exact W.vret B.exec B.bytes B.returns (fun t ht hW => ⟨⟨z', rfl, hpost, by rw [ht]; exact hP', hKM s t hW (by rw [ht]; exact hS.1) (fun q h1 h2 => by rw [ht]; exact hS.2.1 q h1 h2) hK⟩, hS.F ht⟩) hS.2.2 hd
theorem CI.weak {post post' : Int32 → St → Prop} (h : CI l A P K y ws rm vs z post) (hp : ∀ r z', post r z' → post' r z') : CI l A P K y ws rm vs z post' := by
  intro p e ha hc hk s m args below hf hfit hpc ht
  obtain ⟨k, o, h1, h2, h3, ⟨⟨r, u, q1, q2, q3⟩, q4⟩, q5⟩ := h p e ha hc hk s m args below hf hfit hpc ht
  exact ⟨k, o, h1, h2, h3, ⟨⟨r, u, q1, hp r u q2, q3⟩, q4⟩, q5⟩

end GOA
section GOB
variable {X : GC} {l : Launch} {R : Room} {cc : ByteArray} {nL : Nat} {Ts : List Cond} {own : String} {A : Nat → Prop} {P : St → Heap → Prop} {K : State → Prop} {z : St} {pc : Nat} {lv lv' : List (Nat × Value)} {st : List Value}
theorem g_iconst (hX : GX X l R cc nL Ts own A P K) {n : Int} (v : Int32) (hd : decode cc pc = .ok (.iconst n, 1)) (hv : Int32.ofInt n = v) (k : Go X z (pc + 1) lv (.int v :: st)) : Go X z pc lv (st) := by
  obtain ⟨p, l', e, R', s, m, args, below, meth, c, Q, A', P', K', nL'⟩ := X
  obtain ⟨rfl, rfl, rfl, rfl, rfl, rfl, ⟨hx, hb, hml, hown, hts⟩, hK, hKM⟩ := hX
  intro H locs ls hP hS hl
  exact lv_iconst hx hb hd hv (k H locs ls hP hS hl)
theorem g_bipush (hX : GX X l R cc nL Ts own A P K) {n : Int} (v : Int32) (hd : decode cc pc = .ok (.bipush n, 2)) (hv : (Int8.ofInt n).toInt32 = v) (k : Go X z (pc + 2) lv (.int v :: st)) : Go X z pc lv (st) := by
  obtain ⟨p, l', e, R', s, m, args, below, meth, c, Q, A', P', K', nL'⟩ := X
  obtain ⟨rfl, rfl, rfl, rfl, rfl, rfl, ⟨hx, hb, hml, hown, hts⟩, hK, hKM⟩ := hX
  intro H locs ls hP hS hl
  exact lv_bipush hx hb hd hv (k H locs ls hP hS hl)
theorem g_sipush (hX : GX X l R cc nL Ts own A P K) {n : Int} (v : Int32) (hd : decode cc pc = .ok (.sipush n, 3)) (hv : (Int16.ofInt n).toInt32 = v) (k : Go X z (pc + 3) lv (.int v :: st)) : Go X z pc lv (st) := by
  obtain ⟨p, l', e, R', s, m, args, below, meth, c, Q, A', P', K', nL'⟩ := X
  obtain ⟨rfl, rfl, rfl, rfl, rfl, rfl, ⟨hx, hb, hml, hown, hts⟩, hK, hKM⟩ := hX
  intro H locs ls hP hS hl
  exact lv_sipush hx hb hd hv (k H locs ls hP hS hl)
theorem g_lconst (hX : GX X l R cc nL Ts own A P K) {n : Fin 2} (v : Int64) (hd : decode cc pc = .ok (.lconst n, 1)) (hv : Int64.ofNat (n : Nat) = v) (k : Go X z (pc + 1) lv (.long v :: st)) : Go X z pc lv (st) := by
  obtain ⟨p, l', e, R', s, m, args, below, meth, c, Q, A', P', K', nL'⟩ := X
  obtain ⟨rfl, rfl, rfl, rfl, rfl, rfl, ⟨hx, hb, hml, hown, hts⟩, hK, hKM⟩ := hX
  intro H locs ls hP hS hl
  exact lv_lconst hx hb hd hv (k H locs ls hP hS hl)
theorem g_ldc (hX : GX X l R cc nL Ts own A P K) {index : Nat} (v : Int32) (hd : decode cc pc = .ok (.ldc index, 2)) (hw : Cond.constant own index v ∈ Ts) (k : Go X z (pc + 2) lv (.int v :: st)) : Go X z pc lv (st) := by
  obtain ⟨p, l', e, R', s, m, args, below, meth, c, Q, A', P', K', nL'⟩ := X
  obtain ⟨rfl, rfl, rfl, rfl, rfl, rfl, ⟨hx, hb, hml, hown, hts⟩, hK, hKM⟩ := hX
  intro H locs ls hP hS hl
  exact lv_ldc hx hb hown (hts _ hw) hd (k H locs ls hP hS hl)
theorem g_ldc2 (hX : GX X l R cc nL Ts own A P K) {index : Nat} (v : Int64) (hd : decode cc pc = .ok (.ldc2_w index, 3)) (hw : Cond.constantLong own index v ∈ Ts) (k : Go X z (pc + 3) lv (.long v :: st)) : Go X z pc lv (st) := by
  obtain ⟨p, l', e, R', s, m, args, below, meth, c, Q, A', P', K', nL'⟩ := X
  obtain ⟨rfl, rfl, rfl, rfl, rfl, rfl, ⟨hx, hb, hml, hown, hts⟩, hK, hKM⟩ := hX
  intro H locs ls hP hS hl
  exact lv_ldc2 hx hb hown (hts _ hw) hd (k H locs ls hP hS hl)
theorem g_iload_n (hX : GX X l R cc nL Ts own A P K) {n : Fin 4} {x : Int32} (q : Nat) (hd : decode cc pc = .ok (.iload_n n, 1)) (hk : lv[q]? = some ((n : Nat), .int x)) (k : Go X z (pc + 1) lv (.int x :: st)) : Go X z pc lv (st) := by
  obtain ⟨p, l', e, R', s, m, args, below, meth, c, Q, A', P', K', nL'⟩ := X
  obtain ⟨rfl, rfl, rfl, rfl, rfl, rfl, ⟨hx, hb, hml, hown, hts⟩, hK, hKM⟩ := hX
  intro H locs ls hP hS hl
  exact lv_iload_n hx hb hd rfl (lv_at hl q hk) (k H locs ls hP hS hl)
theorem g_iload (hX : GX X l R cc nL Ts own A P K) {i : Nat} {x : Int32} (q : Nat) (hd : decode cc pc = .ok (.iload i, 2)) (hk : lv[q]? = some (i, .int x)) (k : Go X z (pc + 2) lv (.int x :: st)) : Go X z pc lv (st) := by
  obtain ⟨p, l', e, R', s, m, args, below, meth, c, Q, A', P', K', nL'⟩ := X
  obtain ⟨rfl, rfl, rfl, rfl, rfl, rfl, ⟨hx, hb, hml, hown, hts⟩, hK, hKM⟩ := hX
  intro H locs ls hP hS hl
  exact lv_iload hx hb hd (lv_at hl q hk) (k H locs ls hP hS hl)
theorem g_lload_n (hX : GX X l R cc nL Ts own A P K) {n : Fin 4} {x : Int64} (q : Nat) (hd : decode cc pc = .ok (.lload_n n, 1)) (hk : lv[q]? = some ((n : Nat), .long x)) (k : Go X z (pc + 1) lv (.long x :: st)) : Go X z pc lv (st) := by
  obtain ⟨p, l', e, R', s, m, args, below, meth, c, Q, A', P', K', nL'⟩ := X
  obtain ⟨rfl, rfl, rfl, rfl, rfl, rfl, ⟨hx, hb, hml, hown, hts⟩, hK, hKM⟩ := hX
  intro H locs ls hP hS hl
  exact lv_lload_n hx hb hd rfl (lv_at hl q hk) (k H locs ls hP hS hl)
theorem g_lload (hX : GX X l R cc nL Ts own A P K) {i : Nat} {x : Int64} (q : Nat) (hd : decode cc pc = .ok (.lload i, 2)) (hk : lv[q]? = some (i, .long x)) (k : Go X z (pc + 2) lv (.long x :: st)) : Go X z pc lv (st) := by
  obtain ⟨p, l', e, R', s, m, args, below, meth, c, Q, A', P', K', nL'⟩ := X
  obtain ⟨rfl, rfl, rfl, rfl, rfl, rfl, ⟨hx, hb, hml, hown, hts⟩, hK, hKM⟩ := hX
  intro H locs ls hP hS hl
  exact lv_lload hx hb hd (lv_at hl q hk) (k H locs ls hP hS hl)
theorem g_aload_n (hX : GX X l R cc nL Ts own A P K) {n : Fin 4} {x : Nat} (q : Nat) (hd : decode cc pc = .ok (.aload_n n, 1)) (hk : lv[q]? = some ((n : Nat), .ref x)) (k : Go X z (pc + 1) lv (.ref x :: st)) : Go X z pc lv (st) := by
  obtain ⟨p, l', e, R', s, m, args, below, meth, c, Q, A', P', K', nL'⟩ := X
  obtain ⟨rfl, rfl, rfl, rfl, rfl, rfl, ⟨hx, hb, hml, hown, hts⟩, hK, hKM⟩ := hX
  intro H locs ls hP hS hl
  exact lv_aload_n hx hb hd rfl (lv_at hl q hk) (k H locs ls hP hS hl)
theorem g_aload (hX : GX X l R cc nL Ts own A P K) {i : Nat} {x : Nat} (q : Nat) (hd : decode cc pc = .ok (.aload i, 2)) (hk : lv[q]? = some (i, .ref x)) (k : Go X z (pc + 2) lv (.ref x :: st)) : Go X z pc lv (st) := by
  obtain ⟨p, l', e, R', s, m, args, below, meth, c, Q, A', P', K', nL'⟩ := X
  obtain ⟨rfl, rfl, rfl, rfl, rfl, rfl, ⟨hx, hb, hml, hown, hts⟩, hK, hKM⟩ := hX
  intro H locs ls hP hS hl
  exact lv_aload hx hb hd (lv_at hl q hk) (k H locs ls hP hS hl)
theorem g_istore_n (hX : GX X l R cc nL Ts own A P K) {n : Fin 4} {x : Int32} (lv2 : List (Nat × Value)) (hd : decode cc pc = .ok (.istore_n n, 1)) (hn : (n : Nat) < nL) (hl2 : ((n : Nat), Value.int x) :: lv.filter (fun q => !(q.1 == (n : Nat)) && !(q.1 + 1 == (n : Nat) && q.2.category == 2)) = lv2) (k : Go X z (pc + 1) lv2 (st)) : Go X z pc lv (.int x :: st) := by
  obtain ⟨p, l', e, R', s, m, args, below, meth, c, Q, A', P', K', nL'⟩ := X
  obtain ⟨rfl, rfl, rfl, rfl, rfl, rfl, ⟨hx, hb, hml, hown, hts⟩, hK, hKM⟩ := hX
  intro H locs ls hP hS hl
  exact lv_istore_n hx hb hd rfl hl hn hl2 (fun ls1 hl1 => k H locs ls1 hP hS hl1)
theorem g_istore (hX : GX X l R cc nL Ts own A P K) {i : Nat} {x : Int32} (lv2 : List (Nat × Value)) (hd : decode cc pc = .ok (.istore i, 2)) (hn : i < nL) (hl2 : (i, Value.int x) :: lv.filter (fun q => !(q.1 == i) && !(q.1 + 1 == i && q.2.category == 2)) = lv2) (k : Go X z (pc + 2) lv2 (st)) : Go X z pc lv (.int x :: st) := by
  obtain ⟨p, l', e, R', s, m, args, below, meth, c, Q, A', P', K', nL'⟩ := X
  obtain ⟨rfl, rfl, rfl, rfl, rfl, rfl, ⟨hx, hb, hml, hown, hts⟩, hK, hKM⟩ := hX
  intro H locs ls hP hS hl
  exact lv_istore hx hb hd hl hn hl2 (fun ls1 hl1 => k H locs ls1 hP hS hl1)
theorem g_lstore_n (hX : GX X l R cc nL Ts own A P K) {n : Fin 4} {x : Int64} (lv2 : List (Nat × Value)) (hd : decode cc pc = .ok (.lstore_n n, 1)) (hn : (n : Nat) + 1 < nL) (hl2 : ((n : Nat), Value.long x) :: lv.filter (fun q => !(q.1 == (n : Nat)) && (!(q.1 == (n : Nat) + 1) && !(q.1 + 1 == (n : Nat) && q.2.category == 2))) = lv2) (k : Go X z (pc + 1) lv2 (st)) : Go X z pc lv (.long x :: st) := by
  obtain ⟨p, l', e, R', s, m, args, below, meth, c, Q, A', P', K', nL'⟩ := X
  obtain ⟨rfl, rfl, rfl, rfl, rfl, rfl, ⟨hx, hb, hml, hown, hts⟩, hK, hKM⟩ := hX
  intro H locs ls hP hS hl
  exact lv_lstore_n hx hb hd rfl hl hn hl2 (fun ls1 hl1 => k H locs ls1 hP hS hl1)
theorem g_lstore (hX : GX X l R cc nL Ts own A P K) {i : Nat} {x : Int64} (lv2 : List (Nat × Value)) (hd : decode cc pc = .ok (.lstore i, 2)) (hn : i + 1 < nL) (hl2 : (i, Value.long x) :: lv.filter (fun q => !(q.1 == i) && (!(q.1 == i + 1) && !(q.1 + 1 == i && q.2.category == 2))) = lv2) (k : Go X z (pc + 2) lv2 (st)) : Go X z pc lv (.long x :: st) := by
  obtain ⟨p, l', e, R', s, m, args, below, meth, c, Q, A', P', K', nL'⟩ := X
  obtain ⟨rfl, rfl, rfl, rfl, rfl, rfl, ⟨hx, hb, hml, hown, hts⟩, hK, hKM⟩ := hX
  intro H locs ls hP hS hl
  exact lv_lstore hx hb hd hl hn hl2 (fun ls1 hl1 => k H locs ls1 hP hS hl1)
theorem g_astore_n (hX : GX X l R cc nL Ts own A P K) {n : Fin 4} {x : Nat} (lv2 : List (Nat × Value)) (hd : decode cc pc = .ok (.astore_n n, 1)) (hn : (n : Nat) < nL) (hl2 : ((n : Nat), Value.ref x) :: lv.filter (fun q => !(q.1 == (n : Nat)) && !(q.1 + 1 == (n : Nat) && q.2.category == 2)) = lv2) (k : Go X z (pc + 1) lv2 (st)) : Go X z pc lv (.ref x :: st) := by
  obtain ⟨p, l', e, R', s, m, args, below, meth, c, Q, A', P', K', nL'⟩ := X
  obtain ⟨rfl, rfl, rfl, rfl, rfl, rfl, ⟨hx, hb, hml, hown, hts⟩, hK, hKM⟩ := hX
  intro H locs ls hP hS hl
  exact lv_astore_n hx hb hd rfl hl hn hl2 (fun ls1 hl1 => k H locs ls1 hP hS hl1)
theorem g_astore (hX : GX X l R cc nL Ts own A P K) {i : Nat} {x : Nat} (lv2 : List (Nat × Value)) (hd : decode cc pc = .ok (.astore i, 2)) (hn : i < nL) (hl2 : (i, Value.ref x) :: lv.filter (fun q => !(q.1 == i) && !(q.1 + 1 == i && q.2.category == 2)) = lv2) (k : Go X z (pc + 2) lv2 (st)) : Go X z pc lv (.ref x :: st) := by
  obtain ⟨p, l', e, R', s, m, args, below, meth, c, Q, A', P', K', nL'⟩ := X
  obtain ⟨rfl, rfl, rfl, rfl, rfl, rfl, ⟨hx, hb, hml, hown, hts⟩, hK, hKM⟩ := hX
  intro H locs ls hP hS hl
  exact lv_astore hx hb hd hl hn hl2 (fun ls1 hl1 => k H locs ls1 hP hS hl1)
theorem g_iinc (hX : GX X l R cc nL Ts own A P K) {i : Nat} {n : Int} {x : Int32} (v : Int32) (q : Nat) (lv2 : List (Nat × Value)) (hd : decode cc pc = .ok (.iinc i n, 3)) (hk : lv[q]? = some (i, .int x)) (hv : x + Int32.ofInt n = v) (hn : i < nL) (hl2 : (i, Value.int v) :: lv.filter (fun q => !(q.1 == i) && !(q.1 + 1 == i && q.2.category == 2)) = lv2) (k : Go X z (pc + 3) lv2 (st)) : Go X z pc lv (st) := by
  obtain ⟨p, l', e, R', s, m, args, below, meth, c, Q, A', P', K', nL'⟩ := X
  obtain ⟨rfl, rfl, rfl, rfl, rfl, rfl, ⟨hx, hb, hml, hown, hts⟩, hK, hKM⟩ := hX
  intro H locs ls hP hS hl
  exact lv_iinc hx hb hd hl hk hv hn hl2 (fun ls1 hl1 => k H locs ls1 hP hS hl1)
theorem g_iadd (hX : GX X l R cc nL Ts own A P K) {x y : Int32} (hd : decode cc pc = .ok (.iadd, 1)) (k : Go X z (pc + 1) lv (.int (x + y) :: st)) : Go X z pc lv (.int y :: .int x :: st) := by
  obtain ⟨p, l', e, R', s, m, args, below, meth, c, Q, A', P', K', nL'⟩ := X
  obtain ⟨rfl, rfl, rfl, rfl, rfl, rfl, ⟨hx, hb, hml, hown, hts⟩, hK, hKM⟩ := hX
  intro H locs ls hP hS hl
  exact lv_iadd hx hb hd (k H locs ls hP hS hl)
theorem g_ladd (hX : GX X l R cc nL Ts own A P K) {x y : Int64} (hd : decode cc pc = .ok (.ladd, 1)) (k : Go X z (pc + 1) lv (.long (x + y) :: st)) : Go X z pc lv (.long y :: .long x :: st) := by
  obtain ⟨p, l', e, R', s, m, args, below, meth, c, Q, A', P', K', nL'⟩ := X
  obtain ⟨rfl, rfl, rfl, rfl, rfl, rfl, ⟨hx, hb, hml, hown, hts⟩, hK, hKM⟩ := hX
  intro H locs ls hP hS hl
  exact lv_ladd hx hb hd (k H locs ls hP hS hl)
theorem g_isub (hX : GX X l R cc nL Ts own A P K) {x y : Int32} (hd : decode cc pc = .ok (.isub, 1)) (k : Go X z (pc + 1) lv (.int (x - y) :: st)) : Go X z pc lv (.int y :: .int x :: st) := by
  obtain ⟨p, l', e, R', s, m, args, below, meth, c, Q, A', P', K', nL'⟩ := X
  obtain ⟨rfl, rfl, rfl, rfl, rfl, rfl, ⟨hx, hb, hml, hown, hts⟩, hK, hKM⟩ := hX
  intro H locs ls hP hS hl
  exact lv_isub hx hb hd (k H locs ls hP hS hl)
theorem g_lsub (hX : GX X l R cc nL Ts own A P K) {x y : Int64} (hd : decode cc pc = .ok (.lsub, 1)) (k : Go X z (pc + 1) lv (.long (x - y) :: st)) : Go X z pc lv (.long y :: .long x :: st) := by
  obtain ⟨p, l', e, R', s, m, args, below, meth, c, Q, A', P', K', nL'⟩ := X
  obtain ⟨rfl, rfl, rfl, rfl, rfl, rfl, ⟨hx, hb, hml, hown, hts⟩, hK, hKM⟩ := hX
  intro H locs ls hP hS hl
  exact lv_lsub hx hb hd (k H locs ls hP hS hl)
theorem g_imul (hX : GX X l R cc nL Ts own A P K) {x y : Int32} (hd : decode cc pc = .ok (.imul, 1)) (k : Go X z (pc + 1) lv (.int (x * y) :: st)) : Go X z pc lv (.int y :: .int x :: st) := by
  obtain ⟨p, l', e, R', s, m, args, below, meth, c, Q, A', P', K', nL'⟩ := X
  obtain ⟨rfl, rfl, rfl, rfl, rfl, rfl, ⟨hx, hb, hml, hown, hts⟩, hK, hKM⟩ := hX
  intro H locs ls hP hS hl
  exact lv_imul hx hb hd (k H locs ls hP hS hl)
theorem g_lmul (hX : GX X l R cc nL Ts own A P K) {x y : Int64} (hd : decode cc pc = .ok (.lmul, 1)) (k : Go X z (pc + 1) lv (.long (x * y) :: st)) : Go X z pc lv (.long y :: .long x :: st) := by
  obtain ⟨p, l', e, R', s, m, args, below, meth, c, Q, A', P', K', nL'⟩ := X
  obtain ⟨rfl, rfl, rfl, rfl, rfl, rfl, ⟨hx, hb, hml, hown, hts⟩, hK, hKM⟩ := hX
  intro H locs ls hP hS hl
  exact lv_lmul hx hb hd (k H locs ls hP hS hl)
theorem g_iand (hX : GX X l R cc nL Ts own A P K) {x y : Int32} (hd : decode cc pc = .ok (.iand, 1)) (k : Go X z (pc + 1) lv (.int (x &&& y) :: st)) : Go X z pc lv (.int y :: .int x :: st) := by
  obtain ⟨p, l', e, R', s, m, args, below, meth, c, Q, A', P', K', nL'⟩ := X
  obtain ⟨rfl, rfl, rfl, rfl, rfl, rfl, ⟨hx, hb, hml, hown, hts⟩, hK, hKM⟩ := hX
  intro H locs ls hP hS hl
  exact lv_iand hx hb hd (k H locs ls hP hS hl)
theorem g_land (hX : GX X l R cc nL Ts own A P K) {x y : Int64} (hd : decode cc pc = .ok (.land, 1)) (k : Go X z (pc + 1) lv (.long (x &&& y) :: st)) : Go X z pc lv (.long y :: .long x :: st) := by
  obtain ⟨p, l', e, R', s, m, args, below, meth, c, Q, A', P', K', nL'⟩ := X
  obtain ⟨rfl, rfl, rfl, rfl, rfl, rfl, ⟨hx, hb, hml, hown, hts⟩, hK, hKM⟩ := hX
  intro H locs ls hP hS hl
  exact lv_land hx hb hd (k H locs ls hP hS hl)
theorem g_ior (hX : GX X l R cc nL Ts own A P K) {x y : Int32} (hd : decode cc pc = .ok (.ior, 1)) (k : Go X z (pc + 1) lv (.int (x ||| y) :: st)) : Go X z pc lv (.int y :: .int x :: st) := by
  obtain ⟨p, l', e, R', s, m, args, below, meth, c, Q, A', P', K', nL'⟩ := X
  obtain ⟨rfl, rfl, rfl, rfl, rfl, rfl, ⟨hx, hb, hml, hown, hts⟩, hK, hKM⟩ := hX
  intro H locs ls hP hS hl
  exact lv_ior hx hb hd (k H locs ls hP hS hl)
theorem g_lor (hX : GX X l R cc nL Ts own A P K) {x y : Int64} (hd : decode cc pc = .ok (.lor, 1)) (k : Go X z (pc + 1) lv (.long (x ||| y) :: st)) : Go X z pc lv (.long y :: .long x :: st) := by
  obtain ⟨p, l', e, R', s, m, args, below, meth, c, Q, A', P', K', nL'⟩ := X
  obtain ⟨rfl, rfl, rfl, rfl, rfl, rfl, ⟨hx, hb, hml, hown, hts⟩, hK, hKM⟩ := hX
  intro H locs ls hP hS hl
  exact lv_lor hx hb hd (k H locs ls hP hS hl)
theorem g_ixor (hX : GX X l R cc nL Ts own A P K) {x y : Int32} (hd : decode cc pc = .ok (.ixor, 1)) (k : Go X z (pc + 1) lv (.int (x ^^^ y) :: st)) : Go X z pc lv (.int y :: .int x :: st) := by
  obtain ⟨p, l', e, R', s, m, args, below, meth, c, Q, A', P', K', nL'⟩ := X
  obtain ⟨rfl, rfl, rfl, rfl, rfl, rfl, ⟨hx, hb, hml, hown, hts⟩, hK, hKM⟩ := hX
  intro H locs ls hP hS hl
  exact lv_ixor hx hb hd (k H locs ls hP hS hl)
theorem g_lxor (hX : GX X l R cc nL Ts own A P K) {x y : Int64} (hd : decode cc pc = .ok (.lxor, 1)) (k : Go X z (pc + 1) lv (.long (x ^^^ y) :: st)) : Go X z pc lv (.long y :: .long x :: st) := by
  obtain ⟨p, l', e, R', s, m, args, below, meth, c, Q, A', P', K', nL'⟩ := X
  obtain ⟨rfl, rfl, rfl, rfl, rfl, rfl, ⟨hx, hb, hml, hown, hts⟩, hK, hKM⟩ := hX
  intro H locs ls hP hS hl
  exact lv_lxor hx hb hd (k H locs ls hP hS hl)
theorem g_idiv (hX : GX X l R cc nL Ts own A P K) {x y : Int32} (hd : decode cc pc = .ok (.idiv, 1)) (hne : ¬ y = 0) (k : Go X z (pc + 1) lv (.int (x / y) :: st)) : Go X z pc lv (.int y :: .int x :: st) := by
  obtain ⟨p, l', e, R', s, m, args, below, meth, c, Q, A', P', K', nL'⟩ := X
  obtain ⟨rfl, rfl, rfl, rfl, rfl, rfl, ⟨hx, hb, hml, hown, hts⟩, hK, hKM⟩ := hX
  intro H locs ls hP hS hl
  exact lv_idiv hx hb hd hne (k H locs ls hP hS hl)
theorem g_irem (hX : GX X l R cc nL Ts own A P K) {x y : Int32} (hd : decode cc pc = .ok (.irem, 1)) (hne : ¬ y = 0) (k : Go X z (pc + 1) lv (.int (x - x / y * y) :: st)) : Go X z pc lv (.int y :: .int x :: st) := by
  obtain ⟨p, l', e, R', s, m, args, below, meth, c, Q, A', P', K', nL'⟩ := X
  obtain ⟨rfl, rfl, rfl, rfl, rfl, rfl, ⟨hx, hb, hml, hown, hts⟩, hK, hKM⟩ := hX
  intro H locs ls hP hS hl
  exact lv_irem hx hb hd hne (k H locs ls hP hS hl)
theorem g_ldiv (hX : GX X l R cc nL Ts own A P K) {x y : Int64} (hd : decode cc pc = .ok (.ldiv, 1)) (hne : ¬ y = 0) (k : Go X z (pc + 1) lv (.long (x / y) :: st)) : Go X z pc lv (.long y :: .long x :: st) := by
  obtain ⟨p, l', e, R', s, m, args, below, meth, c, Q, A', P', K', nL'⟩ := X
  obtain ⟨rfl, rfl, rfl, rfl, rfl, rfl, ⟨hx, hb, hml, hown, hts⟩, hK, hKM⟩ := hX
  intro H locs ls hP hS hl
  exact lv_ldiv hx hb hd hne (k H locs ls hP hS hl)
theorem g_i2l (hX : GX X l R cc nL Ts own A P K) {x : Int32} (hd : decode cc pc = .ok (.i2l, 1)) (k : Go X z (pc + 1) lv (.long x.toInt64 :: st)) : Go X z pc lv (.int x :: st) := by
  obtain ⟨p, l', e, R', s, m, args, below, meth, c, Q, A', P', K', nL'⟩ := X
  obtain ⟨rfl, rfl, rfl, rfl, rfl, rfl, ⟨hx, hb, hml, hown, hts⟩, hK, hKM⟩ := hX
  intro H locs ls hP hS hl
  exact lv_i2l hx hb hd rfl (k H locs ls hP hS hl)
theorem g_l2i (hX : GX X l R cc nL Ts own A P K) {x : Int64} (hd : decode cc pc = .ok (.l2i, 1)) (k : Go X z (pc + 1) lv (.int x.toInt32 :: st)) : Go X z pc lv (.long x :: st) := by
  obtain ⟨p, l', e, R', s, m, args, below, meth, c, Q, A', P', K', nL'⟩ := X
  obtain ⟨rfl, rfl, rfl, rfl, rfl, rfl, ⟨hx, hb, hml, hown, hts⟩, hK, hKM⟩ := hX
  intro H locs ls hP hS hl
  exact lv_l2i hx hb hd rfl (k H locs ls hP hS hl)
theorem g_i2c (hX : GX X l R cc nL Ts own A P K) {x : Int32} (hd : decode cc pc = .ok (.i2c, 1)) (k : Go X z (pc + 1) lv (.int (x.toUInt32 % 65536).toInt32 :: st)) : Go X z pc lv (.int x :: st) := by
  obtain ⟨p, l', e, R', s, m, args, below, meth, c, Q, A', P', K', nL'⟩ := X
  obtain ⟨rfl, rfl, rfl, rfl, rfl, rfl, ⟨hx, hb, hml, hown, hts⟩, hK, hKM⟩ := hX
  intro H locs ls hP hS hl
  exact lv_i2c hx hb hd rfl (k H locs ls hP hS hl)
theorem g_lushr (hX : GX X l R cc nL Ts own A P K) {x : Int64} {y : Int32} (hd : decode cc pc = .ok (.lushr, 1)) (k : Go X z (pc + 1) lv (.long (x.toUInt64 >>> (y.toInt64.toUInt64 &&& Int64.toUInt64 63)).toInt64 :: st)) : Go X z pc lv (.int y :: .long x :: st) := by
  obtain ⟨p, l', e, R', s, m, args, below, meth, c, Q, A', P', K', nL'⟩ := X
  obtain ⟨rfl, rfl, rfl, rfl, rfl, rfl, ⟨hx, hb, hml, hown, hts⟩, hK, hKM⟩ := hX
  intro H locs ls hP hS hl
  exact lv_lushr hx hb hd rfl (k H locs ls hP hS hl)
theorem g_lshl (hX : GX X l R cc nL Ts own A P K) {x : Int64} {y : Int32} (hd : decode cc pc = .ok (.lshl, 1)) (k : Go X z (pc + 1) lv (.long (x <<< (y.toInt64 &&& 63)) :: st)) : Go X z pc lv (.int y :: .long x :: st) := by
  obtain ⟨p, l', e, R', s, m, args, below, meth, c, Q, A', P', K', nL'⟩ := X
  obtain ⟨rfl, rfl, rfl, rfl, rfl, rfl, ⟨hx, hb, hml, hown, hts⟩, hK, hKM⟩ := hX
  intro H locs ls hP hS hl
  exact lv_lshl hx hb hd rfl (k H locs ls hP hS hl)
theorem g_lshr (hX : GX X l R cc nL Ts own A P K) {x : Int64} {y : Int32} (hd : decode cc pc = .ok (.lshr, 1)) (k : Go X z (pc + 1) lv (.long (x >>> (y.toInt64 &&& 63)) :: st)) : Go X z pc lv (.int y :: .long x :: st) := by
  obtain ⟨p, l', e, R', s, m, args, below, meth, c, Q, A', P', K', nL'⟩ := X
  obtain ⟨rfl, rfl, rfl, rfl, rfl, rfl, ⟨hx, hb, hml, hown, hts⟩, hK, hKM⟩ := hX
  intro H locs ls hP hS hl
  exact lv_lshr hx hb hd rfl (k H locs ls hP hS hl)
theorem g_lcmp (hX : GX X l R cc nL Ts own A P K) {x y : Int64} (hd : decode cc pc = .ok (.lcmp, 1)) (k : Go X z (pc + 1) lv (.int (lg_cmp x y) :: st)) : Go X z pc lv (.long y :: .long x :: st) := by
  obtain ⟨p, l', e, R', s, m, args, below, meth, c, Q, A', P', K', nL'⟩ := X
  obtain ⟨rfl, rfl, rfl, rfl, rfl, rfl, ⟨hx, hb, hml, hown, hts⟩, hK, hKM⟩ := hX
  intro H locs ls hP hS hl
  exact W.lcmp hx hb hd (k H locs ls hP hS hl)
theorem g_dup (hX : GX X l R cc nL Ts own A P K) {va : Value} (hd : decode cc pc = .ok (.dup, 1)) (h1 : va.category = 1) (k : Go X z (pc + 1) lv (va :: va :: st)) : Go X z pc lv (va :: st) := by
  obtain ⟨p, l', e, R', s, m, args, below, meth, c, Q, A', P', K', nL'⟩ := X
  obtain ⟨rfl, rfl, rfl, rfl, rfl, rfl, ⟨hx, hb, hml, hown, hts⟩, hK, hKM⟩ := hX
  intro H locs ls hP hS hl
  exact lv_dup hx hb hd h1 (k H locs ls hP hS hl)
theorem g_pop (hX : GX X l R cc nL Ts own A P K) {va : Value} (hd : decode cc pc = .ok (.pop, 1)) (h1 : va.category = 1) (k : Go X z (pc + 1) lv (st)) : Go X z pc lv (va :: st) := by
  obtain ⟨p, l', e, R', s, m, args, below, meth, c, Q, A', P', K', nL'⟩ := X
  obtain ⟨rfl, rfl, rfl, rfl, rfl, rfl, ⟨hx, hb, hml, hown, hts⟩, hK, hKM⟩ := hX
  intro H locs ls hP hS hl
  exact lv_pop hx hb hd h1 (k H locs ls hP hS hl)
theorem g_dup_x1 (hX : GX X l R cc nL Ts own A P K) {va vb : Value} (hd : decode cc pc = .ok (.dup_x1, 1)) (h1 : va.category = 1) (h2 : vb.category = 1) (k : Go X z (pc + 1) lv (va :: vb :: va :: st)) : Go X z pc lv (va :: vb :: st) := by
  obtain ⟨p, l', e, R', s, m, args, below, meth, c, Q, A', P', K', nL'⟩ := X
  obtain ⟨rfl, rfl, rfl, rfl, rfl, rfl, ⟨hx, hb, hml, hown, hts⟩, hK, hKM⟩ := hX
  intro H locs ls hP hS hl
  exact lv_dup_x1 hx hb hd h1 h2 (k H locs ls hP hS hl)
theorem g_dup2 (hX : GX X l R cc nL Ts own A P K) {va vb : Value} (hd : decode cc pc = .ok (.dup2, 1)) (h1 : va.category = 1) (h2 : vb.category = 1) (k : Go X z (pc + 1) lv (va :: vb :: va :: vb :: st)) : Go X z pc lv (va :: vb :: st) := by
  obtain ⟨p, l', e, R', s, m, args, below, meth, c, Q, A', P', K', nL'⟩ := X
  obtain ⟨rfl, rfl, rfl, rfl, rfl, rfl, ⟨hx, hb, hml, hown, hts⟩, hK, hKM⟩ := hX
  intro H locs ls hP hS hl
  exact lv_dup2_11 hx hb hd h1 h2 (k H locs ls hP hS hl)
theorem g_goto (hX : GX X l R cc nL Ts own A P K) {off : Int} (tgt : Nat) (hd : decode cc pc = .ok (.goto off, 3)) (ht : (pc : Int) + off = (tgt : Int)) (k : Go X z (tgt) lv (st)) : Go X z pc lv (st) := by
  obtain ⟨p, l', e, R', s, m, args, below, meth, c, Q, A', P', K', nL'⟩ := X
  obtain ⟨rfl, rfl, rfl, rfl, rfl, rfl, ⟨hx, hb, hml, hown, hts⟩, hK, hKM⟩ := hX
  intro H locs ls hP hS hl
  exact lv_goto hx hb hd ht (k H locs ls hP hS hl)
theorem g_if_eq (hX : GX X l R cc nL Ts own A P K) {x : Int32} {off : Int} (tgt : Nat) (hd : decode cc pc = .ok (.ifCond .eq off, 3)) (ht : (pc : Int) + off = (tgt : Int)) (kt : x = 0 → Go X z tgt lv st) (kf : ¬ (x = 0) → Go X z (pc + 3) lv st) : Go X z pc lv (.int x :: st) := by
  obtain ⟨p, l', e, R', s, m, args, below, meth, c, Q, A', P', K', nL'⟩ := X
  obtain ⟨rfl, rfl, rfl, rfl, rfl, rfl, ⟨hx, hb, hml, hown, hts⟩, hK, hKM⟩ := hX
  intro H locs ls hP hS hl
  exact lv_if_eq hx hb hd ht (fun q => kt q H locs ls hP hS hl) (fun q => kf (by simpa using q) H locs ls hP hS hl)
theorem g_ic_eq (hX : GX X l R cc nL Ts own A P K) {x y : Int32} {off : Int} (tgt : Nat) (hd : decode cc pc = .ok (.if_icmp .eq off, 3)) (ht : (pc : Int) + off = (tgt : Int)) (kt : x = y → Go X z tgt lv st) (kf : ¬ (x = y) → Go X z (pc + 3) lv st) : Go X z pc lv (.int y :: .int x :: st) := by
  obtain ⟨p, l', e, R', s, m, args, below, meth, c, Q, A', P', K', nL'⟩ := X
  obtain ⟨rfl, rfl, rfl, rfl, rfl, rfl, ⟨hx, hb, hml, hown, hts⟩, hK, hKM⟩ := hX
  intro H locs ls hP hS hl
  exact lv_icmp_eq hx hb hd ht (fun q => kt q H locs ls hP hS hl) (fun q => kf (by simpa using q) H locs ls hP hS hl)
theorem g_if_ne (hX : GX X l R cc nL Ts own A P K) {x : Int32} {off : Int} (tgt : Nat) (hd : decode cc pc = .ok (.ifCond .ne off, 3)) (ht : (pc : Int) + off = (tgt : Int)) (kt : ¬ x = 0 → Go X z tgt lv st) (kf : ¬ (¬ x = 0) → Go X z (pc + 3) lv st) : Go X z pc lv (.int x :: st) := by
  obtain ⟨p, l', e, R', s, m, args, below, meth, c, Q, A', P', K', nL'⟩ := X
  obtain ⟨rfl, rfl, rfl, rfl, rfl, rfl, ⟨hx, hb, hml, hown, hts⟩, hK, hKM⟩ := hX
  intro H locs ls hP hS hl
  exact lv_if_ne hx hb hd ht (fun q => kt q H locs ls hP hS hl) (fun q => kf (by simpa using q) H locs ls hP hS hl)
theorem g_ic_ne (hX : GX X l R cc nL Ts own A P K) {x y : Int32} {off : Int} (tgt : Nat) (hd : decode cc pc = .ok (.if_icmp .ne off, 3)) (ht : (pc : Int) + off = (tgt : Int)) (kt : ¬ x = y → Go X z tgt lv st) (kf : ¬ (¬ x = y) → Go X z (pc + 3) lv st) : Go X z pc lv (.int y :: .int x :: st) := by
  obtain ⟨p, l', e, R', s, m, args, below, meth, c, Q, A', P', K', nL'⟩ := X
  obtain ⟨rfl, rfl, rfl, rfl, rfl, rfl, ⟨hx, hb, hml, hown, hts⟩, hK, hKM⟩ := hX
  intro H locs ls hP hS hl
  exact lv_icmp_ne hx hb hd ht (fun q => kt q H locs ls hP hS hl) (fun q => kf (by simpa using q) H locs ls hP hS hl)
theorem g_if_lt (hX : GX X l R cc nL Ts own A P K) {x : Int32} {off : Int} (tgt : Nat) (hd : decode cc pc = .ok (.ifCond .lt off, 3)) (ht : (pc : Int) + off = (tgt : Int)) (kt : x < 0 → Go X z tgt lv st) (kf : ¬ (x < 0) → Go X z (pc + 3) lv st) : Go X z pc lv (.int x :: st) := by
  obtain ⟨p, l', e, R', s, m, args, below, meth, c, Q, A', P', K', nL'⟩ := X
  obtain ⟨rfl, rfl, rfl, rfl, rfl, rfl, ⟨hx, hb, hml, hown, hts⟩, hK, hKM⟩ := hX
  intro H locs ls hP hS hl
  exact lv_if_lt hx hb hd ht (fun q => kt q H locs ls hP hS hl) (fun q => kf (by simpa using q) H locs ls hP hS hl)
theorem g_ic_lt (hX : GX X l R cc nL Ts own A P K) {x y : Int32} {off : Int} (tgt : Nat) (hd : decode cc pc = .ok (.if_icmp .lt off, 3)) (ht : (pc : Int) + off = (tgt : Int)) (kt : x < y → Go X z tgt lv st) (kf : ¬ (x < y) → Go X z (pc + 3) lv st) : Go X z pc lv (.int y :: .int x :: st) := by
  obtain ⟨p, l', e, R', s, m, args, below, meth, c, Q, A', P', K', nL'⟩ := X
  obtain ⟨rfl, rfl, rfl, rfl, rfl, rfl, ⟨hx, hb, hml, hown, hts⟩, hK, hKM⟩ := hX
  intro H locs ls hP hS hl
  exact lv_icmp_lt hx hb hd ht (fun q => kt q H locs ls hP hS hl) (fun q => kf (by simpa using q) H locs ls hP hS hl)
theorem g_if_ge (hX : GX X l R cc nL Ts own A P K) {x : Int32} {off : Int} (tgt : Nat) (hd : decode cc pc = .ok (.ifCond .ge off, 3)) (ht : (pc : Int) + off = (tgt : Int)) (kt : 0 ≤ x → Go X z tgt lv st) (kf : ¬ (0 ≤ x) → Go X z (pc + 3) lv st) : Go X z pc lv (.int x :: st) := by
  obtain ⟨p, l', e, R', s, m, args, below, meth, c, Q, A', P', K', nL'⟩ := X
  obtain ⟨rfl, rfl, rfl, rfl, rfl, rfl, ⟨hx, hb, hml, hown, hts⟩, hK, hKM⟩ := hX
  intro H locs ls hP hS hl
  exact lv_if_ge hx hb hd ht (fun q => kt q H locs ls hP hS hl) (fun q => kf (by simpa using q) H locs ls hP hS hl)
theorem g_ic_ge (hX : GX X l R cc nL Ts own A P K) {x y : Int32} {off : Int} (tgt : Nat) (hd : decode cc pc = .ok (.if_icmp .ge off, 3)) (ht : (pc : Int) + off = (tgt : Int)) (kt : y ≤ x → Go X z tgt lv st) (kf : ¬ (y ≤ x) → Go X z (pc + 3) lv st) : Go X z pc lv (.int y :: .int x :: st) := by
  obtain ⟨p, l', e, R', s, m, args, below, meth, c, Q, A', P', K', nL'⟩ := X
  obtain ⟨rfl, rfl, rfl, rfl, rfl, rfl, ⟨hx, hb, hml, hown, hts⟩, hK, hKM⟩ := hX
  intro H locs ls hP hS hl
  exact lv_icmp_ge hx hb hd ht (fun q => kt q H locs ls hP hS hl) (fun q => kf (by simpa using q) H locs ls hP hS hl)
theorem g_if_gt (hX : GX X l R cc nL Ts own A P K) {x : Int32} {off : Int} (tgt : Nat) (hd : decode cc pc = .ok (.ifCond .gt off, 3)) (ht : (pc : Int) + off = (tgt : Int)) (kt : 0 < x → Go X z tgt lv st) (kf : ¬ (0 < x) → Go X z (pc + 3) lv st) : Go X z pc lv (.int x :: st) := by
  obtain ⟨p, l', e, R', s, m, args, below, meth, c, Q, A', P', K', nL'⟩ := X
  obtain ⟨rfl, rfl, rfl, rfl, rfl, rfl, ⟨hx, hb, hml, hown, hts⟩, hK, hKM⟩ := hX
  intro H locs ls hP hS hl
  exact lv_if_gt hx hb hd ht (fun q => kt q H locs ls hP hS hl) (fun q => kf (by simpa using q) H locs ls hP hS hl)
theorem g_ic_gt (hX : GX X l R cc nL Ts own A P K) {x y : Int32} {off : Int} (tgt : Nat) (hd : decode cc pc = .ok (.if_icmp .gt off, 3)) (ht : (pc : Int) + off = (tgt : Int)) (kt : y < x → Go X z tgt lv st) (kf : ¬ (y < x) → Go X z (pc + 3) lv st) : Go X z pc lv (.int y :: .int x :: st) := by
  obtain ⟨p, l', e, R', s, m, args, below, meth, c, Q, A', P', K', nL'⟩ := X
  obtain ⟨rfl, rfl, rfl, rfl, rfl, rfl, ⟨hx, hb, hml, hown, hts⟩, hK, hKM⟩ := hX
  intro H locs ls hP hS hl
  exact lv_icmp_gt hx hb hd ht (fun q => kt q H locs ls hP hS hl) (fun q => kf (by simpa using q) H locs ls hP hS hl)
theorem g_if_le (hX : GX X l R cc nL Ts own A P K) {x : Int32} {off : Int} (tgt : Nat) (hd : decode cc pc = .ok (.ifCond .le off, 3)) (ht : (pc : Int) + off = (tgt : Int)) (kt : x ≤ 0 → Go X z tgt lv st) (kf : ¬ (x ≤ 0) → Go X z (pc + 3) lv st) : Go X z pc lv (.int x :: st) := by
  obtain ⟨p, l', e, R', s, m, args, below, meth, c, Q, A', P', K', nL'⟩ := X
  obtain ⟨rfl, rfl, rfl, rfl, rfl, rfl, ⟨hx, hb, hml, hown, hts⟩, hK, hKM⟩ := hX
  intro H locs ls hP hS hl
  exact lv_if_le hx hb hd ht (fun q => kt q H locs ls hP hS hl) (fun q => kf (by simpa using q) H locs ls hP hS hl)
theorem g_ic_le (hX : GX X l R cc nL Ts own A P K) {x y : Int32} {off : Int} (tgt : Nat) (hd : decode cc pc = .ok (.if_icmp .le off, 3)) (ht : (pc : Int) + off = (tgt : Int)) (kt : x ≤ y → Go X z tgt lv st) (kf : ¬ (x ≤ y) → Go X z (pc + 3) lv st) : Go X z pc lv (.int y :: .int x :: st) := by
  obtain ⟨p, l', e, R', s, m, args, below, meth, c, Q, A', P', K', nL'⟩ := X
  obtain ⟨rfl, rfl, rfl, rfl, rfl, rfl, ⟨hx, hb, hml, hown, hts⟩, hK, hKM⟩ := hX
  intro H locs ls hP hS hl
  exact lv_icmp_le hx hb hd ht (fun q => kt q H locs ls hP hS hl) (fun q => kf (by simpa using q) H locs ls hP hS hl)
/-- a test of a truth value -/
theorem g_bi_eq (hX : GX X l R cc nL Ts own A P K) {B : Prop} [Decidable B] {off : Int} (tgt : Nat) (hd : decode cc pc = .ok (.ifCond .eq off, 3)) (ht : (pc : Int) + off = (tgt : Int)) (kt : ¬ B → Go X z tgt lv st) (kf : B → Go X z (pc + 3) lv st) : Go X z pc lv (.int (bi B) :: st) :=
  g_if_eq hX tgt hd ht (fun q => kt (bi_0.mp q)) (fun q => kf (Decidable.not_not.mp (fun n => q (bi_0.mpr n))))
theorem g_bi_ne (hX : GX X l R cc nL Ts own A P K) {B : Prop} [Decidable B] {off : Int} (tgt : Nat) (hd : decode cc pc = .ok (.ifCond .ne off, 3)) (ht : (pc : Int) + off = (tgt : Int)) (kt : B → Go X z tgt lv st) (kf : ¬ B → Go X z (pc + 3) lv st) : Go X z pc lv (.int (bi B) :: st) :=
  g_if_ne hX tgt hd ht (fun q => kt (Decidable.not_not.mp (fun n => q (bi_0.mpr n)))) (fun q => kf (bi_0.mp (Decidable.not_not.mp q)))
theorem g_tabIn (hX : GX X l R cc nL Ts own A P K) {dflt lo hi : Int} {offs : Array Int} {len : Nat} {x : Int32} {off : Int} (tgt : Nat) (hd : decode cc pc = .ok (.tableswitch dflt lo hi offs, len)) (h1 : ¬ x.toInt < lo) (h2 : ¬ hi < x.toInt) (ho : offs[(x.toInt - lo).toNat]? = some off) (ht : (pc : Int) + off = (tgt : Int)) (k : Go X z tgt lv st) : Go X z pc lv (.int x :: st) := by
  obtain ⟨p, l', e, R', s, m, args, below, meth, c, Q, A', P', K', nL'⟩ := X
  obtain ⟨rfl, rfl, rfl, rfl, rfl, rfl, ⟨hx, hb, hml, hown, hts⟩, hK, hKM⟩ := hX
  intro H locs ls hP hS hl
  exact lv_tableIn hx hb hd h1 h2 ho ht (k H locs ls hP hS hl)
theorem g_tabOut (hX : GX X l R cc nL Ts own A P K) {dflt lo hi : Int} {offs : Array Int} {len : Nat} {x : Int32} (tgt : Nat) (hd : decode cc pc = .ok (.tableswitch dflt lo hi offs, len)) (h : x.toInt < lo ∨ hi < x.toInt) (ht : (pc : Int) + dflt = (tgt : Int)) (k : Go X z tgt lv st) : Go X z pc lv (.int x :: st) := by
  obtain ⟨p, l', e, R', s, m, args, below, meth, c, Q, A', P', K', nL'⟩ := X
  obtain ⟨rfl, rfl, rfl, rfl, rfl, rfl, ⟨hx, hb, hml, hown, hts⟩, hK, hKM⟩ := hX
  intro H locs ls hP hS hl
  exact lv_tableOut hx hb hd h ht (k H locs ls hP hS hl)
/-- fewer locals, in another order -/
theorem g_sub (ks : List Nat) (lv2 : List (Nat × Value)) (hl2 : lv_pick lv ks = lv2) (k : Go X z pc lv2 st) : Go X z pc lv st := by
  obtain ⟨p, l', e, R', s, m, args, below, meth, c, Q, A', P', K', nL'⟩ := X
  intro H locs ls hP hS hl
  exact k H locs ls hP hS (lv_sub hl ks hl2)
theorem g_z {z2 : St} (h : z = z2) (k : Go X z2 pc lv st) : Go X z pc lv st := h ▸ k
theorem g_st {st2 : List Value} (h : st = st2) (k : Go X z pc lv st2) : Go X z pc lv st := h ▸ k
theorem g_lv (h : lv = lv') (k : Go X z pc lv' st) : Go X z pc lv st := h ▸ k
theorem g_pc {pc2 : Nat} (h : pc = pc2) (k : Go X z pc2 lv st) : Go X z pc lv st := h ▸ k
theorem g_top {x : Int32} (y : Int32) (h : x = y) (k : Go X z pc lv (.int y :: st)) : Go X z pc lv (.int x :: st) := h ▸ k
theorem g_max (hX : GX X l R cc nL Ts own A P K) {index : Nat} {x y : Int32} (hd : decode cc pc = .ok (.invokestatic index, 3)) (h1 : Cond.methodLink own index Lib.Math.max.name ∈ Ts) (h2 : Cond.static Lib.Math.max.name ∈ Ts) (h3 : Cond.initialized "java/lang/Math" ∈ Ts) (h4 : Cond.code Lib.Math.max.name Lib.Math.max.code 2 (some .int) ∈ Ts) (hf : 1 ≤ R.frames) (hlo : (st.map fun v => v.category).sum + 13 ≤ R.locals) (k : Go X z (pc + 3) lv (.int (if x < y then y else x) :: st)) : Go X z pc lv (.int y :: .int x :: st) := by
  obtain ⟨p, l', e, R', s, m, args, below, meth, c, Q, A', P', K', nL'⟩ := X
  obtain ⟨rfl, rfl, rfl, rfl, rfl, rfl, ⟨hx, hb, hml, hown, hts⟩, hK, hKM⟩ := hX
  intro H locs ls hP hS hl
  exact va_mmax hx hb (hml.trans hl.1.symm) hown (hts _ h1) (hts _ h2) (hts _ h3) (hts _ h4) hf hlo (Nat.zero_le _) (Nat.zero_le _) hd (k H locs ls hP hS hl)
theorem g_min (hX : GX X l R cc nL Ts own A P K) {index : Nat} {x y : Int32} (hd : decode cc pc = .ok (.invokestatic index, 3)) (h1 : Cond.methodLink own index Lib.Math.min.name ∈ Ts) (h2 : Cond.static Lib.Math.min.name ∈ Ts) (h3 : Cond.initialized "java/lang/Math" ∈ Ts) (h4 : Cond.code Lib.Math.min.name Lib.Math.min.code 2 (some .int) ∈ Ts) (hf : 1 ≤ R.frames) (hlo : (st.map fun v => v.category).sum + 13 ≤ R.locals) (k : Go X z (pc + 3) lv (.int (if y < x then y else x) :: st)) : Go X z pc lv (.int y :: .int x :: st) := by
  obtain ⟨p, l', e, R', s, m, args, below, meth, c, Q, A', P', K', nL'⟩ := X
  obtain ⟨rfl, rfl, rfl, rfl, rfl, rfl, ⟨hx, hb, hml, hown, hts⟩, hK, hKM⟩ := hX
  intro H locs ls hP hS hl
  exact va_mmin hx hb (hml.trans hl.1.symm) hown (hts _ h1) (hts _ h2) (hts _ h3) (hts _ h4) hf hlo (Nat.zero_le _) (Nat.zero_le _) hd (k H locs ls hP hS hl)
/-! calls -/
theorem g_cv (hX : GX X l R cc nL Ts own A P K) {y : MethodName} {C : String} {index n maxL : Nat} {bytes : ByteArray} {ret : Option FieldType} {ws : List Cond} {rm : Room} {b : Nat} {As rest : List Value} {post : Int32 → St → Prop} (hc : CI l A P K y ws rm (.ref b :: As) z post) (hk : CW R Ts own C index y bytes maxL ret ws rm n) (hrec : RC P K z C b) (hn : As.length = n) (hst : st = As.reverse ++ .ref b :: rest) (hW : (rest.map fun v => v.category).sum ≤ 8) (hd : decode cc pc = .ok (.invokevirtual index, 3)) (kk : ∀ r z', post r z' → Go X z' (pc + 3) lv (.int r :: rest)) : Go X z pc lv st := by
  obtain ⟨p, l', e, R', s, m, args, below, meth, c, Q, A', P', K', nL'⟩ := X
  obtain ⟨rfl, rfl, rfl, rfl, rfl, rfl, ⟨hx, hb, hml, hown, hts⟩, hK, hKM⟩ := hX
  obtain ⟨hG, ⟨ws', hw⟩, h1, h2, h3, h4⟩ := hk
  subst hst
  intro H locs ls hP hS hl
  refine va_calli (va_runV (As := As) (rest := rest) ⟨hx, hb, hml, hown, hts⟩ hc (cwV n hts hG hw h1 h2 h3 h4) ⟨fun a U g mk q => ⟨q.1, q.2.1, hKM U _ (State.WarmedH.refl U) (Nat.le_refl _) (fun _ _ _ => rfl) q.2.2⟩, hrec s H hK hP, fun U hU hW => ⟨rfl, by rw [hU]; exact hP, hKM s U hW (by rw [hU]; exact hS.1) (fun q h1 h2 => by rw [hU]; exact hS.2.1 q h1 h2) hK⟩⟩ rfl hn (hl.1.trans rfl) rfl (lv_room hW) hd ⟨Nat.zero_le _, Nat.zero_le _⟩) hS (fun q _ h => h) (fun q h => h) (fun r u t H1 locs1 ht hvm hp hB hz1 hk1 hS1 => ?_)
  exact kk r u hp H1 locs1 ls (ht ▸ hB.1) hS1 hl
theorem g_cvv (hX : GX X l R cc nL Ts own A P K) {y : MethodName} {C : String} {index n maxL : Nat} {bytes : ByteArray} {ret : Option FieldType} {ws : List Cond} {rm : Room} {b : Nat} {As rest : List Value} {post : St → Prop} (hc : CV l A P K y ws rm (.ref b :: As) z post) (hk : CW R Ts own C index y bytes maxL ret ws rm n) (hrec : RC P K z C b) (hn : As.length = n) (hst : st = As.reverse ++ .ref b :: rest) (hW : (rest.map fun v => v.category).sum ≤ 8) (hd : decode cc pc = .ok (.invokevirtual index, 3)) (kk : ∀ z', post z' → Go X z' (pc + 3) lv rest) : Go X z pc lv st := by
  obtain ⟨p, l', e, R', s, m, args, below, meth, c, Q, A', P', K', nL'⟩ := X
  obtain ⟨rfl, rfl, rfl, rfl, rfl, rfl, ⟨hx, hb, hml, hown, hts⟩, hK, hKM⟩ := hX
  obtain ⟨hG, ⟨ws', hw⟩, h1, h2, h3, h4⟩ := hk
  subst hst
  intro H locs ls hP hS hl
  refine va_callv (va_runV (As := As) (rest := rest) ⟨hx, hb, hml, hown, hts⟩ hc (cwV n hts hG hw h1 h2 h3 h4) ⟨fun a U g mk q => ⟨q.1, q.2.1, hKM U _ (State.WarmedH.refl U) (Nat.le_refl _) (fun _ _ _ => rfl) q.2.2⟩, hrec s H hK hP, fun U hU hW => ⟨rfl, by rw [hU]; exact hP, hKM s U hW (by rw [hU]; exact hS.1) (fun q h1 h2 => by rw [hU]; exact hS.2.1 q h1 h2) hK⟩⟩ rfl hn (hl.1.trans rfl) rfl (lv_room hW) hd ⟨Nat.zero_le _, Nat.zero_le _⟩) hS (fun q _ h => h) (fun q h => h) (fun u t H1 locs1 ht hvm hp hB hz1 hk1 hS1 => ?_)
  exact kk u hp H1 locs1 ls (ht ▸ hB.1) hS1 hl
theorem g_cs (hX : GX X l R cc nL Ts own A P K) {y : MethodName} {index n maxL : Nat} {bytes : ByteArray} {ret : Option FieldType} {ws : List Cond} {rm : Room} {As rest : List Value} {post : Int32 → St → Prop} (hc : CI l A P K y ws rm As z post) (hk : CS R Ts own index y bytes maxL ret ws rm n) (hn : As.length = n) (hst : st = As.reverse ++ rest) (hW : (rest.map fun v => v.category).sum ≤ 8) (hd : decode cc pc = .ok (.invokestatic index, 3)) (kk : ∀ r z', post r z' → Go X z' (pc + 3) lv (.int r :: rest)) : Go X z pc lv st := by
  obtain ⟨p, l', e, R', s, m, args, below, meth, c, Q, A', P', K', nL'⟩ := X
  obtain ⟨rfl, rfl, rfl, rfl, rfl, rfl, ⟨hx, hb, hml, hown, hts⟩, hK, hKM⟩ := hX
  obtain ⟨hG, ⟨ws', hw⟩, h1, h2, h3, h4⟩ := hk
  subst hst
  intro H locs ls hP hS hl
  refine va_calli (va_runS (As := As) (rest := rest) ⟨hx, hb, hml, hown, hts⟩ hc (cwS n hts hG hw h1 h2 h3 h4) ⟨fun a U g mk q => ⟨q.1, q.2.1, hKM U _ (State.WarmedH.refl U) (Nat.le_refl _) (fun _ _ _ => rfl) q.2.2⟩, fun U hU hW => ⟨rfl, by rw [hU]; exact hP, hKM s U hW (by rw [hU]; exact hS.1) (fun q h1 h2 => by rw [hU]; exact hS.2.1 q h1 h2) hK⟩⟩ rfl hn (hl.1.trans rfl) rfl (lv_room hW) hd ⟨Nat.zero_le _, Nat.zero_le _⟩) hS (fun q _ h => h) (fun q h => h) (fun r u t H1 locs1 ht hvm hp hB hz1 hk1 hS1 => ?_)
  exact kk r u hp H1 locs1 ls (ht ▸ hB.1) hS1 hl
/-- a static method of a nest mate -/
theorem g_cn (hX : GX X l R cc nL Ts own A P K) {y : MethodName} {host : String} {index n maxL : Nat} {bytes : ByteArray} {ret : Option FieldType} {ws : List Cond} {rm : Room} {As rest : List Value} {post : Int32 → St → Prop} (hc : CI l A P K y ws rm As z post) (hk : CN R Ts y bytes maxL ret ws rm n) (hnw : ∀ s, K s → va_Nw (.methodLinkNest own index y host) s) (hn : As.length = n) (hst : st = As.reverse ++ rest) (hW : (rest.map fun v => v.category).sum ≤ 8) (hd : decode cc pc = .ok (.invokestatic index, 3)) (kk : ∀ r z', post r z' → Go X z' (pc + 3) lv (.int r :: rest)) : Go X z pc lv st := by
  obtain ⟨p, l', e, R', s, m, args, below, meth, c, Q, A', P', K', nL'⟩ := X
  obtain ⟨rfl, rfl, rfl, rfl, rfl, rfl, ⟨hx, hb, hml, hown, hts⟩, hK, hKM⟩ := hX
  obtain ⟨hG, ⟨ws', hw⟩, h1, h2, h3, h4, h5, h6⟩ := hk
  subst hst
  intro H locs ls hP hS hl
  refine va_calli (va_runSN (As := As) (rest := rest) ⟨hx, hb, hml, hown, hts⟩ hc ⟨va_cnB n hts hG hw h1 h2 (hnw s hK) (hts _ h6) h3 h4, hts _ h5, trivial⟩ ⟨fun a U g mk q => ⟨q.1, q.2.1, hKM U _ (State.WarmedH.refl U) (Nat.le_refl _) (fun _ _ _ => rfl) q.2.2⟩, fun U hU hW => ⟨rfl, by rw [hU]; exact hP, hKM s U hW (by rw [hU]; exact hS.1) (fun q h1 h2 => by rw [hU]; exact hS.2.1 q h1 h2) hK⟩⟩ rfl hn (hl.1.trans rfl) rfl (lv_room hW) hd ⟨Nat.zero_le _, Nat.zero_le _⟩) hS (fun q _ h => h) (fun q h => h) (fun r u t H1 locs1 ht hvm hp hB hz1 hk1 hS1 => ?_)
  exact kk r u hp H1 locs1 ls (ht ▸ hB.1) hS1 hl
/-! the same for contracts that tell all -/
theorem g_cvE (hX : GX X l R cc nL Ts own A P K) {y : MethodName} {C : String} {index n maxL : Nat} {bytes : ByteArray} {ret : Option FieldType} {ws : List Cond} {rm : Room} {b : Nat} {As rest : List Value} {R0 : Int32} {Z0 : St} (hc : CI l A P K y ws rm (.ref b :: As) z (fun ρ ζ => ρ = R0 ∧ ζ = Z0)) (hk : CW R Ts own C index y bytes maxL ret ws rm n) (hrec : RC P K z C b) (hn : As.length = n) (hst : st = As.reverse ++ .ref b :: rest) (hW : (rest.map fun v => v.category).sum ≤ 8) (hd : decode cc pc = .ok (.invokevirtual index, 3)) (kk : Go X Z0 (pc + 3) lv (.int R0 :: rest)) : Go X z pc lv st :=
  g_cv hX hc hk hrec hn hst hW hd (fun r z' h => by rw [h.1, h.2]; exact kk)
theorem g_cvvE (hX : GX X l R cc nL Ts own A P K) {y : MethodName} {C : String} {index n maxL : Nat} {bytes : ByteArray} {ret : Option FieldType} {ws : List Cond} {rm : Room} {b : Nat} {As rest : List Value} {Z0 : St} (hc : CV l A P K y ws rm (.ref b :: As) z (fun ζ => ζ = Z0)) (hk : CW R Ts own C index y bytes maxL ret ws rm n) (hrec : RC P K z C b) (hn : As.length = n) (hst : st = As.reverse ++ .ref b :: rest) (hW : (rest.map fun v => v.category).sum ≤ 8) (hd : decode cc pc = .ok (.invokevirtual index, 3)) (kk : Go X Z0 (pc + 3) lv rest) : Go X z pc lv st :=
  g_cvv hX hc hk hrec hn hst hW hd (fun z' h => by rw [h]; exact kk)
theorem g_csE (hX : GX X l R cc nL Ts own A P K) {y : MethodName} {index n maxL : Nat} {bytes : ByteArray} {ret : Option FieldType} {ws : List Cond} {rm : Room} {As rest : List Value} {R0 : Int32} {Z0 : St} (hc : CI l A P K y ws rm As z (fun ρ ζ => ρ = R0 ∧ ζ = Z0)) (hk : CS R Ts own index y bytes maxL ret ws rm n) (hn : As.length = n) (hst : st = As.reverse ++ rest) (hW : (rest.map fun v => v.category).sum ≤ 8) (hd : decode cc pc = .ok (.invokestatic index, 3)) (kk : Go X Z0 (pc + 3) lv (.int R0 :: rest)) : Go X z pc lv st :=
  g_cs hX hc hk hn hst hW hd (fun r z' h => by rw [h.1, h.2]; exact kk)
theorem g_cnE (hX : GX X l R cc nL Ts own A P K) {y : MethodName} {host : String} {index n maxL : Nat} {bytes : ByteArray} {ret : Option FieldType} {ws : List Cond} {rm : Room} {As rest : List Value} {R0 : Int32} {Z0 : St} (hc : CI l A P K y ws rm As z (fun ρ ζ => ρ = R0 ∧ ζ = Z0)) (hk : CN R Ts y bytes maxL ret ws rm n) (hnw : ∀ s, K s → va_Nw (.methodLinkNest own index y host) s) (hn : As.length = n) (hst : st = As.reverse ++ rest) (hW : (rest.map fun v => v.category).sum ≤ 8) (hd : decode cc pc = .ok (.invokestatic index, 3)) (kk : Go X Z0 (pc + 3) lv (.int R0 :: rest)) : Go X z pc lv st :=
  g_cn hX hc hk hnw hn hst hW hd (fun r z' h => by rw [h.1, h.2]; exact kk)
end GOB

