/-! ===== constructors: worlds that grow ===== -/
def GN (X : GC) (D : va_G) (nw : Nat) (ad : Nat → Nat) (ct : Nat → va_E) (kc ks pc : Nat) (lv : List (Nat × Value)) (st : List Value) : Prop :=
  match X with
  | (p, l, e, R, s, m, args, below, meth, c, Q, A, _, _, nL) => ∀ (H : Heap) (locs : List Loc) (ls : Array Slot), va_P D vwCl (Wl nw ad ct) H → va_D A (Wl nw ad ct) → va_S A s.heap H locs → lv_has ls nL lv → W p l e R s m args below meth c H locs kc ks Q (F0 m pc ls st)
def HN (X : GC) (l : Launch) (R : Room) (cc : ByteArray) (nL : Nat) (Ts : List Cond) (own : String) (G : MG) (A : Nat → Prop) (K : State → Prop) : Prop :=
  match X with
  | (p, l', _, R', s, m, args, _, _, c, _, A', _, K', nL') => l' = l ∧ R' = R ∧ nL' = nL ∧ A' = A ∧ K' = K ∧ CallFix p m c cc nL s args Ts own ∧ KQ G K s ∧ KMv A (KQ G K) ∧ (∀ q, s.heap.size ≤ q → A q)
def NmI (X : GC) : Prop := match X with
  | (_, _, _, _, _, _, _, _, meth, _, _, _, _, _, _) => meth.name = "<init>"
theorem Wl_app {n : Nat} {ad ad' : Nat → Nat} {ct ct' : Nat → va_E} {q : Nat} {e : va_E} (h1 : ∀ i, i < n → ad' i = ad i) (h2 : ∀ i, i < n → ct' i = ct i) (h3 : ad' n = q) (h4 : ct' n = e) : Wl n ad ct ++ [(q, e)] = Wl (n + 1) ad' ct' := by
  unfold Wl
  rw [List.range_succ, List.map_append]
  congr 1
  · refine List.map_congr_left (fun i hi => ?_)
    rw [List.mem_range] at hi
    rw [h1 i hi, h2 i hi]
  · simp [h3, h4]
theorem Wl_cg {n : Nat} {ad ad' : Nat → Nat} {ct ct' : Nat → va_E} (h1 : ∀ i, i < n → ad' i = ad i) (h2 : ∀ i, i < n → ct' i = ct i) : Wl n ad ct = Wl n ad' ct' := by
  unfold Wl
  refine List.map_congr_left (fun i hi => ?_)
  rw [List.mem_range] at hi
  rw [h1 i hi, h2 i hi]
/-- a constructor's contract: n1 cells are there behind it, what was there has its address -/
def CK (l : Launch) (G : MG) (A : Nat → Prop) (K : State → Prop) (y : MethodName) (ws : List Cond) (rm : Room) (vs : List Value) (nw : Nat) (ad : Nat → Nat) (ct : Nat → va_E) (n1 : Nat) (CT : (Nat → Nat) → Nat → va_E) (mc ms : Nat) : Prop :=
  Met l y ws rm (va_Pc vs (fun U => (∀ q, U.heap.size ≤ q → A q) ∧ va_P G.1 vwCl (Wl nw ad ct) U.heap ∧ va_D A (Wl nw ad ct) ∧ KQ G K U)) (va_Qv (fun ad' : Nat → Nat => ∀ i, i < nw → ad' i = ad i) (fun ad' t => va_P G.1 vwCl (Wl n1 ad' (CT ad')) t.heap ∧ va_D A (Wl n1 ad' (CT ad'))) A) mc ms A
theorem ck_of {l : Launch} {G : MG} {A : Nat → Prop} {K : State → Prop} {y : MethodName} {ws ws' : List Cond} {rm : Room} {vs : List Value} {nw n1 mc ms : Nat} {ad : Nat → Nat} {ct : Nat → va_E} {CT : (Nat → Nat) → Nat → va_E} {cc : ByteArray} {maxL : Nat} {own : String} (hy : plainName y.cls = true) (hw : ws = Cond.code y cc maxL none :: ws') (how : y.cls = own) (hnm : y.name = "<init>") (hsz : (lg_sl vs).length ≤ maxL) (hKM : KMv A (KQ G K))
    (body : ∀ X : GC, HN X l rm cc maxL ws own G A K → NmI X → (∀ (ad' : Nat → Nat) (pc : Nat) (lv : List (Nat × Value)), decode cc pc = .ok (.return_, 1) → (∀ i, i < nw → ad' i = ad i) → GN X G.1 n1 ad' (CT ad') mc ms pc lv []) → GN X G.1 nw ad ct 0 0 0 (lv_args 0 vs) []) : CK l G A K y ws rm vs nw ad ct n1 CT mc ms := by
  refine Met.ofW hy hw ?_
  intro p e s m args below meth c s₁ B hml hv
  obtain ⟨rfl, hA, hP, hD, hK⟩ := hv
  have hown : s.vm.findClass own = some m.cls := by rw [← how]; exact findClass_of_methodNamed B.named
  have hts := atoms_spec (ws := ws) B.pre
  have hl := lv_entry vs (n := maxL) hsz
  have hin : meth.name = "<init>" := (name_of_methodNamed B.named B.method).1.trans hnm
  rw [lg_entry_eq]
  refine body (p, l, e, rm, s, m, vs.toArray, below, meth, c, MQ below (va_Qv (fun ad' : Nat → Nat => ∀ i, i < nw → ad' i = ad i) (fun ad' t => va_P G.1 vwCl (Wl n1 ad' (CT ad')) t.heap ∧ va_D A (Wl n1 ad' (CT ad'))) A) vs.toArray s mc ms A, A, fun _ _ => True, K, maxL) ⟨rfl, rfl, rfl, rfl, rfl, ⟨B.exec, B.bytes, hml, hown, hts⟩, hK, hKM, hA⟩ hin ?_ s.heap [] _ hP hD va_S.rf hl
  intro ad' pc lv hd hpost H locs ls hP' hD' hS hl'
  exact W.vret B.exec B.bytes B.returns (fun t ht hW => ⟨⟨ad', rfl, hpost, by rw [ht]; exact hP', hD'⟩, hS.F ht⟩) hS.2.2 hd
section GNR
variable {X : GC} {l : Launch} {R : Room} {cc : ByteArray} {nL : Nat} {Ts : List Cond} {own : String} {G : MG} {A : Nat → Prop} {K : State → Prop} {nw kc ks pc : Nat} {ad : Nat → Nat} {ct : Nat → va_E} {lv lv' : List (Nat × Value)} {st : List Value}

theorem n_iconst (hX : HN X l R cc nL Ts own G A K) {n : Int} (v : Int32) (hd : decode cc pc = .ok (.iconst n, 1)) (hv : Int32.ofInt n = v) (k : GN X G.1 nw ad ct kc ks (pc + 1) lv (.int v :: st)) : GN X G.1 nw ad ct kc ks pc lv (st) := by
  obtain ⟨p, l', e, R', s, m, args, below, meth, c, Q, A', P', K', nL'⟩ := X
  obtain ⟨rfl, rfl, rfl, rfl, rfl, ⟨hx, hb, hml, hown, hts⟩, hK, hKM, hA0⟩ := hX
  intro H locs ls hP hD hS hl
  exact lv_iconst hx hb hd hv (k H locs ls hP hD hS hl)

theorem n_bipush (hX : HN X l R cc nL Ts own G A K) {n : Int} (v : Int32) (hd : decode cc pc = .ok (.bipush n, 2)) (hv : (Int8.ofInt n).toInt32 = v) (k : GN X G.1 nw ad ct kc ks (pc + 2) lv (.int v :: st)) : GN X G.1 nw ad ct kc ks pc lv (st) := by
  obtain ⟨p, l', e, R', s, m, args, below, meth, c, Q, A', P', K', nL'⟩ := X
  obtain ⟨rfl, rfl, rfl, rfl, rfl, ⟨hx, hb, hml, hown, hts⟩, hK, hKM, hA0⟩ := hX
  intro H locs ls hP hD hS hl
  exact lv_bipush hx hb hd hv (k H locs ls hP hD hS hl)

theorem n_sipush (hX : HN X l R cc nL Ts own G A K) {n : Int} (v : Int32) (hd : decode cc pc = .ok (.sipush n, 3)) (hv : (Int16.ofInt n).toInt32 = v) (k : GN X G.1 nw ad ct kc ks (pc + 3) lv (.int v :: st)) : GN X G.1 nw ad ct kc ks pc lv (st) := by
  obtain ⟨p, l', e, R', s, m, args, below, meth, c, Q, A', P', K', nL'⟩ := X
  obtain ⟨rfl, rfl, rfl, rfl, rfl, ⟨hx, hb, hml, hown, hts⟩, hK, hKM, hA0⟩ := hX
  intro H locs ls hP hD hS hl
  exact lv_sipush hx hb hd hv (k H locs ls hP hD hS hl)

theorem n_iload_n (hX : HN X l R cc nL Ts own G A K) {n : Fin 4} {x : Int32} (q : Nat) (hd : decode cc pc = .ok (.iload_n n, 1)) (hk : lv[q]? = some ((n : Nat), .int x)) (k : GN X G.1 nw ad ct kc ks (pc + 1) lv (.int x :: st)) : GN X G.1 nw ad ct kc ks pc lv (st) := by
  obtain ⟨p, l', e, R', s, m, args, below, meth, c, Q, A', P', K', nL'⟩ := X
  obtain ⟨rfl, rfl, rfl, rfl, rfl, ⟨hx, hb, hml, hown, hts⟩, hK, hKM, hA0⟩ := hX
  intro H locs ls hP hD hS hl
  exact lv_iload_n hx hb hd rfl (lv_at hl q hk) (k H locs ls hP hD hS hl)

theorem n_aload_n (hX : HN X l R cc nL Ts own G A K) {n : Fin 4} {x : Nat} (q : Nat) (hd : decode cc pc = .ok (.aload_n n, 1)) (hk : lv[q]? = some ((n : Nat), .ref x)) (k : GN X G.1 nw ad ct kc ks (pc + 1) lv (.ref x :: st)) : GN X G.1 nw ad ct kc ks pc lv (st) := by
  obtain ⟨p, l', e, R', s, m, args, below, meth, c, Q, A', P', K', nL'⟩ := X
  obtain ⟨rfl, rfl, rfl, rfl, rfl, ⟨hx, hb, hml, hown, hts⟩, hK, hKM, hA0⟩ := hX
  intro H locs ls hP hD hS hl
  exact lv_aload_n hx hb hd rfl (lv_at hl q hk) (k H locs ls hP hD hS hl)

theorem n_istore_n (hX : HN X l R cc nL Ts own G A K) {n : Fin 4} {x : Int32} (lv2 : List (Nat × Value)) (hd : decode cc pc = .ok (.istore_n n, 1)) (hn : (n : Nat) < nL) (hl2 : ((n : Nat), Value.int x) :: lv.filter (fun q => !(q.1 == (n : Nat)) && !(q.1 + 1 == (n : Nat) && q.2.category == 2)) = lv2) (k : GN X G.1 nw ad ct kc ks (pc + 1) lv2 (st)) : GN X G.1 nw ad ct kc ks pc lv (.int x :: st) := by
  obtain ⟨p, l', e, R', s, m, args, below, meth, c, Q, A', P', K', nL'⟩ := X
  obtain ⟨rfl, rfl, rfl, rfl, rfl, ⟨hx, hb, hml, hown, hts⟩, hK, hKM, hA0⟩ := hX
  intro H locs ls hP hD hS hl
  exact lv_istore_n hx hb hd rfl hl hn hl2 (fun ls1 hl1 => k H locs ls1 hP hD hS hl1)

theorem n_goto (hX : HN X l R cc nL Ts own G A K) {off : Int} (tgt : Nat) (hd : decode cc pc = .ok (.goto off, 3)) (ht : (pc : Int) + off = (tgt : Int)) (k : GN X G.1 nw ad ct kc ks (tgt) lv (st)) : GN X G.1 nw ad ct kc ks pc lv (st) := by
  obtain ⟨p, l', e, R', s, m, args, below, meth, c, Q, A', P', K', nL'⟩ := X
  obtain ⟨rfl, rfl, rfl, rfl, rfl, ⟨hx, hb, hml, hown, hts⟩, hK, hKM, hA0⟩ := hX
  intro H locs ls hP hD hS hl
  exact lv_goto hx hb hd ht (k H locs ls hP hD hS hl)

theorem n_dup (hX : HN X l R cc nL Ts own G A K) {va : Value} (hd : decode cc pc = .ok (.dup, 1)) (h1 : va.category = 1) (k : GN X G.1 nw ad ct kc ks (pc + 1) lv (va :: va :: st)) : GN X G.1 nw ad ct kc ks pc lv (va :: st) := by
  obtain ⟨p, l', e, R', s, m, args, below, meth, c, Q, A', P', K', nL'⟩ := X
  obtain ⟨rfl, rfl, rfl, rfl, rfl, ⟨hx, hb, hml, hown, hts⟩, hK, hKM, hA0⟩ := hX
  intro H locs ls hP hD hS hl
  exact lv_dup hx hb hd h1 (k H locs ls hP hD hS hl)

theorem n_iinc (hX : HN X l R cc nL Ts own G A K) {i : Nat} {n : Int} {x : Int32} (v : Int32) (q : Nat) (lv2 : List (Nat × Value)) (hd : decode cc pc = .ok (.iinc i n, 3)) (hk : lv[q]? = some (i, .int x)) (hv : x + Int32.ofInt n = v) (hn : i < nL) (hl2 : (i, Value.int v) :: lv.filter (fun q => !(q.1 == i) && !(q.1 + 1 == i && q.2.category == 2)) = lv2) (k : GN X G.1 nw ad ct kc ks (pc + 3) lv2 (st)) : GN X G.1 nw ad ct kc ks pc lv (st) := by
  obtain ⟨p, l', e, R', s, m, args, below, meth, c, Q, A', P', K', nL'⟩ := X
  obtain ⟨rfl, rfl, rfl, rfl, rfl, ⟨hx, hb, hml, hown, hts⟩, hK, hKM, hA0⟩ := hX
  intro H locs ls hP hD hS hl
  exact lv_iinc hx hb hd hl hk hv hn hl2 (fun ls1 hl1 => k H locs ls1 hP hD hS hl1)

theorem n_ic_ge (hX : HN X l R cc nL Ts own G A K) {x y : Int32} {off : Int} (tgt : Nat) (hd : decode cc pc = .ok (.if_icmp .ge off, 3)) (ht : (pc : Int) + off = (tgt : Int)) (kt : y ≤ x → GN X G.1 nw ad ct kc ks tgt lv st) (kf : ¬ (y ≤ x) → GN X G.1 nw ad ct kc ks (pc + 3) lv st) : GN X G.1 nw ad ct kc ks pc lv (.int y :: .int x :: st) := by
  obtain ⟨p, l', e, R', s, m, args, below, meth, c, Q, A', P', K', nL'⟩ := X
  obtain ⟨rfl, rfl, rfl, rfl, rfl, ⟨hx, hb, hml, hown, hts⟩, hK, hKM, hA0⟩ := hX
  intro H locs ls hP hD hS hl
  exact lv_icmp_ge hx hb hd ht (fun q => kt q H locs ls hP hD hS hl) (fun q => kf (by simpa using q) H locs ls hP hD hS hl)

theorem n_astore_n (hX : HN X l R cc nL Ts own G A K) {n : Fin 4} {x : Nat} (lv2 : List (Nat × Value)) (hd : decode cc pc = .ok (.astore_n n, 1)) (hn : (n : Nat) < nL) (hl2 : ((n : Nat), Value.ref x) :: lv.filter (fun q => !(q.1 == (n : Nat)) && !(q.1 + 1 == (n : Nat) && q.2.category == 2)) = lv2) (k : GN X G.1 nw ad ct kc ks (pc + 1) lv2 (st)) : GN X G.1 nw ad ct kc ks pc lv (.ref x :: st) := by
  obtain ⟨p, l', e, R', s, m, args, below, meth, c, Q, A', P', K', nL'⟩ := X
  obtain ⟨rfl, rfl, rfl, rfl, rfl, ⟨hx, hb, hml, hown, hts⟩, hK, hKM, hA0⟩ := hX
  intro H locs ls hP hD hS hl
  exact lv_astore_n hx hb hd rfl hl hn hl2 (fun ls1 hl1 => k H locs ls1 hP hD hS hl1)

theorem n_lv (h : lv = lv') (k : GN X G.1 nw ad ct kc ks pc lv' st) : GN X G.1 nw ad ct kc ks pc lv st := h ▸ k
theorem n_sub (kl : List Nat) (lv2 : List (Nat × Value)) (hl2 : lv_pick lv kl = lv2) (k : GN X G.1 nw ad ct kc ks pc lv2 st) : GN X G.1 nw ad ct kc ks pc lv st := by
  obtain ⟨p, l', e, R', s, m, args, below, meth, c, Q, A', P', K', nL'⟩ := X
  intro H locs ls hP hD hS hl
  exact k H locs ls hP hD hS (lv_sub hl kl hl2)
theorem n_w {nw2 : Nat} {ad2 : Nat → Nat} {ct2 : Nat → va_E} (hn : nw = nw2) (h1 : ∀ i, i < nw → ad2 i = ad i) (h2 : ∀ i, i < nw → ct2 i = ct i) (k : GN X G.1 nw2 ad2 ct2 kc ks pc lv st) : GN X G.1 nw ad ct kc ks pc lv st := by
  obtain ⟨p, l', e, R', s, m, args, below, meth, c, Q, A', P', K', nL'⟩ := X
  subst hn
  intro H locs ls hP hD hS hl
  rw [Wl_cg h1 h2] at hP hD
  exact k H locs ls hP hD hS hl
theorem n_wid {kc2 ks2 : Nat} (h1 : kc ≤ kc2) (h2 : ks ≤ ks2) (k : GN X G.1 nw ad ct kc2 ks2 pc lv st) : GN X G.1 nw ad ct kc ks pc lv st := by
  obtain ⟨p, l', e, R', s, m, args, below, meth, c, Q, A', P', K', nL'⟩ := X
  intro H locs ls hP hD hS hl
  exact W.widen h1 h2 (k H locs ls hP hD hS hl)
theorem n_obj (hX : HN X l R cc nL Ts own G A K) {idx a : Nat} (h1 : Cond.methodLink own idx objectInit ∈ Ts) (h2 : Cond.instanceMethod objectInit ∈ Ts) (h3 : Cond.code objectInit ⟨#[0xb1]⟩ 1 none ∈ Ts) (hf : 1 ≤ R.frames) (hlo : (st.map fun v => v.category).sum + 12 ≤ R.locals) (hd : decode cc pc = .ok (.invokespecial idx, 3)) (kk : GN X G.1 nw ad ct kc ks (pc + 3) lv st) : GN X G.1 nw ad ct kc ks pc lv (.ref a :: st) := by
  obtain ⟨p, l', e, R', s, m, args, below, meth, c, Q, A', P', K', nL'⟩ := X
  obtain ⟨rfl, rfl, rfl, rfl, rfl, ⟨hx, hb, hml, hown, hts⟩, hK, hKM, hA0⟩ := hX
  intro H locs ls hP hD hS hl
  refine W.objInit (a := a) (rest := st) hx hb hown (hts _ h1) (hts _ h2) (hts _ h3) rfl (hl.1.trans hml.symm) rfl hd hf ?_ (kk H locs ls hP hD hS hl)
  show 2 * 0 + _ + 12 ≤ _
  omega
theorem n_new (hX : HN X l R cc nL Ts own G A K) {C : String} {T : u_T} {N ci index : Nat} {fs : List Value} (ct' : (Nat → Nat) → Nat → va_E) (hin : ∀ w ∈ u_ws C T N, w ∈ Ts) (ty : Nat → FieldType) (hty : ∀ k, k < N → parseFieldDescriptor (T k).2.2.1 = some (ty k)) (hcl : Cond.classLink own index C ∈ Ts) (hinst : Cond.instantiable C N ∈ Ts) (hini : Cond.initialized C ∈ Ts) (hc : vwCl[ci]? = some (C, T, N)) (hfs : ∀ j, j < N → defaultValue (ty j) = vp_V fs j) (hcells : kc + 1 ≤ R.cells) (hslots : ks + N ≤ R.slots) (hd : decode cc pc = .ok (.new index, 3))
    (hct : ∀ ad', (∀ i, i < nw → ad' i = ad i) → (∀ i, i < nw → ct' ad' i = ct i) ∧ ct' ad' nw = .inr (ci, fs)) (kk : ∀ ad', (∀ i, i < nw → ad' i = ad i) → GN X G.1 (nw + 1) ad' (ct' ad') (kc + 1) (ks + N) (pc + 3) lv (.ref (ad' nw) :: st)) : GN X G.1 nw ad ct kc ks pc lv st := by
  obtain ⟨p, l', e, R', s, m, args, below, meth, c, Q, A', P', K', nL'⟩ := X
  obtain ⟨rfl, rfl, rfl, rfl, rfl, ⟨hx, hb, hml, hown, hts⟩, hK, hKM, hA0⟩ := hX
  intro H locs ls hP hD hS hl
  refine va_new (ci := ci) (fs := fs) (C := C) (T := T) (N := N) hx hb hts hin ty hty hown (hts _ hcl) (hts _ hinst) (hts _ hini) hK.1 hP hD hS hA0 hc hfs hcells hslots hd (fun q H1 hP1 hD1 hS1 => ?_)
  have hup : ∀ i, i < nw → va_up ad nw q i = ad i := fun i hi => by simp [va_up]; omega
  have hq : va_up ad nw q nw = q := by simp [va_up]
  obtain ⟨c1, c2⟩ := hct _ hup
  rw [Wl_app hup c1 hq c2] at hP1 hD1
  have := kk (va_up ad nw q) hup
  rw [hq] at this
  exact this H1 locs ls hP1 hD1 hS1 hl
theorem n_newa (hX : HN X l R cc nL Ts own G A K) {atype : ArrayType} {ty : FieldType} {x : Int32} {N : Nat} {a0 : vp_A} (t : Nat) (ct' : (Nat → Nat) → Nat → va_E) (hra : ∀ (U : State) (cA : ClassId), va_RA U cA ty = (U.vm.findClass ("[" ++ ty.toString) = some cA)) (ht : (tysG G)[t]? = some (G.2.1 t, ty)) (harr : Cond.arrayClass (newarray.typeOf atype) ∈ Ts) (hty : newarray.typeOf atype = ty) (ha : ∀ cA : ClassId, vp_cell cA a0 = arrV cA N (fun _ => defaultValue ty)) (hn : ¬ x < 0) (hN : x.toNatClampNeg = N) (hby : N * componentBytes ty ≤ 536870912) (hcells : kc + 1 ≤ R.cells) (hslots : ks + N ≤ R.slots) (hd : decode cc pc = .ok (.newarray atype, 2))
    (hct : ∀ ad', (∀ i, i < nw → ad' i = ad i) → (∀ i, i < nw → ct' ad' i = ct i) ∧ ct' ad' nw = .inl (G.2.1 t, a0)) (kk : ∀ ad', (∀ i, i < nw → ad' i = ad i) → GN X G.1 (nw + 1) ad' (ct' ad') (kc + 1) (ks + N) (pc + 2) lv (.ref (ad' nw) :: st)) : GN X G.1 nw ad ct kc ks pc lv (.int x :: st) := by
  obtain ⟨p, l', e, R', s, m, args, below, meth, c, Q, A', P', K', nL'⟩ := X
  obtain ⟨rfl, rfl, rfl, rfl, rfl, ⟨hx, hb, hml, hown, hts⟩, hK, hKM, hA0⟩ := hX
  intro H locs ls hP hD hS hl
  refine va_newa (a0 := a0) (atype := atype) hx hb (hts _ harr) hty hK.1 hP hD hS hA0 ha hn hN hby hcells hslots hd (fun q cA H1 hK1 hP1 hD1 hS1 => ?_)
  have e1 := (hK1.2 (tysG G).length (cA, ty) (by simp)).2
  have e2 := (hK.1.2 t _ ht).2
  rw [hra] at e1 e2
  have e3 : cA = G.2.1 t := Option.some.inj (e1.symm.trans e2)
  subst e3
  have hup : ∀ i, i < nw → va_up ad nw q i = ad i := fun i hi => by simp [va_up]; omega
  have hq : va_up ad nw q nw = q := by simp [va_up]
  obtain ⟨c1, c2⟩ := hct _ hup
  rw [Wl_app hup c1 hq c2] at hP1 hD1
  have := kk (va_up ad nw q) hup
  rw [hq] at this
  exact this H1 locs ls hP1 hD1 hS1 hl
theorem n_newq (hX : HN X l R cc nL Ts own G A K) {C : String} {index : Nat} {x : Int32} {N : Nat} (t : Nat) (ct' : (Nat → Nat) → Nat → va_E) (ht : (tysG G)[t]? = some (G.2.1 t, .object C)) (hcl : Cond.classLink own index C ∈ Ts) (hover : ∀ U, K U → va_AO C U) (hn : ¬ x < 0) (hN : x.toNatClampNeg = N) (hby : N * 4 ≤ 536870912) (hcells : kc + 1 ≤ R.cells) (hslots : ks + N ≤ R.slots) (hd : decode cc pc = .ok (.anewarray index, 3))
    (hct : ∀ ad', (∀ i, i < nw → ad' i = ad i) → (∀ i, i < nw → ct' ad' i = ct i) ∧ ct' ad' nw = .inl (G.2.1 t, N, .inr (.inr (.inr (.inr (fun _ => none)))))) (kk : ∀ ad', (∀ i, i < nw → ad' i = ad i) → GN X G.1 (nw + 1) ad' (ct' ad') (kc + 1) (ks + N) (pc + 3) lv (.ref (ad' nw) :: st)) : GN X G.1 nw ad ct kc ks pc lv (.int x :: st) := by
  obtain ⟨p, l', e, R', s, m, args, below, meth, c, Q, A', P', K', nL'⟩ := X
  obtain ⟨rfl, rfl, rfl, rfl, rfl, ⟨hx, hb, hml, hown, hts⟩, hK, hKM, hA0⟩ := hX
  intro H locs ls hP hD hS hl
  refine va_newq hx hb hown (hts _ hcl) (hover s hK.2) hK.1 hP hD hS hA0 hn hN hby hcells hslots hd (fun q cA H1 hK1 hP1 hD1 hS1 => ?_)
  obtain ⟨-, -, -, -, -, e1⟩ := (hK1.2 (tysG G).length (cA, .object C) (by simp)).2
  obtain ⟨-, -, -, -, -, e2⟩ := (hK.1.2 t _ ht).2
  have e3 : cA = G.2.1 t := Option.some.inj (e1.symm.trans e2)
  subst e3
  have hup : ∀ i, i < nw → va_up ad nw q i = ad i := fun i hi => by simp [va_up]; omega
  have hq : va_up ad nw q nw = q := by simp [va_up]
  obtain ⟨c1, c2⟩ := hct _ hup
  rw [Wl_app hup c1 hq c2] at hP1 hD1
  have := kk (va_up ad nw q) hup
  rw [hq] at this
  exact this H1 locs ls hP1 hD1 hS1 hl
theorem n_putF (hX : HN X l R cc nL Ts own G A K) (hNm : NmI X) {C ref : String} {T : u_T} {Nf ci index a : Nat} {fs : List Value} (k : Nat) (ct2 : Nat → va_E) (hk : k < nw) (ha : ad k = a) (he : ct k = .inr (ci, fs)) (hc : vwCl[ci]? = some (C, T, Nf)) (hin : ∀ w ∈ u_ws C T Nf, w ∈ Ts) (ty0 : Nat → FieldType) (hty : ∀ k, k < Nf → parseFieldDescriptor (T k).2.2.1 = some (ty0 k)) (hnm : ∀ a, a < Nf → ∀ b, b < Nf → a ≠ b → (T a).2.1 ≠ (T b).2.1) (j : Nat) (hj : j < Nf) (hlink : Cond.fieldLink own index ref (T j).2.1 (T j).2.2.1 ∈ Ts) (href : ref = (T j).1) (hfin : (T j).2.2.2 = true) (hdecl : (T j).1 = own) {ty : FieldType} {v : Value} (hd0 : parseFieldDescriptor (T j).2.2.1 = some ty) (hn : narrow ty v = v) (hfit : fits ty v = true) (hlen : j < fs.length) (hd : decode cc pc = .ok (.putfield index, 3)) (hz : ∀ i, i < nw → ct2 i = va_up ct k (.inr (ci, fs.set j v)) i) (kk : GN X G.1 nw ad ct2 kc ks (pc + 3) lv st) : GN X G.1 nw ad ct kc ks pc lv (v :: .ref a :: st) := by
  obtain ⟨p, l', e, R', s, m, args, below, meth, c, Q, A', P', K', nL'⟩ := X
  obtain ⟨rfl, rfl, rfl, rfl, rfl, ⟨hx, hb, hml, hown, hts⟩, hK, hKM, hA0⟩ := hX
  intro H locs ls hP hD hS hl
  subst href
  subst ha
  refine va_putF (ci := ci) (fs := fs) (C := C) (T := T) (N := Nf) hx hb hts hin ty0 hty hnm hown hK.1 hP hD hS k (by rw [Wl_get hk, he]) hc j hj (hts _ hlink) (fun _ h => h) hfin hNm hdecl hd0 hn hfit hlen hd (fun H1 locs1 hP1 hD1 hS1 => kk H1 locs1 ls ?_ ?_ hS1 hl)
  · rw [Wl_set _ hk, ← Wl_congr hz] at hP1
    exact hP1
  · rw [Wl_set _ hk, ← Wl_congr hz] at hD1
    exact hD1
theorem n_put (hX : HN X l R cc nL Ts own G A K) {C ref : String} {T : u_T} {Nf ci index a : Nat} {fs : List Value} (k : Nat) (ct2 : Nat → va_E) (hk : k < nw) (ha : ad k = a) (he : ct k = .inr (ci, fs)) (hc : vwCl[ci]? = some (C, T, Nf)) (hin : ∀ w ∈ u_ws C T Nf, w ∈ Ts) (ty0 : Nat → FieldType) (hty : ∀ k, k < Nf → parseFieldDescriptor (T k).2.2.1 = some (ty0 k)) (hnm : ∀ a, a < Nf → ∀ b, b < Nf → a ≠ b → (T a).2.1 ≠ (T b).2.1) (j : Nat) (hj : j < Nf) (hlink : Cond.fieldLink own index ref (T j).2.1 (T j).2.2.1 ∈ Ts) (href : ref = (T j).1) (hfin : (T j).2.2.2 = false) {ty : FieldType} {v : Value} (hd0 : parseFieldDescriptor (T j).2.2.1 = some ty) (hn : narrow ty v = v) (hfit : fits ty v = true) (hlen : j < fs.length) (hd : decode cc pc = .ok (.putfield index, 3)) (hz : ∀ i, i < nw → ct2 i = va_up ct k (.inr (ci, fs.set j v)) i) (kk : GN X G.1 nw ad ct2 kc ks (pc + 3) lv st) : GN X G.1 nw ad ct kc ks pc lv (v :: .ref a :: st) := by
  obtain ⟨p, l', e, R', s, m, args, below, meth, c, Q, A', P', K', nL'⟩ := X
  obtain ⟨rfl, rfl, rfl, rfl, rfl, ⟨hx, hb, hml, hown, hts⟩, hK, hKM, hA0⟩ := hX
  intro H locs ls hP hD hS hl
  subst href
  subst ha
  refine va_put (ci := ci) (fs := fs) (C := C) (T := T) (N := Nf) hx hb hts hin ty0 hty hnm hown hK.1 hP hD hS k (by rw [Wl_get hk, he]) hc j hj (hts _ hlink) (fun _ h => h) hfin hd0 hn hfit hlen hd (fun H1 locs1 hP1 hD1 hS1 => kk H1 locs1 ls ?_ ?_ hS1 hl)
  · rw [Wl_set _ hk, ← Wl_congr hz] at hP1
    exact hP1
  · rw [Wl_set _ hk, ← Wl_congr hz] at hD1
    exact hD1
theorem n_get (hX : HN X l R cc nL Ts own G A K) {C ref : String} {T : u_T} {Nf ci index a : Nat} {fs : List Value} (k : Nat) (hk : k < nw) (ha : ad k = a) (he : ct k = .inr (ci, fs)) (hc : vwCl[ci]? = some (C, T, Nf)) (hin : ∀ w ∈ u_ws C T Nf, w ∈ Ts) (j : Nat) (hj : j < Nf) (hlink : Cond.fieldLink own index ref (T j).2.1 (T j).2.2.1 ∈ Ts) (href : ref = (T j).1) {v : Value} (hv : fs[j]? = some v) (hd : decode cc pc = .ok (.getfield index, 3)) (kk : GN X G.1 nw ad ct kc ks (pc + 3) lv (v :: st)) : GN X G.1 nw ad ct kc ks pc lv (.ref a :: st) := by
  obtain ⟨p, l', e, R', s, m, args, below, meth, c, Q, A', P', K', nL'⟩ := X
  obtain ⟨rfl, rfl, rfl, rfl, rfl, ⟨hx, hb, hml, hown, hts⟩, hK, hKM, hA0⟩ := hX
  intro H locs ls hP hD hS hl
  subst href
  subst ha
  exact va_get (ci := ci) (fs := fs) (C := C) (T := T) (N := Nf) hx hb hts hin hown hK.1 hP k (by rw [Wl_get hk, he]) hc j hj (hts _ hlink) (fun _ h => h) hv hd (kk H locs ls hP hD hS hl)
theorem n_alen (hX : HN X l R cc nL Ts own G A K) {x : vp_A} {ty : FieldType} {cA : ClassId} {a : Nat} (k : Nat) (hk : k < nw) (ha : ad k = a) (t : Nat) (he : ct k = .inl (cA, x)) (ht : (tysG G)[t]? = some (cA, ty)) {v : Int32} (hv : Int32.ofNat x.1 = v) (hd : decode cc pc = .ok (.arraylength, 1)) (kk : GN X G.1 nw ad ct kc ks (pc + 1) lv (.int v :: st)) : GN X G.1 nw ad ct kc ks pc lv (.ref a :: st) := by
  obtain ⟨p, l', e, R', s, m, args, below, meth, c, Q, A', P', K', nL'⟩ := X
  obtain ⟨rfl, rfl, rfl, rfl, rfl, ⟨hx, hb, hml, hown, hts⟩, hK, hKM, hA0⟩ := hX
  intro H locs ls hP hD hS hl
  subst ha
  exact va_alen hx hb hK.1 hP k t (by rw [Wl_get hk, he]) ht hv hd (kk H locs ls hP hD hS hl)
theorem n_iast (hX : HN X l R cc nL Ts own G A K) {N a : Nat} {f : Nat → Int32} {i x : Int32} (k : Nat) (ct2 : Nat → va_E) (hk : k < nw) (ha : ad k = a) (he : ct k = .inl (G.2.1 0, N, .inl f)) (q : Nat) (hi : i = nI q) (hq : q < N) (hN : N < 2 ^ 31) (hd : decode cc pc = .ok (.iastore, 1)) (hz : ∀ i, i < nw → ct2 i = va_up ct k (.inl (G.2.1 0, N, .inl (upd f q x))) i) (kk : GN X G.1 nw ad ct2 kc ks (pc + 1) lv st) : GN X G.1 nw ad ct kc ks pc lv (.int x :: .int i :: .ref a :: st) := by
  obtain ⟨p, l', e, R', s, m, args, below, meth, c, Q, A', P', K', nL'⟩ := X
  obtain ⟨rfl, rfl, rfl, rfl, rfl, ⟨hx, hb, hml, hown, hts⟩, hK, hKM, hA0⟩ := hX
  intro H locs ls hP hD hS hl
  subst ha
  obtain ⟨h1, h2⟩ := nI_i hi hq hN
  refine va_iast (f := f) hx hb hK.1 hP hD hS k 0 (by rw [Wl_get hk, he]) rfl h1 hd (fun H1 locs1 hP1 hD1 hS1 => kk H1 locs1 ls ?_ ?_ hS1 hl)
  · rw [h2, Wl_set _ hk, ← Wl_congr hz] at hP1
    exact hP1
  · rw [h2, Wl_set _ hk, ← Wl_congr hz] at hD1
    exact hD1
theorem n_astq (hX : HN X l R cc nL Ts own G A K) {N a v ci : Nat} {r : vw_C} {vs : List Value} {f : Nat → Option Nat} {i : Int32} (k t qk : Nat) (ct2 : Nat → va_E) (hk : k < nw) (ha : ad k = a) (he : ct k = .inl (G.2.1 t, N, .inr (.inr (.inr (.inr f))))) (ht : (tysG G)[t]? = some (G.2.1 t, .object r.1)) (hqk : qk < nw) (hva : ad qk = v) (hv : ct qk = .inr (ci, vs)) (hc : vwCl[ci]? = some r) (q : Nat) (hi : i = nI q) (hq : q < N) (hN : N < 2 ^ 31) (hd : decode cc pc = .ok (.aastore, 1)) (hz : ∀ i, i < nw → ct2 i = va_up ct k (.inl (G.2.1 t, N, .inr (.inr (.inr (.inr (va_up f q (some v))))))) i) (kk : GN X G.1 nw ad ct2 kc ks (pc + 1) lv st) : GN X G.1 nw ad ct kc ks pc lv (.ref v :: .int i :: .ref a :: st) := by
  obtain ⟨p, l', e, R', s, m, args, below, meth, c, Q, A', P', K', nL'⟩ := X
  obtain ⟨rfl, rfl, rfl, rfl, rfl, ⟨hx, hb, hml, hown, hts⟩, hK, hKM, hA0⟩ := hX
  intro H locs ls hP hD hS hl
  subst ha
  subst hva
  obtain ⟨h1, h2⟩ := nI_i hi hq hN
  refine va_astq (f := f) hx hb hK.1 hP hD hS k t qk ci (by rw [Wl_get hk, he]) ht (by rw [Wl_get hqk, hv]) hc h1 hd (fun H1 locs1 hP1 hD1 hS1 => kk H1 locs1 ls ?_ ?_ hS1 hl)
  · rw [h2, Wl_set _ hk, ← Wl_congr hz] at hP1
    exact hP1
  · rw [h2, Wl_set _ hk, ← Wl_congr hz] at hD1
    exact hD1
/-- the static row FIRST of the nest's host -/
theorem n_first (hX : HN X l R cc nL Ts own G A K) {index : Nat} (hn : ∀ U, K U → va_Nw (.fieldLinkNest own index "ClimbPermits" "FIRST" "[I" "ClimbPermits") U) (hs : ∀ U, K U → ∃ t, stA A "FIRST" t fFIRST U) : ∃ t, (∀ (nw : Nat) (ad : Nat → Nat) (ct : Nat → va_E) (kc ks pc : Nat) (lv : List (Nat × Value)) (st : List Value), decode cc pc = .ok (.getstatic index, 3) → GN X G.1 nw ad ct kc ks (pc + 3) lv (.ref t :: st) → GN X G.1 nw ad ct kc ks pc lv st) ∧
    (∀ (nw : Nat) (ad : Nat → Nat) (ct : Nat → va_E) (kc ks pc : Nat) (lv : List (Nat × Value)) (st : List Value), decode cc pc = .ok (.arraylength, 1) → GN X G.1 nw ad ct kc ks (pc + 1) lv (.int 6 :: st) → GN X G.1 nw ad ct kc ks pc lv (.ref t :: st)) ∧
    (∀ (nw : Nat) (ad : Nat → Nat) (ct : Nat → va_E) (kc ks pc : Nat) (lv : List (Nat × Value)) (st : List Value) (i : Int32) (q : Nat), i = nI q → q < 6 → decode cc pc = .ok (.iaload, 1) → GN X G.1 nw ad ct kc ks (pc + 1) lv (.int (fFIRST q) :: st) → GN X G.1 nw ad ct kc ks pc lv (.int i :: .ref t :: st)) := by
  obtain ⟨p, l', e, R', s, m, args, below, meth, c, Q, A', P', K', nL'⟩ := X
  obtain ⟨rfl, rfl, rfl, rfl, rfl, ⟨hx, hb, hml, hown, hts⟩, hK, hKM, hA0⟩ := hX
  obtain ⟨t, h1, h2⟩ := hs s hK.2
  refine ⟨t, ?_, ?_, ?_⟩
  · intro nw ad ct kc ks pc lv st hd k H locs ls hP hD hS hl
    exact va_getsN hx hb h1 hS hown (va_Nw.use rfl (hn s hK.2)) (fun _ h => h) hd (k H locs ls hP hD hS hl)
  · intro nw ad ct kc ks pc lv st hd k H locs ls hP hD hS hl
    exact va_tlen hx hb h2 hS rfl hd (k H locs ls hP hD hS hl)
  · intro nw ad ct kc ks pc lv st i q hi hq hd k H locs ls hP hD hS hl
    obtain ⟨h3, h4⟩ := nI_i hi hq (by decide)
    exact va_ti hx hb h2 hS h3 (by rw [h4]) hd (k H locs ls hP hD hS hl)
/-- a constructor is called -/
theorem n_init (hX : HN X l R cc nL Ts own G A K) {y : MethodName} {index maxL n1 mc ms b : Nat} {bytes : ByteArray} {ws ws' : List Cond} {rm : Room} {CT : (Nat → Nat) → Nat → va_E} (hc : CK l G A K y ws rm [.ref b] nw ad ct n1 CT mc ms) (hG : GoodIn Ts ws) (hw : ws = Cond.code y bytes maxL none :: ws') (hrc : rm.cells = mc) (hrs : rm.slots = ms) (hini : Cond.initialized y.cls ∈ Ts) (hml2 : Cond.methodLink own index y ∈ Ts) (him : Cond.instanceMethod y ∈ Ts) (hnm : y.name = "<init>") (hdd : y.cls ≠ "java/lang/invoke/MethodHandle" ∧ y.cls ≠ "java/lang/invoke/VarHandle" ∧ (parseMethodDescriptor y.desc).map (fun d => d.parameters.length) = some 0) (hR : rm.frames + 1 ≤ R.frames ∧ 8 + (maxL + 11) + rm.locals ≤ R.locals) (hW : (st.map fun v => v.category).sum ≤ 8) (hf : kc + mc ≤ R.cells ∧ ks + ms ≤ R.slots) (hd : decode cc pc = .ok (.invokespecial index, 3)) (kk : ∀ ad', (∀ i, i < nw → ad' i = ad i) → GN X G.1 n1 ad' (CT ad') (kc + mc) (ks + ms) (pc + 3) lv st) : GN X G.1 nw ad ct kc ks pc lv (.ref b :: st) := by
  obtain ⟨p, l', e, R', s, m, args, below, meth, c, Q, A', P', K', nL'⟩ := X
  obtain ⟨rfl, rfl, rfl, rfl, rfl, ⟨hx, hb, hml, hown, hts⟩, hK, hKM, hA0⟩ := hX
  intro H locs ls hP hD hS hl
  refine va_callv (va_runI (As := []) (rest := st) ⟨hx, hb, hml, hown, hts⟩ hc (cwI 0 hts hG hw hrc hrs (hts _ hini) (hts _ hml2) (hts _ him) hnm hdd hR) ⟨fun a U g mk q => ⟨q.1, q.2.1, q.2.2.1, q.2.2.2.1, hKM U _ (State.WarmedH.refl U) (Nat.le_refl _) (fun _ _ _ => rfl) q.2.2.2.2⟩, fun U hU hW => ⟨rfl, by rw [hU]; exact fun q h => hA0 q (Nat.le_trans hS.1 h), by rw [hU]; exact hP, hD, hKM s U hW (by rw [hU]; exact hS.1) (fun q h1 h2 => by rw [hU]; exact hS.2.1 q h1 h2) hK⟩⟩ rfl rfl hl.1 rfl (lv_room hW) hd hf) hS (fun q _ h => h) (fun q h => h) (fun u t H1 locs1 ht hvm hp hB hz1 hk1 hS1 => ?_)
  exact kk u hp H1 locs1 ls (ht ▸ hB.1) hB.2 hS1 hl
/-- a nest mate's constructor is called -/
theorem n_initN (hX : HN X l R cc nL Ts own G A K) {y : MethodName} {host : String} {index maxL n1 mc ms b : Nat} {bytes : ByteArray} {ws ws' : List Cond} {rm : Room} {CT : (Nat → Nat) → Nat → va_E} (hc : CK l G A K y ws rm [.ref b] nw ad ct n1 CT mc ms) (hG : GoodIn Ts ws) (hw : ws = Cond.code y bytes maxL none :: ws') (hrc : rm.cells = mc) (hrs : rm.slots = ms) (hini : Cond.initialized y.cls ∈ Ts) (hlk : ∀ U, K U → va_Nw (.methodLinkNest own index y host) U) (him : Cond.instanceMethod y ∈ Ts) (hnm : y.name = "<init>") (hdd : y.cls ≠ "java/lang/invoke/MethodHandle" ∧ y.cls ≠ "java/lang/invoke/VarHandle" ∧ (parseMethodDescriptor y.desc).map (fun d => d.parameters.length) = some 0) (hR : rm.frames + 1 ≤ R.frames ∧ 8 + (maxL + 11) + rm.locals ≤ R.locals) (hW : (st.map fun v => v.category).sum ≤ 8) (hf : kc + mc ≤ R.cells ∧ ks + ms ≤ R.slots) (hd : decode cc pc = .ok (.invokespecial index, 3)) (kk : ∀ ad', (∀ i, i < nw → ad' i = ad i) → GN X G.1 n1 ad' (CT ad') (kc + mc) (ks + ms) (pc + 3) lv st) : GN X G.1 nw ad ct kc ks pc lv (.ref b :: st) := by
  obtain ⟨p, l', e, R', s, m, args, below, meth, c, Q, A', P', K', nL'⟩ := X
  obtain ⟨rfl, rfl, rfl, rfl, rfl, ⟨hx, hb, hml, hown, hts⟩, hK, hKM, hA0⟩ := hX
  intro H locs ls hP hD hS hl
  refine va_callv (va_runIN (As := []) (rest := st) ⟨hx, hb, hml, hown, hts⟩ hc ⟨va_cnB 0 hts hG hw hrc hrs (hlk s hK.2) (hts _ hini) hdd hR, hnm, hts _ him⟩ ⟨fun a U g mk q => ⟨q.1, q.2.1, q.2.2.1, q.2.2.2.1, hKM U _ (State.WarmedH.refl U) (Nat.le_refl _) (fun _ _ _ => rfl) q.2.2.2.2⟩, fun U hU hW => ⟨rfl, by rw [hU]; exact fun q h => hA0 q (Nat.le_trans hS.1 h), by rw [hU]; exact hP, hD, hKM s U hW (by rw [hU]; exact hS.1) (fun q h1 h2 => by rw [hU]; exact hS.2.1 q h1 h2) hK⟩⟩ rfl rfl hl.1 rfl (lv_room hW) hd hf) hS (fun q _ h => h) (fun q h => h) (fun u t H1 locs1 ht hvm hp hB hz1 hk1 hS1 => ?_)
  exact kk u hp H1 locs1 ls (ht ▸ hB.1) hB.2 hS1 hl
end GNR
/-! what stands beside the cells while they are made -/
def ExI (A : Nat → Prop) (U : State) : Prop := va_AO RX5 U ∧ va_AO RX1 U ∧ va_AO RX0 U ∧ va_AO RX3 U ∧ va_Nw (.fieldLinkNest RX3 33 "ClimbPermits" "FIRST" "[I" "ClimbPermits") U ∧ va_Nw (.methodLinkNest RX3 40 yX5_init "ClimbPermits") U ∧ va_Nw (.methodLinkNest RX3 41 yX1_init "ClimbPermits") U ∧ va_Nw (.methodLinkNest RX3 42 yX0_init "ClimbPermits") U ∧ va_Nw (.methodLinkNest RX6 26 yX2_init "ClimbPermits") U ∧ va_Nw (.methodLinkNest RX6 33 yX4_init "ClimbPermits") U ∧ va_Nw (.methodLinkNest RX3 70 yX6_isDay "ClimbPermits") U ∧ ExS A U
theorem ExI_mv (A : Nat → Prop) : KMv A (ExI A) := by
  intro u U h1 h2 h3 ⟨a1, a2, a3, a4, a5, a6, a7, a8, a9, a10, a11, a12⟩
  exact ⟨a1.moved h1.alike, a2.moved h1.alike, a3.moved h1.alike, a4.moved h1.alike, a5.warmF h1, a6.warmM h1, a7.warmM h1, a8.warmM h1, a9.warmM h1, a10.warmM h1, a11.warmM h1, ExS_mv _ u U h1 h2 h3 a12⟩
abbrev CKi (l : Launch) (G : MG) (A : Nat → Prop) (y : MethodName) (ws : List Cond) (rm : Room) (b nw : Nat) (ad : Nat → Nat) (ct : Nat → va_E) (n1 : Nat) (CT : (Nat → Nat) → Nat → va_E) (mc ms : Nat) : Prop := CK l G A (ExI A) y ws rm [.ref b] nw ad ct n1 CT mc ms
