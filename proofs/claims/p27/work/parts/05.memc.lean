/-! ===== worlds by numbers of cells ===== -/
def Wl (N : Nat) (ad : Nat → Nat) (ct : Nat → va_E) : va_W := (List.range N).map fun i => (ad i, ct i)
theorem Wl_get {N : Nat} {ad : Nat → Nat} {ct : Nat → va_E} {i : Nat} (h : i < N) : (Wl N ad ct)[i]? = some (ad i, ct i) := by simp [Wl, h]
theorem Wl_none {N : Nat} {ad : Nat → Nat} {ct : Nat → va_E} {i : Nat} (h : ¬ i < N) : (Wl N ad ct)[i]? = none := by simp [Wl]; omega
theorem Wl_set {N : Nat} {ad : Nat → Nat} {ct : Nat → va_E} {i : Nat} (e : va_E) (h : i < N) : (Wl N ad ct).set i (ad i, e) = Wl N ad (va_up ct i e) := by
  apply List.ext_getElem?
  intro j
  by_cases hj : j < N
  · rw [Wl_get hj]
    by_cases hji : j = i
    · subst hji
      rw [List.getElem?_set_self (by simpa [Wl] using hj)]
      simp [va_up]
    · rw [List.getElem?_set_ne (Ne.symm hji), Wl_get hj]
      simp [va_up, hji]
  · rw [Wl_none hj]
    apply List.getElem?_eq_none
    simp [Wl]; omega
theorem Wl_congr {N : Nat} {ad : Nat → Nat} {ct ct' : Nat → va_E} (h : ∀ i, i < N → ct i = ct' i) : Wl N ad ct = Wl N ad ct' := by
  apply List.ext_getElem?
  intro j
  by_cases hj : j < N
  · rw [Wl_get hj, Wl_get hj, h j hj]
  · rw [Wl_none hj, Wl_none hj]
def AA (N : Nat) (ad : Nat → Nat) : Nat → Prop := fun q => ∃ i, i < N ∧ q = ad i
def Ap (N : Nat) (ad : Nat → Nat) : Prop := ∀ i j, i < N → j < N → ad i = ad j → i = j
theorem Wl_inv {N : Nat} {ad : Nat → Nat} {ct : Nat → va_E} {i : Nat} {q : Nat × va_E} (h : (Wl N ad ct)[i]? = some q) : i < N ∧ q = (ad i, ct i) := by
  by_cases hi : i < N
  · rw [Wl_get hi] at h
    exact ⟨hi, (Option.some.inj h).symm⟩
  · rw [Wl_none hi] at h
    cases h
theorem Wl_D {N : Nat} {ad : Nat → Nat} {ct : Nat → va_E} (h : Ap N ad) : va_D (AA N ad) (Wl N ad ct) := by
  refine ⟨fun i j p q hi hj hpq => ?_, fun k q hk => ?_⟩
  · obtain ⟨h1, rfl⟩ := Wl_inv hi
    obtain ⟨h2, rfl⟩ := Wl_inv hj
    exact h i j h1 h2 hpq
  · obtain ⟨h1, rfl⟩ := Wl_inv hk
    exact ⟨k, h1, rfl⟩
abbrev MG : Type := va_G × (Nat → ClassId) × (Nat → Nat)
def PW (N : Nat) (G : MG) (cf : MG → St → Nat → va_E) (z : St) (H : Heap) : Prop := va_P G.1 vwCl (Wl N G.2.2 (cf G z)) H
def tysG (G : MG) : List (ClassId × FieldType) := [(G.2.1 0, .int), (G.2.1 1, .boolean), (G.2.1 2, .char), (G.2.1 3, .object RX5), (G.2.1 4, .object RX1), (G.2.1 5, .object RX0), (G.2.1 6, .object RX3)]
def KQ (G : MG) (Ex : State → Prop) (U : State) : Prop := va_K G.1 vwCl (tysG G) U ∧ Ex U
theorem KQ_mv {G : MG} {Ex : State → Prop} {A : Nat → Prop} (h : KMv A Ex) : KMv A (KQ G Ex) := fun u U h1 h2 h3 hK => ⟨hK.1.moved h1.alike, h u U h1 h2 h3 hK.2⟩
section MW
variable {X : GC} {l : Launch} {R : Room} {cc : ByteArray} {nL : Nat} {Ts : List Cond} {own : String} {A : Nat → Prop} {z z2 : St} {pc : Nat} {lv lv' : List (Nat × Value)} {st : List Value} {N : Nat} {G : MG} {cf : MG → St → Nat → va_E} {Ex : State → Prop}
theorem w_rec {C : String} {T : u_T} {Nf ci : Nat} {fs : List Value} (k : Nat) (hk : k < N) (he : cf G z k = .inr (ci, fs)) (hc : vwCl[ci]? = some (C, T, Nf)) : RC (PW N G cf) (KQ G Ex) z C (G.2.2 k) := by
  intro s H hK hP
  exact va_recv (q := (C, T, Nf)) hK.1 hP hc (by rw [Wl_get hk, he])
theorem w_get (hX : GX X l R cc nL Ts own A (PW N G cf) (KQ G Ex)) {C ref : String} {T : u_T} {Nf ci index : Nat} {fs : List Value} (k : Nat) (hk : k < N) (he : cf G z k = .inr (ci, fs)) (hc : vwCl[ci]? = some (C, T, Nf)) (hin : ∀ w ∈ u_ws C T Nf, w ∈ Ts) (j : Nat) (hj : j < Nf) (hlink : Cond.fieldLink own index ref (T j).2.1 (T j).2.2.1 ∈ Ts) (href : ref = (T j).1) {v : Value} (hv : fs[j]? = some v) (hd : decode cc pc = .ok (.getfield index, 3)) (kk : Go X z (pc + 3) lv (v :: st)) : Go X z pc lv (.ref (G.2.2 k) :: st) := by
  obtain ⟨p, l', e, R', s, m, args, below, meth, c, Q, A', P', K', nL'⟩ := X
  obtain ⟨rfl, rfl, rfl, rfl, rfl, rfl, ⟨hx, hb, hml, hown, hts⟩, hK, hKM⟩ := hX
  intro H locs ls hP hS hl
  subst href
  exact va_get (ci := ci) (fs := fs) (C := C) (T := T) (N := Nf) hx hb hts hin hown hK.1 hP k (by rw [Wl_get hk, he]) hc j hj (hts _ hlink) (fun _ h => h) hv hd (kk H locs ls hP hS hl)
theorem w_put (hX : GX X l R cc nL Ts own (AA N G.2.2) (PW N G cf) (KQ G Ex)) (hA : Ap N G.2.2) {C ref : String} {T : u_T} {Nf ci index : Nat} {fs : List Value} (k : Nat) (hk : k < N) (he : cf G z k = .inr (ci, fs)) (hc : vwCl[ci]? = some (C, T, Nf)) (hin : ∀ w ∈ u_ws C T Nf, w ∈ Ts) (ty0 : Nat → FieldType) (hty : ∀ k, k < Nf → parseFieldDescriptor (T k).2.2.1 = some (ty0 k)) (hnm : ∀ a, a < Nf → ∀ b, b < Nf → a ≠ b → (T a).2.1 ≠ (T b).2.1) (j : Nat) (hj : j < Nf) (hlink : Cond.fieldLink own index ref (T j).2.1 (T j).2.2.1 ∈ Ts) (href : ref = (T j).1) (hfin : (T j).2.2.2 = false) {ty : FieldType} {v : Value} (hd0 : parseFieldDescriptor (T j).2.2.1 = some ty) (hn : narrow ty v = v) (hfit : fits ty v = true) (hlen : j < fs.length) (hz : ∀ i, i < N → cf G z2 i = va_up (cf G z) k (.inr (ci, fs.set j v)) i) (hd : decode cc pc = .ok (.putfield index, 3)) (kk : Go X z2 (pc + 3) lv st) : Go X z pc lv (v :: .ref (G.2.2 k) :: st) := by
  obtain ⟨p, l', e, R', s, m, args, below, meth, c, Q, A', P', K', nL'⟩ := X
  obtain ⟨rfl, rfl, rfl, rfl, rfl, rfl, ⟨hx, hb, hml, hown, hts⟩, hK, hKM⟩ := hX
  intro H locs ls hP hS hl
  subst href
  refine va_put (ci := ci) (fs := fs) (C := C) (T := T) (N := Nf) hx hb hts hin ty0 hty hnm hown hK.1 hP (Wl_D hA) hS k (by rw [Wl_get hk, he]) hc j hj (hts _ hlink) (fun _ h => h) hfin hd0 hn hfit hlen hd (fun H1 locs1 hP1 _ hS1 => kk H1 locs1 ls ?_ hS1 hl)
  rw [Wl_set _ hk, ← Wl_congr hz] at hP1
  exact hP1
theorem nI_i {i : Int32} {q n : Nat} (hi : i = nI q) (hq : q < n) (hn : n < 2 ^ 31) : vp_in i n ∧ i.toNatClampNeg = q := by
  subst hi
  exact ⟨vp_in_nI hq hn, nI_clamp (by omega)⟩
theorem w_alen (hX : GX X l R cc nL Ts own A (PW N G cf) (KQ G Ex)) {x : vp_A} {ty : FieldType} {cA : ClassId} (k : Nat) (hk : k < N) (t : Nat) (he : cf G z k = .inl (cA, x)) (ht : (tysG G)[t]? = some (cA, ty)) {v : Int32} (hv : Int32.ofNat x.1 = v) (hd : decode cc pc = .ok (.arraylength, 1)) (kk : Go X z (pc + 1) lv (.int v :: st)) : Go X z pc lv (.ref (G.2.2 k) :: st) := by
  obtain ⟨p, l', e, R', s, m, args, below, meth, c, Q, A', P', K', nL'⟩ := X
  obtain ⟨rfl, rfl, rfl, rfl, rfl, rfl, ⟨hx, hb, hml, hown, hts⟩, hK, hKM⟩ := hX
  intro H locs ls hP hS hl
  exact va_alen hx hb hK.1 hP k t (by rw [Wl_get hk, he]) ht hv hd (kk H locs ls hP hS hl)
theorem w_iald (hX : GX X l R cc nL Ts own A (PW N G cf) (KQ G Ex)) {n : Nat} {f : Nat → Int32} {i : Int32} (k : Nat) (hk : k < N) (he : cf G z k = .inl (G.2.1 0, n, .inl f)) (q : Nat) (hi : i = nI q) (hq : q < n) (hn : n < 2 ^ 31) (hd : decode cc pc = .ok (.iaload, 1)) (kk : Go X z (pc + 1) lv (.int (f q) :: st)) : Go X z pc lv (.int i :: .ref (G.2.2 k) :: st) := by
  obtain ⟨p, l', e, R', s, m, args, below, meth, c, Q, A', P', K', nL'⟩ := X
  obtain ⟨rfl, rfl, rfl, rfl, rfl, rfl, ⟨hx, hb, hml, hown, hts⟩, hK, hKM⟩ := hX
  intro H locs ls hP hS hl
  obtain ⟨h1, h2⟩ := nI_i hi hq hn
  refine va_iald (f := f) hx hb hK.1 hP k 0 (by rw [Wl_get hk, he]) rfl h1 hd ?_
  rw [h2]
  exact kk H locs ls hP hS hl
theorem w_zald (hX : GX X l R cc nL Ts own A (PW N G cf) (KQ G Ex)) {n : Nat} {f : Nat → Int32} {i : Int32} (k : Nat) (hk : k < N) (he : cf G z k = .inl (G.2.1 1, n, .inl f)) (q : Nat) (hi : i = nI q) (hq : q < n) (hn : n < 2 ^ 31) (hd : decode cc pc = .ok (.baload, 1)) (kk : Go X z (pc + 1) lv (.int (f q) :: st)) : Go X z pc lv (.int i :: .ref (G.2.2 k) :: st) := by
  obtain ⟨p, l', e, R', s, m, args, below, meth, c, Q, A', P', K', nL'⟩ := X
  obtain ⟨rfl, rfl, rfl, rfl, rfl, rfl, ⟨hx, hb, hml, hown, hts⟩, hK, hKM⟩ := hX
  intro H locs ls hP hS hl
  obtain ⟨h1, h2⟩ := nI_i hi hq hn
  refine va_zald (f := f) hx hb hK.1 hP k 1 (by rw [Wl_get hk, he]) rfl h1 hd ?_
  rw [h2]
  exact kk H locs ls hP hS hl
theorem w_cald (hX : GX X l R cc nL Ts own A (PW N G cf) (KQ G Ex)) {n : Nat} {f : Nat → Int32} {i : Int32} (k : Nat) (hk : k < N) (he : cf G z k = .inl (G.2.1 2, n, .inl f)) (q : Nat) (hi : i = nI q) (hq : q < n) (hn : n < 2 ^ 31) (hd : decode cc pc = .ok (.caload, 1)) (kk : Go X z (pc + 1) lv (.int (f q) :: st)) : Go X z pc lv (.int i :: .ref (G.2.2 k) :: st) := by
  obtain ⟨p, l', e, R', s, m, args, below, meth, c, Q, A', P', K', nL'⟩ := X
  obtain ⟨rfl, rfl, rfl, rfl, rfl, rfl, ⟨hx, hb, hml, hown, hts⟩, hK, hKM⟩ := hX
  intro H locs ls hP hS hl
  obtain ⟨h1, h2⟩ := nI_i hi hq hn
  refine va_cald (f := f) hx hb hK.1 hP k 2 (by rw [Wl_get hk, he]) rfl h1 hd ?_
  rw [h2]
  exact kk H locs ls hP hS hl
theorem w_aald (hX : GX X l R cc nL Ts own A (PW N G cf) (KQ G Ex)) {n : Nat} {f : Nat → Option Nat} {i : Int32} {cA : ClassId} {C : String} (k : Nat) (hk : k < N) (t : Nat) (he : cf G z k = .inl (cA, n, .inr (.inr (.inr (.inr f))))) (ht : (tysG G)[t]? = some (cA, .object C)) (q : Nat) (hi : i = nI q) (hq : q < n) (hn : n < 2 ^ 31) {v : Value} (hv : va_rf (f q) = v) (hd : decode cc pc = .ok (.aaload, 1)) (kk : Go X z (pc + 1) lv (v :: st)) : Go X z pc lv (.int i :: .ref (G.2.2 k) :: st) := by
  obtain ⟨p, l', e, R', s, m, args, below, meth, c, Q, A', P', K', nL'⟩ := X
  obtain ⟨rfl, rfl, rfl, rfl, rfl, rfl, ⟨hx, hb, hml, hown, hts⟩, hK, hKM⟩ := hX
  intro H locs ls hP hS hl
  obtain ⟨h1, h2⟩ := nI_i hi hq hn
  refine va_aldq (f := f) hx hb hK.1 hP k t (by rw [Wl_get hk, he]) ht h1 hd ?_
  rw [h2, hv]
  exact kk H locs ls hP hS hl
theorem w_iast (hX : GX X l R cc nL Ts own (AA N G.2.2) (PW N G cf) (KQ G Ex)) (hA : Ap N G.2.2) {n : Nat} {f : Nat → Int32} {i x : Int32} (k : Nat) (hk : k < N) (he : cf G z k = .inl (G.2.1 0, n, .inl f)) (q : Nat) (hi : i = nI q) (hq : q < n) (hn : n < 2 ^ 31) (hz : ∀ i, i < N → cf G z2 i = va_up (cf G z) k (.inl (G.2.1 0, n, .inl (upd f q x))) i) (hd : decode cc pc = .ok (.iastore, 1)) (kk : Go X z2 (pc + 1) lv st) : Go X z pc lv (.int x :: .int i :: .ref (G.2.2 k) :: st) := by
  obtain ⟨p, l', e, R', s, m, args, below, meth, c, Q, A', P', K', nL'⟩ := X
  obtain ⟨rfl, rfl, rfl, rfl, rfl, rfl, ⟨hx, hb, hml, hown, hts⟩, hK, hKM⟩ := hX
  intro H locs ls hP hS hl
  obtain ⟨h1, h2⟩ := nI_i hi hq hn
  refine va_iast (f := f) hx hb hK.1 hP (Wl_D hA) hS k 0 (by rw [Wl_get hk, he]) rfl h1 hd (fun H1 locs1 hP1 _ hS1 => kk H1 locs1 ls ?_ hS1 hl)
  rw [h2, Wl_set _ hk, ← Wl_congr hz] at hP1
  exact hP1
theorem w_zast (hX : GX X l R cc nL Ts own (AA N G.2.2) (PW N G cf) (KQ G Ex)) (hA : Ap N G.2.2) {n : Nat} {f : Nat → Int32} {i x : Int32} (k : Nat) (hk : k < N) (he : cf G z k = .inl (G.2.1 1, n, .inl f)) (q : Nat) (hi : i = nI q) (hq : q < n) (hn : n < 2 ^ 31) (hz : ∀ i, i < N → cf G z2 i = va_up (cf G z) k (.inl (G.2.1 1, n, .inl (upd f q (vp_nar .boolean x)))) i) (hd : decode cc pc = .ok (.bastore, 1)) (kk : Go X z2 (pc + 1) lv st) : Go X z pc lv (.int x :: .int i :: .ref (G.2.2 k) :: st) := by
  obtain ⟨p, l', e, R', s, m, args, below, meth, c, Q, A', P', K', nL'⟩ := X
  obtain ⟨rfl, rfl, rfl, rfl, rfl, rfl, ⟨hx, hb, hml, hown, hts⟩, hK, hKM⟩ := hX
  intro H locs ls hP hS hl
  obtain ⟨h1, h2⟩ := nI_i hi hq hn
  refine va_zast (f := f) hx hb hK.1 hP (Wl_D hA) hS k 1 (by rw [Wl_get hk, he]) rfl h1 hd (fun H1 locs1 hP1 _ hS1 => kk H1 locs1 ls ?_ hS1 hl)
  rw [h2, Wl_set _ hk, ← Wl_congr hz] at hP1
  exact hP1
theorem w_cast (hX : GX X l R cc nL Ts own (AA N G.2.2) (PW N G cf) (KQ G Ex)) (hA : Ap N G.2.2) {n : Nat} {f : Nat → Int32} {i x : Int32} (k : Nat) (hk : k < N) (he : cf G z k = .inl (G.2.1 2, n, .inl f)) (q : Nat) (hi : i = nI q) (hq : q < n) (hn : n < 2 ^ 31) (hz : ∀ i, i < N → cf G z2 i = va_up (cf G z) k (.inl (G.2.1 2, n, .inl (upd f q (vp_nar .char x)))) i) (hd : decode cc pc = .ok (.castore, 1)) (kk : Go X z2 (pc + 1) lv st) : Go X z pc lv (.int x :: .int i :: .ref (G.2.2 k) :: st) := by
  obtain ⟨p, l', e, R', s, m, args, below, meth, c, Q, A', P', K', nL'⟩ := X
  obtain ⟨rfl, rfl, rfl, rfl, rfl, rfl, ⟨hx, hb, hml, hown, hts⟩, hK, hKM⟩ := hX
  intro H locs ls hP hS hl
  obtain ⟨h1, h2⟩ := nI_i hi hq hn
  refine va_cast (f := f) hx hb hK.1 hP (Wl_D hA) hS k 2 (by rw [Wl_get hk, he]) rfl h1 hd (fun H1 locs1 hP1 _ hS1 => kk H1 locs1 ls ?_ hS1 hl)
  rw [h2, Wl_set _ hk, ← Wl_congr hz] at hP1
  exact hP1
end MW
/-! ===== the class's cells: an office o is 64 * o .., its state the fields 20 * o .. ===== -/
def cOff (G : MG) (y : St) (o t : Nat) : va_E :=
  if t = 0 then .inr (3, [.int (y 0 0), .int (y 1 0), .int (y 2 0), .int (y 3 0), .ref (G.2.2 (64 * o + 1)), .ref (G.2.2 (64 * o + 2)), .ref (G.2.2 (64 * o + 3)), .ref (G.2.2 (64 * o + 4)), .ref (G.2.2 (64 * o + 5))])
  else if t = 1 then .inl (G.2.1 3, 6, .inr (.inr (.inr (.inr (fun j => some (G.2.2 (64 * o + 6 + j)))))))
  else if t = 2 then .inl (G.2.1 4, 12, .inr (.inr (.inr (.inr (fun j => some (G.2.2 (64 * o + 12 + j)))))))
  else if t = 3 then .inl (G.2.1 5, 40, .inr (.inr (.inr (.inr (fun j => some (G.2.2 (64 * o + 24 + j)))))))
  else if t = 4 then .inl (G.2.1 1, 60, .inl (y 7))
  else if t = 5 then .inl (G.2.1 0, 6, .inl (y 4))
  else if t < 12 then .inr (5, [.int (y 5 (t - 6)), .int (y 6 (t - 6))])
  else if t < 24 then .inr (1, [.int (y 8 (t - 12)), .int (y 9 (t - 12)), .int (y 10 (t - 12))])
  else .inr (0, [.int (y 11 (t - 24)), .int (y 12 (t - 24)), .int (y 13 (t - 24)), .int (y 19 (t - 24)), .int (y 14 (t - 24)), .int (y 15 (t - 24)), .int (y 16 (t - 24)), .int (y 17 (t - 24)), .int (y 18 (t - 24))])
def zo (z : St) (o : Nat) : St := fun f i => if f < 20 then z (20 * o + f) i else 0
def cfC (G : MG) (z : St) (k : Nat) : va_E :=
  if k < 192 then cOff G (zo z (k / 64)) (k / 64) (k % 64)
  else if k = 192 then .inr (6, [.ref (G.2.2 0), .ref (G.2.2 193), .ref (G.2.2 194), .ref (G.2.2 195), .ref (G.2.2 201)])
  else if k = 193 then .inl (G.2.1 6, 2, .inr (.inr (.inr (.inr (fun j => some (G.2.2 (64 * (j + 1))))))))
  else if k = 194 then .inl (G.2.1 1, 2, .inl (z 60))
  else if k = 195 then .inr (2, [.ref (G.2.2 196), .ref (G.2.2 197), .ref (G.2.2 198), .ref (G.2.2 199), .ref (G.2.2 200), .int (z 66 0), .int (z 67 0)])
  else if k = 196 then .inl (G.2.1 0, 40, .inl (z 61))
  else if k = 197 then .inl (G.2.1 0, 40, .inl (z 62))
  else if k = 198 then .inl (G.2.1 0, 40, .inl (z 63))
  else if k = 199 then .inl (G.2.1 1, 40, .inl (z 64))
  else if k = 200 then .inl (G.2.1 1, 40, .inl (z 65))
  else if k = 201 then .inr (4, [.ref (G.2.2 202), .int (z 69 0), .int (z 70 0), .int (z 71 0), .int (z 72 0), .int (z 73 0), .int (z 74 0)])
  else .inl (G.2.1 2, 60, .inl (z 68))
theorem cfC_off (G : MG) (z : St) {o t : Nat} (ho : o < 3) (ht : t < 64) : cfC G z (64 * o + t) = cOff G (zo z o) o t := by
  have h1 : 64 * o + t < 192 := by omega
  have h2 : (64 * o + t) / 64 = o := by omega
  have h3 : (64 * o + t) % 64 = t := by omega
  simp only [cfC, h1, h2, h3, if_true]
theorem zo_u2 (z : St) {o o2 f : Nat} (i : Nat) (v : Int32) (hf : f < 20) : zo (u2 z (20 * o + f) i v) o2 = if o2 = o then u2 (zo z o) f i v else zo z o2 := by
  by_cases h : o2 = o
  · subst h
    simp only [if_true]
    funext g j
    by_cases hg : g = f
    · subst hg; simp [zo, u2, hf]
    · have : ¬ (20 * o2 + g = 20 * o2 + f) := by omega
      simp [zo, u2, hg, this]
  · simp only [h, if_false]
    funext g j
    by_cases hg : g < 20
    · have : ¬ (20 * o2 + g = 20 * o + f) := by omega
      simp [zo, u2, hg, this]
    · simp [zo, hg]
theorem zo_hi (z : St) {o f : Nat} (i : Nat) (v : Int32) (ho : o < 3) (hf : 60 ≤ f) : zo (u2 z f i v) o = zo z o := by
  funext g j
  by_cases hg : g < 20
  · have : ¬ (20 * o + g = f) := by omega
    simp [zo, u2, hg, this]
  · simp [zo, hg]
section CO
variable (G : MG) (y : St) (o : Nat)
theorem cOff_0 : cOff G y o 0 = .inr (3, [.int (y 0 0), .int (y 1 0), .int (y 2 0), .int (y 3 0), .ref (G.2.2 (64 * o + 1)), .ref (G.2.2 (64 * o + 2)), .ref (G.2.2 (64 * o + 3)), .ref (G.2.2 (64 * o + 4)), .ref (G.2.2 (64 * o + 5))]) := rfl
theorem cOff_1 : cOff G y o 1 = .inl (G.2.1 3, 6, .inr (.inr (.inr (.inr (fun j => some (G.2.2 (64 * o + 6 + j))))))) := rfl
theorem cOff_2 : cOff G y o 2 = .inl (G.2.1 4, 12, .inr (.inr (.inr (.inr (fun j => some (G.2.2 (64 * o + 12 + j))))))) := rfl
theorem cOff_3 : cOff G y o 3 = .inl (G.2.1 5, 40, .inr (.inr (.inr (.inr (fun j => some (G.2.2 (64 * o + 24 + j))))))) := rfl
theorem cOff_4 : cOff G y o 4 = .inl (G.2.1 1, 60, .inl (y 7)) := rfl
theorem cOff_5 : cOff G y o 5 = .inl (G.2.1 0, 6, .inl (y 4)) := rfl
variable {i : Nat}
theorem cOff_r (h : i < 6) : cOff G y o (6 + i) = .inr (5, [.int (y 5 i), .int (y 6 i)]) := by
  have e0 : ¬ 6 + i = 0 := by omega
  have e1 : ¬ 6 + i = 1 := by omega
  have e2 : ¬ 6 + i = 2 := by omega
  have e3 : ¬ 6 + i = 3 := by omega
  have e4 : ¬ 6 + i = 4 := by omega
  have e5 : ¬ 6 + i = 5 := by omega
  have e6 : 6 + i < 12 := by omega
  simp only [cOff, if_neg e0, if_neg e1, if_neg e2, if_neg e3, if_neg e4, if_neg e5, if_pos e6, Nat.add_sub_cancel_left]
theorem cOff_c (h : i < 12) : cOff G y o (12 + i) = .inr (1, [.int (y 8 i), .int (y 9 i), .int (y 10 i)]) := by
  have e0 : ¬ 12 + i = 0 := by omega
  have e1 : ¬ 12 + i = 1 := by omega
  have e2 : ¬ 12 + i = 2 := by omega
  have e3 : ¬ 12 + i = 3 := by omega
  have e4 : ¬ 12 + i = 4 := by omega
  have e5 : ¬ 12 + i = 5 := by omega
  have e6 : ¬ 12 + i < 12 := by omega
  have e7 : 12 + i < 24 := by omega
  simp only [cOff, if_neg e0, if_neg e1, if_neg e2, if_neg e3, if_neg e4, if_neg e5, if_neg e6, if_pos e7, Nat.add_sub_cancel_left]
theorem cOff_a (h : i < 40) : cOff G y o (24 + i) = .inr (0, [.int (y 11 i), .int (y 12 i), .int (y 13 i), .int (y 19 i), .int (y 14 i), .int (y 15 i), .int (y 16 i), .int (y 17 i), .int (y 18 i)]) := by
  have e0 : ¬ 24 + i = 0 := by omega
  have e1 : ¬ 24 + i = 1 := by omega
  have e2 : ¬ 24 + i = 2 := by omega
  have e3 : ¬ 24 + i = 3 := by omega
  have e4 : ¬ 24 + i = 4 := by omega
  have e5 : ¬ 24 + i = 5 := by omega
  have e6 : ¬ 24 + i < 12 := by omega
  have e7 : ¬ 24 + i < 24 := by omega
  simp only [cOff, if_neg e0, if_neg e1, if_neg e2, if_neg e3, if_neg e4, if_neg e5, if_neg e6, if_neg e7, Nat.add_sub_cancel_left]
end CO
theorem off_reg {t : Nat} (ht : t < 64) : t = 0 ∨ t = 1 ∨ t = 2 ∨ t = 3 ∨ t = 4 ∨ t = 5 ∨ (∃ r, r < 6 ∧ t = 6 + r) ∨ (∃ c, c < 12 ∧ t = 12 + c) ∨ ∃ a, a < 40 ∧ t = 24 + a := by
  have h : t < 6 ∨ (6 ≤ t ∧ t < 12) ∨ (12 ≤ t ∧ t < 24) ∨ 24 ≤ t := by omega
  rcases h with h | h | h | h
  · omega
  · exact Or.inr (Or.inr (Or.inr (Or.inr (Or.inr (Or.inr (Or.inl ⟨t - 6, by omega, by omega⟩))))))
  · exact Or.inr (Or.inr (Or.inr (Or.inr (Or.inr (Or.inr (Or.inr (Or.inl ⟨t - 12, by omega, by omega⟩)))))))
  · exact Or.inr (Or.inr (Or.inr (Or.inr (Or.inr (Or.inr (Or.inr (Or.inr ⟨t - 24, by omega, by omega⟩)))))))
theorem cfC_put (G : MG) {z : St} {o f i t0 : Nat} {v : Int32} {e : va_E} (ho : o < 3) (hf : f < 20) (ht0 : t0 < 64) (h : ∀ t, t < 64 → cOff G (u2 (zo z o) f i v) o t = va_up (cOff G (zo z o) o) t0 e t) : ∀ k, k < 203 → cfC G (u2 z (20 * o + f) i v) k = va_up (cfC G z) (64 * o + t0) e k := by
  intro k hk
  by_cases hk2 : k < 192
  · obtain ⟨o2, t, ho2, ht, rfl⟩ : ∃ o2 t, o2 < 3 ∧ t < 64 ∧ k = 64 * o2 + t := ⟨k / 64, k % 64, by omega, by omega, by omega⟩
    rw [cfC_off G _ ho2 ht, zo_u2 _ _ _ hf]
    by_cases hoo : o2 = o
    · subst hoo
      rw [if_pos rfl, h t ht]
      by_cases htt : t = t0
      · subst htt; simp [va_up]
      · have : ¬ 64 * o2 + t = 64 * o2 + t0 := by omega
        simp only [va_up, if_neg htt, if_neg this]
        exact (cfC_off G z ho2 ht).symm
    · have : ¬ 64 * o2 + t = 64 * o + t0 := by omega
      simp only [va_up, if_neg hoo, if_neg this]
      exact (cfC_off G z ho2 ht).symm
  · have hne : ¬ k = 64 * o + t0 := by omega
    have hg : ∀ g, 60 ≤ g → u2 z (20 * o + f) i v g = z g := fun g hg => u2_f (by omega)
    simp only [va_up, if_neg hne, cfC, if_neg hk2, hg 60 (by omega), hg 61 (by omega), hg 62 (by omega), hg 63 (by omega), hg 64 (by omega), hg 65 (by omega), hg 66 (by omega), hg 67 (by omega), hg 68 (by omega), hg 69 (by omega), hg 70 (by omega), hg 71 (by omega), hg 72 (by omega), hg 73 (by omega), hg 74 (by omega)]
/-- a private place of the class: beyond the offices -/
theorem cfC_put2 (G : MG) {z : St} {f i k0 : Nat} {v : Int32} {e : va_E} (hf : 60 ≤ f) (hk0 : 192 ≤ k0) (h : ∀ k, 192 ≤ k → k < 203 → cfC G (u2 z f i v) k = va_up (cfC G z) k0 e k) : ∀ k, k < 203 → cfC G (u2 z f i v) k = va_up (cfC G z) k0 e k := by
  intro k hk
  by_cases hk2 : k < 192
  · have hne : ¬ k = k0 := by omega
    simp only [va_up, if_neg hne, cfC, if_pos hk2]
    rw [zo_hi z i v (by omega) hf]
  · exact h k (by omega) hk

theorem cp_o0 (G : MG) (y : St) (o : Nat)  (v : Int32) : ∀ t, t < 64 → cOff G (u2 y 0 0 v) o t = va_up (cOff G y o) (0) (.inr (3, [.int v, .int (y 1 0), .int (y 2 0), .int (y 3 0), .ref (G.2.2 (64 * o + 1)), .ref (G.2.2 (64 * o + 2)), .ref (G.2.2 (64 * o + 3)), .ref (G.2.2 (64 * o + 4)), .ref (G.2.2 (64 * o + 5))])) t := by
  intro t ht
  by_cases h0 : t = 0
  · subst h0
    rw [cOff_0]
    simp [va_up, u2]
  · simp only [va_up, if_neg h0]
    rcases off_reg ht with rfl | rfl | rfl | rfl | rfl | rfl | ⟨r, hr, rfl⟩ | ⟨r, hr, rfl⟩ | ⟨r, hr, rfl⟩
    · first | (exact absurd rfl h0) | simp [cOff_0, u2]
    · simp [cOff_1]
    · simp [cOff_2]
    · simp [cOff_3]
    · first | (exact absurd rfl h0) | simp [cOff_4, u2_f]
    · first | (exact absurd rfl h0) | simp [cOff_5, u2_f]
    · rw [cOff_r _ _ _ hr, cOff_r _ _ _ hr]; first | (have h1 : ¬ r = i := (by omega); simp [u2, h1]) | simp [u2]
    · rw [cOff_c _ _ _ hr, cOff_c _ _ _ hr]; first | (have h1 : ¬ r = i := (by omega); simp [u2, h1]) | simp [u2]
    · rw [cOff_a _ _ _ hr, cOff_a _ _ _ hr]; first | (have h1 : ¬ r = i := (by omega); simp [u2, h1]) | simp [u2]
theorem cp_o1 (G : MG) (y : St) (o : Nat)  (v : Int32) : ∀ t, t < 64 → cOff G (u2 y 1 0 v) o t = va_up (cOff G y o) (0) (.inr (3, [.int (y 0 0), .int v, .int (y 2 0), .int (y 3 0), .ref (G.2.2 (64 * o + 1)), .ref (G.2.2 (64 * o + 2)), .ref (G.2.2 (64 * o + 3)), .ref (G.2.2 (64 * o + 4)), .ref (G.2.2 (64 * o + 5))])) t := by
  intro t ht
  by_cases h0 : t = 0
  · subst h0
    rw [cOff_0]
    simp [va_up, u2]
  · simp only [va_up, if_neg h0]
    rcases off_reg ht with rfl | rfl | rfl | rfl | rfl | rfl | ⟨r, hr, rfl⟩ | ⟨r, hr, rfl⟩ | ⟨r, hr, rfl⟩
    · first | (exact absurd rfl h0) | simp [cOff_0, u2]
    · simp [cOff_1]
    · simp [cOff_2]
    · simp [cOff_3]
    · first | (exact absurd rfl h0) | simp [cOff_4, u2_f]
    · first | (exact absurd rfl h0) | simp [cOff_5, u2_f]
    · rw [cOff_r _ _ _ hr, cOff_r _ _ _ hr]; first | (have h1 : ¬ r = i := (by omega); simp [u2, h1]) | simp [u2]
    · rw [cOff_c _ _ _ hr, cOff_c _ _ _ hr]; first | (have h1 : ¬ r = i := (by omega); simp [u2, h1]) | simp [u2]
    · rw [cOff_a _ _ _ hr, cOff_a _ _ _ hr]; first | (have h1 : ¬ r = i := (by omega); simp [u2, h1]) | simp [u2]
theorem cp_o2 (G : MG) (y : St) (o : Nat)  (v : Int32) : ∀ t, t < 64 → cOff G (u2 y 2 0 v) o t = va_up (cOff G y o) (0) (.inr (3, [.int (y 0 0), .int (y 1 0), .int v, .int (y 3 0), .ref (G.2.2 (64 * o + 1)), .ref (G.2.2 (64 * o + 2)), .ref (G.2.2 (64 * o + 3)), .ref (G.2.2 (64 * o + 4)), .ref (G.2.2 (64 * o + 5))])) t := by
  intro t ht
  by_cases h0 : t = 0
  · subst h0
    rw [cOff_0]
    simp [va_up, u2]
  · simp only [va_up, if_neg h0]
    rcases off_reg ht with rfl | rfl | rfl | rfl | rfl | rfl | ⟨r, hr, rfl⟩ | ⟨r, hr, rfl⟩ | ⟨r, hr, rfl⟩
    · first | (exact absurd rfl h0) | simp [cOff_0, u2]
    · simp [cOff_1]
    · simp [cOff_2]
    · simp [cOff_3]
    · first | (exact absurd rfl h0) | simp [cOff_4, u2_f]
    · first | (exact absurd rfl h0) | simp [cOff_5, u2_f]
    · rw [cOff_r _ _ _ hr, cOff_r _ _ _ hr]; first | (have h1 : ¬ r = i := (by omega); simp [u2, h1]) | simp [u2]
    · rw [cOff_c _ _ _ hr, cOff_c _ _ _ hr]; first | (have h1 : ¬ r = i := (by omega); simp [u2, h1]) | simp [u2]
    · rw [cOff_a _ _ _ hr, cOff_a _ _ _ hr]; first | (have h1 : ¬ r = i := (by omega); simp [u2, h1]) | simp [u2]
theorem cp_o3 (G : MG) (y : St) (o : Nat)  (v : Int32) : ∀ t, t < 64 → cOff G (u2 y 3 0 v) o t = va_up (cOff G y o) (0) (.inr (3, [.int (y 0 0), .int (y 1 0), .int (y 2 0), .int v, .ref (G.2.2 (64 * o + 1)), .ref (G.2.2 (64 * o + 2)), .ref (G.2.2 (64 * o + 3)), .ref (G.2.2 (64 * o + 4)), .ref (G.2.2 (64 * o + 5))])) t := by
  intro t ht
  by_cases h0 : t = 0
  · subst h0
    rw [cOff_0]
    simp [va_up, u2]
  · simp only [va_up, if_neg h0]
    rcases off_reg ht with rfl | rfl | rfl | rfl | rfl | rfl | ⟨r, hr, rfl⟩ | ⟨r, hr, rfl⟩ | ⟨r, hr, rfl⟩
    · first | (exact absurd rfl h0) | simp [cOff_0, u2]
    · simp [cOff_1]
    · simp [cOff_2]
    · simp [cOff_3]
    · first | (exact absurd rfl h0) | simp [cOff_4, u2_f]
    · first | (exact absurd rfl h0) | simp [cOff_5, u2_f]
    · rw [cOff_r _ _ _ hr, cOff_r _ _ _ hr]; first | (have h1 : ¬ r = i := (by omega); simp [u2, h1]) | simp [u2]
    · rw [cOff_c _ _ _ hr, cOff_c _ _ _ hr]; first | (have h1 : ¬ r = i := (by omega); simp [u2, h1]) | simp [u2]
    · rw [cOff_a _ _ _ hr, cOff_a _ _ _ hr]; first | (have h1 : ¬ r = i := (by omega); simp [u2, h1]) | simp [u2]
theorem cp_r0 (G : MG) (y : St) (o : Nat) {i : Nat} (hi : i < 6) (v : Int32) : ∀ t, t < 64 → cOff G (u2 y 5 i v) o t = va_up (cOff G y o) (6 + i) (.inr (5, [.int v, .int (y 6 i)])) t := by
  intro t ht
  by_cases h0 : t = 6 + i
  · subst h0
    rw [cOff_r _ _ _ hi]
    simp [va_up, u2]
  · simp only [va_up, if_neg h0]
    rcases off_reg ht with rfl | rfl | rfl | rfl | rfl | rfl | ⟨r, hr, rfl⟩ | ⟨r, hr, rfl⟩ | ⟨r, hr, rfl⟩
    · first | (exact absurd rfl h0) | simp [cOff_0, u2]
    · simp [cOff_1]
    · simp [cOff_2]
    · simp [cOff_3]
    · first | (exact absurd rfl h0) | simp [cOff_4, u2_f]
    · first | (exact absurd rfl h0) | simp [cOff_5, u2_f]
    · rw [cOff_r _ _ _ hr, cOff_r _ _ _ hr]; first | (have h1 : ¬ r = i := (by omega); simp [u2, h1]) | simp [u2]
    · rw [cOff_c _ _ _ hr, cOff_c _ _ _ hr]; first | (have h1 : ¬ r = i := (by omega); simp [u2, h1]) | simp [u2]
    · rw [cOff_a _ _ _ hr, cOff_a _ _ _ hr]; first | (have h1 : ¬ r = i := (by omega); simp [u2, h1]) | simp [u2]
theorem cp_r1 (G : MG) (y : St) (o : Nat) {i : Nat} (hi : i < 6) (v : Int32) : ∀ t, t < 64 → cOff G (u2 y 6 i v) o t = va_up (cOff G y o) (6 + i) (.inr (5, [.int (y 5 i), .int v])) t := by
  intro t ht
  by_cases h0 : t = 6 + i
  · subst h0
    rw [cOff_r _ _ _ hi]
    simp [va_up, u2]
  · simp only [va_up, if_neg h0]
    rcases off_reg ht with rfl | rfl | rfl | rfl | rfl | rfl | ⟨r, hr, rfl⟩ | ⟨r, hr, rfl⟩ | ⟨r, hr, rfl⟩
    · first | (exact absurd rfl h0) | simp [cOff_0, u2]
    · simp [cOff_1]
    · simp [cOff_2]
    · simp [cOff_3]
    · first | (exact absurd rfl h0) | simp [cOff_4, u2_f]
    · first | (exact absurd rfl h0) | simp [cOff_5, u2_f]
    · rw [cOff_r _ _ _ hr, cOff_r _ _ _ hr]; first | (have h1 : ¬ r = i := (by omega); simp [u2, h1]) | simp [u2]
    · rw [cOff_c _ _ _ hr, cOff_c _ _ _ hr]; first | (have h1 : ¬ r = i := (by omega); simp [u2, h1]) | simp [u2]
    · rw [cOff_a _ _ _ hr, cOff_a _ _ _ hr]; first | (have h1 : ¬ r = i := (by omega); simp [u2, h1]) | simp [u2]
theorem cp_c0 (G : MG) (y : St) (o : Nat) {i : Nat} (hi : i < 12) (v : Int32) : ∀ t, t < 64 → cOff G (u2 y 8 i v) o t = va_up (cOff G y o) (12 + i) (.inr (1, [.int v, .int (y 9 i), .int (y 10 i)])) t := by
  intro t ht
  by_cases h0 : t = 12 + i
  · subst h0
    rw [cOff_c _ _ _ hi]
    simp [va_up, u2]
  · simp only [va_up, if_neg h0]
    rcases off_reg ht with rfl | rfl | rfl | rfl | rfl | rfl | ⟨r, hr, rfl⟩ | ⟨r, hr, rfl⟩ | ⟨r, hr, rfl⟩
    · first | (exact absurd rfl h0) | simp [cOff_0, u2]
    · simp [cOff_1]
    · simp [cOff_2]
    · simp [cOff_3]
    · first | (exact absurd rfl h0) | simp [cOff_4, u2_f]
    · first | (exact absurd rfl h0) | simp [cOff_5, u2_f]
    · rw [cOff_r _ _ _ hr, cOff_r _ _ _ hr]; first | (have h1 : ¬ r = i := (by omega); simp [u2, h1]) | simp [u2]
    · rw [cOff_c _ _ _ hr, cOff_c _ _ _ hr]; first | (have h1 : ¬ r = i := (by omega); simp [u2, h1]) | simp [u2]
    · rw [cOff_a _ _ _ hr, cOff_a _ _ _ hr]; first | (have h1 : ¬ r = i := (by omega); simp [u2, h1]) | simp [u2]
theorem cp_c1 (G : MG) (y : St) (o : Nat) {i : Nat} (hi : i < 12) (v : Int32) : ∀ t, t < 64 → cOff G (u2 y 9 i v) o t = va_up (cOff G y o) (12 + i) (.inr (1, [.int (y 8 i), .int v, .int (y 10 i)])) t := by
  intro t ht
  by_cases h0 : t = 12 + i
  · subst h0
    rw [cOff_c _ _ _ hi]
    simp [va_up, u2]
  · simp only [va_up, if_neg h0]
    rcases off_reg ht with rfl | rfl | rfl | rfl | rfl | rfl | ⟨r, hr, rfl⟩ | ⟨r, hr, rfl⟩ | ⟨r, hr, rfl⟩
    · first | (exact absurd rfl h0) | simp [cOff_0, u2]
    · simp [cOff_1]
    · simp [cOff_2]
    · simp [cOff_3]
    · first | (exact absurd rfl h0) | simp [cOff_4, u2_f]
    · first | (exact absurd rfl h0) | simp [cOff_5, u2_f]
    · rw [cOff_r _ _ _ hr, cOff_r _ _ _ hr]; first | (have h1 : ¬ r = i := (by omega); simp [u2, h1]) | simp [u2]
    · rw [cOff_c _ _ _ hr, cOff_c _ _ _ hr]; first | (have h1 : ¬ r = i := (by omega); simp [u2, h1]) | simp [u2]
    · rw [cOff_a _ _ _ hr, cOff_a _ _ _ hr]; first | (have h1 : ¬ r = i := (by omega); simp [u2, h1]) | simp [u2]
theorem cp_c2 (G : MG) (y : St) (o : Nat) {i : Nat} (hi : i < 12) (v : Int32) : ∀ t, t < 64 → cOff G (u2 y 10 i v) o t = va_up (cOff G y o) (12 + i) (.inr (1, [.int (y 8 i), .int (y 9 i), .int v])) t := by
  intro t ht
  by_cases h0 : t = 12 + i
  · subst h0
    rw [cOff_c _ _ _ hi]
    simp [va_up, u2]
  · simp only [va_up, if_neg h0]
    rcases off_reg ht with rfl | rfl | rfl | rfl | rfl | rfl | ⟨r, hr, rfl⟩ | ⟨r, hr, rfl⟩ | ⟨r, hr, rfl⟩
    · first | (exact absurd rfl h0) | simp [cOff_0, u2]
    · simp [cOff_1]
    · simp [cOff_2]
    · simp [cOff_3]
    · first | (exact absurd rfl h0) | simp [cOff_4, u2_f]
    · first | (exact absurd rfl h0) | simp [cOff_5, u2_f]
    · rw [cOff_r _ _ _ hr, cOff_r _ _ _ hr]; first | (have h1 : ¬ r = i := (by omega); simp [u2, h1]) | simp [u2]
    · rw [cOff_c _ _ _ hr, cOff_c _ _ _ hr]; first | (have h1 : ¬ r = i := (by omega); simp [u2, h1]) | simp [u2]
    · rw [cOff_a _ _ _ hr, cOff_a _ _ _ hr]; first | (have h1 : ¬ r = i := (by omega); simp [u2, h1]) | simp [u2]
theorem cp_a0 (G : MG) (y : St) (o : Nat) {i : Nat} (hi : i < 40) (v : Int32) : ∀ t, t < 64 → cOff G (u2 y 11 i v) o t = va_up (cOff G y o) (24 + i) (.inr (0, [.int v, .int (y 12 i), .int (y 13 i), .int (y 19 i), .int (y 14 i), .int (y 15 i), .int (y 16 i), .int (y 17 i), .int (y 18 i)])) t := by
  intro t ht
  by_cases h0 : t = 24 + i
  · subst h0
    rw [cOff_a _ _ _ hi]
    simp [va_up, u2]
  · simp only [va_up, if_neg h0]
    rcases off_reg ht with rfl | rfl | rfl | rfl | rfl | rfl | ⟨r, hr, rfl⟩ | ⟨r, hr, rfl⟩ | ⟨r, hr, rfl⟩
    · first | (exact absurd rfl h0) | simp [cOff_0, u2]
    · simp [cOff_1]
    · simp [cOff_2]
    · simp [cOff_3]
    · first | (exact absurd rfl h0) | simp [cOff_4, u2_f]
    · first | (exact absurd rfl h0) | simp [cOff_5, u2_f]
    · rw [cOff_r _ _ _ hr, cOff_r _ _ _ hr]; first | (have h1 : ¬ r = i := (by omega); simp [u2, h1]) | simp [u2]
    · rw [cOff_c _ _ _ hr, cOff_c _ _ _ hr]; first | (have h1 : ¬ r = i := (by omega); simp [u2, h1]) | simp [u2]
    · rw [cOff_a _ _ _ hr, cOff_a _ _ _ hr]; first | (have h1 : ¬ r = i := (by omega); simp [u2, h1]) | simp [u2]
theorem cp_a1 (G : MG) (y : St) (o : Nat) {i : Nat} (hi : i < 40) (v : Int32) : ∀ t, t < 64 → cOff G (u2 y 12 i v) o t = va_up (cOff G y o) (24 + i) (.inr (0, [.int (y 11 i), .int v, .int (y 13 i), .int (y 19 i), .int (y 14 i), .int (y 15 i), .int (y 16 i), .int (y 17 i), .int (y 18 i)])) t := by
  intro t ht
  by_cases h0 : t = 24 + i
  · subst h0
    rw [cOff_a _ _ _ hi]
    simp [va_up, u2]
  · simp only [va_up, if_neg h0]
    rcases off_reg ht with rfl | rfl | rfl | rfl | rfl | rfl | ⟨r, hr, rfl⟩ | ⟨r, hr, rfl⟩ | ⟨r, hr, rfl⟩
    · first | (exact absurd rfl h0) | simp [cOff_0, u2]
    · simp [cOff_1]
    · simp [cOff_2]
    · simp [cOff_3]
    · first | (exact absurd rfl h0) | simp [cOff_4, u2_f]
    · first | (exact absurd rfl h0) | simp [cOff_5, u2_f]
    · rw [cOff_r _ _ _ hr, cOff_r _ _ _ hr]; first | (have h1 : ¬ r = i := (by omega); simp [u2, h1]) | simp [u2]
    · rw [cOff_c _ _ _ hr, cOff_c _ _ _ hr]; first | (have h1 : ¬ r = i := (by omega); simp [u2, h1]) | simp [u2]
    · rw [cOff_a _ _ _ hr, cOff_a _ _ _ hr]; first | (have h1 : ¬ r = i := (by omega); simp [u2, h1]) | simp [u2]
theorem cp_a2 (G : MG) (y : St) (o : Nat) {i : Nat} (hi : i < 40) (v : Int32) : ∀ t, t < 64 → cOff G (u2 y 13 i v) o t = va_up (cOff G y o) (24 + i) (.inr (0, [.int (y 11 i), .int (y 12 i), .int v, .int (y 19 i), .int (y 14 i), .int (y 15 i), .int (y 16 i), .int (y 17 i), .int (y 18 i)])) t := by
  intro t ht
  by_cases h0 : t = 24 + i
  · subst h0
    rw [cOff_a _ _ _ hi]
    simp [va_up, u2]
  · simp only [va_up, if_neg h0]
    rcases off_reg ht with rfl | rfl | rfl | rfl | rfl | rfl | ⟨r, hr, rfl⟩ | ⟨r, hr, rfl⟩ | ⟨r, hr, rfl⟩
    · first | (exact absurd rfl h0) | simp [cOff_0, u2]
    · simp [cOff_1]
    · simp [cOff_2]
    · simp [cOff_3]
    · first | (exact absurd rfl h0) | simp [cOff_4, u2_f]
    · first | (exact absurd rfl h0) | simp [cOff_5, u2_f]
    · rw [cOff_r _ _ _ hr, cOff_r _ _ _ hr]; first | (have h1 : ¬ r = i := (by omega); simp [u2, h1]) | simp [u2]
    · rw [cOff_c _ _ _ hr, cOff_c _ _ _ hr]; first | (have h1 : ¬ r = i := (by omega); simp [u2, h1]) | simp [u2]
    · rw [cOff_a _ _ _ hr, cOff_a _ _ _ hr]; first | (have h1 : ¬ r = i := (by omega); simp [u2, h1]) | simp [u2]
theorem cp_a3 (G : MG) (y : St) (o : Nat) {i : Nat} (hi : i < 40) (v : Int32) : ∀ t, t < 64 → cOff G (u2 y 19 i v) o t = va_up (cOff G y o) (24 + i) (.inr (0, [.int (y 11 i), .int (y 12 i), .int (y 13 i), .int v, .int (y 14 i), .int (y 15 i), .int (y 16 i), .int (y 17 i), .int (y 18 i)])) t := by
  intro t ht
  by_cases h0 : t = 24 + i
  · subst h0
    rw [cOff_a _ _ _ hi]
    simp [va_up, u2]
  · simp only [va_up, if_neg h0]
    rcases off_reg ht with rfl | rfl | rfl | rfl | rfl | rfl | ⟨r, hr, rfl⟩ | ⟨r, hr, rfl⟩ | ⟨r, hr, rfl⟩
    · first | (exact absurd rfl h0) | simp [cOff_0, u2]
    · simp [cOff_1]
    · simp [cOff_2]
    · simp [cOff_3]
    · first | (exact absurd rfl h0) | simp [cOff_4, u2_f]
    · first | (exact absurd rfl h0) | simp [cOff_5, u2_f]
    · rw [cOff_r _ _ _ hr, cOff_r _ _ _ hr]; first | (have h1 : ¬ r = i := (by omega); simp [u2, h1]) | simp [u2]
    · rw [cOff_c _ _ _ hr, cOff_c _ _ _ hr]; first | (have h1 : ¬ r = i := (by omega); simp [u2, h1]) | simp [u2]
    · rw [cOff_a _ _ _ hr, cOff_a _ _ _ hr]; first | (have h1 : ¬ r = i := (by omega); simp [u2, h1]) | simp [u2]
theorem cp_a4 (G : MG) (y : St) (o : Nat) {i : Nat} (hi : i < 40) (v : Int32) : ∀ t, t < 64 → cOff G (u2 y 14 i v) o t = va_up (cOff G y o) (24 + i) (.inr (0, [.int (y 11 i), .int (y 12 i), .int (y 13 i), .int (y 19 i), .int v, .int (y 15 i), .int (y 16 i), .int (y 17 i), .int (y 18 i)])) t := by
  intro t ht
  by_cases h0 : t = 24 + i
  · subst h0
    rw [cOff_a _ _ _ hi]
    simp [va_up, u2]
  · simp only [va_up, if_neg h0]
    rcases off_reg ht with rfl | rfl | rfl | rfl | rfl | rfl | ⟨r, hr, rfl⟩ | ⟨r, hr, rfl⟩ | ⟨r, hr, rfl⟩
    · first | (exact absurd rfl h0) | simp [cOff_0, u2]
    · simp [cOff_1]
    · simp [cOff_2]
    · simp [cOff_3]
    · first | (exact absurd rfl h0) | simp [cOff_4, u2_f]
    · first | (exact absurd rfl h0) | simp [cOff_5, u2_f]
    · rw [cOff_r _ _ _ hr, cOff_r _ _ _ hr]; first | (have h1 : ¬ r = i := (by omega); simp [u2, h1]) | simp [u2]
    · rw [cOff_c _ _ _ hr, cOff_c _ _ _ hr]; first | (have h1 : ¬ r = i := (by omega); simp [u2, h1]) | simp [u2]
    · rw [cOff_a _ _ _ hr, cOff_a _ _ _ hr]; first | (have h1 : ¬ r = i := (by omega); simp [u2, h1]) | simp [u2]
theorem cp_a5 (G : MG) (y : St) (o : Nat) {i : Nat} (hi : i < 40) (v : Int32) : ∀ t, t < 64 → cOff G (u2 y 15 i v) o t = va_up (cOff G y o) (24 + i) (.inr (0, [.int (y 11 i), .int (y 12 i), .int (y 13 i), .int (y 19 i), .int (y 14 i), .int v, .int (y 16 i), .int (y 17 i), .int (y 18 i)])) t := by
  intro t ht
  by_cases h0 : t = 24 + i
  · subst h0
    rw [cOff_a _ _ _ hi]
    simp [va_up, u2]
  · simp only [va_up, if_neg h0]
    rcases off_reg ht with rfl | rfl | rfl | rfl | rfl | rfl | ⟨r, hr, rfl⟩ | ⟨r, hr, rfl⟩ | ⟨r, hr, rfl⟩
    · first | (exact absurd rfl h0) | simp [cOff_0, u2]
    · simp [cOff_1]
    · simp [cOff_2]
    · simp [cOff_3]
    · first | (exact absurd rfl h0) | simp [cOff_4, u2_f]
    · first | (exact absurd rfl h0) | simp [cOff_5, u2_f]
    · rw [cOff_r _ _ _ hr, cOff_r _ _ _ hr]; first | (have h1 : ¬ r = i := (by omega); simp [u2, h1]) | simp [u2]
    · rw [cOff_c _ _ _ hr, cOff_c _ _ _ hr]; first | (have h1 : ¬ r = i := (by omega); simp [u2, h1]) | simp [u2]
    · rw [cOff_a _ _ _ hr, cOff_a _ _ _ hr]; first | (have h1 : ¬ r = i := (by omega); simp [u2, h1]) | simp [u2]
theorem cp_a6 (G : MG) (y : St) (o : Nat) {i : Nat} (hi : i < 40) (v : Int32) : ∀ t, t < 64 → cOff G (u2 y 16 i v) o t = va_up (cOff G y o) (24 + i) (.inr (0, [.int (y 11 i), .int (y 12 i), .int (y 13 i), .int (y 19 i), .int (y 14 i), .int (y 15 i), .int v, .int (y 17 i), .int (y 18 i)])) t := by
  intro t ht
  by_cases h0 : t = 24 + i
  · subst h0
    rw [cOff_a _ _ _ hi]
    simp [va_up, u2]
  · simp only [va_up, if_neg h0]
    rcases off_reg ht with rfl | rfl | rfl | rfl | rfl | rfl | ⟨r, hr, rfl⟩ | ⟨r, hr, rfl⟩ | ⟨r, hr, rfl⟩
    · first | (exact absurd rfl h0) | simp [cOff_0, u2]
    · simp [cOff_1]
    · simp [cOff_2]
    · simp [cOff_3]
    · first | (exact absurd rfl h0) | simp [cOff_4, u2_f]
    · first | (exact absurd rfl h0) | simp [cOff_5, u2_f]
    · rw [cOff_r _ _ _ hr, cOff_r _ _ _ hr]; first | (have h1 : ¬ r = i := (by omega); simp [u2, h1]) | simp [u2]
    · rw [cOff_c _ _ _ hr, cOff_c _ _ _ hr]; first | (have h1 : ¬ r = i := (by omega); simp [u2, h1]) | simp [u2]
    · rw [cOff_a _ _ _ hr, cOff_a _ _ _ hr]; first | (have h1 : ¬ r = i := (by omega); simp [u2, h1]) | simp [u2]
theorem cp_a7 (G : MG) (y : St) (o : Nat) {i : Nat} (hi : i < 40) (v : Int32) : ∀ t, t < 64 → cOff G (u2 y 17 i v) o t = va_up (cOff G y o) (24 + i) (.inr (0, [.int (y 11 i), .int (y 12 i), .int (y 13 i), .int (y 19 i), .int (y 14 i), .int (y 15 i), .int (y 16 i), .int v, .int (y 18 i)])) t := by
  intro t ht
  by_cases h0 : t = 24 + i
  · subst h0
    rw [cOff_a _ _ _ hi]
    simp [va_up, u2]
  · simp only [va_up, if_neg h0]
    rcases off_reg ht with rfl | rfl | rfl | rfl | rfl | rfl | ⟨r, hr, rfl⟩ | ⟨r, hr, rfl⟩ | ⟨r, hr, rfl⟩
    · first | (exact absurd rfl h0) | simp [cOff_0, u2]
    · simp [cOff_1]
    · simp [cOff_2]
    · simp [cOff_3]
    · first | (exact absurd rfl h0) | simp [cOff_4, u2_f]
    · first | (exact absurd rfl h0) | simp [cOff_5, u2_f]
    · rw [cOff_r _ _ _ hr, cOff_r _ _ _ hr]; first | (have h1 : ¬ r = i := (by omega); simp [u2, h1]) | simp [u2]
    · rw [cOff_c _ _ _ hr, cOff_c _ _ _ hr]; first | (have h1 : ¬ r = i := (by omega); simp [u2, h1]) | simp [u2]
    · rw [cOff_a _ _ _ hr, cOff_a _ _ _ hr]; first | (have h1 : ¬ r = i := (by omega); simp [u2, h1]) | simp [u2]
theorem cp_a8 (G : MG) (y : St) (o : Nat) {i : Nat} (hi : i < 40) (v : Int32) : ∀ t, t < 64 → cOff G (u2 y 18 i v) o t = va_up (cOff G y o) (24 + i) (.inr (0, [.int (y 11 i), .int (y 12 i), .int (y 13 i), .int (y 19 i), .int (y 14 i), .int (y 15 i), .int (y 16 i), .int (y 17 i), .int v])) t := by
  intro t ht
  by_cases h0 : t = 24 + i
  · subst h0
    rw [cOff_a _ _ _ hi]
    simp [va_up, u2]
  · simp only [va_up, if_neg h0]
    rcases off_reg ht with rfl | rfl | rfl | rfl | rfl | rfl | ⟨r, hr, rfl⟩ | ⟨r, hr, rfl⟩ | ⟨r, hr, rfl⟩
    · first | (exact absurd rfl h0) | simp [cOff_0, u2]
    · simp [cOff_1]
    · simp [cOff_2]
    · simp [cOff_3]
    · first | (exact absurd rfl h0) | simp [cOff_4, u2_f]
    · first | (exact absurd rfl h0) | simp [cOff_5, u2_f]
    · rw [cOff_r _ _ _ hr, cOff_r _ _ _ hr]; first | (have h1 : ¬ r = i := (by omega); simp [u2, h1]) | simp [u2]
    · rw [cOff_c _ _ _ hr, cOff_c _ _ _ hr]; first | (have h1 : ¬ r = i := (by omega); simp [u2, h1]) | simp [u2]
    · rw [cOff_a _ _ _ hr, cOff_a _ _ _ hr]; first | (have h1 : ¬ r = i := (by omega); simp [u2, h1]) | simp [u2]
theorem cp_cl (G : MG) (y : St) (o i : Nat) (v : Int32) : ∀ t, t < 64 → cOff G (u2 y 7 i v) o t = va_up (cOff G y o) 4 (.inl (G.2.1 1, 60, .inl (upd (y 7) i v))) t := by
  intro t ht
  by_cases h0 : t = 4
  · subst h0
    rw [cOff_4]
    simp [va_up, u2_ff]
  · simp only [va_up, if_neg h0]
    rcases off_reg ht with rfl | rfl | rfl | rfl | rfl | rfl | ⟨r, hr, rfl⟩ | ⟨r, hr, rfl⟩ | ⟨r, hr, rfl⟩
    · simp [cOff_0, u2]
    · simp [cOff_1]
    · simp [cOff_2]
    · simp [cOff_3]
    · exact absurd rfl h0
    · simp [cOff_5, u2_f]
    · rw [cOff_r _ _ _ hr, cOff_r _ _ _ hr]; simp [u2]
    · rw [cOff_c _ _ _ hr, cOff_c _ _ _ hr]; simp [u2]
    · rw [cOff_a _ _ _ hr, cOff_a _ _ _ hr]; simp [u2]
theorem cp_se (G : MG) (y : St) (o i : Nat) (v : Int32) : ∀ t, t < 64 → cOff G (u2 y 4 i v) o t = va_up (cOff G y o) 5 (.inl (G.2.1 0, 6, .inl (upd (y 4) i v))) t := by
  intro t ht
  by_cases h0 : t = 5
  · subst h0
    rw [cOff_5]
    simp [va_up, u2_ff]
  · simp only [va_up, if_neg h0]
    rcases off_reg ht with rfl | rfl | rfl | rfl | rfl | rfl | ⟨r, hr, rfl⟩ | ⟨r, hr, rfl⟩ | ⟨r, hr, rfl⟩
    · simp [cOff_0, u2]
    · simp [cOff_1]
    · simp [cOff_2]
    · simp [cOff_3]
    · simp [cOff_4, u2_f]
    · exact absurd rfl h0
    · rw [cOff_r _ _ _ hr, cOff_r _ _ _ hr]; simp [u2]
    · rw [cOff_c _ _ _ hr, cOff_c _ _ _ hr]; simp [u2]
    · rw [cOff_a _ _ _ hr, cOff_a _ _ _ hr]; simp [u2]
theorem cq_60 (G : MG) (z : St) (i : Nat) (v : Int32) : ∀ k, k < 203 → cfC G (u2 z 60 i v) k = va_up (cfC G z) 194 (.inl (G.2.1 1, 2, .inl (upd (z 60) i v))) k := by
  refine cfC_put2 G (by omega) (by omega) (fun k h1 h2 => ?_)
  have hk : k = 192 ∨ k = 193 ∨ k = 194 ∨ k = 195 ∨ k = 196 ∨ k = 197 ∨ k = 198 ∨ k = 199 ∨ k = 200 ∨ k = 201 ∨ k = 202 := by omega
  rcases hk with rfl | rfl | rfl | rfl | rfl | rfl | rfl | rfl | rfl | rfl | rfl <;> simp [cfC, va_up, u2_f, u2_s, u2_ff]
theorem cq_61 (G : MG) (z : St) (i : Nat) (v : Int32) : ∀ k, k < 203 → cfC G (u2 z 61 i v) k = va_up (cfC G z) 196 (.inl (G.2.1 0, 40, .inl (upd (z 61) i v))) k := by
  refine cfC_put2 G (by omega) (by omega) (fun k h1 h2 => ?_)
  have hk : k = 192 ∨ k = 193 ∨ k = 194 ∨ k = 195 ∨ k = 196 ∨ k = 197 ∨ k = 198 ∨ k = 199 ∨ k = 200 ∨ k = 201 ∨ k = 202 := by omega
  rcases hk with rfl | rfl | rfl | rfl | rfl | rfl | rfl | rfl | rfl | rfl | rfl <;> simp [cfC, va_up, u2_f, u2_s, u2_ff]
theorem cq_62 (G : MG) (z : St) (i : Nat) (v : Int32) : ∀ k, k < 203 → cfC G (u2 z 62 i v) k = va_up (cfC G z) 197 (.inl (G.2.1 0, 40, .inl (upd (z 62) i v))) k := by
  refine cfC_put2 G (by omega) (by omega) (fun k h1 h2 => ?_)
  have hk : k = 192 ∨ k = 193 ∨ k = 194 ∨ k = 195 ∨ k = 196 ∨ k = 197 ∨ k = 198 ∨ k = 199 ∨ k = 200 ∨ k = 201 ∨ k = 202 := by omega
  rcases hk with rfl | rfl | rfl | rfl | rfl | rfl | rfl | rfl | rfl | rfl | rfl <;> simp [cfC, va_up, u2_f, u2_s, u2_ff]
theorem cq_63 (G : MG) (z : St) (i : Nat) (v : Int32) : ∀ k, k < 203 → cfC G (u2 z 63 i v) k = va_up (cfC G z) 198 (.inl (G.2.1 0, 40, .inl (upd (z 63) i v))) k := by
  refine cfC_put2 G (by omega) (by omega) (fun k h1 h2 => ?_)
  have hk : k = 192 ∨ k = 193 ∨ k = 194 ∨ k = 195 ∨ k = 196 ∨ k = 197 ∨ k = 198 ∨ k = 199 ∨ k = 200 ∨ k = 201 ∨ k = 202 := by omega
  rcases hk with rfl | rfl | rfl | rfl | rfl | rfl | rfl | rfl | rfl | rfl | rfl <;> simp [cfC, va_up, u2_f, u2_s, u2_ff]
theorem cq_64 (G : MG) (z : St) (i : Nat) (v : Int32) : ∀ k, k < 203 → cfC G (u2 z 64 i v) k = va_up (cfC G z) 199 (.inl (G.2.1 1, 40, .inl (upd (z 64) i v))) k := by
  refine cfC_put2 G (by omega) (by omega) (fun k h1 h2 => ?_)
  have hk : k = 192 ∨ k = 193 ∨ k = 194 ∨ k = 195 ∨ k = 196 ∨ k = 197 ∨ k = 198 ∨ k = 199 ∨ k = 200 ∨ k = 201 ∨ k = 202 := by omega
  rcases hk with rfl | rfl | rfl | rfl | rfl | rfl | rfl | rfl | rfl | rfl | rfl <;> simp [cfC, va_up, u2_f, u2_s, u2_ff]
theorem cq_65 (G : MG) (z : St) (i : Nat) (v : Int32) : ∀ k, k < 203 → cfC G (u2 z 65 i v) k = va_up (cfC G z) 200 (.inl (G.2.1 1, 40, .inl (upd (z 65) i v))) k := by
  refine cfC_put2 G (by omega) (by omega) (fun k h1 h2 => ?_)
  have hk : k = 192 ∨ k = 193 ∨ k = 194 ∨ k = 195 ∨ k = 196 ∨ k = 197 ∨ k = 198 ∨ k = 199 ∨ k = 200 ∨ k = 201 ∨ k = 202 := by omega
  rcases hk with rfl | rfl | rfl | rfl | rfl | rfl | rfl | rfl | rfl | rfl | rfl <;> simp [cfC, va_up, u2_f, u2_s, u2_ff]
theorem cq_68 (G : MG) (z : St) (i : Nat) (v : Int32) : ∀ k, k < 203 → cfC G (u2 z 68 i v) k = va_up (cfC G z) 202 (.inl (G.2.1 2, 60, .inl (upd (z 68) i v))) k := by
  refine cfC_put2 G (by omega) (by omega) (fun k h1 h2 => ?_)
  have hk : k = 192 ∨ k = 193 ∨ k = 194 ∨ k = 195 ∨ k = 196 ∨ k = 197 ∨ k = 198 ∨ k = 199 ∨ k = 200 ∨ k = 201 ∨ k = 202 := by omega
  rcases hk with rfl | rfl | rfl | rfl | rfl | rfl | rfl | rfl | rfl | rfl | rfl <;> simp [cfC, va_up, u2_f, u2_s, u2_ff]
theorem cq_66 (G : MG) (z : St) (v : Int32) : ∀ k, k < 203 → cfC G (u2 z 66 0 v) k = va_up (cfC G z) 195 (.inr (2, [.ref (G.2.2 196), .ref (G.2.2 197), .ref (G.2.2 198), .ref (G.2.2 199), .ref (G.2.2 200), .int v, .int (z 67 0)])) k := by
  refine cfC_put2 G (by omega) (by omega) (fun k h1 h2 => ?_)
  have hk : k = 192 ∨ k = 193 ∨ k = 194 ∨ k = 195 ∨ k = 196 ∨ k = 197 ∨ k = 198 ∨ k = 199 ∨ k = 200 ∨ k = 201 ∨ k = 202 := by omega
  rcases hk with rfl | rfl | rfl | rfl | rfl | rfl | rfl | rfl | rfl | rfl | rfl <;> simp [cfC, va_up, u2_f, u2_s, u2_ff]
theorem cq_67 (G : MG) (z : St) (v : Int32) : ∀ k, k < 203 → cfC G (u2 z 67 0 v) k = va_up (cfC G z) 195 (.inr (2, [.ref (G.2.2 196), .ref (G.2.2 197), .ref (G.2.2 198), .ref (G.2.2 199), .ref (G.2.2 200), .int (z 66 0), .int v])) k := by
  refine cfC_put2 G (by omega) (by omega) (fun k h1 h2 => ?_)
  have hk : k = 192 ∨ k = 193 ∨ k = 194 ∨ k = 195 ∨ k = 196 ∨ k = 197 ∨ k = 198 ∨ k = 199 ∨ k = 200 ∨ k = 201 ∨ k = 202 := by omega
  rcases hk with rfl | rfl | rfl | rfl | rfl | rfl | rfl | rfl | rfl | rfl | rfl <;> simp [cfC, va_up, u2_f, u2_s, u2_ff]
theorem cq_69 (G : MG) (z : St) (v : Int32) : ∀ k, k < 203 → cfC G (u2 z 69 0 v) k = va_up (cfC G z) 201 (.inr (4, [.ref (G.2.2 202), .int v, .int (z 70 0), .int (z 71 0), .int (z 72 0), .int (z 73 0), .int (z 74 0)])) k := by
  refine cfC_put2 G (by omega) (by omega) (fun k h1 h2 => ?_)
  have hk : k = 192 ∨ k = 193 ∨ k = 194 ∨ k = 195 ∨ k = 196 ∨ k = 197 ∨ k = 198 ∨ k = 199 ∨ k = 200 ∨ k = 201 ∨ k = 202 := by omega
  rcases hk with rfl | rfl | rfl | rfl | rfl | rfl | rfl | rfl | rfl | rfl | rfl <;> simp [cfC, va_up, u2_f, u2_s, u2_ff]
theorem cq_70 (G : MG) (z : St) (v : Int32) : ∀ k, k < 203 → cfC G (u2 z 70 0 v) k = va_up (cfC G z) 201 (.inr (4, [.ref (G.2.2 202), .int (z 69 0), .int v, .int (z 71 0), .int (z 72 0), .int (z 73 0), .int (z 74 0)])) k := by
  refine cfC_put2 G (by omega) (by omega) (fun k h1 h2 => ?_)
  have hk : k = 192 ∨ k = 193 ∨ k = 194 ∨ k = 195 ∨ k = 196 ∨ k = 197 ∨ k = 198 ∨ k = 199 ∨ k = 200 ∨ k = 201 ∨ k = 202 := by omega
  rcases hk with rfl | rfl | rfl | rfl | rfl | rfl | rfl | rfl | rfl | rfl | rfl <;> simp [cfC, va_up, u2_f, u2_s, u2_ff]
theorem cq_71 (G : MG) (z : St) (v : Int32) : ∀ k, k < 203 → cfC G (u2 z 71 0 v) k = va_up (cfC G z) 201 (.inr (4, [.ref (G.2.2 202), .int (z 69 0), .int (z 70 0), .int v, .int (z 72 0), .int (z 73 0), .int (z 74 0)])) k := by
  refine cfC_put2 G (by omega) (by omega) (fun k h1 h2 => ?_)
  have hk : k = 192 ∨ k = 193 ∨ k = 194 ∨ k = 195 ∨ k = 196 ∨ k = 197 ∨ k = 198 ∨ k = 199 ∨ k = 200 ∨ k = 201 ∨ k = 202 := by omega
  rcases hk with rfl | rfl | rfl | rfl | rfl | rfl | rfl | rfl | rfl | rfl | rfl <;> simp [cfC, va_up, u2_f, u2_s, u2_ff]
theorem cq_72 (G : MG) (z : St) (v : Int32) : ∀ k, k < 203 → cfC G (u2 z 72 0 v) k = va_up (cfC G z) 201 (.inr (4, [.ref (G.2.2 202), .int (z 69 0), .int (z 70 0), .int (z 71 0), .int v, .int (z 73 0), .int (z 74 0)])) k := by
  refine cfC_put2 G (by omega) (by omega) (fun k h1 h2 => ?_)
  have hk : k = 192 ∨ k = 193 ∨ k = 194 ∨ k = 195 ∨ k = 196 ∨ k = 197 ∨ k = 198 ∨ k = 199 ∨ k = 200 ∨ k = 201 ∨ k = 202 := by omega
  rcases hk with rfl | rfl | rfl | rfl | rfl | rfl | rfl | rfl | rfl | rfl | rfl <;> simp [cfC, va_up, u2_f, u2_s, u2_ff]
theorem cq_73 (G : MG) (z : St) (v : Int32) : ∀ k, k < 203 → cfC G (u2 z 73 0 v) k = va_up (cfC G z) 201 (.inr (4, [.ref (G.2.2 202), .int (z 69 0), .int (z 70 0), .int (z 71 0), .int (z 72 0), .int v, .int (z 74 0)])) k := by
  refine cfC_put2 G (by omega) (by omega) (fun k h1 h2 => ?_)
  have hk : k = 192 ∨ k = 193 ∨ k = 194 ∨ k = 195 ∨ k = 196 ∨ k = 197 ∨ k = 198 ∨ k = 199 ∨ k = 200 ∨ k = 201 ∨ k = 202 := by omega
  rcases hk with rfl | rfl | rfl | rfl | rfl | rfl | rfl | rfl | rfl | rfl | rfl <;> simp [cfC, va_up, u2_f, u2_s, u2_ff]
theorem cq_74 (G : MG) (z : St) (v : Int32) : ∀ k, k < 203 → cfC G (u2 z 74 0 v) k = va_up (cfC G z) 201 (.inr (4, [.ref (G.2.2 202), .int (z 69 0), .int (z 70 0), .int (z 71 0), .int (z 72 0), .int (z 73 0), .int v])) k := by
  refine cfC_put2 G (by omega) (by omega) (fun k h1 h2 => ?_)
  have hk : k = 192 ∨ k = 193 ∨ k = 194 ∨ k = 195 ∨ k = 196 ∨ k = 197 ∨ k = 198 ∨ k = 199 ∨ k = 200 ∨ k = 201 ∨ k = 202 := by omega
  rcases hk with rfl | rfl | rfl | rfl | rfl | rfl | rfl | rfl | rfl | rfl | rfl <;> simp [cfC, va_up, u2_f, u2_s, u2_ff]
