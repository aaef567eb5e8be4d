/-! ===== the law: both pictures ===== -/
def GL (X : GC) (G Gm : MG) (zc zm : St) (pc : Nat) (lv : List (Nat × Value)) (st : List Value) : Prop :=
  match X with
  | (p, l, e, R, s, m, args, below, meth, c, Q, A, _, _, nL) => ∀ (H : Heap) (locs : List Loc) (ls : Array Slot), PW 203 G cfC zc H → PW 9 Gm cfM zm H → va_S A s.heap H locs → lv_has ls nL lv → W p l e R s m args below meth c H locs 600000 7302250 Q (F0 m pc ls st)
def HL (X : GC) (l : Launch) (cc : ByteArray) (nL : Nat) (Ts : List Cond) (own : String) (G Gm : MG) (A : Nat → Prop) (b L : Nat) (xs : Nat → Int32) : Prop :=
  match X with
  | (p, l', _, R', s, m, args, _, _, c, _, A', _, _, nL') => l' = l ∧ R' = room_1 ∧ nL' = nL ∧ A' = A ∧ CallFix p m c cc nL s args Ts own ∧ (va_K G.1 vwCl (tysG G) s ∧ va_Nw (.methodLinkNest RX3 70 yX6_isDay "ClimbPermits") s ∧ ExS A s) ∧ (va_X b L xs s s.heap ∧ b < s.heap.size ∧ ¬ A b) ∧ ((∀ q, AA 203 G.2.2 q → A q) ∧ (∀ q, AA 9 Gm.2.2 q → A q) ∧ (∀ q, AA 203 G.2.2 q → ¬ AA 9 Gm.2.2 q)) ∧ (Gm.1 = G.1 ∧ Gm.2.1 = G.2.1)
theorem stA_nar {A B : Nat → Prop} {n : String} {t : Nat} {f : Nat → Int32} {U : State} (h : stA A n t f U) (hAB : ∀ q, B q → A q) : stA B n t f U := ⟨h.1.narrow hAB, h.2.narrow hAB⟩
theorem ExS_nar {A B : Nat → Prop} {U : State} (h : ExS A U) (hAB : ∀ q, B q → A q) : ExS B U := by
  obtain ⟨t1, t2, t3, a, b, c⟩ := h
  exact ⟨t1, t2, t3, stA_nar a hAB, stA_nar b hAB, stA_nar c hAB⟩
theorem PW_kept {N : Nat} {G : MG} {cf : MG → St → Nat → va_E} {z : St} {H H1 : Heap} (h : PW N G cf z H) (hk : ∀ q, q < H.size → AA N G.2.2 q → H1[q]? = H[q]?) : PW N G cf z H1 := by
  refine va_P.kept h (fun k x hx => ?_)
  obtain ⟨h1, rfl⟩ := Wl_inv hx
  exact hk _ ((h k _ hx).lt) ⟨k, h1, rfl⟩
section GLR
variable {X : GC} {l : Launch} {cc : ByteArray} {nL : Nat} {Ts : List Cond} {own : String} {G Gm : MG} {A : Nat → Prop} {b L : Nat} {xs : Nat → Int32} {zc zm : St} {pc : Nat} {lv lv' : List (Nat × Value)} {st : List Value}

theorem l_iconst (hX : HL X l cc nL Ts own G Gm A b L xs) {n : Int} (v : Int32) (hd : decode cc pc = .ok (.iconst n, 1)) (hv : Int32.ofInt n = v) (k : GL X G Gm zc zm (pc + 1) lv (.int v :: st)) : GL X G Gm zc zm pc lv (st) := by
  obtain ⟨p, l', e, R', s, m, args, below, meth, c, Q, A', P', K', nL'⟩ := X
  obtain ⟨rfl, rfl, rfl, rfl, ⟨hx, hb, hml, hown, hts⟩, hK, hscr, hdis, hGm⟩ := hX
  intro H locs ls hP hM hS hl
  exact lv_iconst hx hb hd hv (k H locs ls hP hM hS hl)

theorem l_bipush (hX : HL X l cc nL Ts own G Gm A b L xs) {n : Int} (v : Int32) (hd : decode cc pc = .ok (.bipush n, 2)) (hv : (Int8.ofInt n).toInt32 = v) (k : GL X G Gm zc zm (pc + 2) lv (.int v :: st)) : GL X G Gm zc zm pc lv (st) := by
  obtain ⟨p, l', e, R', s, m, args, below, meth, c, Q, A', P', K', nL'⟩ := X
  obtain ⟨rfl, rfl, rfl, rfl, ⟨hx, hb, hml, hown, hts⟩, hK, hscr, hdis, hGm⟩ := hX
  intro H locs ls hP hM hS hl
  exact lv_bipush hx hb hd hv (k H locs ls hP hM hS hl)

theorem l_iload_n (hX : HL X l cc nL Ts own G Gm A b L xs) {n : Fin 4} {x : Int32} (q : Nat) (hd : decode cc pc = .ok (.iload_n n, 1)) (hk : lv[q]? = some ((n : Nat), .int x)) (k : GL X G Gm zc zm (pc + 1) lv (.int x :: st)) : GL X G Gm zc zm pc lv (st) := by
  obtain ⟨p, l', e, R', s, m, args, below, meth, c, Q, A', P', K', nL'⟩ := X
  obtain ⟨rfl, rfl, rfl, rfl, ⟨hx, hb, hml, hown, hts⟩, hK, hscr, hdis, hGm⟩ := hX
  intro H locs ls hP hM hS hl
  exact lv_iload_n hx hb hd rfl (lv_at hl q hk) (k H locs ls hP hM hS hl)

theorem l_aload_n (hX : HL X l cc nL Ts own G Gm A b L xs) {n : Fin 4} {x : Nat} (q : Nat) (hd : decode cc pc = .ok (.aload_n n, 1)) (hk : lv[q]? = some ((n : Nat), .ref x)) (k : GL X G Gm zc zm (pc + 1) lv (.ref x :: st)) : GL X G Gm zc zm pc lv (st) := by
  obtain ⟨p, l', e, R', s, m, args, below, meth, c, Q, A', P', K', nL'⟩ := X
  obtain ⟨rfl, rfl, rfl, rfl, ⟨hx, hb, hml, hown, hts⟩, hK, hscr, hdis, hGm⟩ := hX
  intro H locs ls hP hM hS hl
  exact lv_aload_n hx hb hd rfl (lv_at hl q hk) (k H locs ls hP hM hS hl)

theorem l_iadd (hX : HL X l cc nL Ts own G Gm A b L xs) {x y : Int32} (hd : decode cc pc = .ok (.iadd, 1)) (k : GL X G Gm zc zm (pc + 1) lv (.int (x + y) :: st)) : GL X G Gm zc zm pc lv (.int y :: .int x :: st) := by
  obtain ⟨p, l', e, R', s, m, args, below, meth, c, Q, A', P', K', nL'⟩ := X
  obtain ⟨rfl, rfl, rfl, rfl, ⟨hx, hb, hml, hown, hts⟩, hK, hscr, hdis, hGm⟩ := hX
  intro H locs ls hP hM hS hl
  exact lv_iadd hx hb hd (k H locs ls hP hM hS hl)

theorem l_isub (hX : HL X l cc nL Ts own G Gm A b L xs) {x y : Int32} (hd : decode cc pc = .ok (.isub, 1)) (k : GL X G Gm zc zm (pc + 1) lv (.int (x - y) :: st)) : GL X G Gm zc zm pc lv (.int y :: .int x :: st) := by
  obtain ⟨p, l', e, R', s, m, args, below, meth, c, Q, A', P', K', nL'⟩ := X
  obtain ⟨rfl, rfl, rfl, rfl, ⟨hx, hb, hml, hown, hts⟩, hK, hscr, hdis, hGm⟩ := hX
  intro H locs ls hP hM hS hl
  exact lv_isub hx hb hd (k H locs ls hP hM hS hl)

theorem l_iand (hX : HL X l cc nL Ts own G Gm A b L xs) {x y : Int32} (hd : decode cc pc = .ok (.iand, 1)) (k : GL X G Gm zc zm (pc + 1) lv (.int (x &&& y) :: st)) : GL X G Gm zc zm pc lv (.int y :: .int x :: st) := by
  obtain ⟨p, l', e, R', s, m, args, below, meth, c, Q, A', P', K', nL'⟩ := X
  obtain ⟨rfl, rfl, rfl, rfl, ⟨hx, hb, hml, hown, hts⟩, hK, hscr, hdis, hGm⟩ := hX
  intro H locs ls hP hM hS hl
  exact lv_iand hx hb hd (k H locs ls hP hM hS hl)

theorem l_i2l (hX : HL X l cc nL Ts own G Gm A b L xs) {x : Int32} (hd : decode cc pc = .ok (.i2l, 1)) (k : GL X G Gm zc zm (pc + 1) lv (.long x.toInt64 :: st)) : GL X G Gm zc zm pc lv (.int x :: st) := by
  obtain ⟨p, l', e, R', s, m, args, below, meth, c, Q, A', P', K', nL'⟩ := X
  obtain ⟨rfl, rfl, rfl, rfl, ⟨hx, hb, hml, hown, hts⟩, hK, hscr, hdis, hGm⟩ := hX
  intro H locs ls hP hM hS hl
  exact lv_i2l hx hb hd rfl (k H locs ls hP hM hS hl)

theorem l_lshl (hX : HL X l cc nL Ts own G Gm A b L xs) {x : Int64} {y : Int32} (hd : decode cc pc = .ok (.lshl, 1)) (k : GL X G Gm zc zm (pc + 1) lv (.long (x <<< (y.toInt64 &&& 63)) :: st)) : GL X G Gm zc zm pc lv (.int y :: .long x :: st) := by
  obtain ⟨p, l', e, R', s, m, args, below, meth, c, Q, A', P', K', nL'⟩ := X
  obtain ⟨rfl, rfl, rfl, rfl, ⟨hx, hb, hml, hown, hts⟩, hK, hscr, hdis, hGm⟩ := hX
  intro H locs ls hP hM hS hl
  exact lv_lshl hx hb hd rfl (k H locs ls hP hM hS hl)

theorem l_land (hX : HL X l cc nL Ts own G Gm A b L xs) {x y : Int64} (hd : decode cc pc = .ok (.land, 1)) (k : GL X G Gm zc zm (pc + 1) lv (.long (x &&& y) :: st)) : GL X G Gm zc zm pc lv (.long y :: .long x :: st) := by
  obtain ⟨p, l', e, R', s, m, args, below, meth, c, Q, A', P', K', nL'⟩ := X
  obtain ⟨rfl, rfl, rfl, rfl, ⟨hx, hb, hml, hown, hts⟩, hK, hscr, hdis, hGm⟩ := hX
  intro H locs ls hP hM hS hl
  exact lv_land hx hb hd (k H locs ls hP hM hS hl)

theorem l_lor (hX : HL X l cc nL Ts own G Gm A b L xs) {x y : Int64} (hd : decode cc pc = .ok (.lor, 1)) (k : GL X G Gm zc zm (pc + 1) lv (.long (x ||| y) :: st)) : GL X G Gm zc zm pc lv (.long y :: .long x :: st) := by
  obtain ⟨p, l', e, R', s, m, args, below, meth, c, Q, A', P', K', nL'⟩ := X
  obtain ⟨rfl, rfl, rfl, rfl, ⟨hx, hb, hml, hown, hts⟩, hK, hscr, hdis, hGm⟩ := hX
  intro H locs ls hP hM hS hl
  exact lv_lor hx hb hd (k H locs ls hP hM hS hl)

theorem l_ldc2 (hX : HL X l cc nL Ts own G Gm A b L xs) {index : Nat} (v : Int64) (hd : decode cc pc = .ok (.ldc2_w index, 3)) (hw : Cond.constantLong own index v ∈ Ts) (k : GL X G Gm zc zm (pc + 3) lv (.long v :: st)) : GL X G Gm zc zm pc lv (st) := by
  obtain ⟨p, l', e, R', s, m, args, below, meth, c, Q, A', P', K', nL'⟩ := X
  obtain ⟨rfl, rfl, rfl, rfl, ⟨hx, hb, hml, hown, hts⟩, hK, hscr, hdis, hGm⟩ := hX
  intro H locs ls hP hM hS hl
  exact lv_ldc2 hx hb hown (hts _ hw) hd (k H locs ls hP hM hS hl)

theorem l_goto (hX : HL X l cc nL Ts own G Gm A b L xs) {off : Int} (tgt : Nat) (hd : decode cc pc = .ok (.goto off, 3)) (ht : (pc : Int) + off = (tgt : Int)) (k : GL X G Gm zc zm (tgt) lv (st)) : GL X G Gm zc zm pc lv (st) := by
  obtain ⟨p, l', e, R', s, m, args, below, meth, c, Q, A', P', K', nL'⟩ := X
  obtain ⟨rfl, rfl, rfl, rfl, ⟨hx, hb, hml, hown, hts⟩, hK, hscr, hdis, hGm⟩ := hX
  intro H locs ls hP hM hS hl
  exact lv_goto hx hb hd ht (k H locs ls hP hM hS hl)

theorem l_iinc (hX : HL X l cc nL Ts own G Gm A b L xs) {i : Nat} {n : Int} {x : Int32} (v : Int32) (q : Nat) (lv2 : List (Nat × Value)) (hd : decode cc pc = .ok (.iinc i n, 3)) (hk : lv[q]? = some (i, .int x)) (hv : x + Int32.ofInt n = v) (hn : i < nL) (hl2 : (i, Value.int v) :: lv.filter (fun q => !(q.1 == i) && !(q.1 + 1 == i && q.2.category == 2)) = lv2) (k : GL X G Gm zc zm (pc + 3) lv2 (st)) : GL X G Gm zc zm pc lv (st) := by
  obtain ⟨p, l', e, R', s, m, args, below, meth, c, Q, A', P', K', nL'⟩ := X
  obtain ⟨rfl, rfl, rfl, rfl, ⟨hx, hb, hml, hown, hts⟩, hK, hscr, hdis, hGm⟩ := hX
  intro H locs ls hP hM hS hl
  exact lv_iinc hx hb hd hl hk hv hn hl2 (fun ls1 hl1 => k H locs ls1 hP hM hS hl1)

theorem l_ic_eq (hX : HL X l cc nL Ts own G Gm A b L xs) {x y : Int32} {off : Int} (tgt : Nat) (hd : decode cc pc = .ok (.if_icmp .eq off, 3)) (ht : (pc : Int) + off = (tgt : Int)) (kt : x = y → GL X G Gm zc zm tgt lv st) (kf : ¬ (x = y) → GL X G Gm zc zm (pc + 3) lv st) : GL X G Gm zc zm pc lv (.int y :: .int x :: st) := by
  obtain ⟨p, l', e, R', s, m, args, below, meth, c, Q, A', P', K', nL'⟩ := X
  obtain ⟨rfl, rfl, rfl, rfl, ⟨hx, hb, hml, hown, hts⟩, hK, hscr, hdis, hGm⟩ := hX
  intro H locs ls hP hM hS hl
  exact lv_icmp_eq hx hb hd ht (fun q => kt q H locs ls hP hM hS hl) (fun q => kf (by simpa using q) H locs ls hP hM hS hl)

theorem l_ic_gt (hX : HL X l cc nL Ts own G Gm A b L xs) {x y : Int32} {off : Int} (tgt : Nat) (hd : decode cc pc = .ok (.if_icmp .gt off, 3)) (ht : (pc : Int) + off = (tgt : Int)) (kt : y < x → GL X G Gm zc zm tgt lv st) (kf : ¬ (y < x) → GL X G Gm zc zm (pc + 3) lv st) : GL X G Gm zc zm pc lv (.int y :: .int x :: st) := by
  obtain ⟨p, l', e, R', s, m, args, below, meth, c, Q, A', P', K', nL'⟩ := X
  obtain ⟨rfl, rfl, rfl, rfl, ⟨hx, hb, hml, hown, hts⟩, hK, hscr, hdis, hGm⟩ := hX
  intro H locs ls hP hM hS hl
  exact lv_icmp_gt hx hb hd ht (fun q => kt q H locs ls hP hM hS hl) (fun q => kf (by simpa using q) H locs ls hP hM hS hl)

theorem l_tabIn (hX : HL X l cc nL Ts own G Gm A b L xs) {dflt lo hi : Int} {offs : Array Int} {len : Nat} {x : Int32} {off : Int} (tgt : Nat) (hd : decode cc pc = .ok (.tableswitch dflt lo hi offs, len)) (h1 : ¬ x.toInt < lo) (h2 : ¬ hi < x.toInt) (ho : offs[(x.toInt - lo).toNat]? = some off) (ht : (pc : Int) + off = (tgt : Int)) (k : GL X G Gm zc zm tgt lv st) : GL X G Gm zc zm pc lv (.int x :: st) := by
  obtain ⟨p, l', e, R', s, m, args, below, meth, c, Q, A', P', K', nL'⟩ := X
  obtain ⟨rfl, rfl, rfl, rfl, ⟨hx, hb, hml, hown, hts⟩, hK, hscr, hdis, hGm⟩ := hX
  intro H locs ls hP hM hS hl
  exact lv_tableIn hx hb hd h1 h2 ho ht (k H locs ls hP hM hS hl)

theorem l_tabOut (hX : HL X l cc nL Ts own G Gm A b L xs) {dflt lo hi : Int} {offs : Array Int} {len : Nat} {x : Int32} (tgt : Nat) (hd : decode cc pc = .ok (.tableswitch dflt lo hi offs, len)) (h : x.toInt < lo ∨ hi < x.toInt) (ht : (pc : Int) + dflt = (tgt : Int)) (k : GL X G Gm zc zm tgt lv st) : GL X G Gm zc zm pc lv (.int x :: st) := by
  obtain ⟨p, l', e, R', s, m, args, below, meth, c, Q, A', P', K', nL'⟩ := X
  obtain ⟨rfl, rfl, rfl, rfl, ⟨hx, hb, hml, hown, hts⟩, hK, hscr, hdis, hGm⟩ := hX
  intro H locs ls hP hM hS hl
  exact lv_tableOut hx hb hd h ht (k H locs ls hP hM hS hl)

theorem l_sub (ks : List Nat) (lv2 : List (Nat × Value)) (hl2 : lv_pick lv ks = lv2) (k : GL X G Gm zc zm pc lv2 st) : GL X G Gm zc zm pc lv st := by
  obtain ⟨p, l', e, R', s, m, args, below, meth, c, Q, A', P', K', nL'⟩ := X
  intro H locs ls hP hM hS hl
  exact k H locs ls hP hM hS (lv_sub hl ks hl2)
theorem l_top {x : Int32} (y : Int32) (h : x = y) (k : GL X G Gm zc zm pc lv (.int y :: st)) : GL X G Gm zc zm pc lv (.int x :: st) := h ▸ k
theorem l_slen (hX : HL X l cc nL Ts own G Gm A b L xs) (hd : decode cc pc = .ok (.arraylength, 1)) (k : GL X G Gm zc zm (pc + 1) lv (.int (nI L) :: st)) : GL X G Gm zc zm pc lv (.ref b :: st) := by
  obtain ⟨p, l', e, R', s, m, args, below, meth, c, Q, A', P', K', nL'⟩ := X
  obtain ⟨rfl, rfl, rfl, rfl, ⟨hx, hb, hml, hown, hts⟩, hK, hscr, hdis, hGm⟩ := hX
  intro H locs ls hP hM hS hl
  exact va_slen hx hb hscr.1 hscr.2.1 hscr.2.2 hS hd (k H locs ls hP hM hS hl)
theorem l_sld (hX : HL X l cc nL Ts own G Gm A b L xs) {i : Int32} (q : Nat) (hi : i = nI q) (hq : q < L) (hL : L < 2 ^ 31) (hd : decode cc pc = .ok (.iaload, 1)) (k : GL X G Gm zc zm (pc + 1) lv (.int (xs q) :: st)) : GL X G Gm zc zm pc lv (.int i :: .ref b :: st) := by
  obtain ⟨p, l', e, R', s, m, args, below, meth, c, Q, A', P', K', nL'⟩ := X
  obtain ⟨rfl, rfl, rfl, rfl, ⟨hx, hb, hml, hown, hts⟩, hK, hscr, hdis, hGm⟩ := hX
  intro H locs ls hP hM hS hl
  obtain ⟨h1, h2⟩ := nI_i hi hq hL
  refine va_sld hx hb hscr.1 hscr.2.1 hscr.2.2 hS h1 hd ?_
  rw [h2]
  exact k H locs ls hP hM hS hl
/-- a call of the class -/
theorem l_cc (hX : HL X l cc nL Ts own G Gm A b L xs) {y : MethodName} {index n maxL : Nat} {bytes : ByteArray} {ret : Option FieldType} {ws : List Cond} {rm : Room} {As rest : List Value} {R0 : Int32} {Z0 : St} (hc : CIc l G y ws rm (.ref (G.2.2 192) :: As) zc (fun ρ ζ => ρ = R0 ∧ ζ = Z0)) (hk : CW room_1 Ts own RX6 index y bytes maxL ret ws rm n) (hn : As.length = n) (hst : st = As.reverse ++ .ref (G.2.2 192) :: rest) (hW : (rest.map fun v => v.category).sum ≤ 8) (hd : decode cc pc = .ok (.invokevirtual index, 3)) (kk : GL X G Gm Z0 zm (pc + 3) lv (.int R0 :: rest)) : GL X G Gm zc zm pc lv st := by
  obtain ⟨p, l', e, R', s, m, args, below, meth, c, Q, A', P', K', nL'⟩ := X
  obtain ⟨rfl, rfl, rfl, rfl, ⟨hx, hb, hml, hown, hts⟩, hK, hscr, hdis, hGm⟩ := hX
  obtain ⟨hG, ⟨ws', hw⟩, h1, h2, h3, h4⟩ := hk
  subst hst
  intro H locs ls hP hM hS hl
  have hKs : KQ G (ExC G) s := ⟨hK.1, hK.2.1, ExS_nar hK.2.2 hdis.1⟩
  refine va_calli (va_runV (As := As) (rest := rest) ⟨hx, hb, hml, hown, hts⟩ hc (cwV n hts hG hw h1 h2 h3 h4) ⟨fun a U g mk q => ⟨q.1, q.2.1, KQ_mv (ExC_mv G) U _ (State.WarmedH.refl U) (Nat.le_refl _) (fun _ _ _ => rfl) q.2.2⟩, rc_Main s H hKs hP, fun U hU hW => ⟨rfl, by rw [hU]; exact hP, hK.1.moved hW.alike, hK.2.1.warmM hW, ExS_nar (ExS_mv A' s U hW (by rw [hU]; exact hS.1) (fun q h1 h2 => by rw [hU]; exact hS.2.1 q h1 h2) hK.2.2) hdis.1⟩⟩ rfl hn (hl.1.trans rfl) rfl (lv_room hW) hd ⟨Nat.le_refl _, Nat.le_refl _⟩) hS (fun q _ h => hdis.1 q h) (fun q h => hdis.1 q h) (fun r u t H1 locs1 ht hvm hp hB hz1 hk1 hS1 => ?_)
  obtain ⟨rfl, rfl⟩ := hp
  exact kk H1 locs1 ls (ht ▸ hB.1) (PW_kept hM (fun q h5 h6 => hk1 q h5 (fun h7 => hdis.2.2 q h7 h6))) hS1 hl
/-- a call of the model -/
theorem l_cm (hX : HL X l cc nL Ts own G Gm A b L xs) {y : MethodName} {index n maxL : Nat} {bytes : ByteArray} {ret : Option FieldType} {ws : List Cond} {rm : Room} {As rest : List Value} {R0 : Int32} {Z0 : St} (hc : CIm l Gm y ws rm (.ref (Gm.2.2 0) :: As) zm (fun ρ ζ => ρ = R0 ∧ ζ = Z0)) (hk : CW room_1 Ts own RX7 index y bytes maxL ret ws rm n) (hn : As.length = n) (hst : st = As.reverse ++ .ref (Gm.2.2 0) :: rest) (hW : (rest.map fun v => v.category).sum ≤ 8) (hd : decode cc pc = .ok (.invokevirtual index, 3)) (kk : GL X G Gm zc Z0 (pc + 3) lv (.int R0 :: rest)) : GL X G Gm zc zm pc lv st := by
  obtain ⟨p, l', e, R', s, m, args, below, meth, c, Q, A', P', K', nL'⟩ := X
  obtain ⟨rfl, rfl, rfl, rfl, ⟨hx, hb, hml, hown, hts⟩, hK, hscr, hdis, hGm⟩ := hX
  obtain ⟨hG, ⟨ws', hw⟩, h1, h2, h3, h4⟩ := hk
  subst hst
  intro H locs ls hP hM hS hl
  have et : tysG Gm = tysG G := by unfold tysG; rw [hGm.2]
  have hKs : KQ Gm ExM s := ⟨by rw [hGm.1, et]; exact hK.1, trivial⟩
  refine va_calli (va_runV (As := As) (rest := rest) ⟨hx, hb, hml, hown, hts⟩ hc (cwV n hts hG hw h1 h2 h3 h4) ⟨fun a U g mk q => ⟨q.1, q.2.1, KQ_mv (ExM_mv Gm) U _ (State.WarmedH.refl U) (Nat.le_refl _) (fun _ _ _ => rfl) q.2.2⟩, rc_Model s H hKs hM, fun U hU hW => ⟨rfl, by rw [hU]; exact hM, by rw [hGm.1, et]; exact hK.1.moved hW.alike, trivial⟩⟩ rfl hn (hl.1.trans rfl) rfl (lv_room hW) hd ⟨Nat.le_refl _, Nat.le_refl _⟩) hS (fun q _ h => hdis.2.1 q h) (fun q h => hdis.2.1 q h) (fun r u t H1 locs1 ht hvm hp hB hz1 hk1 hS1 => ?_)
  obtain ⟨rfl, rfl⟩ := hp
  exact kk H1 locs1 ls (PW_kept hP (fun q h5 h6 => hk1 q h5 (fun h7 => hdis.2.2 q h6 h7))) (ht ▸ hB.1) hS1 hl
end GLR
/-! the state put together has both pictures -/
theorem cfC_eq {G : MG} {w z : St} (h : ∀ f, f < 75 → w f = z f) : cfC G w = cfC G z := by
  funext k
  have hz : ∀ o, o < 3 → zo w o = zo z o := by
    intro o ho
    funext f i
    unfold zo
    split
    · rw [h _ (by omega)]
    · rfl
  unfold cfC
  by_cases q : k < 192
  · rw [if_pos q, if_pos q, hz _ (by omega)]
  · rw [if_neg q, if_neg q, h 60 (by decide), h 66 (by decide), h 67 (by decide), h 61 (by decide), h 62 (by decide), h 63 (by decide), h 64 (by decide), h 65 (by decide), h 69 (by decide), h 70 (by decide), h 71 (by decide), h 72 (by decide), h 73 (by decide), h 74 (by decide), h 68 (by decide)]
theorem cfM_eq {G : MG} {w z : St} (h : ∀ f, ¬ CP f → w f = z f) : cfM G w = cfM G z := by
  have ha : ∀ o, o < 3 → ∀ j, atF w o j = atF z o j := by
    intro o ho j
    unfold atF
    rw [h]
    have := fO_lt j
    unfold gO
    (repeat' split) <;> omega
  have h1 : (fun j => atF w 0 j) = fun j => atF z 0 j := funext (ha 0 (by decide))
  have h2 : (fun j => if j < 956 then atF w (j / 478 + 1) (j % 478) else 0) = fun j => if j < 956 then atF z (j / 478 + 1) (j % 478) else 0 := by
    funext j
    split
    · rw [ha _ (by omega)]
    · rfl
  funext k
  unfold cfM
  rw [h1, h2, h 69 (by decide), h 83 (by decide), h 84 (by decide), h 86 (by decide), h 80 (by decide), h 60 (by decide), h 68 (by decide), h 81 (by decide), h 82 (by decide), h 85 (by decide)]
theorem l_comb {X : GC} {G Gm : MG} {zc zm : St} {pc : Nat} {lv : List (Nat × Value)} {st : List Value} (hS : ∀ f, Sh f → zc f = zm f) (k : GL X G Gm (comb zc zm) (comb zc zm) pc lv st) : GL X G Gm zc zm pc lv st := by
  obtain ⟨p, l', e, R', s, m, args, below, meth, c, Q, A', P', K', nL'⟩ := X
  intro H locs ls hP hM hS2 hl
  refine k H locs ls ?_ ?_ hS2 hl
  · have e : cfC G (comb zc zm) = cfC G zc := cfC_eq (fun f hf => by
      unfold comb
      split
      · rfl
      · exact (hS f (by omega)).symm)
    unfold PW
    rw [e]
    exact hP
  · have e : cfM Gm (comb zc zm) = cfM Gm zm := cfM_eq (fun f hf => comb_m _ _ hf)
    unfold PW
    rw [e]
    exact hM
