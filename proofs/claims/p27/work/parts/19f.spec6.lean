/-! ===== faults, puts, loads ===== -/
theorem apR_PS {y : St} {p : Nat} (h : p ≤ lenN y) : ∃ q c r d x, (apR y p).2 = PS y q c r d x ∧ p ≤ q ∧ q ≤ lenN y ∧ ((apR y p).1 = 1 → p < q) := by
  unfold apR
  split
  · exact ⟨_, _, _, _, _, rfl, Nat.le_refl _, h, fun e => absurd (show (0 : Int32) = 1 from e) (by decide)⟩
  · rename_i h0
    have h0 := Decidable.not_not.mp h0
    have a1 := numP_le y 0 11 (p := p + 1) (by have := h0.1; omega)
    split
    · exact ⟨_, _, _, _, _, rfl, by unfold q1; omega, by unfold q1; omega, fun e => absurd (show (0 : Int32) = 1 from e) (by decide)⟩
    · rename_i h1
      have h1 : sgnP y 114 (q1 y p).2 := Decidable.not_not.mp (fun e => h1 (Or.inr e))
      have b1 : p + 1 ≤ (q1 y p).2 := a1.1
      have a2 := numP_le y 0 5 (p := (q1 y p).2 + 1) (by have := h1.1; omega)
      split
      · exact ⟨_, _, _, _, _, rfl, by unfold q2; omega, by unfold q2; omega, fun e => absurd (show (0 : Int32) = 1 from e) (by decide)⟩
      · rename_i h2
        have h2 : sgnP y 100 (q2 y p).2 := Decidable.not_not.mp (fun e => h2 (Or.inr e))
        have b2 : (q1 y p).2 + 1 ≤ (q2 y p).2 := a2.1
        have a3 := numP_le y 0 59 (p := (q2 y p).2 + 1) (by have := h2.1; omega)
        have b3 : (q2 y p).2 + 1 ≤ (q3 y p).2 := a3.1
        have b3' : (q3 y p).2 ≤ lenN y := a3.2
        split
        · exact ⟨_, _, _, _, _, rfl, by omega, by omega, fun e => absurd (show (0 : Int32) = 1 from e) (by decide)⟩
        · split
          · exact ⟨_, _, _, _, _, rfl, by omega, by omega, fun _ => by omega⟩
          · rename_i h4
            have h4 := Decidable.not_not.mp h4
            have a4 := numP_le y 1 4 (p := (q3 y p).2 + 1) (by have := h4.1; omega)
            have b4 : (q3 y p).2 + 1 ≤ (q4 y p).2 := a4.1
            have b4' : (q4 y p).2 ≤ lenN y := a4.2
            split
            · exact ⟨_, _, _, _, _, rfl, by omega, by omega, fun e => absurd (show (0 : Int32) = 1 from e) (by decide)⟩
            · exact ⟨_, _, _, _, _, rfl, by omega, by omega, fun _ => by omega⟩
/-- the place where the application ends that begins at p -/
def apE (y : St) (p : Nat) : Nat := cn ((apR y p).2 70 0)
def ffK : Nat → St → Nat → Int32 × St
  | 0, y, p => (nI p, y)
  | n + 1, y, p => if (apR y p).1 = 0 then (nI (apE y p), (apR y p).2) else if apE y p = lenN y then (-6, (apR y p).2) else if ¬ sgnP y 59 (apE y p) then (nI (apE y p), (apR y p).2) else ffK n (u2 (apR y p).2 70 0 (nI (apE y p + 1))) (apE y p + 1)
def shr8 (r : Int64) : Int64 := (r.toUInt64 >>> ((8 : Int32).toInt64.toUInt64 &&& Int64.toUInt64 63)).toInt64
def szK : Nat → Nat → Int64 → Int32
  | 0, _, _ => 8
  | n + 1, s, r => if r = 0 then nI s else if r &&& 255 < 33 ∨ ¬ r &&& 255 ≤ 126 then 0 else szK n (s + 1) (shr8 r)
def chrAt (c : Int64) (b : Nat) : Int32 := (((c.toUInt64 >>> ((8 * nI b : Int32).toInt64.toUInt64 &&& Int64.toUInt64 63)).toInt64 &&& 255).toInt32.toUInt32 % 65536).toInt32
def apd (c : Int64) : Nat → St → St
  | 0, y => y
  | b + 1, y => apd c b (u2 (u2 y 68 (lenN y) (chrAt c b)) 69 0 (y 69 0 + 1))
theorem szK_rng : ∀ (n s : Nat) (r : Int64), s + n = 8 → ∃ j, j ≤ 8 ∧ szK n s r = nI j := by
  intro n
  induction n with
  | zero => intro s r h; exact ⟨8, by omega, rfl⟩
  | succ n ih =>
    intro s r h
    unfold szK
    split
    · exact ⟨s, by omega, rfl⟩
    · split
      · exact ⟨0, by omega, rfl⟩
      · exact ih (s + 1) _ (by omega)
def spPut (z : St) (c : Int64) : Int32 × St := if szK 8 0 c = 0 then (-2, z) else if ¬ z 69 0 + szK 8 0 c ≤ 60 then (-4, z) else (apd c (cn (szK 8 0 c)) z 69 0, apd c (cn (szK 8 0 c)) z)
def ldA (y : St) (p : Nat) : Int32 × St := spApply (apR y p).2 ((apR y p).2 71 0) ((apR y p).2 72 0) ((apR y p).2 73 0) ((apR y p).2 74 0)
def ldK : Nat → St → Nat → Int32 → Int32 × St
  | 0, y, _, m => (m, y)
  | n + 1, y, p, m => if (ldA y p).1 < 0 then (m, (ldA y p).2) else if sgnP y 59 (apE y p) then ldK n (u2 (ldA y p).2 70 0 (nI (apE y p + 1))) (apE y p + 1) (m + 1) else (m + 1, (ldA y p).2)
theorem IO_newApp {z : St} (h : IO z) (hn : nA z < 40) {c r d p : Int32} (hc : ∃ k, k < 12 ∧ c = nI k) (hr : ∃ k, k < 6 ∧ r = nI k) (hd : ∃ k, k < 60 ∧ d = nI k) : IO (newApp z c r d p) := by
  have e0 : newApp z c r d p 0 0 = z 0 0 := by unfold newApp; (repeat rw [u2_ne (by omega)])
  have e1 : newApp z c r d p 1 0 = z 1 0 := by unfold newApp; (repeat rw [u2_ne (by omega)])
  have e2 : newApp z c r d p 2 0 = z 2 0 := by unfold newApp; (repeat rw [u2_ne (by omega)])
  have e3 : newApp z c r d p 3 0 = nI (nA z + 1) := by
    unfold newApp
    rw [u2_s]
    conv => lhs; rw [(iNa h).1]
    exact nI_1 _
  have en : nA (newApp z c r d p) = nA z + 1 := by unfold nA; rw [e3, cn_nI (by omega)]
  refine ⟨by rw [e0]; exact h.1, by rw [e1]; exact h.2.1, by rw [e2]; exact h.2.2.1, ⟨nA z + 1, by omega, e3⟩, fun a ha => ?_⟩
  rw [en] at ha
  by_cases h1 : a = nA z
  · subst h1
    refine ⟨?_, ?_, ?_⟩
    · have : newApp z c r d p 11 (nA z) = c := by unfold newApp; rw [u2_ne (by omega), u2_ne (by omega), u2_ne (by omega), u2_ne (by omega), u2_ne (by omega), u2_s]
      rw [this]; exact hc
    · have : newApp z c r d p 12 (nA z) = r := by unfold newApp; rw [u2_ne (by omega), u2_ne (by omega), u2_ne (by omega), u2_ne (by omega), u2_s]
      rw [this]; exact hr
    · have : newApp z c r d p 13 (nA z) = d := by unfold newApp; rw [u2_ne (by omega), u2_ne (by omega), u2_ne (by omega), u2_s]
      rw [this]; exact hd
  · have o : ∀ f, f ≠ 3 → newApp z c r d p f a = z f a := by
      intro f hf
      unfold newApp
      rw [u2_ne (by omega), u2_ne (by omega), u2_ne (by omega), u2_ne (by omega), u2_ne (by omega), u2_ne (by omega)]
    rw [o 11 (by decide), o 12 (by decide), o 13 (by decide)]
    exact h.2.2.2.2 a (by omega)
theorem IO_apply {z : St} (h : IO z) (c r d p : Int32) : IO (spApply z c r d p).2 := by
  unfold spApply
  split
  · exact h
  · rename_i h0
    split
    · exact h
    · split
      · exact h
      · split
        · exact h
        · rename_i h4
          have h5 := Decidable.not_not.mp h4
          have hc : climP z c := Decidable.not_not.mp (fun e => h0 (Or.inl e))
          have hrd : routeP z r ∧ dayP d := Decidable.not_not.mp (fun e => h0 (Or.inr e))
          have hn : nA z < 40 := by
            rw [(iNa h).1] at h5
            exact (nI_ltI (b := 40) (by have := (iNa h).2; omega) (by decide)).mp h5
          have a1 := climP_in h hc
          have a2 := routeP_in h hrd.1
          have a3 := dayP_in hrd.2
          exact IO_newApp h hn ⟨_, a1.2.2, a1.1⟩ ⟨_, a2.2, a2.1⟩ ⟨_, a3.2, a3.1⟩
theorem apply_lo (z : St) (c r d p : Int32) {f : Nat} (hf : f ≠ 3 ∧ f ≠ 11 ∧ f ≠ 12 ∧ f ≠ 13 ∧ f ≠ 14 ∧ f ≠ 19) : (spApply z c r d p).2 f = z f := by
  unfold spApply newApp
  (repeat' split) <;> first | rfl | (show u2 _ _ _ _ f = _; rw [u2_f (by omega), u2_f (by omega), u2_f (by omega), u2_f (by omega), u2_f (by omega), u2_f (by omega)])
def spFault (z : St) : Int32 × St := ffK (lenN z + 1) (u2 z 70 0 0) 0
def spLoad (z : St) : Int32 × St := if ¬ (spFault z).1 = -6 then (-3, (spFault z).2) else ((ldK (lenN z) (u2 (spFault z).2 70 0 0) 0 0).1, u2 (ldK (lenN z) (u2 (spFault z).2 70 0 0) 0 0).2 69 0 0)
theorem len_u69 (y : St) (w : Int32) : lenN (u2 y 69 0 w) = cn w := by unfold lenN; rw [u2_s]
/-- a static method of another class -/
def CT2 (R : Room) (Ts : List Cond) (own : String) (index : Nat) (y : MethodName) (bytes : ByteArray) (maxL : Nat) (ret : Option FieldType) (ws : List Cond) (rm : Room) (n : Nat) : Prop :=
  GoodIn Ts (va_wsS own index y ws) ∧ (∃ ws', ws = Cond.code y bytes maxL ret :: ws') ∧ rm.cells = 0 ∧ rm.slots = 0 ∧ (y.cls ≠ "java/lang/invoke/MethodHandle" ∧ y.cls ≠ "java/lang/invoke/VarHandle" ∧ (parseMethodDescriptor y.desc).map (fun d => d.parameters.length) = some n) ∧ rm.frames + 1 ≤ R.frames ∧ 8 + (maxL + 11) + rm.locals ≤ R.locals
theorem g_ctE {X : GC} {l : Launch} {R : Room} {cc : ByteArray} {nL : Nat} {Ts : List Cond} {own : String} {A : Nat → Prop} {P : St → Heap → Prop} {K : State → Prop} {z : St} {pc : Nat} {lv : List (Nat × Value)} {st : List Value} (hX : GX X l R cc nL Ts own A P K) {y : MethodName} {index n maxL : Nat} {bytes : ByteArray} {ret : Option FieldType} {ws : List Cond} {rm : Room} {As rest : List Value} {R0 : Int32} {Z0 : St} (hc : CI l A P K y ws rm As z (fun ρ ζ => ρ = R0 ∧ ζ = Z0)) (hk : CT2 R Ts own index y bytes maxL ret ws rm n) (hn : As.length = n) (hst : st = As.reverse ++ rest) (hW : (rest.map fun v => v.category).sum ≤ 8) (hd : decode cc pc = .ok (.invokestatic index, 3)) (kk : Go X Z0 (pc + 3) lv (.int R0 :: rest)) : Go X z pc lv st := by
  obtain ⟨p, l', e, R', s, m, args, below, meth, c, Q, A', P', K', nL'⟩ := X
  obtain ⟨rfl, rfl, rfl, rfl, rfl, rfl, ⟨hx, hb, hml, hown, hts⟩, hK, hKM⟩ := hX
  obtain ⟨hG, ⟨ws', hw⟩, h1, h2, h3, h4⟩ := hk
  subst hst
  intro H locs ls hP hS hl
  refine va_calli (va_runS (As := As) (rest := rest) ⟨hx, hb, hml, hown, hts⟩ hc (va_cwS n hts hG hw h1 h2 h3 h4) ⟨fun a U g mk q => ⟨q.1, q.2.1, hKM U _ (State.WarmedH.refl U) (Nat.le_refl _) (fun _ _ _ => rfl) q.2.2⟩, fun U hU hW => ⟨rfl, by rw [hU]; exact hP, hKM s U hW (by rw [hU]; exact hS.1) (fun q h1 h2 => by rw [hU]; exact hS.2.1 q h1 h2) hK⟩⟩ rfl hn (hl.1.trans rfl) rfl (lv_room hW) hd ⟨Nat.zero_le _, Nat.zero_le _⟩) hS (fun q _ h => h) (fun q h => h) (fun r u t H1 locs1 ht hvm hp hB hz1 hk1 hS1 => ?_)
  obtain ⟨rfl, rfl⟩ := hp
  exact kk H1 locs1 ls (ht ▸ hB.1) hS1 hl
theorem apR_lo (y : St) (p : Nat) {f : Nat} (h : f < 70) : (apR y p).2 f = y f := by
  unfold apR
  (repeat' split) <;> exact PS_lo _ _ _ _ _ _ (by omega)
theorem ffK_lo : ∀ (n : Nat) (y : St) (p : Nat) {f : Nat}, f < 70 → (ffK n y p).2 f = y f := by
  intro n
  induction n with
  | zero => intro y p f h; rfl
  | succ n ih =>
    intro y p f h
    unfold ffK
    split
    · exact apR_lo y p h
    · split
      · exact apR_lo y p h
      · split
        · exact apR_lo y p h
        · rw [ih _ _ h, u2_f (by omega)]; exact apR_lo y p h
theorem fault_lo (z : St) {f : Nat} (h : f < 70) : (spFault z).2 f = z f := by
  unfold spFault
  rw [ffK_lo _ _ _ h, u2_f (by omega)]
theorem ld_stop {z y : St} {p k : Nat} {m : Int32} {R : Int32 × St} (hR : ldK (lenN z - k) y p m = R) (hk : k < lenN z) (h : (ldA y p).1 < 0) : (m, (ldA y p).2) = R := by
  rw [← hR, show lenN z - k = (lenN z - (k + 1)) + 1 from by omega, ldK, if_pos h]
theorem ld_next {z y : St} {p q k : Nat} {m : Int32} {R : Int32 × St} (hR : ldK (lenN z - k) y p m = R) (hk : k < lenN z) (h : ¬ (ldA y p).1 < 0) (hE : apE y p = q) (hl : lenN y = lenN z) :
    (bi (sgnP y 59 q) = 1 ∧ (if sgnP y 59 q then u2 (ldA y p).2 70 0 (nI (q + 1)) else (ldA y p).2) 70 0 = nI (q + 1) ∧ q + 1 ≤ lenN z ∧ ldK (lenN z - (k + 1)) (if sgnP y 59 q then u2 (ldA y p).2 70 0 (nI (q + 1)) else (ldA y p).2) (q + 1) (m + 1) = R) ∨ (bi (sgnP y 59 q) = 0 ∧ (m + 1, if sgnP y 59 q then u2 (ldA y p).2 70 0 (nI (q + 1)) else (ldA y p).2) = R) := by
  have e : ldK (lenN z - k) y p m = if sgnP y 59 q then ldK (lenN z - (k + 1)) (u2 (ldA y p).2 70 0 (nI (q + 1))) (q + 1) (m + 1) else (m + 1, (ldA y p).2) := by
    rw [show lenN z - k = (lenN z - (k + 1)) + 1 from by omega, ldK, if_neg h, hE]
  by_cases hs : sgnP y 59 q
  · left
    rw [if_pos hs] at e
    rw [if_pos hs]
    exact ⟨bi_t hs, u2_s _ _ _ _, by have := hs.1; omega, e.symm.trans hR⟩
  · right
    rw [if_neg hs] at e
    rw [if_neg hs]
    exact ⟨bi_f hs, e.symm.trans hR⟩
