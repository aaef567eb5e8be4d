/-! ===== the start: the statics, the classes of arrays, the first state ===== -/
theorem ini_st {args : Array Value} {s : State} {A : Nat → Prop} {n : String} {f : Nat → Int32} (hl : (Cond.laysStatic "ClimbPermits" n "[I").before args s = true) (hini : (Cond.initialized "ClimbPermits").before args s = true) (harr : (Cond.arrayOf (.static "ClimbPermits" n "[I") .int).before args s = true) (hlen : (Cond.eq (.length (.static "ClimbPermits" n "[I")) (.int 6)).before args s = true) (hel : ∀ j : Nat, j < 6 → (Cond.eq (.elem (.static "ClimbPermits" n "[I") (.int (Int32.ofNat j))) (.int (f j))).before args s = true) (hA : ∀ a : Nat, a < s.heap.size → ¬ A a) : ∃ t, stA A n t f s := by
  obtain ⟨t, h1, h2⟩ := va_Tof (tm := .static "ClimbPermits" n "[I") (ty := .int) (N := 6) (f := fun j => .int (f j)) (by decide) harr (va_eqt hlen) (fun j hj => va_eqt (hel j hj)) hA
  exact ⟨t, va_Zref hl hini h1 hA, h2⟩
theorem ini_arr {args : Array Value} {s : State} {ty : FieldType} (h : (Cond.arrayClass ty).before args s = true) : ∃ cA, ArrOfT s cA ty ∧ s.vm.findClass ("[" ++ ty.toString) = some cA := by
  obtain ⟨c, k, comp, h1, h2, h3⟩ := Cond.arrayClass_spec h
  exact ⟨c, fun n z => ⟨fun k h => (by cases h), k, h2, comp, h3⟩, h1⟩
theorem ini_arq {args : Array Value} {s : State} {C : String} (h : (Cond.arrayOver (.object C)).before args s = true) : ∃ cA, ArrOfT s cA (.object C) ∧ va_RA s cA (.object C) := by
  obtain ⟨comp, c, k, h1, -, h2, h3, h4⟩ := Cond.arrayOver_spec h
  exact ⟨c, fun n z => ⟨fun k h => (by cases h), k, h2, comp, h3⟩, k, comp, h2, h3, h1, h4⟩
def z0 : St := fun f i => if f = 4 ∨ f = 24 ∨ f = 44 then (if i < 6 then fFIRST i else 0) else if f = 10 ∨ f = 30 ∨ f = 50 then -6 else 0
theorem z0_0 {f : Nat} (h : f ≠ 4 ∧ f ≠ 24 ∧ f ≠ 44 ∧ f ≠ 10 ∧ f ≠ 30 ∧ f ≠ 50) : z0 f = fun _ => 0 := by
  funext i
  unfold z0
  rw [if_neg (by omega), if_neg (by omega)]
theorem z0_4 {f : Nat} (h : f = 4 ∨ f = 24 ∨ f = 44) : z0 f = fun i => if i < 6 then fFIRST i else 0 := by
  funext i
  unfold z0
  rw [if_pos h]
theorem z0_10 {f : Nat} (h : f = 10 ∨ f = 30 ∨ f = 50) : z0 f = fun _ => -6 := by
  funext i
  unfold z0
  rw [if_neg (by omega), if_pos h]
theorem Inv_0 : Inv z0 0 := by
  have e0 : ∀ f, f ≠ 4 ∧ f ≠ 24 ∧ f ≠ 44 ∧ f ≠ 10 ∧ f ≠ 30 ∧ f ≠ 50 → ∀ i, z0 f i = 0 := fun f hf i => by rw [z0_0 hf]
  have na : nA z0 = 0 := by unfold nA; rw [e0 3 (by decide)]; rfl
  have nc : cn (z0 2 0) = 0 := by rw [e0 2 (by decide)]; rfl
  refine ⟨⟨⟨0, by decide, e0 69 (by decide) 0⟩, fun i _ => ⟨0, by decide, e0 68 (by decide) i⟩⟩, ?_, fun o ho a ha => Or.inl (e0 _ (by omega) a), fun o ho d hd => Or.inl (e0 _ (by omega) d), fun s hs => Or.inl (e0 60 (by decide) s)⟩
  refine ⟨⟨⟨0, by decide, e0 0 (by decide) 0⟩, ⟨0, by decide, e0 1 (by decide) 0⟩, ⟨0, by decide, e0 2 (by decide) 0⟩, ⟨0, by decide, e0 3 (by decide) 0⟩, fun a ha => by omega⟩, fun d _ => Or.inl (e0 7 (by decide) d), fun c hc => by omega, fun a ha => by omega, fun a ha => by omega, fun a ha => by omega, fun a ha => by omega, fun a ha => by omega, fun a _ => Or.inl (e0 18 (by decide) a), fun a ha => by omega, fun a ha => by omega, ?_, fun c _ => ⟨0, Nat.le_refl _, e0 8 (by decide) c⟩, fun a _ _ => ⟨e0 15 (by decide) a, e0 16 (by decide) a, e0 17 (by decide) a, e0 18 (by decide) a⟩, fun c _ _ => ⟨e0 8 (by decide) c, e0 9 (by decide) c, by rw [z0_10 (Or.inl rfl)]⟩, fun a b ha => by omega⟩
  intro s hs
  rw [z0_4 (Or.inl rfl)]
  have : s = 0 ∨ s = 1 ∨ s = 2 ∨ s = 3 ∨ s = 4 ∨ s = 5 := by omega
  rcases this with rfl | rfl | rfl | rfl | rfl | rfl <;> decide
/-! the cells as they were made, by the numbers that the calls use -/
def bs (o : Nat) : Nat := if o = 0 then 1 else if o = 1 then 66 else 130
def pm (f : Nat) : Nat := if f < 192 then bs (f / 64) + f % 64 else if f = 192 then 0 else if f = 193 then 65 else f
theorem pm_o {o j : Nat} (ho : o < 3) (hj : j < 64) : pm (64 * o + j) = bs o + j := by
  unfold pm
  rw [if_pos (by omega), show (64 * o + j) / 64 = o from by omega, show (64 * o + j) % 64 = j from by omega]
theorem pm_lt {f : Nat} (h : f < 203) : pm f < 203 := by
  unfold pm bs
  (repeat' split) <;> omega
theorem pm_inj {f g : Nat} (hf : f < 203) (hg : g < 203) (h : pm f = pm g) : f = g := by
  unfold pm bs at h
  (repeat' split at h) <;> omega
def Eqv (e e' : va_E) : Prop := ∀ (D : va_G) (cl : List vw_C) (a : Nat) (H : Heap), va_at D cl (a, e) H → va_at D cl (a, e') H
theorem Eqv_of {e e' : va_E} (h : e = e') : Eqv e e' := fun _ _ _ _ q => h ▸ q
theorem arrV_cg {cA : ClassId} {n : Nat} {f g : Nat → Value} (h : ∀ j, j < n → f j = g j) : arrV cA n f = arrV cA n g := by
  unfold arrV
  congr 2
  funext j
  exact h j.1 j.2
theorem Eqv_q {cA : ClassId} {n : Nat} {f g : Nat → Option Nat} (h : ∀ j, j < n → f j = g j) : Eqv (.inl (cA, n, .inr (.inr (.inr (.inr f))))) (.inl (cA, n, .inr (.inr (.inr (.inr g))))) := by
  intro D cl a H q
  have e : arrV cA n (fun j => va_rf (f j)) = arrV cA n (fun j => va_rf (g j)) := arrV_cg (fun j hj => by rw [h j hj])
  show H[a]? = some (arrV cA n (fun j => va_rf (g j)))
  rw [← e]
  exact q
theorem Eqv_i {cA : ClassId} {n : Nat} {f g : Nat → Int32} (h : ∀ j, j < n → f j = g j) : Eqv (.inl (cA, n, .inl f)) (.inl (cA, n, .inl g)) := by
  intro D cl a H q
  have e : arrV cA n (fun j => .int (f j)) = arrV cA n (fun j => .int (g j)) := arrV_cg (fun j hj => by rw [h j hj])
  show H[a]? = some (arrV cA n (fun j => .int (g j)))
  rw [← e]
  exact q
abbrev Gp (G : MG) (ad : Nat → Nat) : MG := (G.1, G.2.1, fun f => ad (pm f))
theorem pic_o (G : MG) (ad : Nat → Nat) {o t : Nat} (ho : o < 3) (ht : t < 64) : Eqv (offE G ad (bs o) 5 6 12 40 6 t) (cOff (Gp G ad) (zo z0 o) o t) := by
  have hp : ∀ j, j < 64 → (Gp G ad).2.2 (64 * o + j) = ad (bs o + j) := fun j hj => by show ad (pm (64 * o + j)) = _; rw [pm_o ho hj]
  have hz : ∀ f, f < 20 → f ≠ 4 → f ≠ 10 → zo z0 o f = fun _ => 0 := by
    intro f h1 h2 h3
    funext i
    unfold zo
    rw [if_pos h1, z0_0 (by omega)]
  have hz4 : zo z0 o 4 = fun i => if i < 6 then fFIRST i else 0 := by
    funext i
    unfold zo
    rw [if_pos (by decide), z0_4 (by omega)]
  have hz10 : zo z0 o 10 = fun _ => -6 := by
    funext i
    unfold zo
    rw [if_pos (by decide), z0_10 (by omega)]
  unfold offE cOff
  by_cases t0 : t = 0
  · rw [if_pos t0, if_pos t0]
    refine Eqv_of ?_
    rw [hz 0 (by decide) (by decide) (by decide), hz 1 (by decide) (by decide) (by decide), hz 2 (by decide) (by decide) (by decide), hz 3 (by decide) (by decide) (by decide), hp 1 (by decide), hp 2 (by decide), hp 3 (by decide), hp 4 (by decide), hp 5 (by decide)]
    rfl
  · rw [if_neg t0, if_neg t0]
    by_cases t1 : t = 1
    · rw [if_pos t1, if_pos t1]
      refine Eqv_q (fun j hj => ?_)
      rw [if_pos hj, Nat.add_assoc (64 * o), hp _ (by omega), Nat.add_assoc]
    · rw [if_neg t1, if_neg t1]
      by_cases t2 : t = 2
      · rw [if_pos t2, if_pos t2]
        refine Eqv_q (fun j hj => ?_)
        rw [if_pos hj, Nat.add_assoc (64 * o), hp _ (by omega), Nat.add_assoc]
      · rw [if_neg t2, if_neg t2]
        by_cases t3 : t = 3
        · rw [if_pos t3, if_pos t3]
          refine Eqv_q (fun j hj => ?_)
          rw [if_pos hj, Nat.add_assoc (64 * o), hp _ (by omega), Nat.add_assoc]
        · rw [if_neg t3, if_neg t3]
          by_cases t4 : t = 4
          · rw [if_pos t4, if_pos t4, hz 7 (by decide) (by decide) (by decide)]
            exact Eqv_of rfl
          · rw [if_neg t4, if_neg t4]
            by_cases t5 : t = 5
            · rw [if_pos t5, if_pos t5, hz4]
              exact Eqv_of rfl
            · rw [if_neg t5, if_neg t5]
              by_cases t6 : t < 12
              · rw [if_pos t6, if_pos t6, hz 5 (by decide) (by decide) (by decide), hz 6 (by decide) (by decide) (by decide)]
                exact Eqv_of rfl
              · rw [if_neg t6, if_neg t6]
                by_cases t7 : t < 24
                · rw [if_pos t7, if_pos t7, hz 8 (by decide) (by decide) (by decide), hz 9 (by decide) (by decide) (by decide), hz10]
                  exact Eqv_of rfl
                · rw [if_neg t7, if_neg t7, hz 11 (by decide) (by decide) (by decide), hz 12 (by decide) (by decide) (by decide), hz 13 (by decide) (by decide) (by decide), hz 14 (by decide) (by decide) (by decide), hz 15 (by decide) (by decide) (by decide), hz 16 (by decide) (by decide) (by decide), hz 17 (by decide) (by decide) (by decide), hz 18 (by decide) (by decide) (by decide), hz 19 (by decide) (by decide) (by decide)]
                  exact Eqv_of rfl
theorem maE_off (G : MG) (ad : Nat → Nat) {o t : Nat} (ho : o < 3) (ht : t < 64) : maE G ad 0 5 2 (bs o + t) = offE G ad (bs o) 5 6 12 40 6 t := by
  have : o = 0 ∨ o = 1 ∨ o = 2 := by omega
  unfold maE
  rcases this with rfl | rfl | rfl
  · have e : bs 0 = 1 := rfl
    rw [e, if_neg (by omega), if_pos (by omega), show 1 + t - 1 = t from by omega]
  · have e : bs 1 = 66 := rfl
    rw [e, if_neg (by omega), if_neg (by omega), if_neg (by omega), if_pos (by omega), show 66 + t - 66 = t from by omega]
  · have e : bs 2 = 130 := rfl
    rw [e, if_neg (by omega), if_neg (by omega), if_neg (by omega), if_neg (by omega), if_pos (by omega), show 130 + t - 130 = t from by omega]
theorem pic_c (G : MG) (ad : Nat → Nat) {k : Nat} (hk : k < 203) : Eqv (maE G ad 0 5 2 (pm k)) (cfC (Gp G ad) z0 k) := by
  have zz : ∀ f, f ≠ 4 ∧ f ≠ 24 ∧ f ≠ 44 ∧ f ≠ 10 ∧ f ≠ 30 ∧ f ≠ 50 → z0 f = fun _ => 0 := fun f hf => z0_0 hf
  by_cases q : k < 192
  · have e : k = 64 * (k / 64) + k % 64 := by omega
    have h3 : k / 64 < 3 := by omega
    have h64 : k % 64 < 64 := by omega
    have e1 : pm k = bs (k / 64) + k % 64 := by unfold pm; rw [if_pos q]
    rw [e1, maE_off G ad h3 h64]
    unfold cfC
    rw [if_pos q]
    exact pic_o G ad h3 h64
  · have : k = 192 ∨ k = 193 ∨ k = 194 ∨ k = 195 ∨ k = 196 ∨ k = 197 ∨ k = 198 ∨ k = 199 ∨ k = 200 ∨ k = 201 ∨ k = 202 := by omega
    unfold cfC
    rw [zz 60 (by decide), zz 61 (by decide), zz 62 (by decide), zz 63 (by decide), zz 64 (by decide), zz 65 (by decide), zz 66 (by decide), zz 67 (by decide), zz 68 (by decide), zz 69 (by decide), zz 70 (by decide), zz 71 (by decide), zz 72 (by decide), zz 73 (by decide), zz 74 (by decide)]
    rcases this with rfl | rfl | rfl | rfl | rfl | rfl | rfl | rfl | rfl | rfl | rfl
    · exact Eqv_of rfl
    · refine Eqv_q (f := fun j => if j < 2 then some (ad (0 + 66 + 64 * j)) else none) (fun j hj => ?_)
      have : j = 0 ∨ j = 1 := by omega
      rcases this with rfl | rfl <;> rfl
    · exact Eqv_of rfl
    · exact Eqv_of rfl
    · exact Eqv_of rfl
    · exact Eqv_of rfl
    · exact Eqv_of rfl
    · exact Eqv_of rfl
    · exact Eqv_of rfl
    · exact Eqv_of rfl
    · exact Eqv_of rfl
