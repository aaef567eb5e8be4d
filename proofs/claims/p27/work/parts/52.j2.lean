/-! ===== steps: what stays where only some fields change ===== -/
theorem Inv_cg {z y : St} {b : Nat} (h : Inv z b) (e : ∀ f, (f < 61 ∨ f = 68 ∨ f = 69 ∨ 87 ≤ f) → y f = z f) : Inv y b := by
  refine ⟨PO_of h.1 (e 68 (by omega)) (e 69 (by omega)), OI_of h.2.1 (fun f hf _ _ _ => e f (by omega)), fun o ho a ha => ?_, fun o ho d hd => ?_, fun s hs => ?_⟩
  · rw [e _ (by omega)]; exact h.2.2.1 o ho a ha
  · rw [e _ (by omega)]; exact h.2.2.2.1 o ho d hd
  · rcases h.2.2.2.2 s hs with q | q
    · left; rw [e 60 (by omega)]; exact q
    · right; rw [e 60 (by omega)]
      exact ⟨q.1, q.2.of (Nat.le_refl _) hs (fun f hf => e _ (by omega)) (fun f hf => e _ (by omega)) (e _ (by omega))⟩
theorem AJ_of {z y : St} {a : Nat} (h : AJ z a) (e0 : y 0 0 = z 0 0) (e7 : y 7 (cn (z 13 a)) = z 7 (cn (z 13 a))) (e13 : y 13 a = z 13 a) (e14 : y 14 a = z 14 a) (e15 : y 15 a = z 15 a) (e16 : y 16 a = z 16 a) (e17 : y 17 a = z 17 a) : AJ y a := by
  unfold AJ a_s a_d a_m a_b a_p TN at *
  rw [e13, e14, e15, e16, e17, e0, e7]
  exact h
theorem RJ_of {z y : St} {r : Nat} (h : RJ z r) (e5 : y 5 r = z 5 r) (e6 : y 6 r = z 6 r) : RJ y r := by
  unfold RJ at *
  rw [e5, e6]; exact h
theorem tkF_of {z y : St} {r d a : Nat} (e12 : y 12 a = z 12 a) (e13 : y 13 a = z 13 a) (e14 : y 14 a = z 14 a) (e15 : y 15 a = z 15 a) : tkF y r d a = tkF z r d a := by
  unfold tkF a_s a_r a_d a_p
  rw [e12, e13, e14, e15]
theorem lim_a {f a : Nat} (h1 : 11 ≤ f) (h2 : f < 20) (h3 : a < 40) : a < limF f := by unfold limF; (repeat' split) <;> omega
/-- the same places of office 0 -/
theorem J_in {z y : St} (hI : IO z) (e : ∀ f i, f < 20 → i < limF f → y f i = z f i) (h : J z) : J y := by
  have h40 := (iNa hI).2
  have h6 : NR z ≤ 6 := (iNr hI).2
  have e0 : y 0 0 = z 0 0 := e 0 0 (by decide) (by decide)
  have e1 : NR y = NR z := congrArg cn (e 1 0 (by decide) (by decide))
  have e2 : NC y = NC z := congrArg cn (e 2 0 (by decide) (by decide))
  have e3 : nA y = nA z := congrArg cn (e 3 0 (by decide) (by decide))
  have ea : ∀ f a, 11 ≤ f → f < 20 → a < nA z → y f a = z f a := fun f a h1 h2 h3 => e f a h2 (lim_a h1 h2 (by omega))
  have e5 : ∀ r, r < NR z → y 5 r = z 5 r := fun r hr => e 5 r (by decide) (show r < 6 by omega)
  have e6 : ∀ r, r < NR z → y 6 r = z 6 r := fun r hr => e 6 r (by decide) (show r < 6 by omega)
  obtain ⟨j1, j2, j3, j4, j5⟩ := h
  refine ⟨fun a ha => ?_, fun r hr => ?_, fun r hr d hd => ?_, by rw [e1]; exact j4, by rw [e2]; exact j5⟩
  · rw [e3] at ha
    exact AJ_of (j1 a ha) e0 (e 7 _ (by decide) (show _ < 60 from (iD hI ha).2)) (ea 13 a (by decide) (by decide) ha) (ea 14 a (by decide) (by decide) ha) (ea 15 a (by decide) (by decide) ha) (ea 16 a (by decide) (by decide) ha) (ea 17 a (by decide) (by decide) ha)
  · rw [e1] at hr
    exact RJ_of (j2 r hr) (e5 r hr) (e6 r hr)
  · rw [e1] at hr
    rw [e5 r hr]
    refine Nat.le_trans (Nat.le_of_eq ?_) (j3 r hr d hd)
    unfold tkN
    rw [e3]
    exact nS_congr (fun a ha => tkF_of (ea 12 a (by decide) (by decide) ha) (ea 13 a (by decide) (by decide) ha) (ea 14 a (by decide) (by decide) ha) (ea 15 a (by decide) (by decide) ha))
theorem J_cg {z y : St} (hI : IO z) (e : ∀ f, f < 20 → y f = z f) (h : J z) : J y := J_in hI (fun f i hf _ => by rw [e f hf]) h
theorem JI_cg {z y : St} {b : Nat} (h : JI z b) (e : ∀ f, (f < 61 ∨ f = 68 ∨ f = 69 ∨ 87 ≤ f) → y f = z f) : JI y b := ⟨Inv_cg h.1 e, h.2.1, J_cg h.io (fun f hf => e f (by omega)) h.j⟩
theorem JI.mono {z : St} {b b' : Nat} (h : JI z b) (hb : b ≤ b') (hb' : b' ≤ 50000) : JI z b' := ⟨h.1.mono hb, hb', h.j⟩
theorem Inv_p {b : Nat} {F : Int32 × St} (h : PairOK b F F) : Inv F.2 b := by
  have := h.2.1
  rwa [comb_self] at this
/-- a state between the acts, told by its applications alone: office's rows are as they were -/
theorem J_apps {z y : St} (h : J z) (e1 : y 1 = z 1) (e2 : y 2 = z 2) (e5 : y 5 = z 5) (e6 : y 6 = z 6) (h1 : ∀ a, a < nA y → AJ y a) (h3 : ∀ r, r < NR z → ∀ d, d < 60 → tkN y r d ≤ cn (z 5 r)) : J y := by
  obtain ⟨j1, j2, j3, j4, j5⟩ := h
  have n1 : NR y = NR z := by unfold NR; rw [e1]
  have n2 : NC y = NC z := by unfold NC; rw [e2]
  refine ⟨h1, fun r hr => ?_, fun r hr d hd => ?_, by rw [n1]; exact j4, by rw [n2]; exact j5⟩
  · rw [n1] at hr
    exact RJ_of (j2 r hr) (by rw [e5]) (by rw [e6])
  · rw [n1] at hr
    rw [e5]; exact h3 r hr d hd
theorem nS_tk {z y : St} {r d : Nat} (en : nA y = nA z) (h : ∀ a, a < nA z → tkF y r d a = tkF z r d a) : tkN y r d = tkN z r d := by
  unfold tkN; rw [en]; exact nS_congr h
theorem tk_le {z y : St} {r d : Nat} (en : nA y = nA z) (h : ∀ a, a < nA z → tkF y r d a ≤ tkF z r d a) : tkN y r d ≤ tkN z r d := by
  unfold tkN; rw [en]; exact nS_leF h
/-! apply -/
theorem nwA_3 {z : St} (hI : IO z) (c r d p : Int32) : newApp z c r d p 3 0 = nI (nA z + 1) := by
  unfold newApp
  rw [u2_s]
  conv => lhs; rw [(iNa hI).1]
  exact nI_1 _
theorem nwA_n {z : St} (hI : IO z) (c r d p : Int32) : nA (newApp z c r d p) = nA z + 1 := by
  have := (iNa hI).2
  unfold nA; rw [nwA_3 hI, cn_nI (by omega)]
theorem nwA_lo (z : St) (c r d p : Int32) {f : Nat} (hf : f ≠ 3 ∧ f ≠ 11 ∧ f ≠ 12 ∧ f ≠ 13 ∧ f ≠ 14 ∧ f ≠ 19) : newApp z c r d p f = z f := by
  unfold newApp
  rw [u2_f (by omega), u2_f (by omega), u2_f (by omega), u2_f (by omega), u2_f (by omega), u2_f (by omega)]
theorem nwA_old (z : St) (c r d p : Int32) {f a : Nat} (hf : f ≠ 3) (ha : a ≠ nA z) : newApp z c r d p f a = z f a := by
  unfold newApp
  rw [u2_ne (by omega), u2_ne (by omega), u2_ne (by omega), u2_ne (by omega), u2_ne (by omega), u2_ne (by omega)]
theorem nwA_new (z : St) (c r d p : Int32) : newApp z c r d p 11 (nA z) = c ∧ newApp z c r d p 12 (nA z) = r ∧ newApp z c r d p 13 (nA z) = d ∧ newApp z c r d p 14 (nA z) = p ∧ newApp z c r d p 19 (nA z) = d := by
  unfold newApp
  refine ⟨?_, ?_, ?_, ?_, ?_⟩
  · rw [u2_ne (by omega), u2_ne (by omega), u2_ne (by omega), u2_ne (by omega), u2_ne (by omega), u2_s]
  · rw [u2_ne (by omega), u2_ne (by omega), u2_ne (by omega), u2_ne (by omega), u2_s]
  · rw [u2_ne (by omega), u2_ne (by omega), u2_ne (by omega), u2_s]
  · rw [u2_ne (by omega), u2_s]
  · rw [u2_ne (by omega), u2_ne (by omega), u2_s]
theorem J_newApp {z : St} {b : Nat} (h : JI z b) (hn : nA z < 40) {c r d p : Int32} (ho : openP z d) : J (newApp z c r d p) := by
  have hI := h.io
  have lo := fun f hf => nwA_lo z c r d p (f := f) hf
  obtain ⟨n1, n2, n3, n4, n5⟩ := nwA_new z c r d p
  obtain ⟨f15, f16, f17, -⟩ := h.oi.fra (nA z) (Nat.le_refl _) hn
  refine J_apps h.j (lo 1 (by decide)) (lo 2 (by decide)) (lo 5 (by decide)) (lo 6 (by decide)) (fun a ha => ?_) (fun r' hr d' hd => ?_)
  · rw [nwA_n hI] at ha
    by_cases e : a = nA z
    · subst e
      have hd := dayP_in ho.2.1
      have ht : TN z ≤ cn d := by
        have e1 := ho.1
        rw [h.t0.1, hd.1] at e1
        exact (nI_leI (by have := h.t0.2; omega) (by omega)).mp e1
      unfold AJ a_s a_d a_m a_b a_p TN
      rw [lo 15 (by decide), lo 16 (by decide), lo 17 (by decide), lo 0 (by decide), lo 7 (by decide), n3, f15, f16, f17]
      have e0 : cn 0 = 0 := by decide
      rw [e0]
      exact ⟨by omega, fun _ => ⟨ht, ho.2.2⟩, by omega, ⟨by decide, by omega⟩, ⟨by decide, by omega⟩, fun _ _ => rfl, by omega⟩
    · have o := fun f (hf : f ≠ 3) => nwA_old z c r d p (f := f) hf e
      exact AJ_of (h.aj (by omega)) (by rw [lo 0 (by decide)]) (by rw [lo 7 (by decide)]) (o 13 (by decide)) (o 14 (by decide)) (o 15 (by decide)) (o 16 (by decide)) (o 17 (by decide))
  · have e1 : tkN (newApp z c r d p) r' d' = tkN z r' d' := by
      unfold tkN
      rw [nwA_n hI]
      show nS _ (nA z) + tkF _ _ _ (nA z) = _
      have e2 : tkF (newApp z c r d p) r' d' (nA z) = 0 := by
        unfold tkF a_s
        rw [lo 15 (by decide), f15]
        exact if_neg (by have : cn 0 = 0 := by decide
                         omega)
      rw [e2]
      exact nS_congr (fun a ha => tkF_of (nwA_old z c r d p (by decide) (by omega)) (nwA_old z c r d p (by decide) (by omega)) (nwA_old z c r d p (by decide) (by omega)) (nwA_old z c r d p (by decide) (by omega)))
    rw [e1]; exact h.tj hr hd
theorem JI_apply {z : St} {b : Nat} (h : JI z b) (hb : b + 100 ≤ 50000) (c r d p : Int32) : JI (spApply z c r d p).2 (b + 100) := by
  refine ⟨Inv_p (pair_apply h.inv c r d p), hb, ?_⟩
  unfold spApply
  split
  · exact h.j
  · split
    · exact h.j
    · split
      · exact h.j
      · rename_i h3
        split
        · exact h.j
        · rename_i h4
          have h5 := Decidable.not_not.mp h4
          rw [h.na.1] at h5
          have hn : nA z < 40 := (nI_ltI (b := 40) (by have := h.na.2; omega) (by decide)).mp h5
          exact J_newApp h hn (Decidable.not_not.mp (fun e => h3 (Or.inl e)))
/-- what apply answers to arguments in their ranges -/
theorem apply_ans {z : St} {b : Nat} (h : JI z b) {c r d p : Nat} (hc : c < NC z) (hr : r < NR z) (hd : d < 60) (hp1 : 1 ≤ p) (hp4 : p ≤ 4) :
    (spApply z (nI c) (nI r) (nI d) (nI p) = (-5, z)) ∨ (spApply z (nI c) (nI r) (nI d) (nI p) = (-4, z) ∧ nA z = 40 ∧ z 10 c < nI d) ∨
    (spApply z (nI c) (nI r) (nI d) (nI p) = (nI (nA z), newApp z (nI c) (nI r) (nI d) (nI p)) ∧ nA z < 40 ∧ z 10 c < nI d) := by
  have h1 : ¬ (¬ climP z (nI c) ∨ ¬ (routeP z (nI r) ∧ dayP (nI d))) := fun e => e.elim (fun q => q (h.cP hc)) (fun q => q ⟨h.rP hr, h.dayP hd⟩)
  have h2 : ¬ (nI p < 1 ∨ ¬ nI p ≤ 4) := fun e => e.elim (fun q => by have := (nI_ltI (b := 1) (by omega) (by decide)).mp q; omega) (fun q => q ((nI_leI (b := 4) (by omega) (by decide)).mpr hp4))
  unfold spApply
  rw [if_neg h1, if_neg h2]
  by_cases h3 : ¬ openP z (nI d) ∨ hasOne z (nI c) (nI r) (nI d) = true ∨ nI d ≤ z 10 (cn (nI c))
  · left; rw [if_pos h3]
  · rw [if_neg h3]
    have h10 : z 10 c < nI d := by
      rw [cn_c h hc] at h3
      exact Int32.not_le.mp (fun e => h3 (Or.inr (Or.inr e)))
    by_cases h4 : z 3 0 < 40
    · right; right
      rw [if_neg (not_not_intro h4)]
      have h5 := h4
      rw [h.na.1] at h5
      exact ⟨by rw [← h.na.1], (nI_ltI (b := 40) (by have := h.na.2; omega) (by decide)).mp h5, h10⟩
    · right; left
      rw [if_pos h4]
      refine ⟨rfl, ?_, h10⟩
      rw [h.na.1] at h4
      have h40 := h.na.2
      have : ¬ nA z < 40 := fun q => h4 ((nI_ltI (b := 40) (by omega) (by decide)).mpr q)
      omega
theorem apply_again {z : St} {b : Nat} (h : JI z b) (hn : nA z < 40) {c r d : Nat} (hc : c < NC z) (hr : r < NR z) (hd : d < 60) (p : Int32) : spApply (newApp z (nI c) (nI r) (nI d) p) (nI c) (nI r) (nI d) 1 = (-5, newApp z (nI c) (nI r) (nI d) p) := by
  have hI := h.io
  have lo := fun f hf => nwA_lo z (nI c) (nI r) (nI d) p (f := f) hf
  obtain ⟨n1, n2, n3, n4, n5⟩ := nwA_new z (nI c) (nI r) (nI d) p
  obtain ⟨f15, -, -, -⟩ := h.oi.fra (nA z) (Nat.le_refl _) hn
  have hc1 : climP (newApp z (nI c) (nI r) (nI d) p) (nI c) := by unfold climP; rw [lo 2 (by decide)]; exact h.cP hc
  have hr1 : routeP (newApp z (nI c) (nI r) (nI d) p) (nI r) := by unfold routeP; rw [lo 1 (by decide)]; exact h.rP hr
  have ho : hasOne (newApp z (nI c) (nI r) (nI d) p) (nI c) (nI r) (nI d) = true := by
    unfold hasOne
    rw [anyN_iff]
    refine ⟨nA z, by rw [nwA_n hI]; omega, decide_eq_true ⟨n1, ⟨n2, n3⟩, ?_⟩⟩
    left; rw [lo 15 (by decide)]; exact f15
  unfold spApply
  rw [if_neg (fun e => e.elim (fun q => q hc1) (fun q => q ⟨hr1, h.dayP hd⟩)), if_neg (by decide), if_pos (Or.inr (Or.inl ho))]
