/-! ===== each call keeps what holds of an office ===== -/
theorem OI_route {z : St} {B : Nat} (h : OI z B) (l b : Int32) : OI (spRoute z l b).2 B := by
  unfold spRoute
  split
  · exact h
  · split
    · exact h
    · rename_i h1 h2
      dsimp only
      have hlt := Decidable.not_not.mp h2
      obtain ⟨n, n1, n2⟩ := h.io.2.1
      have hn : n < 6 := by
        rw [n2] at hlt
        exact (nI_ltI (b := 6) (by omega) (by decide)).mp hlt
      have e1 : u2 (u2 (u2 z 5 (cn (z 1 0)) l) 6 (cn (z 1 0)) b) 1 0 (z 1 0 + 1) 1 0 = nI (n + 1) := by rw [u2_s, n2, nI_1]
      have ef : ∀ f, f ≠ 1 → f ≠ 5 → f ≠ 6 → u2 (u2 (u2 z 5 (cn (z 1 0)) l) 6 (cn (z 1 0)) b) 1 0 (z 1 0 + 1) f = z f := fun f a b c => by rw [u2_f a, u2_f c, u2_f b]
      generalize u2 (u2 (u2 z 5 (cn (z 1 0)) l) 6 (cn (z 1 0)) b) 1 0 (z 1 0 + 1) = y at e1 ef
      have en : nA y = nA z := nA_of (ef 3 (by decide) (by decide) (by decide))
      have g := fun f a b c => ef f a b c
      unfold OI SetOK ClimIn Uniq aliveP
      rw [en, g 2 (by decide) (by decide) (by decide), g 0 (by decide) (by decide) (by decide), g 4 (by decide) (by decide) (by decide), g 7 (by decide) (by decide) (by decide), g 8 (by decide) (by decide) (by decide), g 9 (by decide) (by decide) (by decide), g 10 (by decide) (by decide) (by decide), g 11 (by decide) (by decide) (by decide), g 12 (by decide) (by decide) (by decide), g 13 (by decide) (by decide) (by decide), g 14 (by decide) (by decide) (by decide), g 15 (by decide) (by decide) (by decide), g 16 (by decide) (by decide) (by decide), g 17 (by decide) (by decide) (by decide), g 18 (by decide) (by decide) (by decide), g 87 (by decide) (by decide) (by decide)]
      refine ⟨?_, h.cl, h.h87c, h.cin, ?_, h.2.2.2.2.2⟩
      · unfold IO
        rw [en, g 0 (by decide) (by decide) (by decide), e1, g 2 (by decide) (by decide) (by decide), g 3 (by decide) (by decide) (by decide), g 11 (by decide) (by decide) (by decide), g 12 (by decide) (by decide) (by decide), g 13 (by decide) (by decide) (by decide)]
        exact ⟨h.io.1, ⟨n + 1, by omega, rfl⟩, h.io.2.2⟩
      · intro a ha
        obtain ⟨q1, q2⟩ := h.rin a ha
        refine ⟨q1, ?_⟩
        have hR := iR h.io ha
        rw [e1]
        rw [n2] at q2
        rw [hR.1] at q2 ⊢
        have := (nI_ltI (by omega) (by omega)).mp q2
        exact (nI_ltI (by omega) (by omega)).mpr (by omega)
theorem OI_buffer {z : St} {B : Nat} (h : OI z B) (r b : Int32) : OI (spBuffer z r b).2 B := by
  unfold spBuffer
  split
  · exact h
  · split
    · exact h
    · exact OI_of h (fun f _ h5 h6 _ => u2_f h6)
theorem OI_set {z : St} {B : Nat} (h : OI z B) (s v : Int32) : OI (spSet z s v).2 B := by
  unfold spSet
  split
  · exact h
  · rename_i h1
    dsimp only
    have hs := rng (x := s) (n := 6) (by decide) (fun q => h1 (Or.inl q)) (Int32.not_le.mp (fun q => h1 (Or.inr (Or.inl q))))
    refine OI_gen h (fun f hf => u2_f (by omega)) ?_ ?_ ?_ ?_ ?_ (fun a ha => ?_)
    · rw [u2_f (by decide)]; exact h.cl
    · intro i hi
      by_cases q : i = cn s
      · subst q
        rw [u2_s]
        exact ⟨fun q => h1 (Or.inr (Or.inr (Or.inl q))), Decidable.not_not.mp (fun q => h1 (Or.inr (Or.inr (Or.inr q))))⟩
      · rw [u2_i _ q]; exact h.set i hi
    · rw [u2_f (by decide)]; exact h.mem
    · rw [u2_f (show 8 ≠ 4 by decide), u2_f (show 9 ≠ 4 by decide)]; exact fun c h1 h2 => ⟨(h.frc c h1 h2).1, (h.frc c h1 h2).2.1⟩
    · rw [u2_f (show 15 ≠ 4 by decide), u2_f (show 16 ≠ 4 by decide), u2_f (show 17 ≠ 4 by decide), u2_f (show 18 ≠ 4 by decide)]; exact h.fra
    · exact AppOK_same h ha (by rw [u2_f (by decide)]) (by rw [u2_f (by decide)]) (by rw [u2_f (by decide)]) (by rw [u2_f (by decide)]) (by rw [u2_f (by decide)])
theorem OI_standby {z : St} {B : Nat} (h : OI z B) (a : Int32) : OI (spStandby z a).2 B := by
  unfold spStandby
  split
  · exact h
  · rename_i h0
    have ha := appP_in h.io (Decidable.not_not.mp h0)
    split
    · exact h
    · rename_i h1
      have h2 : z 15 (cn a) = 2 := Decidable.not_not.mp (fun q => h1 (Or.inl q))
      have h3 : z 13 (cn a) = z 0 0 := Decidable.not_not.mp (fun q => h1 (Or.inr (Or.inl q)))
      exact OI_permit h ha.2.1 (Or.inr h2) (by rw [h3]; exact Int32.le_refl _)
theorem OI_show {z : St} {B : Nat} (h : OI z B) (a : Int32) : OI (spShow z a).2 B := by
  unfold spShow
  split
  · exact h
  · rename_i h0
    have ha := appP_in h.io (Decidable.not_not.mp h0)
    split
    · exact h
    · dsimp only
      refine OI_a h ha.2.1 (fun f i _ h2 => u2_ne (by omega)) ?_
      unfold AppOK aliveP
      rw [u2_s, u2_f (show 13 ≠ 18 by decide), u2_f (show 15 ≠ 18 by decide), u2_f (show 16 ≠ 18 by decide), u2_f (show 17 ≠ 18 by decide)]
      exact ⟨⟨_, (iD h.io ha.2.1).2, (iD h.io ha.2.1).1⟩, h.st _ ha.2.1, h.h16 _ ha.2.1, h.h17 _ ha.2.1, Or.inr rfl, h.ht _ ha.2.1, fun q => ⟨q, rfl⟩⟩
theorem OI_cancel {z : St} {B : Nat} (h : OI z B) (a : Int32) : OI (spCancel z a).2 B := by
  unfold spCancel
  split
  · exact h
  · rename_i h0
    have ha := appP_in h.io (Decidable.not_not.mp h0)
    split
    · exact h
    · rename_i h1
      have hal := Decidable.not_not.mp h1
      have h40 := (iNa h.io).2
      have key : ∀ y : St, (∀ f i, (f < 20 ∨ f = 87) → ¬ (i = cn a ∧ (f = 13 ∨ f = 15 ∨ f = 16 ∨ f = 17 ∨ f = 18)) → y f i = z f i) → y 13 (cn a) = z 13 (cn a) → y 18 (cn a) = z 18 (cn a) → y 15 (cn a) = 3 → OI y B := by
        intro y e e13 e18 e15
        refine OI_a h ha.2.1 e ?_
        unfold AppOK aliveP
        rw [e13, e18, e15]
        exact ⟨⟨_, (iD h.io ha.2.1).2, (iD h.io ha.2.1).1⟩, ⟨3, by decide, rfl⟩, fun q => absurd q (by decide), fun q => absurd q (by decide), h.h18 _ ha.2.2, fun q => absurd q (by decide), fun q => absurd q (by decide)⟩
      split
      · have hy := key (u2 (u2 z 15 (cn a) 3) 17 (cn a) (backNow z (cn a))) (fun f i _ h2 => by rw [u2_ne (by omega), u2_ne (by omega)]) (by rw [u2_f (by decide), u2_f (by decide)]) (by rw [u2_f (by decide), u2_f (by decide)]) (by rw [u2_f (by decide), u2_s])
        dsimp only
        split
        · rename_i hop
          exact OI_serve _ _ hy hop.1
        · exact hy
      · exact key (u2 z 15 (cn a) 3) (fun f i _ h2 => by rw [u2_ne (by omega)]) (by rw [u2_f (by decide)]) (by rw [u2_f (by decide)]) (u2_s _ _ _ _)
theorem OI_refund {z : St} {B a : Nat} (h : OI z B) (ha : a < nA z) : OI (refundZ z a) (B + 2) := by
  unfold refundZ
  have h40 := (iNa h.io).2
  have hy : OI (u2 (u2 z 15 a 4) 17 a (z 16 a)) B := by
    refine OI_a h ha (fun f i _ h2 => by rw [u2_ne (by omega), u2_ne (by omega)]) ?_
    unfold AppOK aliveP
    rw [u2_f (show 13 ≠ 17 by decide), u2_f (show 13 ≠ 15 by decide), u2_f (show 15 ≠ 17 by decide), u2_s, u2_f (show 18 ≠ 17 by decide), u2_f (show 18 ≠ 15 by decide)]
    exact ⟨⟨_, (iD h.io ha).2, (iD h.io ha).1⟩, ⟨4, by decide, rfl⟩, fun q => absurd q (by decide), fun q => absurd q (by decide), h.h18 _ (by omega), fun q => absurd q (by decide), fun q => absurd q (by decide)⟩
  have hc := h.cin a ha
  obtain ⟨m, m1, m2⟩ := h.mem _ (iC h.io ha).2
  refine OI_mem1 hy (by omega) (by rw [u2_f (show 2 ≠ 17 by decide), u2_f (show 2 ≠ 15 by decide)]; exact hc) ⟨m + 2, by omega, ?_⟩
  rw [m2]; exact nI_add m 2
theorem OI_move1 {z : St} {B a : Nat} (h : OI z B) (ha : a < nA z) (d : Int32) : OI (move1 z d a) (B + 2) := by
  unfold move1
  split
  · rename_i hw
    split
    · exact OI_refund h ha
    · rename_i hl
      have h40 := (iNa h.io).2
      obtain ⟨l1, l2⟩ := later_in hl
      have hop : openP z (later z a) := by
        rcases laterF_in z a (lastD z a) 61 (cn (z 13 a) + 1) with e | ⟨j, j1, j2, j3⟩
        · exact absurd (show later z a < 0 by unfold later; rw [e]; decide) hl
        · show openP z (laterF z a (lastD z a) 61 (cn (z 13 a) + 1))
          rw [j2]; exact j3
      refine OI.mono (OI_a h ha (fun f i _ h2 => by rw [u2_ne (by omega), u2_ne (by omega)]) ?_) (by omega)
      unfold AppOK aliveP
      rw [u2_s, u2_f (show 13 ≠ 18 by decide), u2_s, u2_f (show 15 ≠ 18 by decide), u2_f (show 15 ≠ 13 by decide), u2_f (show 16 ≠ 18 by decide), u2_f (show 16 ≠ 13 by decide), u2_f (show 17 ≠ 18 by decide), u2_f (show 17 ≠ 13 by decide), hw.1]
      exact ⟨⟨_, l2, l1⟩, ⟨1, by decide, rfl⟩, fun q => absurd q (by decide), fun _ => h.h17 a ha (Or.inr (Or.inl hw.1)), Or.inl rfl, fun _ => hop.1, fun q => absurd q (by decide)⟩
  · exact h.mono (by omega)
theorem OI_moveK {z : St} {B : Nat} (h : OI z B) (d : Int32) : ∀ k, k ≤ nA z → OI (moveK z d k) (B + 2 * k) := by
  intro k
  induction k with
  | zero => intro _; exact h
  | succ k ih =>
    intro hk
    have en : nA (moveK z d k) = nA z := nA_of (moveK_lo z d k (by decide))
    exact (OI_move1 (ih (by omega)) (by omega) d).mono (by omega)
theorem OI_close {z : St} {B : Nat} (h : OI z B) (d : Int32) : OI (spClose z d).2 (B + 80) := by
  unfold spClose
  split
  · exact h.mono (by omega)
  · split
    · exact h.mono (by omega)
    · have h40 := (iNa h.io).2
      have hy : OI (u2 z 7 (cn d) 1) B := by
        refine OI_gen h (fun f hf => u2_f (by omega)) ?_ ?_ ?_ ?_ ?_ (fun a ha => ?_)
        · intro i hi
          by_cases q : i = cn d
          · subst q; rw [u2_s]; exact Or.inr rfl
          · rw [u2_i _ q]; exact h.cl i hi
        · unfold SetOK; rw [u2_f (by decide)]; exact h.set
        · rw [u2_f (by decide)]; exact h.mem
        · rw [u2_f (show 8 ≠ 7 by decide), u2_f (show 9 ≠ 7 by decide)]; exact fun c h1 h2 => ⟨(h.frc c h1 h2).1, (h.frc c h1 h2).2.1⟩
        · rw [u2_f (show 15 ≠ 7 by decide), u2_f (show 16 ≠ 7 by decide), u2_f (show 17 ≠ 7 by decide), u2_f (show 18 ≠ 7 by decide)]; exact h.fra
        · exact AppOK_same h ha (by rw [u2_f (by decide)]) (by rw [u2_f (by decide)]) (by rw [u2_f (by decide)]) (by rw [u2_f (by decide)]) (by rw [u2_f (by decide)])
      have en : nA (u2 z 7 (cn d) 1) = nA z := nA_u2 (by decide)
      have hm := OI_moveK hy d (nA z) (by omega)
      have en2 : nA (moveK (u2 z 7 (cn d) 1) d (nA z)) = nA z := by rw [nA_of (moveK_lo _ d _ (by decide)), en]
      exact (OI_loseK hm (-1) d (nA z) (by omega)).mono (by omega)
theorem OI_apply {z : St} {B : Nat} (h : OI z B) (c r d p : Int32) : OI (spApply z c r d p).2 B := by
  unfold spApply
  split
  · exact h
  · rename_i h1
    split
    · exact h
    · rename_i h2
      split
      · exact h
      · rename_i h3
        split
        · exact h
        · rename_i h4
          have hc := climP_in h.io (Decidable.not_not.mp (fun q => h1 (Or.inl q)))
          have hrd : routeP z r ∧ dayP d := Decidable.not_not.mp (fun q => h1 (Or.inr q))
          have hd := dayP_in hrd.2
          have hR := routeP_in h.io hrd.1
          have hn : nA z < 40 := by
            have h5 := Decidable.not_not.mp h4
            rw [(iNa h.io).1] at h5
            exact (nI_ltI (b := 40) (by have := (iNa h.io).2; omega) (by decide)).mp h5
          have hp : ∃ k, 1 ≤ k ∧ k ≤ 4 ∧ p = nI k := by
            have p1 : ¬ p < 1 := fun q => h2 (Or.inl q)
            have p2 : p ≤ 4 := Decidable.not_not.mp (fun q => h2 (Or.inr q))
            have a1 := Int32.le_iff_toInt_le.mp (Int32.not_lt.mp p1)
            have a2 := Int32.le_iff_toInt_le.mp p2
            have e1 : (1 : Int32).toInt = 1 := by decide
            have e4 : (4 : Int32).toInt = 4 := by decide
            obtain ⟨k, hk, rfl⟩ := nI_of (x := p) (by
              rw [Int32.lt_iff_toInt_lt]
              have : (0 : Int32).toInt = 0 := by decide
              omega)
            rw [nI_toInt hk] at a1 a2
            exact ⟨k, by omega, by omega, rfl⟩
          have hno : ¬ hasOne z c r d = true := fun q => h3 (Or.inr (Or.inl q))
          have hIO := IO_newApp h.io hn ⟨_, hc.2.2, hc.1⟩ ⟨_, hR.2, hR.1⟩ ⟨_, hd.2, hd.1⟩ (p := p)
          have en : nA (newApp z c r d p) = nA z + 1 := by
            have e3 : newApp z c r d p 3 0 = nI (nA z + 1) := by
              unfold newApp
              rw [u2_s]
              conv => lhs; rw [(iNa h.io).1]
              exact nI_1 _
            have h40 := (iNa h.io).2
            unfold nA; rw [e3, cn_nI (by omega)]
          have lo : ∀ f, f ≠ 3 ∧ f ≠ 11 ∧ f ≠ 12 ∧ f ≠ 13 ∧ f ≠ 14 ∧ f ≠ 19 → newApp z c r d p f = z f := fun f hf => newApp_lo z c r d p hf
          have ol : ∀ f i, f ≠ 3 → i ≠ nA z → newApp z c r d p f i = z f i := by
            intro f i hf hi
            unfold newApp
            rw [u2_ne (by omega), u2_ne (by omega), u2_ne (by omega), u2_ne (by omega), u2_ne (by omega), u2_ne (by omega)]
          have n11 : newApp z c r d p 11 (nA z) = c := by unfold newApp; rw [u2_ne (by omega), u2_ne (by omega), u2_ne (by omega), u2_ne (by omega), u2_ne (by omega), u2_s]
          have n12 : newApp z c r d p 12 (nA z) = r := by unfold newApp; rw [u2_ne (by omega), u2_ne (by omega), u2_ne (by omega), u2_ne (by omega), u2_s]
          have n13 : newApp z c r d p 13 (nA z) = d := by unfold newApp; rw [u2_ne (by omega), u2_ne (by omega), u2_ne (by omega), u2_s]
          have n14 : newApp z c r d p 14 (nA z) = p := by unfold newApp; rw [u2_ne (by omega), u2_s]
          have hfr := h.fra (nA z) (Nat.le_refl _) hn
          show OI (newApp z c r d p) B
          generalize newApp z c r d p = y at hIO en lo ol n11 n12 n13 n14
          refine ⟨hIO, ?_, ?_, ?_, ?_, ?_, ?_, ?_, ?_, ?_, ?_, ?_, ?_, ?_, ?_, ?_⟩
          · rw [lo 7 (by decide)]; exact h.cl
          · rw [lo 2 (by decide), lo 87 (by decide), lo 10 (by decide)]; exact h.h87c
          · unfold ClimIn
            rw [en, lo 2 (by decide)]
            intro a ha
            by_cases q : a = nA z
            · subst q; rw [n11]; exact hc.2.1
            · rw [ol 11 a (by decide) q]; exact h.cin a (by omega)
          · unfold routeP
            rw [en, lo 1 (by decide)]
            intro a ha
            by_cases q : a = nA z
            · subst q; rw [n12]; exact hrd.1
            · rw [ol 12 a (by decide) q]; exact h.rin a (by omega)
          · rw [en, lo 15 (by decide)]
            intro a ha
            by_cases q : a = nA z
            · subst q; exact ⟨0, by decide, hfr.1⟩
            · exact h.st a (by omega)
          · rw [en, lo 15 (by decide), lo 16 (by decide)]
            intro a ha
            by_cases q : a = nA z
            · subst q; exact fun _ => hfr.2.1
            · exact h.h16 a (by omega)
          · unfold aliveP
            rw [en, lo 15 (by decide), lo 17 (by decide)]
            intro a ha
            by_cases q : a = nA z
            · subst q; exact fun _ => hfr.2.2.1
            · exact h.h17 a (by omega)
          · rw [lo 18 (by decide)]; exact h.h18
          · rw [en]
            intro a ha
            by_cases q : a = nA z
            · subst q; rw [n14]; exact hp
            · rw [ol 14 a (by decide) q]; exact h.par a (by omega)
          · rw [en, lo 15 (by decide), lo 0 (by decide)]
            intro a ha
            by_cases q : a = nA z
            · subst q; intro q2; rw [hfr.1] at q2; exact absurd q2 (by decide)
            · rw [ol 13 a (by decide) q]; exact h.ht a (by omega)
          · unfold SetOK; rw [lo 4 (by decide)]; exact h.set
          · rw [lo 8 (by decide)]; exact h.mem
          · rw [en, lo 15 (by decide), lo 16 (by decide), lo 17 (by decide), lo 18 (by decide)]
            exact fun a h1 h2 => h.fra a (by omega) h2
          · rw [lo 2 (by decide), lo 8 (by decide), lo 9 (by decide), lo 10 (by decide)]; exact h.frc
          · unfold Uniq
            rw [en, lo 15 (by decide)]
            have hno2 : ∀ a, a < nA z → z 15 a = 0 → z 11 a = c → z 12 a = r → z 13 a = d → False := fun a ha q1 q2 q3 q4 => hno (by
              unfold hasOne
              rw [anyN_iff]
              exact ⟨a, ha, by rw [decide_eq_true_eq]; exact ⟨q2, ⟨q3, q4⟩, Or.inl q1⟩⟩)
            intro a b ha hb q1 q2 q3 q4 q5
            by_cases ea : a = nA z
            · by_cases eb : b = nA z
              · omega
              · subst ea
                rw [n11, ol 11 b (by decide) eb] at q3
                rw [n12, ol 12 b (by decide) eb] at q4
                rw [n13, ol 13 b (by decide) eb] at q5
                exact (hno2 b (by omega) q2 q3.symm q4.symm q5.symm).elim
            · by_cases eb : b = nA z
              · subst eb
                rw [n11, ol 11 a (by decide) ea] at q3
                rw [n12, ol 12 a (by decide) ea] at q4
                rw [n13, ol 13 a (by decide) ea] at q5
                exact (hno2 a (by omega) q1 q3 q4 q5).elim
              · rw [ol 11 a (by decide) ea, ol 11 b (by decide) eb] at q3
                rw [ol 12 a (by decide) ea, ol 12 b (by decide) eb] at q4
                rw [ol 13 a (by decide) ea, ol 13 b (by decide) eb] at q5
                exact h.uq a b (by omega) (by omega) q1 q2 q3 q4 q5
