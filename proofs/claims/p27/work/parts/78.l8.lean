/-! ===== the law's own: what is refused ===== -/
def FI (z : St) (b : Nat) : Prop := Inv z b ∧ b ≤ 50000
theorem FI.inv {z : St} {b : Nat} (h : FI z b) : Inv z b := h.1
theorem FI.oi {z : St} {b : Nat} (h : FI z b) : OI z b := h.1.2.1
theorem FI.io {z : St} {b : Nat} (h : FI z b) : IO z := h.1.2.1.1
theorem FI.po {z : St} {b : Nat} (h : FI z b) : PO z := h.1.1
theorem FI.m0 {z : St} {b : Nat} (h : FI z b) : ∀ c, c < 12 → 0 ≤ z 8 c := h.oi.m0 (by have := h.2; omega)
theorem FI.h17 {z : St} {b : Nat} (h : FI z b) : ∀ a, a < nA z → ¬ z 15 a = 1 → aliveP z a → z 17 a = 0 := fun a ha _ hal => h.oi.h17 a ha hal
def farP (x : Int32) : Prop := x < 0 ∨ 65535 < x
theorem far_or {x lo c : Int32} (hx : farP x) (hlo : 0 ≤ lo.toInt) (hc : c.toInt ≤ 65535) : x < lo ∨ c < x := by
  have e0 : (0 : Int32).toInt = 0 := by decide
  have e1 : (65535 : Int32).toInt = 65535 := by decide
  rcases hx with h | h
  · left; rw [Int32.lt_iff_toInt_lt] at h ⊢; omega
  · right; rw [Int32.lt_iff_toInt_lt] at h ⊢; omega
theorem far_ne {x c : Int32} (hx : farP x) (hlo : 0 ≤ c.toInt) (hc : c.toInt ≤ 65535) : ¬ x = c := by
  rintro rfl
  rcases far_or (lo := x) (c := x) hx hlo hc with h | h <;> exact absurd h Int32.lt_irrefl
theorem far_no {x n : Int32} (hx : farP x) (hn : n = 0) : ¬ (0 ≤ x ∧ x < n) := fun q => by
  have := Int32.lt_of_le_of_lt q.1 q.2
  rw [hn] at this
  exact absurd this (by decide)
def farV (v : Int32) : Int32 := if v < 0 then -1 - upf v 1000000 else v - v / 1000000 * 1000000 + 65536
theorem farV_neg {v : Int32} (h : v < 0) : -1 - upf v 1000000 = farV v := by unfold farV; rw [if_pos h]
theorem farV_pos {v : Int32} (h : 0 ≤ v) : v - v / 1000000 * 1000000 + 65536 = farV v := by unfold farV; rw [if_neg (Int32.not_lt.mpr h)]
theorem far_v (v : Int32) : farP (farV v) := by
  unfold farV farP
  by_cases h : v < 0
  · rw [if_pos h]
    obtain ⟨q, hq, e⟩ := up_in (v := v) (m := 1000000) (by decide) (by decide)
    rw [show (1000000 : Int32) = nI 1000000 from rfl, e]
    left
    have e0 : (0 : Int32).toInt = 0 := by decide
    have e1 : (-1 : Int32).toInt = -1 := by decide
    rw [Int32.lt_iff_toInt_lt, Int32.toInt_sub, nI_toInt (by omega), e1, e0]
    rw [Int.bmod_eq_of_le (by omega) (by omega)]
    omega
  · rw [if_neg h]
    obtain ⟨n, hn, rfl⟩ := nI_of h
    right
    rw [show (1000000 : Int32) = nI 1000000 from rfl, pk_rem hn (by decide) (by decide), show (65536 : Int32) = nI 65536 from rfl, nI_add]
    have := Nat.mod_lt n (y := 1000000) (by decide)
    exact (nI_ltI (a := 65535) (by decide) (by omega)).mpr (by omega)
section RF
variable {z : St} {x : Int32} (hx : farP x) (h1 : z 1 0 = 0) (h2 : z 2 0 = 0) (h3 : z 3 0 = 0)
theorem rf_route1 (hx : farP x) : spRoute z x 0 = (-2, z) := by
  unfold spRoute
  rw [if_pos]
  rcases far_or (lo := 1) (c := 12) hx (by decide) (by decide) with h | h
  · exact Or.inl h
  · exact Or.inr (Or.inl h)
theorem rf_route2 (hx : farP x) : spRoute z 1 x = (-2, z) := by
  unfold spRoute
  rw [if_pos]
  rcases far_or (lo := 0) (c := 1) hx (by decide) (by decide) with h | h
  · exact Or.inr (Or.inr (Or.inl h))
  · exact Or.inr (Or.inr (Or.inr (Int32.not_le.mpr h)))
theorem rf_buffer (hx : farP x) (h1 : z 1 0 = 0) : spBuffer z x 0 = (-1, z) := by
  unfold spBuffer; rw [if_pos (far_no hx h1)]
theorem rf_set1 (hx : farP x) : spSet z x 1 = (-2, z) := by
  unfold spSet
  rw [if_pos]
  rcases far_or (lo := 0) (c := 6) hx (by decide) (by decide) with h | h
  · exact Or.inl h
  · exact Or.inr (Or.inl (Int32.le_of_lt h))
theorem rf_set2 (hx : farP x) : spSet z 0 x = (-2, z) := by
  unfold spSet
  rw [if_pos]
  rcases far_or (lo := 1) (c := 1000) hx (by decide) (by decide) with h | h
  · exact Or.inr (Or.inr (Or.inl h))
  · exact Or.inr (Or.inr (Or.inr (Int32.not_le.mpr h)))
theorem rf_set3 (hx : farP x) : spSet z 5 x = (-2, z) := by
  unfold spSet
  rw [if_pos]
  rcases far_or (lo := 0) (c := 65535) hx (by decide) (by decide) with h | h
  · exact Or.inr (Or.inr (Or.inl h))
  · exact Or.inr (Or.inr (Or.inr (Int32.not_le.mpr h)))
theorem rf_apply (hx : farP x) (h2 : z 2 0 = 0) : spApply z x 0 0 1 = (-1, z) := by
  unfold spApply; rw [if_pos (Or.inl (far_no hx h2))]
theorem rf_lottery (hx : farP x) (h1 : z 1 0 = 0) : cLottery z x 0 = (-1, z) := by
  unfold cLottery; rw [if_pos (fun q => far_no hx h1 q.1)]
theorem rf_cancel (hx : farP x) (h3 : z 3 0 = 0) : spCancel z x = (-1, z) := by
  unfold spCancel; rw [if_pos (far_no hx h3)]
theorem rf_close (hx : farP x) : spClose z x = (-1, z) := by
  unfold spClose
  rw [if_pos]
  rintro ⟨q1, q2⟩
  rcases far_or (lo := 0) (c := 60) hx (by decide) (by decide) with h | h
  · exact absurd h (Int32.not_lt.mpr q1)
  · exact absurd (Int32.lt_trans h q2) Int32.lt_irrefl
theorem rf_standby (hx : farP x) (h3 : z 3 0 = 0) : spStandby z x = (-1, z) := by
  unfold spStandby; rw [if_pos (far_no hx h3)]
theorem rf_show (hx : farP x) (h3 : z 3 0 = 0) : spShow z x = (-1, z) := by
  unfold spShow; rw [if_pos (far_no hx h3)]
theorem rf_onRoute (hx : farP x) (h1 : z 1 0 = 0) : spOnRoute z x 0 0 = -1 := by
  unfold spOnRoute; rw [if_pos (fun q => far_no hx h1 q.1)]
theorem rf_climber (hx : farP x) (h2 : z 2 0 = 0) : spClimber z x 0 = -1 := by
  unfold spClimber; rw [if_pos (far_no hx h2)]
theorem rf_application (hx : farP x) (h3 : z 3 0 = 0) : spApp z x 0 = -1 := by
  unfold spApp; rw [if_pos (far_no hx h3)]
theorem rf_count (hx : farP x) : spCount z x = -2 := by
  unfold spCount
  have n := fun (c : Int32) (q1 : 0 ≤ c.toInt) (q2 : c.toInt ≤ 65535) => far_ne (c := c) hx q1 q2
  rw [if_neg (fun q => (far_or (lo := 4) (c := 10) hx (by decide) (by decide)).elim q.1 q.2), if_neg (fun q => (far_or (lo := 15) (c := 20) hx (by decide) (by decide)).elim q.1 q.2),
    if_neg (n 0 (by decide) (by decide)), if_neg (n 1 (by decide) (by decide)), if_neg (n 2 (by decide) (by decide)), if_neg (n 3 (by decide) (by decide)), if_neg (n 11 (by decide) (by decide)), if_neg (n 12 (by decide) (by decide)), if_neg (n 13 (by decide) (by decide)), if_neg (n 14 (by decide) (by decide))]
theorem rf_next (hx : farP x) (h1 : z 1 0 = 0) : spNext z x 0 = -1 := by
  unfold spNext; rw [if_pos (fun q => far_no hx h1 q.1)]
theorem rf_odds (hx : farP x) (h3 : z 3 0 = 0) : cOdds z x = (-1, z) := by
  unfold cOdds; rw [if_pos (far_no hx h3)]
theorem rf_tries (hx : farP x) (h3 : z 3 0 = 0) : cTries z x 1 = (-1, z) := by
  unfold cTries; rw [if_pos (far_no hx h3)]
theorem rf_save (hx : farP x) : spSave z x = (-2, z) := by
  unfold spSave
  rw [if_pos]
  rcases far_or (lo := 0) (c := 2) hx (by decide) (by decide) with h | h
  · exact Or.inl h
  · exact Or.inr (fun q => absurd (Int32.lt_trans h q) Int32.lt_irrefl)
theorem rf_restore (hx : farP x) : spRestore z x = (-2, z) := by
  unfold spRestore
  rw [if_pos]
  rcases far_or (lo := 0) (c := 2) hx (by decide) (by decide) with h | h
  · exact Or.inl h
  · exact Or.inr (fun q => absurd (Int32.lt_trans h q) Int32.lt_irrefl)
end RF
theorem rf_fault {z : St} (h69 : z 69 0 = 0) : (spFault z).1 = 0 := by
  have hl : lenN z = 0 := by unfold lenN; rw [h69]; decide
  have hy : ¬ sgnP (u2 z 70 0 0) 99 0 := fun q => by
    have := q.1
    unfold lenN at this
    rw [u2_f (by decide), h69] at this
    exact absurd this (by decide)
  have e : apR (u2 z 70 0 0) 0 = (0, PS (u2 z 70 0 0) 0 (u2 z 70 0 0 71 0) (u2 z 70 0 0 72 0) (u2 z 70 0 0 73 0) (u2 z 70 0 0 74 0)) := by
    unfold apR; rw [if_pos hy]
  unfold spFault
  rw [hl]
  show (ffK 1 (u2 z 70 0 0) 0).1 = 0
  unfold ffK apE
  rw [e, if_pos rfl]
  dsimp only
  rw [PS_70, cn_nI (by decide)]
  rfl
theorem apR_hi (y : St) (p : Nat) {f : Nat} (h : 75 ≤ f) : (apR y p).2 f = y f := by
  unfold apR
  (repeat' split) <;> exact PS_lo _ _ _ _ _ _ (by omega)
theorem ffK_hi : ∀ (n : Nat) (y : St) (p : Nat) {f : Nat}, 75 ≤ f → (ffK n y p).2 f = y f := by
  intro n
  induction n with
  | zero => intro y p f h; rfl
  | succ n ih =>
    intro y p f h
    unfold ffK
    split
    · exact apR_hi y p h
    · split
      · exact apR_hi y p h
      · split
        · exact apR_hi y p h
        · rw [ih _ _ h, u2_f (by omega)]; exact apR_hi y p h
theorem rf_load {z : St} (h69 : z 69 0 = 0) : (spLoad z).1 = -3 ∧ ∀ f, f < 70 ∨ 75 ≤ f → (spLoad z).2 f = z f := by
  have e : ¬ (spFault z).1 = -6 := by rw [rf_fault h69]; decide
  unfold spLoad
  rw [if_pos e]
  refine ⟨rfl, fun f hf => ?_⟩
  show (spFault z).2 f = z f
  rcases hf with hf | hf
  · exact fault_lo z hf
  · unfold spFault
    rw [ffK_hi _ _ _ hf, u2_f (by omega)]

def rm_L_refused : Room := { frames := 6, cells := 0, slots := 0, locals := 138 }
theorem k_L_refused_L_up : CT3 rm_L_refused wsL_refused RL 22 yL_up cL_up 2 (some .int) wsL_up rm_L_up 0 0 2 := ⟨gL_refused_L_up, ⟨_, rfl⟩, rfl, rfl, ⟨by decide +kernel, by decide +kernel, by decide +kernel⟩, by decide, by decide⟩
theorem k_L_refused_X6_application : CW rm_L_refused wsL_refused RL RX6 68 yX6_application cX6_application 4 (some .int) wsX6_application rm_X6_application 2 := ⟨gL_refused_X6_application, ⟨_, rfl⟩, rfl, rfl, ⟨rfl, by decide +kernel, by decide +kernel, by decide +kernel⟩, by decide, by decide⟩
theorem k_L_refused_X6_apply : CW rm_L_refused wsL_refused RL RX6 61 yX6_apply cX6_apply 5 (some .int) wsX6_apply rm_X6_apply 4 := ⟨gL_refused_X6_apply, ⟨_, rfl⟩, rfl, rfl, ⟨rfl, by decide +kernel, by decide +kernel, by decide +kernel⟩, by decide, by decide⟩
theorem k_L_refused_X6_buffer : CW rm_L_refused wsL_refused RL RX6 143 yX6_buffer cX6_buffer 5 (some .int) wsX6_buffer rm_X6_buffer 2 := ⟨gL_refused_X6_buffer, ⟨_, rfl⟩, rfl, rfl, ⟨rfl, by decide +kernel, by decide +kernel, by decide +kernel⟩, by decide, by decide⟩
theorem k_L_refused_X6_cancel : CW rm_L_refused wsL_refused RL RX6 75 yX6_cancel cX6_cancel 4 (some .int) wsX6_cancel rm_X6_cancel 1 := ⟨gL_refused_X6_cancel, ⟨_, rfl⟩, rfl, rfl, ⟨rfl, by decide +kernel, by decide +kernel, by decide +kernel⟩, by decide, by decide⟩
theorem k_L_refused_X6_climber : CW rm_L_refused wsL_refused RL RX6 65 yX6_climber cX6_climber 3 (some .int) wsX6_climber rm_X6_climber 2 := ⟨gL_refused_X6_climber, ⟨_, rfl⟩, rfl, rfl, ⟨rfl, by decide +kernel, by decide +kernel, by decide +kernel⟩, by decide, by decide⟩
theorem k_L_refused_X6_close : CW rm_L_refused wsL_refused RL RX6 101 yX6_close cX6_close 3 (some .int) wsX6_close rm_X6_close 1 := ⟨gL_refused_X6_close, ⟨_, rfl⟩, rfl, rfl, ⟨rfl, by decide +kernel, by decide +kernel, by decide +kernel⟩, by decide, by decide⟩
theorem k_L_refused_X6_count : CW rm_L_refused wsL_refused RL RX6 57 yX6_count cX6_count 2 (some .int) wsX6_count rm_X6_count 1 := ⟨gL_refused_X6_count, ⟨_, rfl⟩, rfl, rfl, ⟨rfl, by decide +kernel, by decide +kernel, by decide +kernel⟩, by decide, by decide⟩
theorem k_L_refused_X6_load : CW rm_L_refused wsL_refused RL RX6 140 yX6_load cX6_load 4 (some .int) wsX6_load rm_X6_load 0 := ⟨gL_refused_X6_load, ⟨_, rfl⟩, rfl, rfl, ⟨rfl, by decide +kernel, by decide +kernel, by decide +kernel⟩, by decide, by decide⟩
theorem k_L_refused_X6_lottery : CW rm_L_refused wsL_refused RL RX6 97 yX6_lottery cX6_lottery 3 (some .int) wsX6_lottery rm_X6_lottery 2 := ⟨gL_refused_X6_lottery, ⟨_, rfl⟩, rfl, rfl, ⟨rfl, by decide +kernel, by decide +kernel, by decide +kernel⟩, by decide, by decide⟩
theorem k_L_refused_X6_nextWaiting : CW rm_L_refused wsL_refused RL RX6 104 yX6_nextWaiting cX6_nextWaiting 3 (some .int) wsX6_nextWaiting rm_X6_nextWaiting 2 := ⟨gL_refused_X6_nextWaiting, ⟨_, rfl⟩, rfl, rfl, ⟨rfl, by decide +kernel, by decide +kernel, by decide +kernel⟩, by decide, by decide⟩
theorem k_L_refused_X6_odds : CW rm_L_refused wsL_refused RL RX6 90 yX6_odds cX6_odds 4 (some .int) wsX6_odds rm_X6_odds 1 := ⟨gL_refused_X6_odds, ⟨_, rfl⟩, rfl, rfl, ⟨rfl, by decide +kernel, by decide +kernel, by decide +kernel⟩, by decide, by decide⟩
theorem k_L_refused_X6_onRoute : CW rm_L_refused wsL_refused RL RX6 93 yX6_onRoute cX6_onRoute 4 (some .int) wsX6_onRoute rm_X6_onRoute 3 := ⟨gL_refused_X6_onRoute, ⟨_, rfl⟩, rfl, rfl, ⟨rfl, by decide +kernel, by decide +kernel, by decide +kernel⟩, by decide, by decide⟩
theorem k_L_refused_X6_restore : CW rm_L_refused wsL_refused RL RX6 117 yX6_restore cX6_restore 2 (some .int) wsX6_restore rm_X6_restore 1 := ⟨gL_refused_X6_restore, ⟨_, rfl⟩, rfl, rfl, ⟨rfl, by decide +kernel, by decide +kernel, by decide +kernel⟩, by decide, by decide⟩
theorem k_L_refused_X6_route : CW rm_L_refused wsL_refused RL RX6 26 yX6_route cX6_route 3 (some .int) wsX6_route rm_X6_route 2 := ⟨gL_refused_X6_route, ⟨_, rfl⟩, rfl, rfl, ⟨rfl, by decide +kernel, by decide +kernel, by decide +kernel⟩, by decide, by decide⟩
theorem k_L_refused_X6_save : CW rm_L_refused wsL_refused RL RX6 113 yX6_save cX6_save 2 (some .int) wsX6_save rm_X6_save 1 := ⟨gL_refused_X6_save, ⟨_, rfl⟩, rfl, rfl, ⟨rfl, by decide +kernel, by decide +kernel, by decide +kernel⟩, by decide, by decide⟩
theorem k_L_refused_X6_set : CW rm_L_refused wsL_refused RL RX6 33 yX6_set cX6_set 4 (some .int) wsX6_set rm_X6_set 2 := ⟨gL_refused_X6_set, ⟨_, rfl⟩, rfl, rfl, ⟨rfl, by decide +kernel, by decide +kernel, by decide +kernel⟩, by decide, by decide⟩
theorem k_L_refused_X6_show : CW rm_L_refused wsL_refused RL RX6 84 yX6_show cX6_show 3 (some .int) wsX6_show rm_X6_show 1 := ⟨gL_refused_X6_show, ⟨_, rfl⟩, rfl, rfl, ⟨rfl, by decide +kernel, by decide +kernel, by decide +kernel⟩, by decide, by decide⟩
theorem k_L_refused_X6_standby : CW rm_L_refused wsL_refused RL RX6 146 yX6_standby cX6_standby 3 (some .int) wsX6_standby rm_X6_standby 1 := ⟨gL_refused_X6_standby, ⟨_, rfl⟩, rfl, rfl, ⟨rfl, by decide +kernel, by decide +kernel, by decide +kernel⟩, by decide, by decide⟩
theorem k_L_refused_X6_tries : CW rm_L_refused wsL_refused RL RX6 110 yX6_tries cX6_tries 9 (some .int) wsX6_tries rm_X6_tries 2 := ⟨gL_refused_X6_tries, ⟨_, rfl⟩, rfl, rfl, ⟨rfl, by decide +kernel, by decide +kernel, by decide +kernel⟩, by decide, by decide⟩
set_option maxHeartbeats 4000000 in
set_option maxRecDepth 100000 in
theorem c_L_refused (l : Launch) (G : MG) (B : Nat) (E : State → Prop) (hG : GB B G) (hE : KMv (AB B) E) (z : St) {v : Int32} {b : Nat} (hJ : FI z b) (h0 : z 0 0 = 0) (h1 : z 1 0 = 0) (h2 : z 2 0 = 0) (h3 : z 3 0 = 0) (h69 : z 69 0 = 0) : CL l G B E yL_refused wsL_refused rm_L_refused [.ref (G.2.2 192), .int v] z (fun ρ ζ => ρ = 1 ∧ ∀ f, f < 70 ∨ 75 ≤ f → ζ f = z f) 0 0 := by
  refine cl_of (own := RL) (cc := cL_refused) (maxL := 3) (ret := .boolean) hG hE (by decide +kernel) rfl rfl ?_ (Nat.le_of_ble_eq_true rfl) ?_
  · rintro v z' ⟨rfl, -⟩; rfl
  · intro X hX ret
    refine q_lv (lv' := [(0, .ref (G.2.2 192)), (1, .int v)]) rfl ?_
    obtain ⟨x, ex⟩ : ∃ x, x = farV v := ⟨_, rfl⟩
    have hx : farP x := by rw [ex]; exact far_v v
    have km1 : LG X B 0 (fun _ => 0) G 0 0 z 22 [(0, .ref (G.2.2 192)), (1, .int v)] [.int x] := by
      refine q_istore_n hX [(2, .int x), (0, .ref (G.2.2 192)), (1, .int v)] dL_refused_22 (by decide) rfl ?_
      refine q_aload_n hX 1 dL_refused_23 rfl ?_
      refine q_iload_n hX 0 dL_refused_24 rfl ?_
      refine q_iconst hX 0 dL_refused_25 (by decide) ?_
      refine q_cv hX hG (by decide) (by decide) (As := [.int x, .int 0]) (rest := []) (c_X6_route l G hG.1 z (x := x) (y := 0) (hI := hJ.io)) k_L_refused_X6_route (fun i hi => absurd hi (Nat.not_lt_zero _)) rfl rfl (Nat.le_of_ble_eq_true rfl) dL_refused_26 ?_
      rw [rf_route1 hx]
      refine q_z (z2 := z) rfl ?_
      refine q_top (-2) rfl ?_
      refine q_bipush hX (-2) dL_refused_29 (by decide) ?_
      refine q_ic_ne hX 257 dL_refused_31 (by decide) (fun c2 => ?_) (fun c2 => ?_)
      · -- jump 257
        exact absurd c2 (by decide)
      · -- on 34
        refine q_aload_n hX 1 dL_refused_34 rfl ?_
        refine q_iconst hX 1 dL_refused_35 (by decide) ?_
        refine q_iload_n hX 0 dL_refused_36 rfl ?_
        refine q_cv hX hG (by decide) (by decide) (As := [.int 1, .int x]) (rest := []) (c_X6_route l G hG.1 z (x := 1) (y := x) (hI := hJ.io)) k_L_refused_X6_route (fun i hi => absurd hi (Nat.not_lt_zero _)) rfl rfl (Nat.le_of_ble_eq_true rfl) dL_refused_37 ?_
        rw [rf_route2 hx]
        refine q_z (z2 := z) rfl ?_
        refine q_top (-2) rfl ?_
        refine q_bipush hX (-2) dL_refused_40 (by decide) ?_
        refine q_ic_ne hX 257 dL_refused_42 (by decide) (fun c3 => ?_) (fun c3 => ?_)
        · -- jump 257
          exact absurd c3 (by decide)
        · -- on 45
          refine q_aload_n hX 1 dL_refused_45 rfl ?_
          refine q_iload_n hX 0 dL_refused_46 rfl ?_
          refine q_iconst hX 0 dL_refused_47 (by decide) ?_
          refine q_cv hX hG (by decide) (by decide) (As := [.int x, .int 0]) (rest := []) (c_X6_buffer l G hG.1 z (x := x) (y := 0) (hI := hJ.io)) k_L_refused_X6_buffer (fun i hi => absurd hi (Nat.not_lt_zero _)) rfl rfl (Nat.le_of_ble_eq_true rfl) dL_refused_48 ?_
          rw [rf_buffer hx h1]
          refine q_z (z2 := z) rfl ?_
          refine q_top (-1) rfl ?_
          refine q_iconst hX (-1) dL_refused_51 (by decide) ?_
          refine q_ic_ne hX 257 dL_refused_52 (by decide) (fun c4 => ?_) (fun c4 => ?_)
          · -- jump 257
            exact absurd c4 (by decide)
          · -- on 55
            refine q_aload_n hX 1 dL_refused_55 rfl ?_
            refine q_iload_n hX 0 dL_refused_56 rfl ?_
            refine q_iconst hX 1 dL_refused_57 (by decide) ?_
            refine q_cv hX hG (by decide) (by decide) (As := [.int x, .int 1]) (rest := []) (c_X6_set l G hG.1 z (x := x) (y := 1) ) k_L_refused_X6_set (fun i hi => absurd hi (Nat.not_lt_zero _)) rfl rfl (Nat.le_of_ble_eq_true rfl) dL_refused_58 ?_
            rw [rf_set1 hx]
            refine q_z (z2 := z) rfl ?_
            refine q_top (-2) rfl ?_
            refine q_bipush hX (-2) dL_refused_61 (by decide) ?_
            refine q_ic_ne hX 257 dL_refused_63 (by decide) (fun c5 => ?_) (fun c5 => ?_)
            · -- jump 257
              exact absurd c5 (by decide)
            · -- on 66
              refine q_aload_n hX 1 dL_refused_66 rfl ?_
              refine q_iconst hX 0 dL_refused_67 (by decide) ?_
              refine q_iload_n hX 0 dL_refused_68 rfl ?_
              refine q_cv hX hG (by decide) (by decide) (As := [.int 0, .int x]) (rest := []) (c_X6_set l G hG.1 z (x := 0) (y := x) ) k_L_refused_X6_set (fun i hi => absurd hi (Nat.not_lt_zero _)) rfl rfl (Nat.le_of_ble_eq_true rfl) dL_refused_69 ?_
              rw [rf_set2 hx]
              refine q_z (z2 := z) rfl ?_
              refine q_top (-2) rfl ?_
              refine q_bipush hX (-2) dL_refused_72 (by decide) ?_
              refine q_ic_ne hX 257 dL_refused_74 (by decide) (fun c6 => ?_) (fun c6 => ?_)
              · -- jump 257
                exact absurd c6 (by decide)
              · -- on 77
                refine q_aload_n hX 1 dL_refused_77 rfl ?_
                refine q_iconst hX 5 dL_refused_78 (by decide) ?_
                refine q_iload_n hX 0 dL_refused_79 rfl ?_
                refine q_cv hX hG (by decide) (by decide) (As := [.int 5, .int x]) (rest := []) (c_X6_set l G hG.1 z (x := 5) (y := x) ) k_L_refused_X6_set (fun i hi => absurd hi (Nat.not_lt_zero _)) rfl rfl (Nat.le_of_ble_eq_true rfl) dL_refused_80 ?_
                rw [rf_set3 hx]
                refine q_z (z2 := z) rfl ?_
                refine q_top (-2) rfl ?_
                refine q_bipush hX (-2) dL_refused_83 (by decide) ?_
                refine q_ic_ne hX 257 dL_refused_85 (by decide) (fun c7 => ?_) (fun c7 => ?_)
                · -- jump 257
                  exact absurd c7 (by decide)
                · -- on 88
                  refine q_aload_n hX 1 dL_refused_88 rfl ?_
                  refine q_iload_n hX 0 dL_refused_89 rfl ?_
                  refine q_iconst hX 0 dL_refused_90 (by decide) ?_
                  refine q_iconst hX 0 dL_refused_91 (by decide) ?_
                  refine q_iconst hX 1 dL_refused_92 (by decide) ?_
                  refine q_cv hX hG (by decide) (by decide) (As := [.int x, .int 0, .int 0, .int 1]) (rest := []) (c_X6_apply l G hG.1 z (c := x) (r := 0) (d := 0) (p := 1) (hI := hJ.io)) k_L_refused_X6_apply (fun i hi => absurd hi (Nat.not_lt_zero _)) rfl rfl (Nat.le_of_ble_eq_true rfl) dL_refused_93 ?_
                  rw [rf_apply hx h2]
                  refine q_z (z2 := z) rfl ?_
                  refine q_top (-1) rfl ?_
                  refine q_iconst hX (-1) dL_refused_96 (by decide) ?_
                  refine q_ic_ne hX 257 dL_refused_97 (by decide) (fun c8 => ?_) (fun c8 => ?_)
                  · -- jump 257
                    exact absurd c8 (by decide)
                  · -- on 100
                    refine q_aload_n hX 1 dL_refused_100 rfl ?_
                    refine q_iload_n hX 0 dL_refused_101 rfl ?_
                    refine q_iconst hX 0 dL_refused_102 (by decide) ?_
                    refine q_cv hX hG (by decide) (by decide) (As := [.int x, .int 0]) (rest := []) (c_X6_lottery l G hG.1 z (r := x) (d := 0) (hI := hJ.io)) k_L_refused_X6_lottery (fun i hi => absurd hi (Nat.not_lt_zero _)) rfl rfl (Nat.le_of_ble_eq_true rfl) dL_refused_103 ?_
                    rw [rf_lottery hx h1]
                    refine q_z (z2 := z) rfl ?_
                    refine q_top (-1) rfl ?_
                    refine q_iconst hX (-1) dL_refused_106 (by decide) ?_
                    refine q_ic_ne hX 257 dL_refused_107 (by decide) (fun c9 => ?_) (fun c9 => ?_)
                    · -- jump 257
                      exact absurd c9 (by decide)
                    · -- on 110
                      refine q_aload_n hX 1 dL_refused_110 rfl ?_
                      refine q_iload_n hX 0 dL_refused_111 rfl ?_
                      refine q_cv hX hG (by decide) (by decide) (As := [.int x]) (rest := []) (c_X6_cancel l G hG.1 z (a := x) (hI := hJ.io) (hm := hJ.m0) (h17 := hJ.h17)) k_L_refused_X6_cancel (fun i hi => absurd hi (Nat.not_lt_zero _)) rfl rfl (Nat.le_of_ble_eq_true rfl) dL_refused_112 ?_
                      rw [rf_cancel hx h3]
                      refine q_z (z2 := z) rfl ?_
                      refine q_top (-1) rfl ?_
                      refine q_iconst hX (-1) dL_refused_115 (by decide) ?_
                      refine q_ic_ne hX 257 dL_refused_116 (by decide) (fun c10 => ?_) (fun c10 => ?_)
                      · -- jump 257
                        exact absurd c10 (by decide)
                      · -- on 119
                        refine q_aload_n hX 1 dL_refused_119 rfl ?_
                        refine q_iload_n hX 0 dL_refused_120 rfl ?_
                        refine q_cv hX hG (by decide) (by decide) (As := [.int x]) (rest := []) (c_X6_close l G hG.1 z (d := x) (hI := hJ.io) (hs := hJ.oi.sh)) k_L_refused_X6_close (fun i hi => absurd hi (Nat.not_lt_zero _)) rfl rfl (Nat.le_of_ble_eq_true rfl) dL_refused_121 ?_
                        rw [rf_close hx]
                        refine q_z (z2 := z) rfl ?_
                        refine q_top (-1) rfl ?_
                        refine q_iconst hX (-1) dL_refused_124 (by decide) ?_
                        refine q_ic_ne hX 257 dL_refused_125 (by decide) (fun c11 => ?_) (fun c11 => ?_)
                        · -- jump 257
                          exact absurd c11 (by decide)
                        · -- on 128
                          refine q_aload_n hX 1 dL_refused_128 rfl ?_
                          refine q_iload_n hX 0 dL_refused_129 rfl ?_
                          refine q_cv hX hG (by decide) (by decide) (As := [.int x]) (rest := []) (c_X6_standby l G hG.1 z (a := x) (hI := hJ.io)) k_L_refused_X6_standby (fun i hi => absurd hi (Nat.not_lt_zero _)) rfl rfl (Nat.le_of_ble_eq_true rfl) dL_refused_130 ?_
                          rw [rf_standby hx h3]
                          refine q_z (z2 := z) rfl ?_
                          refine q_top (-1) rfl ?_
                          refine q_iconst hX (-1) dL_refused_133 (by decide) ?_
                          refine q_ic_ne hX 257 dL_refused_134 (by decide) (fun c12 => ?_) (fun c12 => ?_)
                          · -- jump 257
                            exact absurd c12 (by decide)
                          · -- on 137
                            refine q_aload_n hX 1 dL_refused_137 rfl ?_
                            refine q_iload_n hX 0 dL_refused_138 rfl ?_
                            refine q_cv hX hG (by decide) (by decide) (As := [.int x]) (rest := []) (c_X6_show l G hG.1 z (a := x) (hI := hJ.io)) k_L_refused_X6_show (fun i hi => absurd hi (Nat.not_lt_zero _)) rfl rfl (Nat.le_of_ble_eq_true rfl) dL_refused_139 ?_
                            rw [rf_show hx h3]
                            refine q_z (z2 := z) rfl ?_
                            refine q_top (-1) rfl ?_
                            refine q_iconst hX (-1) dL_refused_142 (by decide) ?_
                            refine q_ic_ne hX 257 dL_refused_143 (by decide) (fun c13 => ?_) (fun c13 => ?_)
                            · -- jump 257
                              exact absurd c13 (by decide)
                            · -- on 146
                              refine q_aload_n hX 1 dL_refused_146 rfl ?_
                              refine q_iload_n hX 0 dL_refused_147 rfl ?_
                              refine q_iconst hX 0 dL_refused_148 (by decide) ?_
                              refine q_iconst hX 0 dL_refused_149 (by decide) ?_
                              refine q_cv hX hG (by decide) (by decide) (As := [.int x, .int 0, .int 0]) (rest := []) (c_X6_onRoute l G z (r := x) (d := 0) (w := 0) (hI := hJ.io)) k_L_refused_X6_onRoute (fun _ _ => rfl) rfl rfl (Nat.le_of_ble_eq_true rfl) dL_refused_150 ?_
                              refine q_top ((-1)) (rf_onRoute hx h1) ?_
                              refine q_iconst hX (-1) dL_refused_153 (by decide) ?_
                              refine q_ic_ne hX 257 dL_refused_154 (by decide) (fun c14 => ?_) (fun c14 => ?_)
                              · -- jump 257
                                exact absurd c14 (by decide)
                              · -- on 157
                                refine q_aload_n hX 1 dL_refused_157 rfl ?_
                                refine q_iload_n hX 0 dL_refused_158 rfl ?_
                                refine q_iconst hX 0 dL_refused_159 (by decide) ?_
                                refine q_cv hX hG (by decide) (by decide) (As := [.int x, .int 0]) (rest := []) (c_X6_climber l G z (c := x) (w := 0) (hI := hJ.io)) k_L_refused_X6_climber (fun _ _ => rfl) rfl rfl (Nat.le_of_ble_eq_true rfl) dL_refused_160 ?_
                                refine q_top ((-1)) (rf_climber hx h2) ?_
                                refine q_iconst hX (-1) dL_refused_163 (by decide) ?_
                                refine q_ic_ne hX 257 dL_refused_164 (by decide) (fun c15 => ?_) (fun c15 => ?_)
                                · -- jump 257
                                  exact absurd c15 (by decide)
                                · -- on 167
                                  refine q_aload_n hX 1 dL_refused_167 rfl ?_
                                  refine q_iload_n hX 0 dL_refused_168 rfl ?_
                                  refine q_iconst hX 0 dL_refused_169 (by decide) ?_
                                  refine q_cv hX hG (by decide) (by decide) (As := [.int x, .int 0]) (rest := []) (c_X6_application l G z (a := x) (w := 0) (hI := hJ.io)) k_L_refused_X6_application (fun _ _ => rfl) rfl rfl (Nat.le_of_ble_eq_true rfl) dL_refused_170 ?_
                                  refine q_top ((-1)) (rf_application hx h3) ?_
                                  refine q_iconst hX (-1) dL_refused_173 (by decide) ?_
                                  refine q_ic_ne hX 257 dL_refused_174 (by decide) (fun c16 => ?_) (fun c16 => ?_)
                                  · -- jump 257
                                    exact absurd c16 (by decide)
                                  · -- on 177
                                    refine q_aload_n hX 1 dL_refused_177 rfl ?_
                                    refine q_iload_n hX 0 dL_refused_178 rfl ?_
                                    refine q_cv hX hG (by decide) (by decide) (As := [.int x]) (rest := []) (c_X6_count l G z (w := x) (hI := hJ.io)) k_L_refused_X6_count (fun _ _ => rfl) rfl rfl (Nat.le_of_ble_eq_true rfl) dL_refused_179 ?_
                                    refine q_top ((-2)) (rf_count hx) ?_
                                    refine q_bipush hX (-2) dL_refused_182 (by decide) ?_
                                    refine q_ic_ne hX 257 dL_refused_184 (by decide) (fun c17 => ?_) (fun c17 => ?_)
                                    · -- jump 257
                                      exact absurd c17 (by decide)
                                    · -- on 187
                                      refine q_aload_n hX 1 dL_refused_187 rfl ?_
                                      refine q_iload_n hX 0 dL_refused_188 rfl ?_
                                      refine q_iconst hX 0 dL_refused_189 (by decide) ?_
                                      refine q_cv hX hG (by decide) (by decide) (As := [.int x, .int 0]) (rest := []) (c_X6_nextWaiting l G z (r := x) (d := 0) (hI := hJ.io) (hm := hJ.m0)) k_L_refused_X6_nextWaiting (fun _ _ => rfl) rfl rfl (Nat.le_of_ble_eq_true rfl) dL_refused_190 ?_
                                      refine q_top ((-1)) (rf_next hx h1) ?_
                                      refine q_iconst hX (-1) dL_refused_193 (by decide) ?_
                                      refine q_ic_ne hX 257 dL_refused_194 (by decide) (fun c18 => ?_) (fun c18 => ?_)
                                      · -- jump 257
                                        exact absurd c18 (by decide)
                                      · -- on 197
                                        refine q_aload_n hX 1 dL_refused_197 rfl ?_
                                        refine q_iload_n hX 0 dL_refused_198 rfl ?_
                                        refine q_cv hX hG (by decide) (by decide) (As := [.int x]) (rest := []) (c_X6_odds l G hG.1 z (a := x) (hI := hJ.io)) k_L_refused_X6_odds (fun i hi => absurd hi (Nat.not_lt_zero _)) rfl rfl (Nat.le_of_ble_eq_true rfl) dL_refused_199 ?_
                                        rw [rf_odds hx h3]
                                        refine q_z (z2 := z) rfl ?_
                                        refine q_top (-1) rfl ?_
                                        refine q_iconst hX (-1) dL_refused_202 (by decide) ?_
                                        refine q_ic_ne hX 257 dL_refused_203 (by decide) (fun c19 => ?_) (fun c19 => ?_)
                                        · -- jump 257
                                          exact absurd c19 (by decide)
                                        · -- on 206
                                          refine q_aload_n hX 1 dL_refused_206 rfl ?_
                                          refine q_iload_n hX 0 dL_refused_207 rfl ?_
                                          refine q_iconst hX 1 dL_refused_208 (by decide) ?_
                                          refine q_cv hX hG (by decide) (by decide) (As := [.int x, .int 1]) (rest := []) (c_X6_tries l G hG.1 z (a := x) (t := 1) (hI := hJ.io)) k_L_refused_X6_tries (fun i hi => absurd hi (Nat.not_lt_zero _)) rfl rfl (Nat.le_of_ble_eq_true rfl) dL_refused_209 ?_
                                          rw [rf_tries hx h3]
                                          refine q_z (z2 := z) rfl ?_
                                          refine q_top (-1) rfl ?_
                                          refine q_iconst hX (-1) dL_refused_212 (by decide) ?_
                                          refine q_ic_ne hX 257 dL_refused_213 (by decide) (fun c20 => ?_) (fun c20 => ?_)
                                          · -- jump 257
                                            exact absurd c20 (by decide)
                                          · -- on 216
                                            refine q_aload_n hX 1 dL_refused_216 rfl ?_
                                            refine q_cv hX hG (by decide) (by decide) (As := []) (rest := []) (c_X6_load l G hG.1 z  (hI := hJ.io) (hP := hJ.po)) k_L_refused_X6_load (fun i hi => absurd hi (Nat.not_lt_zero _)) rfl rfl (Nat.le_of_ble_eq_true rfl) dL_refused_217 ?_
                                            obtain ⟨eL, hL⟩ := rf_load h69
                                            obtain ⟨y, hyd⟩ : ∃ s_ : St, s_ = (spLoad z).2 := ⟨_, rfl⟩
                                            refine q_z (z2 := y) hyd.symm ?_
                                            refine q_top (-3) eL ?_
                                            have hyz : ∀ f, f < 70 ∨ 75 ≤ f → y f = z f := fun f hf => by rw [hyd]; exact hL f hf
                                            have hy : FI y b := ⟨Inv_cg hJ.inv (fun f hf => hyz f (by omega)), hJ.2⟩
                                            refine q_bipush hX (-3) dL_refused_220 (by decide) ?_
                                            refine q_ic_ne hX 257 dL_refused_222 (by decide) (fun c21 => ?_) (fun c21 => ?_)
                                            · -- jump 257
                                              exact absurd c21 (by decide)
                                            · -- on 225
                                              refine q_aload_n hX 1 dL_refused_225 rfl ?_
                                              refine q_iload_n hX 0 dL_refused_226 rfl ?_
                                              refine q_cv hX hG (by decide) (by decide) (As := [.int x]) (rest := []) (c_X6_save l G hG.1 y (s := x) (hb := hy.inv.2.2.1) (hcl := hy.inv.2.2.2.1)) k_L_refused_X6_save (fun i hi => absurd hi (Nat.not_lt_zero _)) rfl rfl (Nat.le_of_ble_eq_true rfl) dL_refused_227 ?_
                                              rw [rf_save hx]
                                              refine q_z (z2 := y) rfl ?_
                                              refine q_top (-2) rfl ?_
                                              refine q_bipush hX (-2) dL_refused_230 (by decide) ?_
                                              refine q_ic_ne hX 257 dL_refused_232 (by decide) (fun c22 => ?_) (fun c22 => ?_)
                                              · -- jump 257
                                                exact absurd c22 (by decide)
                                              · -- on 235
                                                refine q_aload_n hX 1 dL_refused_235 rfl ?_
                                                refine q_iload_n hX 0 dL_refused_236 rfl ?_
                                                refine q_cv hX hG (by decide) (by decide) (As := [.int x]) (rest := []) (c_X6_restore l G hG.1 y (s := x) (hb := hy.inv.2.2.1) (hcl := hy.inv.2.2.2.1)) k_L_refused_X6_restore (fun i hi => absurd hi (Nat.not_lt_zero _)) rfl rfl (Nat.le_of_ble_eq_true rfl) dL_refused_237 ?_
                                                rw [rf_restore hx]
                                                refine q_z (z2 := y) rfl ?_
                                                refine q_top (-2) rfl ?_
                                                refine q_bipush hX (-2) dL_refused_240 (by decide) ?_
                                                refine q_ic_ne hX 257 dL_refused_242 (by decide) (fun c23 => ?_) (fun c23 => ?_)
                                                · -- jump 257
                                                  exact absurd c23 (by decide)
                                                · -- on 245
                                                  refine q_aload_n hX 1 dL_refused_245 rfl ?_
                                                  refine q_iconst hX 0 dL_refused_246 (by decide) ?_
                                                  refine q_cv hX hG (by decide) (by decide) (As := [.int 0]) (rest := []) (c_X6_count l G y (w := 0) (hI := hy.io)) k_L_refused_X6_count (fun _ _ => rfl) rfl rfl (Nat.le_of_ble_eq_true rfl) dL_refused_247 ?_
                                                  refine q_top (0) ((show spCount y 0 = y 0 0 from by unfold spCount; rw [if_neg (by decide), if_neg (by decide), if_pos rfl]).trans (by rw [hyz 0 (by omega)]; exact h0)) ?_
                                                  refine q_if_ne hX 257 dL_refused_250 (by decide) (fun c24 => ?_) (fun c24 => ?_)
                                                  · -- jump 257
                                                    exact absurd c24 (by decide)
                                                  · -- on 253
                                                    refine q_iconst hX 1 dL_refused_253 (by decide) ?_
                                                    refine q_goto hX 258 dL_refused_254 (by decide) ?_
                                                    refine ret _ _ _ _ _ _ (by decide) (by decide) dL_refused_258 ?_
                                                    exact ⟨rfl, hyz⟩
    refine q_iload_n hX 1 dL_refused_0 rfl ?_
    refine q_if_ge hX 15 dL_refused_1 (by decide) (fun c25 => ?_) (fun c25 => ?_)
    · -- jump 15
      refine q_iload_n hX 1 dL_refused_15 rfl ?_
      refine q_ldc hX 1000000 dL_refused_16 (List.mem_of_getElem? (i := 1) rfl) ?_
      refine q_irem hX dL_refused_18 (by decide) ?_
      refine q_ldc hX 65536 dL_refused_19 (List.mem_of_getElem? (i := 2) rfl) ?_
      refine q_iadd hX dL_refused_21 ?_
      refine q_top (x) (by
        first | (have hq : (0 : Int32) ≤ v := (by assumption); exact (farV_pos hq).trans ex.symm) | (have hq : ¬ (0 : Int32) ≤ v := (by assumption); exact (farV_neg (Int32.not_le.mp hq)).trans ex.symm)) ?_
      refine q_sub [0, 1] [(0, .ref (G.2.2 192)), (1, .int v)] rfl ?_
      exact km1
    · -- on 4
      refine q_iconst hX (-1) dL_refused_4 (by decide) ?_
      refine q_iload_n hX 1 dL_refused_5 rfl ?_
      refine q_ldc hX 1000000 dL_refused_6 (List.mem_of_getElem? (i := 1) rfl) ?_
      refine q_ctE hX hG (by decide) (by decide) (As := [.int v, .int 1000000]) (rest := [.int (-1)]) (c_L_up l G B E hG hE z (v := v) (m := 1000000) (by decide)) k_L_refused_L_up rfl rfl (Nat.le_of_ble_eq_true rfl) dL_refused_8 ?_
      refine q_isub hX dL_refused_11 ?_
      refine q_goto hX 22 dL_refused_12 (by decide) ?_
      refine q_top (x) (by
        first | (have hq : (0 : Int32) ≤ v := (by assumption); exact (farV_pos hq).trans ex.symm) | (have hq : ¬ (0 : Int32) ≤ v := (by assumption); exact (farV_neg (Int32.not_le.mp hq)).trans ex.symm)) ?_
      refine q_sub [0, 1] [(0, .ref (G.2.2 192)), (1, .int v)] rfl ?_
      exact km1
