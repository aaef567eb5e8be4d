/-! THE CLAIM OUT OF ONE WALK OF THE LAW'S BODY. Your part is whole_start (and what it stands on); all else here is the same for every law, but numbers. -/
def R_law : String := "ClimbPermitsLaw"
def lw_P (b : Addr) (xs : List Int32) (args : Array Value) (s : State) : Prop := args = #[.ref b] ∧ s.IntsAt b xs ∧ xs.length ≤ 260 ∧ (Jvm.Cond.and given_1 narrow_1).before args s = true
def lw_Q (_ : Array Value) (s : State) (o : Outcome) (t : State) : Prop := o = .returned (some (.int 1)) ∧ Framed s o t [] 600000 7302250
def lw_Z (below : List Frame) (a : Array Value) (s : State) : State → Prop := fun t => ∃ o, t.status = .running ∧ Ended t below o ∧ lw_Q a s o t
/-- the law's own end, with 1 on the stack, nothing written that was there before, its room as the claim has it -/
theorem lw_ret {p : Program} {l : Launch} {e : Env} {s : State} {m : MethodId} {below : List Frame} {meth : Method} {c : Code} {b : Nat} (hx : p.tables.exec = Jvm.exec) (hb : c.code = code) (hr : meth.sig.returnType = ret) (hlocks : meth.locks = false) {pc : Nat} {H : Heap} {ls : Array Slot} (hdg : decode code pc = .ok (.ireturn, 1)) : W p l e room_1 s m #[Value.ref b] below meth c H [] 600000 7302250 (lw_Z below #[Value.ref b] s) (F0 m pc ls [.int 1]) := by
  intro T hT X
  obtain ⟨fs, hret, hrun, hended, hW, hframe⟩ := X.leave (v := some (.int 1)) (hlocks := hlocks) (fun h => by rw [hr] at h; cases h)
  have hmeth' : T.vm.method? m = some meth := X.method'
  refine ⟨T.setFrames fs, ?_, .returned (some (.int 1)), hrun, hended, rfl, ⟨_, rfl⟩, hW, hframe⟩
  jvm_step X.here [X.here.top, hx, hb, hdg, hmeth', hr, ret, narrow_b1]
  (try refine ⟨rfl, ?_⟩); (try refine ⟨rfl, ?_⟩)
  first | (intro acts; rw [hret _ acts rfl rfl rfl]) | rw [hret _ _ rfl rfl rfl]
  exact Steps.refl _
/-- what holds at the law's entry: the machine, the code, the tables' words (any of lw_tbl by 'hts w (by decide +kernel)'), the script of L ints xs at the cell b, what the Statement gives of the start (any of its parts by flat_of_before) -/
def lw_At (p : Program) (s : State) (m : MethodId) (meth : Method) (c : Code) (b L : Nat) (xs : Nat → Int32) : Prop :=
  p.tables.exec = Jvm.exec ∧ c.code = code ∧ meth.sig.returnType = ret ∧ c.maxLocals = 6 ∧ s.vm.findClass R_law = some m.cls ∧ (∀ w ∈ lw_tbl, w.before #[Value.ref b] s = true) ∧ va_X b L xs s s.heap ∧ b < s.heap.size ∧ meth.locks = false ∧ (Jvm.Cond.and given_1 narrow_1).before #[Value.ref b] s = true
theorem ini_S {args : Array Value} {s : State} {A : Nat → Prop} (hgv : (Jvm.Cond.and given_1 narrow_1).before args s = true) (h1 : (Cond.laysStatic "ClimbPermits" "FIRST" "[I").before args s = true) (h2 : (Cond.laysStatic "ClimbPermits" "LOWEST" "[I").before args s = true) (h3 : (Cond.laysStatic "ClimbPermits" "HIGHEST" "[I").before args s = true) (hini : (Cond.initialized "ClimbPermits").before args s = true) (hA : ∀ a : Nat, a < s.heap.size → ¬ A a) : ExS A s := by
  have hs := flat_of_before _ hgv
  obtain ⟨t1, q1⟩ := ini_st (n := "FIRST") (f := fFIRST) h1 hini (hs _ (by decide +kernel)) (hs _ (by decide +kernel)) (fun j hj => by rcases (show j = 0 ∨ j = 1 ∨ j = 2 ∨ j = 3 ∨ j = 4 ∨ j = 5 by omega) with rfl | rfl | rfl | rfl | rfl | rfl <;> exact hs _ (by decide +kernel)) hA
  obtain ⟨t2, q2⟩ := ini_st (n := "LOWEST") (f := fLOW) h2 hini (hs _ (by decide +kernel)) (hs _ (by decide +kernel)) (fun j hj => by rcases (show j = 0 ∨ j = 1 ∨ j = 2 ∨ j = 3 ∨ j = 4 ∨ j = 5 by omega) with rfl | rfl | rfl | rfl | rfl | rfl <;> exact hs _ (by decide +kernel)) hA
  obtain ⟨t3, q3⟩ := ini_st (n := "HIGHEST") (f := fHIGH) h3 hini (hs _ (by decide +kernel)) (hs _ (by decide +kernel)) (fun j hj => by rcases (show j = 0 ∨ j = 1 ∨ j = 2 ∨ j = 3 ∨ j = 4 ∨ j = 5 by omega) with rfl | rfl | rfl | rfl | rfl | rfl <;> exact hs _ (by decide +kernel)) hA
  exact ⟨t1, t2, t3, q1, q2, q3⟩
set_option maxRecDepth 100000 in
theorem ini_K {s : State} {b : Nat} (hts : ∀ w ∈ lw_tbl, w.before #[Value.ref b] s = true) : ∃ (D : va_G) (cA : Nat → ClassId), va_K D vwCl (tysG (D, cA, fun _ => 0)) s := by
  obtain ⟨c0, i0, k0⟩ := u_known (C := RX0) (T := TX0) (N := 9) (n := 9) hts inX0 (hts (.instantiable RX0 9) (by decide +kernel))
  obtain ⟨c1, i1, k1⟩ := u_known (C := RX1) (T := TX1) (N := 3) (n := 3) hts inX1 (hts (.instantiable RX1 3) (by decide +kernel))
  obtain ⟨c2, i2, k2⟩ := u_known (C := RX2) (T := TX2) (N := 7) (n := 7) hts inX2 (hts (.instantiable RX2 7) (by decide +kernel))
  obtain ⟨c3, i3, k3⟩ := u_known (C := RX3) (T := TX3) (N := 9) (n := 9) hts inX3 (hts (.instantiable RX3 9) (by decide +kernel))
  obtain ⟨c4, i4, k4⟩ := u_known (C := RX4) (T := TX4) (N := 7) (n := 7) hts inX4 (hts (.instantiable RX4 7) (by decide +kernel))
  obtain ⟨c5, i5, k5⟩ := u_known (C := RX5) (T := TX5) (N := 2) (n := 2) hts inX5 (hts (.instantiable RX5 2) (by decide +kernel))
  obtain ⟨c6, i6, k6⟩ := u_known (C := RX6) (T := TX6) (N := 5) (n := 5) hts inX6 (hts (.instantiable RX6 5) (by decide +kernel))
  obtain ⟨a0, r0⟩ := ini_arr (hts (.arrayClass .int) (by decide +kernel))
  obtain ⟨a1, r1⟩ := ini_arr (hts (.arrayClass .boolean) (by decide +kernel))
  obtain ⟨a2, r2⟩ := ini_arr (hts (.arrayClass .char) (by decide +kernel))
  obtain ⟨a3, r3⟩ := ini_arq (hts (.arrayOver (.object RX5)) (by decide +kernel))
  obtain ⟨a4, r4⟩ := ini_arq (hts (.arrayOver (.object RX1)) (by decide +kernel))
  obtain ⟨a5, r5⟩ := ini_arq (hts (.arrayOver (.object RX0)) (by decide +kernel))
  obtain ⟨a6, r6⟩ := ini_arq (hts (.arrayOver (.object RX3)) (by decide +kernel))
  refine ⟨(fun t : Nat => if t = 0 then c0 else (if t = 1 then c1 else (if t = 2 then c2 else (if t = 3 then c3 else (if t = 4 then c4 else (if t = 5 then c5 else c6))))), fun t : Nat => if t = 0 then i0 else (if t = 1 then i1 else (if t = 2 then i2 else (if t = 3 then i3 else (if t = 4 then i4 else (if t = 5 then i5 else i6)))))), fun t : Nat => if t = 0 then a0 else (if t = 1 then a1 else (if t = 2 then a2 else (if t = 3 then a3 else (if t = 4 then a4 else (if t = 5 then a5 else a6))))), ?_, ?_⟩
  · intro k q hq
    match k, hq with
    | 0, hq => cases hq; exact k0
    | 1, hq => cases hq; exact k1
    | 2, hq => cases hq; exact k2
    | 3, hq => cases hq; exact k3
    | 4, hq => cases hq; exact k4
    | 5, hq => cases hq; exact k5
    | 6, hq => cases hq; exact k6
    | k + 7, hq => simp [vwCl] at hq
  · intro k q hq
    match k, hq with
    | 0, hq => cases hq; exact r0
    | 1, hq => cases hq; exact r1
    | 2, hq => cases hq; exact r2
    | 3, hq => cases hq; exact r3
    | 4, hq => cases hq; exact r4
    | 5, hq => cases hq; exact r5
    | 6, hq => cases hq; exact r6
    | k + 7, hq => simp [tysG] at hq
set_option maxRecDepth 100000 in
theorem ini_I {s : State} {b : Nat} {A : Nat → Prop} (hts : ∀ w ∈ lw_tbl, w.before #[Value.ref b] s = true) (hS : ExS A s) : ExI A s := ⟨va_AO.of (hts (.arrayOver (.object RX5)) (by decide +kernel)), va_AO.of (hts (.arrayOver (.object RX1)) (by decide +kernel)), va_AO.of (hts (.arrayOver (.object RX0)) (by decide +kernel)), va_AO.of (hts (.arrayOver (.object RX3)) (by decide +kernel)), va_Nw.of rfl (hts (.fieldLinkNest RX3 33 "ClimbPermits" "FIRST" "[I" "ClimbPermits") (by decide +kernel)), va_Nw.of rfl (hts (.methodLinkNest RX3 40 yX5_init "ClimbPermits") (by decide +kernel)), va_Nw.of rfl (hts (.methodLinkNest RX3 41 yX1_init "ClimbPermits") (by decide +kernel)), va_Nw.of rfl (hts (.methodLinkNest RX3 42 yX0_init "ClimbPermits") (by decide +kernel)), va_Nw.of rfl (hts (.methodLinkNest RX6 26 yX2_init "ClimbPermits") (by decide +kernel)), va_Nw.of rfl (hts (.methodLinkNest RX6 33 yX4_init "ClimbPermits") (by decide +kernel)), va_Nw.of rfl (hts (.methodLinkNest RX3 70 yX6_isDay "ClimbPermits") (by decide +kernel)), hS⟩
set_option maxRecDepth 100000 in
theorem start_gn {X : GC} {l : Launch} {G : MG} {A : Nat → Prop} {b : Nat} (hX : HN X l room_1 cL_law 6 wsL_law RL G A (ExI A)) (ret : ∀ (ad : Nat → Nat) (ct : Nat → va_E) (x : Nat), x = ad 0 → (∀ k, k < 203 → ct k = maE G ad 0 5 2 k) → GN X G.1 203 ad ct 300 3000 7 [(0, .ref b)] [.ref x]) (ad0 : Nat → Nat) (ct0 : Nat → va_E) : GN X G.1 0 ad0 ct0 0 0 0 [(0, .ref b)] [] := by
  refine n_new hX (ci := 6) (fs := [.null, .null, .null, .null, .null]) (fun ad' _ => .inr (6, [.null, .null, .null, .null, .null])) inlX6 tyX6 tyX6_ok (List.mem_of_getElem? (i := 0) rfl) (List.mem_of_getElem? (i := 1) rfl) (List.mem_of_getElem? (i := 2) rfl) rfl (by decide) (Nat.le_of_ble_eq_true rfl) (Nat.le_of_ble_eq_true rfl) dL_law_0 (fun ad' h => ⟨fun i hi => absurd hi (Nat.not_lt_zero i), rfl⟩) (fun ad1 h1 => ?_)
  refine n_dup hX dL_law_3 rfl ?_
  refine n_init hX (index := 11) (c_X6_init l G A 0 ad1 (fun _ => .inr (6, [.null, .null, .null, .null, .null])) rfl) gL_law_X6_init rfl rfl rfl (List.mem_of_getElem? (i := 2) rfl) (List.mem_of_getElem? (i := 4) rfl) (List.mem_of_getElem? (i := 5) rfl) rfl ⟨by decide +kernel, by decide +kernel, by decide +kernel⟩ ⟨by decide, by decide⟩ (Nat.le_of_ble_eq_true rfl) ⟨(Nat.le_of_ble_eq_true rfl), (Nat.le_of_ble_eq_true rfl)⟩ dL_law_4 (fun ad2 h2 => ?_)
  refine n_w (nw2 := 203) (ad2 := ad2) (ct2 := maE G ad2 0 5 2) rfl (fun _ _ => rfl) (fun i hi => by unfold gW; rw [if_neg (Nat.not_lt_zero i), Nat.sub_zero]) ?_
  refine n_wid (kc2 := 300) (ks2 := 3000) (by omega) (by omega) ?_
  exact ret ad2 _ (ad1 0) (by rw [h2 0 (by omega)]) (fun k hk => rfl)
theorem pic_C {G : MG} {ad : Nat → Nat} {ct : Nat → va_E} {H : Heap} (hP : va_P G.1 vwCl (Wl 203 ad ct) H) (hc : ∀ k, k < 203 → ct k = maE G ad 0 5 2 k) : PW 203 (Gp G ad) cfC z0 H := by
  intro k q hq
  obtain ⟨h1, rfl⟩ := Wl_inv hq
  have h2 := pm_lt h1
  have h3 := hP (pm k) _ (Wl_get (show pm k < 203 by omega))
  rw [hc _ h2] at h3
  exact pic_c G ad h1 G.1 vwCl (ad (pm k)) H h3
theorem inj_D {A : Nat → Prop} {ad : Nat → Nat} {ct : Nat → va_E} (hD : va_D A (Wl 203 ad ct)) {i j : Nat} (hi : i < 203) (hj : j < 203) (h : ad i = ad j) : i = j := hD.1 i j _ _ (Wl_get hi) (Wl_get hj) h
set_option maxHeartbeats 4000000 in
set_option maxRecDepth 100000 in
/-- THE LAW, from its entry -/
theorem whole_start {p : Program} {e : Env} {s : State} {m : MethodId} {below : List Frame} {meth : Method} {c : Code} (l : Launch) (hflags : l.flags = flags0) {b L : Nat} {xs : Nat → Int32} (hL : L ≤ 260) (C0 : lw_At p s m meth c b L xs) : W p l e room_1 s m #[Value.ref b] below meth c s.heap [] 0 0 (lw_Z below #[Value.ref b] s) (entryFrame m ([Value.ref b] : List Value).toArray 6) := by
  obtain ⟨hx, hb, hr, hml, hown, hts, hX, hbl, hlocks, hgv⟩ := id C0
  have hAo : ∀ a : Nat, a < s.heap.size → ¬ (fun q : Nat => s.heap.size ≤ q) a := fun a h => Nat.not_le.mpr h
  have hES : ExS (fun q : Nat => s.heap.size ≤ q) s := ini_S hgv (hts (.laysStatic "ClimbPermits" "FIRST" "[I") (by decide +kernel)) (hts (.laysStatic "ClimbPermits" "LOWEST" "[I") (by decide +kernel)) (hts (.laysStatic "ClimbPermits" "HIGHEST" "[I") (by decide +kernel)) (hts (.initialized "ClimbPermits") (by decide +kernel)) hAo
  have hEI : ExI (fun q : Nat => s.heap.size ≤ q) s := ini_I hts hES
  obtain ⟨D, cA, hK⟩ := ini_K hts
  have hfix : CallFix p m c cL_law 6 s #[Value.ref b] wsL_law RL := ⟨hx, hb, hml, hown, fun w h => hts w (wsL_law_in w h)⟩
  have hl := lv_entry ([.ref b]) (n := 6) (Nat.le_of_ble_eq_true rfl)
  rw [lg_entry_eq]
  generalize (lg_sl ([.ref b]) ++ List.replicate (6 - (lg_sl ([.ref b])).length) Slot.unset).toArray = ls at hl ⊢
  have hl : lv_has ls 6 [(0, .ref b)] := hl
  have hHN : HN (p, l, e, room_1, s, m, #[Value.ref b], below, meth, c, lw_Z below #[Value.ref b] s, fun q : Nat => s.heap.size ≤ q, fun _ _ => True, ExI (fun q : Nat => s.heap.size ≤ q), 6) l room_1 cL_law 6 wsL_law RL (D, cA, fun _ => 0) (fun q : Nat => s.heap.size ≤ q) (ExI (fun q : Nat => s.heap.size ≤ q)) := ⟨rfl, rfl, rfl, rfl, rfl, hfix, ⟨hK, hEI⟩, KQ_mv (ExI_mv _), fun q h => h⟩
  refine start_gn (b := b) hHN (fun ad ct x h0 hc => ?_) (fun _ => 0) (fun _ => .inr (0, [])) s.heap [] ls (fun k q h => by simp [Wl] at h) ⟨fun i j p q h => by simp [Wl] at h, fun k q h => by simp [Wl] at h⟩ va_S.rf hl
  intro H locs ls hP hD hS hl
  subst h0
  have hG : GB s.heap.size (Gp (D, cA, fun _ => 0) ad) := by
    refine ⟨fun i j hi hj h => pm_inj hi hj (inj_D hD (by have := pm_lt hi; omega) (by have := pm_lt hj; omega) h), fun k hk => ?_⟩
    exact hD.2 (pm k) _ (Wl_get (show pm k < 203 by have := pm_lt hk; omega))
  have hHL : HL (p, l, e, room_1, s, m, #[Value.ref b], below, meth, c, lw_Z below #[Value.ref b] s, fun q : Nat => s.heap.size ≤ q, fun _ _ => True, ExI (fun q : Nat => s.heap.size ≤ q), 6) l room_1 cL_law 6 wsL_law RL (Gp (D, cA, fun _ => 0) ad) s.heap.size (SE b L xs s.heap.size) := ⟨rfl, rfl, rfl, hfix, ⟨⟨hK, hEI.2.2.2.2.2.2.2.2.2.2.1, hES⟩, ⟨hX, hbl, hbl⟩⟩, SE_mv b L xs s.heap.size, Nat.le_refl _⟩
  have hPW := pic_C hP hc
  refine law_walk hL hG hHL (fun z pc lv kc kd h1 h2 hd H locs ls hP hD hB hS hl => W.widen h1 h2 (va_forget (fun q hq => hS.2.2 q hq) (lw_ret hx hb hr hlocks hd))) H locs ls (by rw [WL_0]; exact hPW) (by rw [WL_0]; exact hG.D _) ?_ hS hl
  exact hS.1
