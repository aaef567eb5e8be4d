/-! ===== the law's own: up, cell ===== -/
theorem q_ctE {X : GC} {l : Launch} {R : Room} {cc : ByteArray} {nL : Nat} {Ts : List Cond} {own : String} {G : MG} {B kc kd : Nat} {ar : Nat → Nat} {E : State → Prop} {z : St} {pc : Nat} {lv : List (Nat × Value)} {st : List Value} (hX : HL X l R cc nL Ts own G B E) (hG : GB B G) {y : MethodName} {index n maxL mc ms : Nat} {bytes : ByteArray} {ret : Option FieldType} {ws : List Cond} {rm : Room} {As rest : List Value} {R0 : Int32} {Z0 : St} (hkc : kc + mc ≤ R.cells) (hkd : kd + ms ≤ R.slots) (hc : CL l G B E y ws rm As z (fun ρ ζ => ρ = R0 ∧ ζ = Z0) mc ms) (hk : CT3 R Ts own index y bytes maxL ret ws rm mc ms n) (hn : As.length = n) (hst : st = As.reverse ++ rest) (hW : (rest.map fun v => v.category).sum ≤ 8) (hd : decode cc pc = .ok (.invokestatic index, 3)) (kk : LG X B 0 ar G (kc + mc) (kd + ms) Z0 (pc + 3) lv (.int R0 :: rest)) : LG X B 0 ar G kc kd z pc lv st :=
  q_ct hX hG hkc hkd hc hk hn hst hW hd (fun r z' h => by rw [h.1, h.2]; exact kk)
def upf (v m : Int32) : Int32 := (v &&& 2147483647) - (v &&& 2147483647) / m * m
theorem up_in {v : Int32} {m : Nat} (h0 : 0 < m) (h : m < 2 ^ 30) : ∃ q, q < m ∧ upf v (nI m) = nI q := by
  obtain ⟨j, hj, e⟩ := pk_andE v (m := 2147483647) 31 (by decide)
  unfold upf
  rw [e, pk_rem hj h0 (by omega)]
  exact ⟨_, Nat.mod_lt _ h0, rfl⟩

def rm_L_up : Room := { frames := 0, cells := 0, slots := 0, locals := 0 }
set_option maxHeartbeats 4000000 in
set_option maxRecDepth 100000 in
theorem c_L_up (l : Launch) (G : MG) (B : Nat) (E : State → Prop) (hG : GB B G) (hE : KMv (AB B) E) (z : St) {v : Int32} {m : Int32} (hm : ¬ m = 0) : CL l G B E yL_up wsL_up rm_L_up [.int v, .int m] z (fun ρ ζ => ρ = upf v m ∧ ζ = z) 0 0 := by
  refine cl_of (own := RL) (cc := cL_up) (maxL := 2) (ret := .int) hG hE (by decide +kernel) rfl rfl ?_ (Nat.le_of_ble_eq_true rfl) ?_
  · intro v z' _; rfl
  · intro X hX ret
    refine q_lv (lv' := [(0, .int v), (1, .int m)]) rfl ?_
    refine q_iload_n hX 0 dL_up_0 rfl ?_
    refine q_ldc hX 2147483647 dL_up_1 (List.mem_of_getElem? (i := 1) rfl) ?_
    refine q_iand hX dL_up_3 ?_
    refine q_iload_n hX 1 dL_up_4 rfl ?_
    refine q_irem hX dL_up_5 hm ?_
    refine ret _ _ _ _ _ _ (by decide) (by decide) dL_up_6 ?_
    exact ⟨rfl, rfl⟩
def rm_L_cell : Room := { frames := 0, cells := 0, slots := 0, locals := 0 }
set_option maxHeartbeats 4000000 in
set_option maxRecDepth 100000 in
theorem c_L_cell (l : Launch) (G : MG) (B : Nat) {b L : Nat} {xs : Nat → Int32} (hL : L ≤ 260) (hG : GB B G)  (z : St) {k : Nat} (hk : k < 1000) : CL l G B (SE b L xs B) yL_cell wsL_cell rm_L_cell [.ref b, .int (nI k)] z (fun _ ζ => ζ = z) 0 0 := by
  refine cl_of (own := RL) (cc := cL_cell) (maxL := 2) (ret := .int) hG (SE_mv b L xs B) (by decide +kernel) rfl rfl ?_ (Nat.le_of_ble_eq_true rfl) ?_
  · intro v z' _; rfl
  · intro X hX ret
    refine q_lv (lv' := [(0, .ref b), (1, .int (nI k))]) rfl ?_
    refine q_iload_n hX 1 dL_cell_0 rfl ?_
    refine q_aload_n hX 0 dL_cell_1 rfl ?_
    refine q_slen hX dL_cell_2 ?_
    refine q_ic_ge hX 12 dL_cell_3 (by decide) (fun c1 => ?_) (fun c1 => ?_)
    · -- jump 12
      have nc1 : ((L : Nat) ≤ k) := (nI_leI (a := L) (b := k) (by omega) (by omega)).mp c1
      refine q_ldc hX 73244475 dL_cell_12 (List.mem_of_getElem? (i := 1) rfl) ?_
      refine q_iload_n hX 1 dL_cell_14 rfl ?_
      refine q_sipush hX 1549 dL_cell_15 (by decide) ?_
      refine q_iadd hX dL_cell_18 ?_
      refine q_imul hX dL_cell_19 ?_
      refine ret _ _ _ _ _ _ (by decide) (by decide) dL_cell_20 ?_
      rfl
    · -- on 6
      have nc1 : ¬ ((L : Nat) ≤ k) := fun q => c1 ((nI_leI (a := L) (b := k) (by omega) (by omega)).mpr q)
      refine q_aload_n hX 0 dL_cell_6 rfl ?_
      refine q_iload_n hX 1 dL_cell_7 rfl ?_
      refine q_sld hX k rfl (by omega) (by omega) dL_cell_8 ?_
      refine q_goto hX 20 dL_cell_9 (by decide) ?_
      refine ret _ _ _ _ _ _ (by decide) (by decide) dL_cell_20 ?_
      rfl
