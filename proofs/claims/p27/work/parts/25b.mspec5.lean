/-! ===== the model's slots and its draws ===== -/
def mSave (z : St) (x : Int32) : Int32 × St := if ¬ (0 ≤ x ∧ x ≤ 1) then (-2, z) else (z 0 0, u2 (cpK z (cn x + 1) 478 (fun j => atF z 0 j)) 60 (cn x) 1)
def mRestore (z : St) (x : Int32) : Int32 × St := if ¬ (0 ≤ x ∧ x ≤ 1) then (-2, z) else if z 60 (cn x) = 0 then (-5, z) else (cpK z 0 478 (fun j => atF z (cn x + 1) j) 0 0, cpK z 0 478 (fun j => atF z (cn x + 1) j))
theorem cpK_00 (z : St) {o : Nat} (ho : o < 3) (h : o ≠ 0) (n : Nat) (v : Nat → Int32) : cpK z o n v 0 0 = z 0 0 := cpK_at z ho (o2 := 0) (by decide) h v 0
theorem ix_sl2 {x : Int32} (h : x = nI (cn x)) (k : Nat) : (478 : Int32) * x + nI k = nI (478 * cn x + k) := by
  conv => lhs; rw [h]
  exact ix_sl _ k
