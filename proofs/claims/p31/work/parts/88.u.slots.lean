theorem c5_pass {a : Int32} {P : Int32 → Prop} (h1 : 1 ≤ a.toInt ∧ a.toInt ≤ 60 → P 1) (h0 : ¬ (1 ≤ a.toInt ∧ a.toInt ≤ 60) → P 0) : wX5_passAllowed a P := c5_rng rfl rfl h1 h0
theorem sub_sum {n : Nat} {m : Row} (hn : n ≤ 6) (k : Nat) : sumc (mns n m k) n - sumc m n = Int32.ofNat (gns n m k) := by
  rw [sum_mns hn, Int32.add_comm, Int32.add_sub_cancel]
/-! slots -/
theorem i2 : (2 : Int32).toInt = 2 := rfl
theorem bool1 : vp_nar .boolean 1 = 1 := by decide
theorem bool0 : vp_nar .boolean 0 = 0 := by decide
