theorem nat_of {a : Int32} {n : Nat} (h : 0 ≤ a.toInt ∧ a.toInt < n) : ∃ i, i < n ∧ a = Int32.ofNat i := by
  refine ⟨a.toInt.toNat, by omega, Int32.toInt_inj.mp ?_⟩
  have := ti_hi a
  rw [ti_nat (by omega)]
  omega
theorem i64 (x : Int32) : (Int32.toInt64 x).toInt = x.toInt := Int32.toInt_toInt64 x
theorem RlM.rooms {n : Nat} {c : Reg} {m : Row} (R : RlM n c m) : c 0 8 = Int32.ofNat n := R.1.2.2.2.2.2.2.2.2.1
theorem c3_hasRoom {n : Nat} {a : Int32} {c : Reg} {P : Int32 → Reg → Prop} (h8 : c 0 8 = Int32.ofNat n) (hn : n ≤ 6) (h1 : ∀ i, i < n → a = Int32.ofNat i → P 1 c) (h0 : ¬ (0 ≤ a.toInt ∧ a.toInt < n) → P 0 c) : wX3_hasRoom a c P := by
  have hi : (6 : Int32).toInt = 6 := rfl
  refine ⟨fun q => h0 ?_, fun q => ⟨fun q2 => h0 ?_, fun q2 => ⟨fun q3 => h0 ?_, fun q3 => ?_⟩⟩⟩
  · rw [Int32.lt_iff_toInt_lt, i0] at q
    omega
  · rw [h8, Int32.le_iff_toInt_le, ti_nat (by omega)] at q2
    omega
  · rw [Int32.le_iff_toInt_le, hi] at q3
    omega
  · rw [Int32.lt_iff_toInt_lt, i0] at q
    rw [h8, Int32.le_iff_toInt_le, ti_nat (by omega)] at q2
    obtain ⟨i, g1, g2⟩ := nat_of (a := a) (n := n) ⟨by omega, by omega⟩
    exact h1 i g1 g2
theorem c3_hasPlace {n : Nat} {a : Int32} {c : Reg} {P : Int32 → Reg → Prop} (h8 : c 0 8 = Int32.ofNat n) (hn : n ≤ 6) (h1 : ∀ p, p < 2 + n → a = Int32.ofNat p → P 1 c) (h0 : ¬ (0 ≤ a.toInt ∧ a.toInt < (2 + n : Nat)) → P 0 c) : wX3_hasPlace a c P := by
  have hi2 : (2 : Int32).toInt = 2 := rfl
  have g1 := ti_lo a
  have g2 := ti_hi a
  refine ⟨fun q => h1 0 (by omega) q, fun q => ⟨fun q2 => h1 1 (by omega) q2, fun q2 => c3_hasRoom h8 hn (fun i hi e => ⟨fun q3 => absurd q3 (by decide), fun _ => h1 (i + 2) (by omega) ?_⟩) (fun q3 => ⟨fun _ => h0 ?_, fun q4 => absurd rfl q4⟩)⟩⟩
  · rw [← nn_a, ← e]
    exact (Int32.sub_add_cancel a 2).symm
  · intro q4
    have n0 : ¬ a.toInt = 0 := fun e => q (Int32.toInt_inj.mp e)
    have n1 : ¬ a.toInt = 1 := fun e => q2 (Int32.toInt_inj.mp e)
    rw [ti_sub (by rw [hi2]; omega) (by rw [hi2]; omega), hi2] at q3
    omega
theorem z10 : ¬ (1 : Int32) = 0 := by decide
theorem vin_of {L : Nat} {v : Int32} (h1 : 0 ≤ v.toInt) (h2 : v.toInt + 5 ≤ L) (hL : L ≤ 2560) {d : Int32} (d1 : 0 ≤ d.toInt) (d2 : d.toInt ≤ 4) : vp_in (v + d) L := by
  rw [vpi, ti_add (by omega) (by omega)]
  omega
