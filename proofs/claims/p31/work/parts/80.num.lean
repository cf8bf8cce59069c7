/-! numbers -/
theorem bm32 {x : Int} (h1 : -2147483648 ≤ x) (h2 : x < 2147483648) : x.bmod (2 ^ 32) = x := by
  rw [Int.bmod_eq_of_le] <;> omega
theorem ti_add {a b : Int32} (h1 : -2147483648 ≤ a.toInt + b.toInt) (h2 : a.toInt + b.toInt < 2147483648) : (a + b).toInt = a.toInt + b.toInt := by
  rw [Int32.toInt_add, bm32 h1 h2]
theorem ti_sub {a b : Int32} (h1 : -2147483648 ≤ a.toInt - b.toInt) (h2 : a.toInt - b.toInt < 2147483648) : (a - b).toInt = a.toInt - b.toInt := by
  rw [Int32.toInt_sub, bm32 h1 h2]
theorem ti_mul {a b : Int32} (h1 : -2147483648 ≤ a.toInt * b.toInt) (h2 : a.toInt * b.toInt < 2147483648) : (a * b).toInt = a.toInt * b.toInt := by
  rw [Int32.toInt_mul, bm32 h1 h2]
theorem ti_neg {a : Int32} (h1 : -2147483648 < a.toInt) : (-a).toInt = -a.toInt := by
  have h2 := Int32.toInt_lt a
  rw [Int32.toInt_neg, bm32 (by omega) (by omega)]
theorem ti_lo (a : Int32) : -2147483648 ≤ a.toInt := Int32.le_toInt a
theorem ti_hi (a : Int32) : a.toInt < 2147483648 := Int32.toInt_lt a
theorem ti_div {a b : Int32} (hb : 0 < b.toInt) : (a / b).toInt = a.toInt.tdiv b.toInt := by
  have h1 := ti_lo a
  have h2 := ti_hi a
  have h3 : -(2147483648 : Int) ≤ a.toInt.tdiv b.toInt ∧ a.toInt.tdiv b.toInt < 2147483648 := by
    rcases Int.le_total 0 a.toInt with h | h
    · have e1 := Int.tdiv_nonneg h (Int.le_of_lt hb)
      have e2 := Int.tdiv_le_self b.toInt h
      omega
    · have e0 : a.toInt.tdiv b.toInt = -((-a.toInt).tdiv b.toInt) := by rw [Int.neg_tdiv]; omega
      have e1 := Int.tdiv_nonneg (by omega : 0 ≤ -a.toInt) (Int.le_of_lt hb)
      have e2 := Int.tdiv_le_self b.toInt (by omega : 0 ≤ -a.toInt)
      omega
  rw [Int32.toInt_div, bm32 h3.1 h3.2]
theorem ti_nat {n : Nat} (h : n < 2147483648) : (Int32.ofNat n).toInt = n := Int32.toInt_ofNat_of_lt h
theorem tn_nat {n : Nat} (h : n < 2147483648) : (Int32.ofNat n).toNatClampNeg = n := by
  show (Int32.ofNat n).toInt.toNat = n
  rw [ti_nat h]
  rfl
theorem tn_int (a : Int32) : a.toNatClampNeg = a.toInt.toNat := rfl
theorem vpi {x : Int32} {n : Nat} : vp_in x n ↔ 0 ≤ x.toInt ∧ x.toInt < n := by
  show ¬ (x < 0 ∨ n ≤ x.toNatClampNeg) ↔ _
  rw [Int32.lt_iff_toInt_lt, tn_int]
  have : (0 : Int32).toInt = 0 := rfl
  omega
theorem ofNat_of {x : Int32} {n : Nat} (h : x.toInt = n) : x = Int32.ofNat n := by
  have := ti_hi x
  exact Int32.toInt_inj.mp (by rw [h, ti_nat (by omega)])
theorem lit_int (n : Nat) (h : n < 2147483648 := by decide) : (OfNat.ofNat n : Int32).toInt = n := ti_nat h
