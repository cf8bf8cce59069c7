/-! rows of the model -/
abbrev Row : Type := Nat → Int32
theorem nn_le {a b : Nat} (ha : a < 2147483648) (hb : b < 2147483648) : Int32.ofNat a ≤ Int32.ofNat b ↔ a ≤ b := by
  rw [Int32.le_iff_toInt_le, ti_nat ha, ti_nat hb]
  omega
theorem nn_lt {a b : Nat} (ha : a < 2147483648) (hb : b < 2147483648) : Int32.ofNat a < Int32.ofNat b ↔ a < b := by
  rw [Int32.lt_iff_toInt_lt, ti_nat ha, ti_nat hb]
  omega
theorem nn_eq {a b : Nat} (ha : a < 2147483648) (hb : b < 2147483648) : Int32.ofNat a = Int32.ofNat b ↔ a = b := by
  rw [← Int32.toInt_inj, ti_nat ha, ti_nat hb]
  omega
theorem nn_s (a : Nat) : Int32.ofNat a + 1 = Int32.ofNat (a + 1) := (Int32.ofNat_add a 1).symm
theorem nn_a (a b : Nat) : Int32.ofNat a + Int32.ofNat b = Int32.ofNat (a + b) := (Int32.ofNat_add a b).symm
theorem nn_m (a b : Nat) : Int32.ofNat a * Int32.ofNat b = Int32.ofNat (a * b) := (Int32.ofNat_mul a b).symm
theorem nn_in {a n : Nat} (ha : a < 2147483648) (h : a < n) : vp_in (Int32.ofNat a) n := by
  rw [vpi, ti_nat ha]
  omega
/-- place of a room's number -/
theorem ix_cell (i q : Nat) : (26 : Int32) + 8 * Int32.ofNat i + Int32.ofNat q = Int32.ofNat (26 + 8 * i + q) := by
  rw [show (26 : Int32) = Int32.ofNat 26 from rfl, show (8 : Int32) = Int32.ofNat 8 from rfl, nn_m, nn_a, nn_a]
theorem ix_heat (p : Nat) : (18 : Int32) + Int32.ofNat p = Int32.ofNat (18 + p) := by
  rw [show (18 : Int32) = Int32.ofNat 18 from rfl, nn_a]
theorem ix_code (k : Nat) : (75 : Int32) + 2 * Int32.ofNat k = Int32.ofNat (75 + 2 * k) := by
  rw [show (75 : Int32) = Int32.ofNat 75 from rfl, show (2 : Int32) = Int32.ofNat 2 from rfl, nn_m, nn_a]
theorem ix_sum (k : Nat) : (76 : Int32) + 2 * Int32.ofNat k = Int32.ofNat (76 + 2 * k) := by
  rw [show (76 : Int32) = Int32.ofNat 76 from rfl, show (2 : Int32) = Int32.ofNat 2 from rfl, nn_m, nn_a]
theorem ix_set (k : Nat) : (9 : Int32) + Int32.ofNat k = Int32.ofNat (9 + k) := by
  rw [show (9 : Int32) = Int32.ofNat 9 from rfl, nn_a]
/-- the capacity of a place -/
def capf (m : Row) (p : Nat) : Int32 := if p = 0 then 40 else if p = 1 then 60 else 10 * m (26 + 8 * (p - 2))
def degf (m : Row) (p : Nat) : Int32 := dn (m (18 + p)) (capf m p)
/-- the last way with a code, of the first n -/
def lastw (m : Row) (a : Int32) : Nat → Int32
  | 0 => -99999
  | n + 1 => if m (75 + 2 * n) = a then Int32.ofNat n else lastw m a n
