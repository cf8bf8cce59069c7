/-! division rounded down -/
theorem tm_facts (a b : Int) (hb : 0 < b) : a = b * a.tdiv b + a.tmod b ∧ a.tmod b < b ∧ -b < a.tmod b ∧ (0 ≤ a → 0 ≤ a.tmod b) ∧ (a ≤ 0 → a.tmod b ≤ 0) := by
  have e := Int.mul_tdiv_add_tmod a b
  refine ⟨by omega, Int.tmod_lt_of_pos a hb, ?_, fun h => Int.tmod_nonneg b h, fun h => ?_⟩
  · have h1 := Int.tmod_lt_of_pos (-a) hb
    rw [Int.neg_tmod] at h1
    omega
  · have h1 := Int.tmod_nonneg b (by omega : 0 ≤ -a)
    rw [Int.neg_tmod] at h1
    omega
theorem ediv_t (a b : Int) (hb : 0 < b) : a / b = if 0 ≤ a.tmod b then a.tdiv b else a.tdiv b - 1 := by
  obtain ⟨h1, h2, h3, -, -⟩ := tm_facts a b hb
  by_cases h : 0 ≤ a.tmod b
  · rw [if_pos h]
    refine Int.le_antisymm ?_ ?_
    · refine Int.lt_add_one_iff.mp (Int.ediv_lt_of_lt_mul hb ?_)
      rw [Int.add_mul, Int.mul_comm]
      omega
    · refine (Int.le_ediv_iff_mul_le hb).mpr ?_
      rw [Int.mul_comm]
      omega
  · rw [if_neg h]
    refine Int.le_antisymm ?_ ?_
    · refine Int.lt_add_one_iff.mp (Int.ediv_lt_of_lt_mul hb ?_)
      rw [Int.sub_add_cancel, Int.mul_comm]
      omega
    · refine (Int.le_ediv_iff_mul_le hb).mpr ?_
      rw [Int.sub_mul, Int.mul_comm]
      omega
theorem ti_mulq {a b : Int32} (hb : 0 < b.toInt) : (a / b * b).toInt = a.toInt - a.toInt.tmod b.toInt := by
  obtain ⟨h1, h2, h3, h4, h5⟩ := tm_facts a.toInt b.toInt hb
  have g1 := ti_lo a
  have g2 := ti_hi a
  have e : (a / b).toInt * b.toInt = a.toInt - a.toInt.tmod b.toInt := by
    rw [ti_div hb, Int.mul_comm]
    omega
  have hr : -2147483648 ≤ a.toInt - a.toInt.tmod b.toInt ∧ a.toInt - a.toInt.tmod b.toInt < 2147483648 := by
    have m1 : 0 ≤ a.toInt → a.toInt.tmod b.toInt ≤ a.toInt := fun h => by
      have := Int.mul_nonneg (Int.le_of_lt hb) (Int.tdiv_nonneg h (Int.le_of_lt hb))
      omega
    have m2 : a.toInt ≤ 0 → a.toInt ≤ a.toInt.tmod b.toInt := fun h => by
      have := Int.mul_nonneg (Int.le_of_lt hb) (Int.tdiv_nonneg (by omega : 0 ≤ -a.toInt) (Int.le_of_lt hb))
      rw [Int.neg_tdiv, Int.mul_neg] at this
      omega
    omega
  rw [ti_mul (by omega) (by omega), e]
theorem ti_rem {a b : Int32} (hb : 0 < b.toInt) : (a - a / b * b).toInt = a.toInt.tmod b.toInt := by
  have h := ti_mulq (a := a) hb
  obtain ⟨-, h2, h3, -, -⟩ := tm_facts a.toInt b.toInt hb
  have g1 := ti_lo b
  have g2 := ti_hi b
  rw [ti_sub (by omega) (by omega), h]
  omega
/-- the model's quotient -/
def dn (v by1 : Int32) : Int32 := if 0 ≤ v - v / by1 * by1 then v / by1 else v / by1 - 1
theorem ti_dn {a b : Int32} (hb : 0 < b.toInt) : (dn a b).toInt = a.toInt / b.toInt := by
  obtain ⟨h1, h2, h3, h4, h5⟩ := tm_facts a.toInt b.toInt hb
  have g1 := ti_lo a
  have g2 := ti_hi a
  have hz : (0 : Int32).toInt = 0 := rfl
  have h1i : (1 : Int32).toInt = 1 := rfl
  unfold dn
  rw [ediv_t _ _ hb]
  by_cases h : 0 ≤ a.toInt.tmod b.toInt
  · rw [if_pos (by rw [Int32.le_iff_toInt_le, ti_rem hb, hz]; exact h), if_pos h, ti_div hb]
  · rw [if_neg (by rw [Int32.le_iff_toInt_le, ti_rem hb, hz]; exact h), if_neg h]
    have ha : a.toInt < 0 := by
      rcases Int.lt_or_le a.toInt 0 with q | q
      · exact q
      · exact absurd (h4 q) h
    have hq : -2147483648 < (a / b).toInt := by
      rw [ti_div hb]
      have q1 : -a.toInt.tdiv b.toInt = (-a.toInt).tdiv b.toInt := by rw [Int.neg_tdiv]
      have q2 := Int.tdiv_le_self b.toInt (by omega : 0 ≤ -a.toInt)
      have q3 : b.toInt * a.toInt.tdiv b.toInt = a.toInt - a.toInt.tmod b.toInt := by omega
      rcases Int.lt_or_le (-2147483648) (a.toInt.tdiv b.toInt) with q | q
      · exact q
      · have q4 : b.toInt * a.toInt.tdiv b.toInt ≤ b.toInt * (-2147483648) := Int.mul_le_mul_of_nonneg_left q (Int.le_of_lt hb)
        have q5 : b.toInt * (-2147483648) ≤ 1 * (-2147483648) := Int.mul_le_mul_of_nonpos_right (by omega) (by omega)
        omega
    have hq2 := ti_hi (a / b)
    rw [ti_sub (by omega) (by omega), ti_div hb, h1i]
theorem xor_sgn {a b : Int32} (hb : 0 < b.toInt) : 0 ≤ (a ^^^ b) ↔ 0 ≤ a.toInt := by
  have key : ∀ x : Int32, decide (x.toInt < 0) = x.toBitVec.msb := fun x => (BitVec.msb_eq_toInt (x := x.toBitVec)).symm
  have e : (a ^^^ b).toBitVec.msb = (a.toBitVec.msb ^^ b.toBitVec.msb) := by rw [Int32.toBitVec_xor, BitVec.msb_xor]
  have hb2 : b.toBitVec.msb = false := by rw [← key b]; exact decide_eq_false (by omega)
  rw [hb2, Bool.xor_false, ← key a, ← key (a ^^^ b), decide_eq_decide] at e
  rw [Int32.le_iff_toInt_le, show (0 : Int32).toInt = 0 from rfl]
  omega
theorem s_floorDiv {a b : Int32} {P : Int32 → Prop} (hb : 0 < b.toInt) (h : P (dn a b)) : wJ9_floorDiv_7cf53 a b P := by
  have h0 : ¬ b = 0 := fun e => by rw [e] at hb; exact absurd hb (by decide)
  obtain ⟨h1, h2, h3, h4, h5⟩ := tm_facts a.toInt b.toInt hb
  have hz : (0 : Int32).toInt = 0 := rfl
  unfold dn at h
  refine ⟨h0, fun q => ?_, fun q => ⟨fun q2 => ?_, fun q2 => ?_⟩⟩
  · rw [if_pos (by rw [Int32.le_iff_toInt_le, ti_rem hb, hz]; exact h4 ((xor_sgn hb).mp q))] at h; exact h
  · rw [if_pos (by rw [q2, Int32.sub_self]; exact Int32.le_refl 0)] at h; exact h
  · rw [if_neg ?_] at h; exact h
    intro q3
    have ha : ¬ 0 ≤ a.toInt := fun q4 => q ((xor_sgn hb).mpr q4)
    rw [Int32.le_iff_toInt_le, ti_rem hb, hz] at q3
    have q5 : a.toInt.tmod b.toInt = 0 := by have := h5 (by omega); omega
    exact q2 (Int32.toInt_inj.mp (by rw [ti_mulq hb, q5]; omega))
