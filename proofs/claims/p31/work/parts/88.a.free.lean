/-! what the loop should have, the target -/
def wishv (m : Row) : Int32 := 20 + m 13 * (20 - m 2) / 10
def wishf (m : Row) : Int32 := if m 2 < 20 then (if wishv m ≤ 70 then wishv m else 70) else 20
def freed (m : Row) : Int32 := wishf m - degf m 1
def freef (m : Row) : Int32 := if 0 < freed m then (if freed m ≤ 10 then 10 * freed m else 100) else 0
abbrev Mild (m : Row) : Prop := -20 ≤ (m 2).toInt ∧ (m 2).toInt ≤ 40 ∧ 0 ≤ (m 13).toInt ∧ (m 13).toInt ≤ 30
theorem i20 : (20 : Int32).toInt = 20 := rfl
theorem i10 : (10 : Int32).toInt = 10 := rfl
theorem i70 : (70 : Int32).toInt = 70 := rfl
theorem i100 : (100 : Int32).toInt = 100 := rfl
theorem i0 : (0 : Int32).toInt = 0 := rfl
theorem i1 : (1 : Int32).toInt = 1 := rfl
theorem wish_b {m : Row} (h : Mild m) : 20 ≤ (wishf m).toInt ∧ (wishf m).toInt ≤ 70 := by
  obtain ⟨h1, h2, h3, h4⟩ := h
  unfold wishf
  by_cases g : m 2 < 20
  · rw [if_pos g]
    rw [Int32.lt_iff_toInt_lt, i20] at g
    have e1 : (20 - m 2).toInt = 20 - (m 2).toInt := ti_sub (by rw [i20]; omega) (by rw [i20]; omega)
    have p1 : 0 ≤ (m 13).toInt * (20 - (m 2).toInt) := Int.mul_nonneg h3 (by omega)
    have p2 : (m 13).toInt * (20 - (m 2).toInt) ≤ 30 * 40 := Int.mul_le_mul h4 (by omega) (by omega) (by decide)
    have e2 : (m 13 * (20 - m 2)).toInt = (m 13).toInt * (20 - (m 2).toInt) := by rw [ti_mul (by rw [e1]; omega) (by rw [e1]; omega), e1]
    have e3 : (m 13 * (20 - m 2) / 10).toInt = ((m 13).toInt * (20 - (m 2).toInt)) / 10 := by
      rw [ti_div (by decide), e2, i10, Int.tdiv_eq_ediv_of_nonneg p1]
    have e4 : (wishv m).toInt = 20 + ((m 13).toInt * (20 - (m 2).toInt)) / 10 := by
      unfold wishv
      rw [ti_add (by rw [e3, i20]; omega) (by rw [e3, i20]; omega), e3, i20]
    by_cases g2 : wishv m ≤ 70
    · rw [if_pos g2]
      rw [Int32.le_iff_toInt_le, i70] at g2
      omega
    · rw [if_neg g2, i70]
      omega
  · rw [if_neg g, i20]
    omega
theorem deg1_b (m : Row) : -40000000 ≤ (degf m 1).toInt ∧ (degf m 1).toInt ≤ 40000000 := by
  unfold degf
  rw [ti_dn (cap1 m)]
  show -40000000 ≤ (m 19).toInt / (60 : Int32).toInt ∧ (m 19).toInt / (60 : Int32).toInt ≤ 40000000
  rw [show (60 : Int32).toInt = 60 from rfl]
  have h1 := ti_lo (m 19)
  have h2 := ti_hi (m 19)
  omega
theorem free_e {d : Int32} (h1 : -200000000 ≤ d.toInt) (h2 : d.toInt ≤ 200000000) : (if 0 < (if 10 * d < 100 then 10 * d else 100) then (if 10 * d < 100 then 10 * d else 100) else 0) = (if 0 < d then (if d ≤ 10 then 10 * d else 100) else 0) := by
  have e : (10 * d).toInt = 10 * d.toInt := ti_mul (by rw [i10]; omega) (by rw [i10]; omega)
  by_cases a : 10 * d < 100
  · rw [if_pos a]
    rw [Int32.lt_iff_toInt_lt, e, i100] at a
    by_cases b : 0 < 10 * d
    · rw [if_pos b]
      rw [Int32.lt_iff_toInt_lt, e, i0] at b
      rw [if_pos (by rw [Int32.lt_iff_toInt_lt, i0]; omega), if_pos (by rw [Int32.le_iff_toInt_le, i10]; omega)]
    · rw [if_neg b]
      rw [Int32.lt_iff_toInt_lt, e, i0] at b
      rw [if_neg (by rw [Int32.lt_iff_toInt_lt, i0]; omega)]
  · rw [if_neg a, if_pos (by decide)]
    rw [Int32.lt_iff_toInt_lt, e, i100] at a
    rw [if_pos (by rw [Int32.lt_iff_toInt_lt, i0]; omega)]
    by_cases b : d ≤ 10
    · rw [if_pos b]
      rw [Int32.le_iff_toInt_le, i10] at b
      exact Int32.toInt_inj.mp (by rw [e, i100]; omega)
    · rw [if_neg b]
theorem min_e (v x : Int32) : (if v < x then v else x) = (if v ≤ x then v else x) := by
  by_cases a : v ≤ x
  · rw [if_pos a]
    by_cases b : v < x
    · rw [if_pos b]
    · rw [if_neg b]
      rw [Int32.le_iff_toInt_le] at a
      rw [Int32.lt_iff_toInt_lt] at b
      exact Int32.toInt_inj.mp (by omega)
  · rw [if_neg a, if_neg (fun b => a (by rw [Int32.le_iff_toInt_le]; rw [Int32.lt_iff_toInt_lt] at b; omega))]
theorem s3_loopShouldHave {n w : Nat} {c : Reg} {m : Row} {P : Int32 → Reg → Prop} (R : Rel n w c m) (h : P (wishf m) c) : wX3_loopShouldHave c P := by
  have r1 : c 0 1 = m 2 := R.1.2.1
  unfold wishf at h
  refine ⟨fun q => s3_settingOf (k := 4) R (by decide) ?_, fun q => ?_⟩
  · rw [r1] at q
    rw [if_pos q] at h
    rw [r1, min_e]
    exact h
  · rw [r1] at q
    rw [if_neg q] at h
    exact h
theorem s3_freeTarget {n w : Nat} {c : Reg} {m : Row} {P : Int32 → Reg → Prop} (R : Rel n w c m) (hn : n ≤ 6) (hM : Mild m) (h : P (freef m) c) : wX3_freeTarget c P := by
  refine s3_loopShouldHave R (s3_degrees (p := 1) R hn (by omega) (cap1 m) ?_)
  have b1 := wish_b hM
  have b2 := deg1_b m
  have e : (wishf m - degf m 1).toInt = (wishf m).toInt - (degf m 1).toInt := ti_sub (by omega) (by omega)
  rw [free_e (by rw [e]; omega) (by rw [e]; omega)]
  exact h
