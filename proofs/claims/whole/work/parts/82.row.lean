/-! rows of the model -/
abbrev Row : Type := Nat → Int32
theorem nn_le {a b : Nat} (ha : a < 2147483648) (hb : b < 2147483648) : Int32.ofNat a ≤ Int32.ofNat b ↔ a ≤ b := by
  rw [Int32.le_iff_toInt_le, ti_nat ha, ti_nat hb]
  omega
theorem nn_lt {a b : Nat} (ha : a < 2147483648) (hb : b < 2147483648) : Int32.ofNat a < Int32.ofNat b ↔ a < b := by
  rw [Int32.lt_iff_toInt_lt, ti_nat ha, ti_nat hb]
  omega
theorem nn_eq {a b : Nat} (ha : a < 2147483648) (hb : b < 2147483648) : Int32.ofNat a = Int32.ofNat b ↔ a = b := by
  rw [← Int32.toInt_inj, ti_nat ha, ti_nat hb]
  omega
theorem nn_s (a : Nat) : Int32.ofNat a + 1 = Int32.ofNat (a + 1) := (Int32.ofNat_add a 1).symm
theorem nn_a (a b : Nat) : Int32.ofNat a + Int32.ofNat b = Int32.ofNat (a + b) := (Int32.ofNat_add a b).symm
theorem nn_m (a b : Nat) : Int32.ofNat a * Int32.ofNat b = Int32.ofNat (a * b) := (Int32.ofNat_mul a b).symm
theorem nn_in {a n : Nat} (ha : a < 2147483648) (h : a < n) : vp_in (Int32.ofNat a) n := by
  rw [vpi, ti_nat ha]
  omega
/-- place of a room's number -/
theorem ix_cell (i q : Nat) : (26 : Int32) + 8 * Int32.ofNat i + Int32.ofNat q = Int32.ofNat (26 + 8 * i + q) := by
  rw [show (26 : Int32) = Int32.ofNat 26 from rfl, show (8 : Int32) = Int32.ofNat 8 from rfl, nn_m, nn_a, nn_a]
theorem ix_heat (p : Nat) : (18 : Int32) + Int32.ofNat p = Int32.ofNat (18 + p) := by
  rw [show (18 : Int32) = Int32.ofNat 18 from rfl, nn_a]
theorem ix_code (k : Nat) : (75 : Int32) + 2 * Int32.ofNat k = Int32.ofNat (75 + 2 * k) := by
  rw [show (75 : Int32) = Int32.ofNat 75 from rfl, show (2 : Int32) = Int32.ofNat 2 from rfl, nn_m, nn_a]
theorem ix_sum (k : Nat) : (76 : Int32) + 2 * Int32.ofNat k = Int32.ofNat (76 + 2 * k) := by
  rw [show (76 : Int32) = Int32.ofNat 76 from rfl, show (2 : Int32) = Int32.ofNat 2 from rfl, nn_m, nn_a]
theorem ix_set (k : Nat) : (9 : Int32) + Int32.ofNat k = Int32.ofNat (9 + k) := by
  rw [show (9 : Int32) = Int32.ofNat 9 from rfl, nn_a]
/-- the capacity of a place -/
def capf (m : Row) (p : Nat) : Int32 := if p = 0 then 40 else if p = 1 then 60 else 10 * m (26 + 8 * (p - 2))
def degf (m : Row) (p : Nat) : Int32 := dn (m (18 + p)) (capf m p)
theorem s6_capacity {j p : Nat} {c : Reg} {P : Int32 → Reg → Prop} (hp : p < 8) (h : P (capf (c j) p) c) : wX6_capacity j (Int32.ofNat p) c P := by
  have e0 : Int32.ofNat p = 0 ↔ p = 0 := nn_eq (a := p) (b := 0) (by omega) (by omega)
  have e1 : Int32.ofNat p = 1 ↔ p = 1 := nn_eq (a := p) (b := 1) (by omega) (by omega)
  unfold capf at h
  refine ⟨fun q0 => ⟨fun q1 => ?_, fun q1 => ?_⟩, fun q0 => ?_⟩
  · have h0 : ¬ p = 0 := fun e => q0 (e0.mpr e)
    have h1 : ¬ p = 1 := fun e => q1 (e1.mpr e)
    rw [if_neg h0, if_neg h1] at h
    have e2 : Int32.ofNat p - 2 = Int32.ofNat (p - 2) := by
      have := nn_a (p - 2) 2
      rw [show p - 2 + 2 = p by omega] at this
      rw [← this, show (2 : Int32) = Int32.ofNat 2 from rfl, Int32.add_sub_cancel]
    show vp_in (26 + 8 * (Int32.ofNat p - 2) + Int32.ofNat 0) 128 ∧ P (10 * c j (26 + 8 * (Int32.ofNat p - 2) + Int32.ofNat 0).toNatClampNeg) c
    rw [e2, ix_cell, tn_nat (by omega)]
    exact ⟨nn_in (by omega) (by omega), h⟩
  · have h1 := e1.mp q1
    have h0 : ¬ p = 0 := by omega
    rw [if_neg h0, if_pos h1] at h
    exact h
  · rw [if_pos (e0.mp q0)] at h
    exact h
theorem s6_degrees {j p : Nat} {c : Reg} {P : Int32 → Reg → Prop} (hp : p < 8) (hc : 0 < (capf (c j) p).toInt) (h : P (degf (c j) p) c) : wX6_degrees j (Int32.ofNat p) c P := by
  show vp_in (18 + Int32.ofNat p) 128 ∧ wX6_capacity j (Int32.ofNat p) c _
  rw [ix_heat]
  refine ⟨nn_in (by omega) (by omega), s6_capacity hp (s_down hc ?_)⟩
  rw [tn_nat (by omega)]
  exact h
/-- the last way with a code, of the first n -/
def lastw (m : Row) (a : Int32) : Nat → Int32
  | 0 => -99999
  | n + 1 => if m (75 + 2 * n) = a then Int32.ofNat n else lastw m a n
theorem s6_wayOf {j n : Nat} {a1 a2 : Int32} {c : Reg} {P : Int32 → Reg → Prop} (hn : n ≤ 26) (hc : c j 74 = Int32.ofNat n) (h : P (lastw (c j) (10 * a1 + a2) n) c) : wX6_wayOf j a1 a2 c P := by
  have key : ∀ (r k : Nat), k + r = n → wX6_wayOf_L6 j a1 a2 P (r + 1) (lastw (c j) (10 * a1 + a2) k) (Int32.ofNat k) c := by
    intro r
    induction r with
    | zero =>
      intro k hk
      have hk : k = n := hk
      subst hk
      exact ⟨fun _ => h, fun q => absurd (by rw [hc]; exact Int32.le_refl _) q⟩
    | succ r ih =>
      intro k hk
      refine ⟨fun q => ?_, fun _ => ?_⟩
      · rw [hc, nn_le (by omega) (by omega)] at q
        omega
      · have hs := ih (k + 1) (by omega)
        rw [ix_code, tn_nat (by omega), nn_s]
        refine ⟨nn_in (by omega) (by omega), fun q => ?_, fun q => ?_⟩
        · simp only [lastw, if_neg q] at hs
          exact hs
        · simp only [lastw, if_pos q] at hs
          exact hs
  exact ⟨n + 1, key n 0 (by omega)⟩
