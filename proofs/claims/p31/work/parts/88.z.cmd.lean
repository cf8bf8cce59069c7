/-! commands of a script -/
theorem nn_div2 {a b : Nat} (ha : a < 2147483648) (hb0 : 0 < b) (hb : b < 2147483648) : Int32.ofNat a / Int32.ofNat b = Int32.ofNat (a / b) := by
  have h1 : a / b ≤ a := Nat.div_le_self a b
  refine Int32.toInt_inj.mp ?_
  rw [nn_div (by rw [ti_nat ha]; omega) (by rw [ti_nat hb]; omega), ti_nat ha, ti_nat hb, ti_nat (by omega)]
  rfl
theorem nn_rem2 {a b : Nat} (ha : a < 2147483648) (hb0 : 0 < b) (hb : b < 2147483648) : Int32.ofNat a - Int32.ofNat a / Int32.ofNat b * Int32.ofNat b = Int32.ofNat (a % b) := by
  have h1 : a % b < b := Nat.mod_lt a hb0
  refine Int32.toInt_inj.mp ?_
  rw [nn_rem (by rw [ti_nat ha]; omega) (by rw [ti_nat hb]; omega), ti_nat ha, ti_nat hb, ti_nat (by omega)]
  rfl
theorem gK {G : Nat} (h : G < 10000) : Int32.ofNat G / 1000 = Int32.ofNat (G / 1000) := nn_div2 (b := 1000) (by omega) (by decide) (by decide)
theorem gS {G : Nat} (h : G < 10000) : (Int32.ofNat G / 100) - (Int32.ofNat G / 100) / 10 * 10 = Int32.ofNat (G / 100 % 10) := by
  rw [show Int32.ofNat G / 100 = Int32.ofNat (G / 100) from nn_div2 (b := 100) (by omega) (by decide) (by decide)]
  exact nn_rem2 (b := 10) (by omega) (by decide) (by decide)
theorem gX {G : Nat} (h : G < 10000) : Int32.ofNat G - Int32.ofNat G / 100 * 100 = Int32.ofNat (G % 100) := nn_rem2 (b := 100) (by omega) (by decide) (by decide)
theorem gT {G : Nat} (h : G < 10000) : (Int32.ofNat G / 10) - (Int32.ofNat G / 10) / 10 * 10 = Int32.ofNat (G % 100 / 10) := by
  rw [show Int32.ofNat G / 10 = Int32.ofNat (G / 10) from nn_div2 (b := 10) (by omega) (by decide) (by decide), show G % 100 / 10 = G / 10 % 10 by omega]
  exact nn_rem2 (b := 10) (by omega) (by decide) (by decide)
theorem gU {G : Nat} (h : G < 10000) : Int32.ofNat G - Int32.ofNat G / 10 * 10 = Int32.ofNat (G % 100 % 10) := by
  rw [show G % 100 % 10 = G % 10 by omega]
  exact nn_rem2 (b := 10) (by omega) (by decide) (by decide)
theorem gB {G : Nat} : (10 : Int32) * Int32.ofNat (G % 100 / 10) + Int32.ofNat (G % 100 % 10) = Int32.ofNat (G % 100) := by
  rw [show (10 : Int32) = Int32.ofNat 10 from rfl, nn_m, nn_a, show 10 * (G % 100 / 10) + G % 100 % 10 = G % 100 by omega]
def cOk (n : Nat) (m : Row) (k s x : Nat) : Prop := match k with
  | 1 => s = 0 ∧ 1 ≤ x ∧ x ≤ 60
  | 2 => s ≤ 1 ∧ x ≤ (if s = 0 then 40 else 20)
  | 3 => s < 9 ∧ SetOk s (Int32.ofNat x)
  | 4 => s < n ∧ x ≤ 1
  | 5 => s < n ∧ 10 ≤ x ∧ x ≤ 25
  | 6 => s < 2 + n ∧ ¬ degf m s < Int32.ofNat x
  | 7 => s = 0 ∧ ¬ m 5 < Int32.ofNat x
  | 8 => s < n ∧ ¬ m (31 + 8 * s) < Int32.ofNat x
  | 9 => s = 0 ∧ x ≤ 1 ∧ m 3 = Int32.ofNat x
  | _ => False
def cRow (n : Nat) (m : Row) (k s x : Nat) : Row := match k with
  | 1 => mns n m x
  | 2 => upd m 2 (if s = 0 then Int32.ofNat x else -Int32.ofNat x)
  | 3 => upd m (9 + s) (Int32.ofNat x)
  | 4 => upd m (30 + 8 * s) (Int32.ofNat x)
  | 5 => upd m (27 + 8 * s) (Int32.ofNat x)
  | _ => m
theorem x0_iff {x : Nat} (hx : x < 100) : Int32.ofNat x = 0 ↔ x = 0 := nn_eq (b := 0) (by omega) (by omega)
theorem x1_iff {x : Nat} (hx : x < 100) : Int32.ofNat x = 1 ↔ x = 1 := nn_eq (b := 1) (by omega) (by omega)
theorem neg_x {x : Nat} (hx : x < 100) : (-Int32.ofNat x).toInt = -(x : Int) := by
  rw [ti_neg (by rw [ti_nat (by omega)]; omega), ti_nat (by omega)]
theorem Inv.cmd {n T k s x : Nat} {m : Row} (I : Inv n T m) (hT : T + 60 ≤ 1000000) (hs : s < 10) (hx : x < 100) (h : cOk n m k s x) : Inv n (T + 60) (cRow n m k s x) := by
  match k, h with
  | 1, h =>
    have h : s = 0 ∧ 1 ≤ x ∧ x ≤ 60 := h
    exact (I.mns x (by omega)).mono (by omega)
  | 2, h =>
    have h : s ≤ 1 ∧ x ≤ (if s = 0 then 40 else 20) := h
    show Inv n (T + 60) (upd m 2 (if s = 0 then Int32.ofNat x else -Int32.ofNat x))
    by_cases e : s = 0
    · rw [if_pos e] at h ⊢
      exact (I.out (by rw [ti_nat (by omega)]; omega) (by rw [ti_nat (by omega)]; omega)).mono (by omega)
    · rw [if_neg e] at h ⊢
      exact (I.out (by rw [neg_x hx]; omega) (by rw [neg_x hx]; omega)).mono (by omega)
  | 3, h =>
    have h : s < 9 ∧ SetOk s (Int32.ofNat x) := h
    exact (I.set h.1 h.2).mono (by omega)
  | 4, h =>
    have h : s < n ∧ x ≤ 1 := h
    refine (I.win h.1 ?_).mono (by omega)
    rcases (by omega : x = 0 ∨ x = 1) with e | e <;> subst e
    · exact Or.inl rfl
    · exact Or.inr rfl
  | 5, h =>
    have h : s < n ∧ 10 ≤ x ∧ x ≤ 25 := h
    exact (I.cell (q := 0) h.1 (by decide)).mono (by omega)
  | 6, h => exact I.mono (by omega)
  | 7, h => exact I.mono (by omega)
  | 8, h => exact I.mono (by omega)
  | 9, h => exact I.mono (by omega)
  | 0, h => exact False.elim h
  | k + 10, h => exact False.elim h
theorem c5_wcmd {n s : Nat} {b : Int32} {M2 : Mem} {m : Row} {P : Int32 → Mem → Prop} (R : RlM n (M2 1) m) (hn : n ≤ 6) (hs : s < 10) (hb : b = 0 ∨ b = 1) (h1 : s < n → ∀ M3 : Mem, (∀ j, j ≠ 1 → M3 j = M2 j) → RlM n (M3 1) (upd m (30 + 8 * s) b) → P 1 M3) (h0 : ¬ s < n → P 0 M2) : wX5_windowCommand (Int32.ofNat s) b M2 P := by
  refine c3_hasRoom R.rooms hn (fun i hi e => ⟨fun _ => ?_, fun q => absurd q z10⟩) (fun q => ⟨fun q2 => absurd rfl q2, fun _ => ?_⟩)
  · have e2 := (nn_eq (by omega) (by omega)).mp e
    subst e2
    rw [va_ue]
    refine c3_turnWindow R hn hi hb (fun c' R' => h1 hi _ (fun j hj => va_un _ _ hj) (by rw [va_us]; exact R'))
  · rw [va_ue]
    exact h0 (fun q2 => q (ti_ok q2 (by omega)))
theorem k5_cmd {n T G : Nat} {M2 : Mem} {m : Row} {P : Int32 → Mem → Prop} (I : Inv n T m) (R : RlM n (M2 1) m) (hT : T + 60 ≤ 1000000) (hG : G < 10000) (h1 : cOk n m (G / 1000) (G / 100 % 10) (G % 100) → ∀ M3 : Mem, (∀ j, j ≠ 1 → M3 j = M2 j) → RlM n (M3 1) (cRow n m (G / 1000) (G / 100 % 10) (G % 100)) → P 1 M3) (h0 : ¬ cOk n m (G / 1000) (G / 100 % 10) (G % 100) → ∀ M3 : Mem, (∀ j, j ≠ 1 → M3 j = M2 j) → P 0 M3) : wX5_commandSucceeds (Int32.ofNat G) M2 P := by
  have hn := I.1.1
  have hs : G / 100 % 10 < 10 := by omega
  have hx : G % 100 < 100 := by omega
  have hk : G / 1000 ≤ 9 := by omega
  have same : ∀ j, j ≠ 1 → M2 j = M2 j := fun _ _ => rfl
  unfold wX5_commandSucceeds
  rw [gK hG, gS hG, gX hG]
  generalize G / 1000 = k at hk h1 h0 ⊢
  generalize G / 100 % 10 = s at hs h1 h0 ⊢
  generalize G % 100 = x at hx h1 h0 ⊢
  have s0 := x0_iff (x := s) (by omega)
  rcases (by omega : k = 0 ∨ k = 1 ∨ k = 2 ∨ k = 3 ∨ k = 4 ∨ k = 5 ∨ k = 6 ∨ k = 7 ∨ k = 8 ∨ k = 9) with e | e | e | e | e | e | e | e | e | e <;> subst e
  · refine ⟨fun _ => ?_, fun q => absurd q (by decide), fun q => absurd q (by decide), fun q => absurd q (by decide), fun q => absurd q (by decide), fun q => absurd q (by decide), fun q => absurd q (by decide), fun q => absurd q (by decide), fun q => absurd q (by decide), fun q => absurd q (by decide)⟩
    exact h0 (fun q => q) M2 same
  · refine ⟨fun q => absurd q (by decide), fun _ => ?_, fun q => absurd q (by decide), fun q => absurd q (by decide), fun q => absurd q (by decide), fun q => absurd q (by decide), fun q => absurd q (by decide), fun q => absurd q (by decide), fun q => absurd q (by decide), fun q => absurd q (by decide)⟩
    replace h1 : (s = 0 ∧ 1 ≤ x ∧ x ≤ 60) → ∀ M3 : Mem, (∀ j, j ≠ 1 → M3 j = M2 j) → RlM n (M3 1) (mns n m x) → P 1 M3 := h1
    replace h0 : ¬ (s = 0 ∧ 1 ≤ x ∧ x ≤ 60) → ∀ M3 : Mem, (∀ j, j ≠ 1 → M3 j = M2 j) → P 0 M3 := h0
    refine ⟨fun q => h0 (fun g => q (s0.mpr g.1)) M2 same, fun q => c5_pass (fun g => ⟨fun _ => ?_, fun q2 => absurd q2 z10⟩) (fun g => ⟨fun q2 => absurd rfl q2, fun _ => h0 (fun g2 => g (by rw [ti_nat (by omega)]; omega)) M2 same⟩)⟩
    rw [ti_nat (by omega)] at g
    exact q3_advance I (by omega) R (fun c' R' => h1 ⟨s0.mp q, by omega, by omega⟩ _ (fun j hj => va_un _ _ hj) (by rw [va_us]; exact R'))
  · refine ⟨fun q => absurd q (by decide), fun q => absurd q (by decide), fun _ => ?_, fun q => absurd q (by decide), fun q => absurd q (by decide), fun q => absurd q (by decide), fun q => absurd q (by decide), fun q => absurd q (by decide), fun q => absurd q (by decide), fun q => absurd q (by decide)⟩
    replace h1 : (s ≤ 1 ∧ x ≤ (if s = 0 then 40 else 20)) → ∀ M3 : Mem, (∀ j, j ≠ 1 → M3 j = M2 j) → RlM n (M3 1) (upd m 2 (if s = 0 then Int32.ofNat x else -Int32.ofNat x)) → P 1 M3 := h1
    replace h0 : ¬ (s ≤ 1 ∧ x ≤ (if s = 0 then 40 else 20)) → ∀ M3 : Mem, (∀ j, j ≠ 1 → M3 j = M2 j) → P 0 M3 := h0
    refine ⟨fun q => h0 (fun g => ?_) M2 same, fun q => ⟨fun q2 => ?_, fun q2 => ?_⟩⟩
    · have := (nn_lt (a := 1) (by omega) (by omega)).mp q
      omega
    · have e0 : ¬ s = 0 := fun e => q2 (s0.mpr e)
      have e1 : s ≤ 1 := Nat.le_of_not_lt (fun g => q ((nn_lt (a := 1) (by omega) (by omega)).mpr g))
      rw [if_neg e0] at h0
      rw [if_neg e0, if_neg e0] at h1
      unfold wX5_commandSucceeds_L112 wX5_outsideCommand
      refine c5_outside (fun g => ⟨fun _ => ⟨fun q3 => absurd q3 z10, fun _ => ?_⟩, fun q3 => absurd q3 z10⟩) (fun g => ⟨fun q3 => absurd rfl q3, fun _ => ⟨fun _ => h0 (fun g2 => g (by rw [neg_x hx]; omega)) M2 same, fun q3 => absurd rfl q3⟩⟩)
      rw [neg_x hx] at g
      exact h1 ⟨e1, by omega⟩ _ (fun j hj => va_un _ _ hj) (by rw [va_us]; exact R.out hn)
    · have e0 : s = 0 := s0.mp q2
      rw [if_pos e0] at h0
      rw [if_pos e0, if_pos e0] at h1
      unfold wX5_commandSucceeds_L112 wX5_outsideCommand
      refine c5_outside (fun g => ⟨fun _ => ⟨fun q3 => absurd q3 z10, fun _ => ?_⟩, fun q3 => absurd q3 z10⟩) (fun g => ⟨fun q3 => absurd rfl q3, fun _ => ⟨fun _ => h0 (fun g2 => g (by rw [ti_nat (by omega)]; omega)) M2 same, fun q3 => absurd rfl q3⟩⟩)
      rw [ti_nat (by omega)] at g
      exact h1 ⟨by omega, by omega⟩ _ (fun j hj => va_un _ _ hj) (by rw [va_us]; exact R.out hn)
  · refine ⟨fun q => absurd q (by decide), fun q => absurd q (by decide), fun q => absurd q (by decide), fun _ => ?_, fun q => absurd q (by decide), fun q => absurd q (by decide), fun q => absurd q (by decide), fun q => absurd q (by decide), fun q => absurd q (by decide), fun q => absurd q (by decide)⟩
    replace h1 : (s < 9 ∧ SetOk s (Int32.ofNat x)) → ∀ M3 : Mem, (∀ j, j ≠ 1 → M3 j = M2 j) → RlM n (M3 1) (upd m (9 + s) (Int32.ofNat x)) → P 1 M3 := h1
    replace h0 : ¬ (s < 9 ∧ SetOk s (Int32.ofNat x)) → ∀ M3 : Mem, (∀ j, j ≠ 1 → M3 j = M2 j) → P 0 M3 := h0
    refine c5_setting (fun k hk ek g => ⟨fun _ => ?_, fun q2 => absurd q2 z10⟩) (fun g => ⟨fun q2 => absurd rfl q2, fun _ => ⟨Or.inl rfl, h0 (fun g2 => g ⟨s, g2.1, rfl, g2.2⟩) M2 same⟩⟩)
    have e2 := (nn_eq (by omega) (by omega)).mp ek
    subst e2
    exact c3_change hk ⟨Or.inr rfl, h1 ⟨hk, g⟩ _ (fun j hj => va_un _ _ hj) (by rw [va_us]; exact R.set hn hk)⟩
  · refine ⟨fun q => absurd q (by decide), fun q => absurd q (by decide), fun q => absurd q (by decide), fun q => absurd q (by decide), fun _ => ?_, fun q => absurd q (by decide), fun q => absurd q (by decide), fun q => absurd q (by decide), fun q => absurd q (by decide), fun q => absurd q (by decide)⟩
    replace h1 : (s < n ∧ x ≤ 1) → ∀ M3 : Mem, (∀ j, j ≠ 1 → M3 j = M2 j) → RlM n (M3 1) (upd m (30 + 8 * s) (Int32.ofNat x)) → P 1 M3 := h1
    replace h0 : ¬ (s < n ∧ x ≤ 1) → ∀ M3 : Mem, (∀ j, j ≠ 1 → M3 j = M2 j) → P 0 M3 := h0
    refine ⟨fun q => h0 (fun g => ?_) M2 same, fun q => ⟨fun q2 => ?_, fun q2 => ?_⟩⟩
    · have := (nn_lt (a := 1) (by omega) (by omega)).mp q
      omega
    · have e1 : x ≤ 1 := Nat.le_of_not_lt (fun g => q ((nn_lt (a := 1) (by omega) (by omega)).mpr g))
      have e2 : x = 0 := by
        have : ¬ x = 1 := fun e => q2 ((x1_iff hx).mpr e)
        omega
      subst e2
      exact c5_wcmd R hn hs (Or.inl rfl) (fun g M3 h3 R3 => ⟨fun q3 => absurd q3 z10, fun _ => h1 ⟨g, e1⟩ M3 h3 R3⟩) (fun g => ⟨fun _ => h0 (fun g2 => g g2.1) M2 same, fun q3 => absurd rfl q3⟩)
    · have e2 : x = 1 := (x1_iff hx).mp q2
      subst e2
      exact c5_wcmd R hn hs (Or.inr rfl) (fun g M3 h3 R3 => ⟨fun q3 => absurd q3 z10, fun _ => h1 ⟨g, Nat.le_refl 1⟩ M3 h3 R3⟩) (fun g => ⟨fun _ => h0 (fun g2 => g g2.1) M2 same, fun q3 => absurd rfl q3⟩)
  · refine ⟨fun q => absurd q (by decide), fun q => absurd q (by decide), fun q => absurd q (by decide), fun q => absurd q (by decide), fun q => absurd q (by decide), fun _ => ?_, fun q => absurd q (by decide), fun q => absurd q (by decide), fun q => absurd q (by decide), fun q => absurd q (by decide)⟩
    replace h1 : (s < n ∧ 10 ≤ x ∧ x ≤ 25) → ∀ M3 : Mem, (∀ j, j ≠ 1 → M3 j = M2 j) → RlM n (M3 1) (upd m (27 + 8 * s) (Int32.ofNat x)) → P 1 M3 := h1
    replace h0 : ¬ (s < n ∧ 10 ≤ x ∧ x ≤ 25) → ∀ M3 : Mem, (∀ j, j ≠ 1 → M3 j = M2 j) → P 0 M3 := h0
    refine c3_hasRoom R.rooms hn (fun i hi ei => ⟨fun q2 => absurd q2 z10, fun _ => ?_⟩) (fun g => ⟨fun _ => ⟨Or.inl rfl, ?_⟩, fun q2 => absurd rfl q2⟩)
    · have e2 := (nn_eq (by omega) (by omega)).mp ei
      subst e2
      rw [va_ue, tn_nat (by omega)]
      refine c5_wanted (fun g => ⟨fun _ => ⟨nn_in (by omega) (by omega), Or.inr rfl, ?_⟩, fun q2 => absurd q2 z10⟩) (fun g => ⟨fun q2 => absurd rfl q2, fun _ => ⟨Or.inl rfl, h0 (fun g2 => g (by rw [ti_nat (by omega)]; omega)) M2 same⟩⟩)
      rw [ti_nat (by omega)] at g
      exact h1 ⟨hi, by omega, by omega⟩ _ (fun j hj => va_un _ _ hj) (by rw [va_us]; exact R.cell hn hi (q := 0) (by decide))
    · rw [va_ue]
      exact h0 (fun g2 => g (ti_ok g2.1 (by omega))) M2 same
  · refine ⟨fun q => absurd q (by decide), fun q => absurd q (by decide), fun q => absurd q (by decide), fun q => absurd q (by decide), fun q => absurd q (by decide), fun q => absurd q (by decide), fun _ => ?_, fun q => absurd q (by decide), fun q => absurd q (by decide), fun q => absurd q (by decide)⟩
    replace h1 : (s < 2 + n ∧ ¬ degf m s < Int32.ofNat x) → ∀ M3 : Mem, (∀ j, j ≠ 1 → M3 j = M2 j) → RlM n (M3 1) m → P 1 M3 := h1
    replace h0 : ¬ (s < 2 + n ∧ ¬ degf m s < Int32.ofNat x) → ∀ M3 : Mem, (∀ j, j ≠ 1 → M3 j = M2 j) → P 0 M3 := h0
    refine c3_hasPlace R.rooms hn (fun i hi ei => ⟨fun q2 => absurd q2 z10, fun _ => ?_⟩) (fun g => ⟨fun _ => ?_, fun q2 => absurd rfl q2⟩)
    · have e2 := (nn_eq (by omega) (by omega)).mp ei
      subst e2
      rw [va_ue]
      refine q3_degrees I.1 R hi ?_
      rw [va_ue]
      exact ⟨fun q2 => h0 (fun g => g.2 q2) M2 same, fun q2 => h1 ⟨hi, q2⟩ M2 same R⟩
    · rw [va_ue]
      exact h0 (fun g2 => g (ti_ok g2.1 (by omega))) M2 same
  · refine ⟨fun q => absurd q (by decide), fun q => absurd q (by decide), fun q => absurd q (by decide), fun q => absurd q (by decide), fun q => absurd q (by decide), fun q => absurd q (by decide), fun q => absurd q (by decide), fun _ => ?_, fun q => absurd q (by decide), fun q => absurd q (by decide)⟩
    replace h1 : (s = 0 ∧ ¬ m 5 < Int32.ofNat x) → ∀ M3 : Mem, (∀ j, j ≠ 1 → M3 j = M2 j) → RlM n (M3 1) m → P 1 M3 := h1
    replace h0 : ¬ (s = 0 ∧ ¬ m 5 < Int32.ofNat x) → ∀ M3 : Mem, (∀ j, j ≠ 1 → M3 j = M2 j) → P 0 M3 := h0
    rw [R.1.2.2.2.2.2.1]
    exact ⟨fun q => h0 (fun g => q (s0.mpr g.1)) M2 same, fun q => ⟨fun q2 => h0 (fun g => g.2 q2) M2 same, fun q2 => h1 ⟨s0.mp q, q2⟩ M2 same R⟩⟩
  · refine ⟨fun q => absurd q (by decide), fun q => absurd q (by decide), fun q => absurd q (by decide), fun q => absurd q (by decide), fun q => absurd q (by decide), fun q => absurd q (by decide), fun q => absurd q (by decide), fun q => absurd q (by decide), fun _ => ?_, fun q => absurd q (by decide)⟩
    replace h1 : (s < n ∧ ¬ m (31 + 8 * s) < Int32.ofNat x) → ∀ M3 : Mem, (∀ j, j ≠ 1 → M3 j = M2 j) → RlM n (M3 1) m → P 1 M3 := h1
    replace h0 : ¬ (s < n ∧ ¬ m (31 + 8 * s) < Int32.ofNat x) → ∀ M3 : Mem, (∀ j, j ≠ 1 → M3 j = M2 j) → P 0 M3 := h0
    refine c3_hasRoom R.rooms hn (fun i hi ei => ⟨fun q2 => absurd q2 z10, fun _ => ?_⟩) (fun g => ⟨fun _ => ?_, fun q2 => absurd rfl q2⟩)
    · have e2 := (nn_eq (by omega) (by omega)).mp ei
      subst e2
      have e4 := R.2.2.2.1 s 4 hi (by decide)
      rw [show 27 + 8 * s + 4 = 31 + 8 * s by omega] at e4
      rw [va_ue, tn_nat (by omega), e4]
      exact ⟨nn_in (by omega) (by omega), fun q2 => h0 (fun g => g.2 q2) M2 same, fun q2 => h1 ⟨hi, q2⟩ M2 same R⟩
    · rw [va_ue]
      exact h0 (fun g2 => g (ti_ok g2.1 (by omega))) M2 same
  · refine ⟨fun q => absurd q (by decide), fun q => absurd q (by decide), fun q => absurd q (by decide), fun q => absurd q (by decide), fun q => absurd q (by decide), fun q => absurd q (by decide), fun q => absurd q (by decide), fun q => absurd q (by decide), fun q => absurd q (by decide), fun _ => ?_⟩
    replace h1 : (s = 0 ∧ x ≤ 1 ∧ m 3 = Int32.ofNat x) → ∀ M3 : Mem, (∀ j, j ≠ 1 → M3 j = M2 j) → RlM n (M3 1) m → P 1 M3 := h1
    replace h0 : ¬ (s = 0 ∧ x ≤ 1 ∧ m 3 = Int32.ofNat x) → ∀ M3 : Mem, (∀ j, j ≠ 1 → M3 j = M2 j) → P 0 M3 := h0
    rw [R.1.2.2.1]
    refine ⟨fun q => h0 (fun g => q (s0.mpr g.1)) M2 same, fun q => ⟨fun q2 => h0 (fun g => ?_) M2 same, fun q2 => ⟨fun q3 => ?_, fun q3 => ?_⟩⟩⟩
    · have := (nn_lt (a := 1) (by omega) (by omega)).mp q2
      omega
    · have e1 : x ≤ 1 := Nat.le_of_not_lt (fun g => q2 ((nn_lt (a := 1) (by omega) (by omega)).mpr g))
      have e2 : x = 0 := by
        have : ¬ x = 1 := fun e => q3 ((x1_iff hx).mpr e)
        omega
      subst e2
      exact ⟨fun g => h0 (fun g2 => g g2.2.2) M2 same, fun g => h1 ⟨s0.mp q, e1, g⟩ M2 same R⟩
    · have e2 : x = 1 := (x1_iff hx).mp q3
      subst e2
      exact ⟨fun g => h0 (fun g2 => g g2.2.2) M2 same, fun g => h1 ⟨s0.mp q, Nat.le_refl 1, g⟩ M2 same R⟩
