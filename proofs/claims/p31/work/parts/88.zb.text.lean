/-! texts: digits and numbers -/
def dig (t : Nat) (ch : Nat → Int32) (p lo hi : Nat) : Option Nat := if p < t ∧ 48 + (lo : Int) ≤ (ch p).toInt ∧ (ch p).toInt ≤ 48 + (hi : Int) then some ((ch p).toInt - 48).toNat else none
theorem dig_some {t : Nat} {ch : Nat → Int32} {p lo hi a : Nat} (h : dig t ch p lo hi = some a) : p < t ∧ (ch p).toInt = 48 + a ∧ lo ≤ a ∧ a ≤ hi := by
  unfold dig at h
  split at h
  · rename_i g
    have e := Option.some.inj h
    omega
  · cases h
theorem dig_of {t : Nat} {ch : Nat → Int32} {p lo hi a : Nat} (h1 : p < t) (h2 : (ch p).toInt = 48 + a) (h3 : lo ≤ a) (h4 : a ≤ hi) : dig t ch p lo hi = some a := by
  unfold dig
  rw [if_pos ⟨h1, by omega, by omega⟩, h2]
  exact congrArg some (by omega)
theorem dig_none {t : Nat} {ch : Nat → Int32} {p lo hi : Nat} (h : dig t ch p lo hi = none) : ¬ (p < t ∧ 48 + (lo : Int) ≤ (ch p).toInt ∧ (ch p).toInt ≤ 48 + (hi : Int)) := by
  unfold dig at h
  split at h
  · cases h
  · assumption
def bnd {α β : Type} (r : Nat × Option α) (f : Nat → α → Nat × Option β) : Nat × Option β := match r.2 with
  | none => (r.1, none)
  | some a => f r.1 a
def nm1 (t : Nat) (ch : Nat → Int32) (p lo hi : Nat) : Nat × Option Nat := match dig t ch p lo hi with
  | none => (p, none)
  | some a => (p + 1, some a)
def nm2 (t : Nat) (ch : Nat → Int32) (p lo hi : Nat) : Nat × Option Nat := match dig t ch p (lo / 10) (hi / 10) with
  | none => (p, none)
  | some a => match dig t ch (p + 1) (lo - 10 * a) (min 9 (hi - 10 * a)) with
    | none => (p + 1, none)
    | some b => (p + 2, some (10 * a + b))
def nm3 (t : Nat) (ch : Nat → Int32) (p : Nat) : Nat × Option Nat := match dig t ch p 0 2 with
  | none => (p, none)
  | some a => bnd (nm2 t ch (p + 1) 0 (if a = 2 then 0 else 99)) (fun q v => (q, some (100 * a + v)))
def ov : Option Nat → Int32
  | none => -1
  | some a => Int32.ofNat a
theorem nm1_b {t : Nat} {ch : Nat → Int32} {p lo hi : Nat} (hp : p ≤ t) : p ≤ (nm1 t ch p lo hi).1 ∧ (nm1 t ch p lo hi).1 ≤ t ∧ ∀ a, (nm1 t ch p lo hi).2 = some a → lo ≤ a ∧ a ≤ hi ∧ (nm1 t ch p lo hi).1 = p + 1 := by
  unfold nm1
  cases h : dig t ch p lo hi with
  | none => exact ⟨Nat.le_refl _, hp, fun a e => by cases e⟩
  | some a =>
    have := dig_some h
    refine ⟨Nat.le_succ _, by show p + 1 ≤ t; omega, fun b e => ?_⟩
    have e := Option.some.inj e
    subst e
    exact ⟨this.2.2.1, this.2.2.2, rfl⟩
theorem nm2_b {t : Nat} {ch : Nat → Int32} {p lo hi : Nat} (hp : p ≤ t) : p ≤ (nm2 t ch p lo hi).1 ∧ (nm2 t ch p lo hi).1 ≤ t ∧ ∀ a, (nm2 t ch p lo hi).2 = some a → lo ≤ a ∧ a ≤ hi ∧ (nm2 t ch p lo hi).1 = p + 2 := by
  unfold nm2
  cases h : dig t ch p (lo / 10) (hi / 10) with
  | none => exact ⟨Nat.le_refl _, hp, fun a e => by cases e⟩
  | some a =>
    have g := dig_some h
    dsimp only
    cases h2 : dig t ch (p + 1) (lo - 10 * a) (min 9 (hi - 10 * a)) with
    | none => exact ⟨Nat.le_succ _, by show p + 1 ≤ t; omega, fun a e => by cases e⟩
    | some b =>
      have g2 := dig_some h2
      refine ⟨by show p ≤ p + 2; omega, by show p + 2 ≤ t; omega, fun x e => ?_⟩
      have e := Option.some.inj e
      subst e
      refine ⟨by omega, by omega, rfl⟩
theorem nm3_b {t : Nat} {ch : Nat → Int32} {p : Nat} (hp : p ≤ t) : p ≤ (nm3 t ch p).1 ∧ (nm3 t ch p).1 ≤ t ∧ ∀ a, (nm3 t ch p).2 = some a → a ≤ 200 := by
  unfold nm3
  cases h : dig t ch p 0 2 with
  | none => exact ⟨Nat.le_refl _, hp, fun a e => by cases e⟩
  | some a =>
    have g := dig_some h
    have b := nm2_b (t := t) (ch := ch) (p := p + 1) (lo := 0) (hi := if a = 2 then 0 else 99) (by omega)
    dsimp only
    unfold bnd
    cases h2 : (nm2 t ch (p + 1) 0 (if a = 2 then 0 else 99)).2 with
    | none => exact ⟨by dsimp only; omega, b.2.1, fun a e => by cases e⟩
    | some v =>
      have b3 := b.2.2 v h2
      refine ⟨by dsimp only; omega, b.2.1, fun x e => ?_⟩
      have e := Option.some.inj e
      subst e
      by_cases e2 : a = 2
      · rw [if_pos e2] at b3
        omega
      · rw [if_neg e2] at b3
        omega
/-! the program's reader -/
def CS (M0 M : Mem) (t : Nat) (c : Reg) (p : Nat) : Prop := M 1 = c ∧ M 20 6 1 = Int32.ofNat t ∧ M 20 6 2 = Int32.ofNat p ∧ M 20 6 3 = 1 ∧ (∀ j, j ≠ 6 → M 20 j = M0 20 j) ∧ ∀ i, i ≠ 1 → i ≠ 20 → M i = M0 i
/-- its text -/
def Tx (M0 : Mem) (t : Nat) (ch : Nat → Int32) : Prop := t ≤ 80 ∧ ∀ k, k < t → M0 20 1 k = ch k ∧ 0 ≤ (ch k).toInt ∧ (ch k).toInt ≤ 255
theorem CS.step {M0 M : Mem} {t : Nat} {c : Reg} {p : Nat} (h : CS M0 M t c p) : CS M0 (va_up M 20 (cu (M 20) 6 2 ((M 20 6 2) + 1))) t c (p + 1) := by
  obtain ⟨h1, h2, h3, h4, h5, h6⟩ := h
  refine ⟨by rw [va_un _ _ (by decide)]; exact h1, ?_, ?_, ?_, fun j hj => ?_, fun i g1 g2 => ?_⟩
  · rw [va_us, cu_sv, upd_n _ _ (by decide)]; exact h2
  · rw [va_us, cu_sv, upd_s, h3, nn_s]
  · rw [va_us, cu_sv, upd_n _ _ (by decide)]; exact h4
  · rw [va_us, cu_e, va_un _ _ hj]; exact h5 j hj
  · rw [va_un _ _ g2]; exact h6 i g1 g2
theorem CS.reg {M0 M : Mem} {t : Nat} {c c' : Reg} {p : Nat} (h : CS M0 M t c p) : CS M0 (va_up M 1 c') t c' p := by
  obtain ⟨h1, h2, h3, h4, h5, h6⟩ := h
  exact ⟨va_us _ _ _, h2, h3, h4, h5, fun i g1 g2 => by rw [va_un _ _ g1]; exact h6 i g1 g2⟩
def hvf (t : Nat) (ch : Nat → Int32) (p : Nat) : Int32 := if p < t then ch p else -1
theorem c4_here {M0 M : Mem} {t : Nat} {ch : Nat → Int32} {c : Reg} {p : Nat} {P : Int32 → Mem → Prop} (X : Tx M0 t ch) (C : CS M0 M t c p) (hp : p ≤ t) (h : P (hvf t ch p) M) : wX4_here M P := by
  obtain ⟨h1, h2, h3, h4, h5, h6⟩ := C
  have ht := X.1
  unfold wX4_here
  rw [h2, h3, h4, h5 1 (by decide)]
  unfold hvf at h
  refine ⟨fun q => absurd q (ng (by omega)), fun _ => ⟨fun q => ?_, fun q => ?_⟩⟩
  · have := (nn_le (by omega) (by omega)).mp q
    rw [if_neg (by omega)] at h
    exact h
  · have hlt : p < t := Nat.lt_of_not_le (fun g => q ((nn_le (by omega) (by omega)).mpr g))
    rw [if_pos hlt] at h
    refine ⟨z10, fun _ => ⟨z10, nn_in (by omega) (by omega), ?_⟩, fun q2 => absurd ((nn_lt (b := 80) (by omega) (by omega)).mpr (by omega)) q2⟩
    rw [tn_nat (by omega), (X.2 p hlt).1]
    exact h
theorem i48 : (48 : Int32).toInt = 48 := rfl
theorem i57 : (57 : Int32).toInt = 57 := rfl
theorem im1 : (-1 : Int32).toInt = -1 := rfl
theorem hv_b {M0 : Mem} {t : Nat} {ch : Nat → Int32} (X : Tx M0 t ch) (p : Nat) : -1 ≤ (hvf t ch p).toInt ∧ (hvf t ch p).toInt ≤ 255 := by
  unfold hvf
  split
  · rename_i g
    have := X.2 p g
    omega
  · rw [im1]; omega
/-- a digit of a number with unit u behind the value v -/
theorem c4_step {M0 M : Mem} {t : Nat} {ch : Nat → Int32} {c : Reg} {p D lo hi u v k N : Nat} {P : Int32 → Mem → Prop} (X : Tx M0 t ch) (C : CS M0 M t c p) (hp : p ≤ t) (hk : k < D) (hD : D ≤ 3) (hlo : lo ≤ 1000) (hhi : hi ≤ 1000) (hu1 : 1 ≤ u) (hu : u ≤ 100) (hv : v ≤ 1000)
    (h1 : ∀ (a : Nat) (M' : Mem), dig t ch p 0 9 = some a → v + a * u ≤ hi → lo + 1 ≤ v + a * u + u → CS M0 M' t c (p + 1) → wX4_readNumber_L31 (Int32.ofNat D) (Int32.ofNat lo) (Int32.ofNat hi) P N (Int32.ofNat (u / 10)) (Int32.ofNat (v + a * u)) (Int32.ofNat (k + 1)) M')
    (h0 : (∀ a, dig t ch p 0 9 = some a → v + a * u ≤ hi → ¬ lo + 1 ≤ v + a * u + u) → P (-1) M) : wX4_readNumber_L31 (Int32.ofNat D) (Int32.ofNat lo) (Int32.ofNat hi) P (N + 1) (Int32.ofNat u) (Int32.ofNat v) (Int32.ofNat k) M := by
  have hb := hv_b X p
  refine ⟨fun q => ?_, fun _ => c4_here X C hp ⟨fun q => h0 (fun a g => ?_), fun q => ⟨fun q2 => ?_, fun q2 => h0 (fun a g => ?_)⟩⟩⟩
  · rw [nn_le (by omega) (by omega)] at q
    omega
  · have g := dig_some g
    unfold hvf at q
    rw [if_pos g.1, Int32.lt_iff_toInt_lt, i48] at q
    omega
  · rw [Int32.lt_iff_toInt_lt, i48] at q
    rw [Int32.le_iff_toInt_le, i57] at q2
    obtain ⟨a, ha⟩ : ∃ a : Nat, (hvf t ch p).toInt = 48 + a := ⟨((hvf t ch p).toInt - 48).toNat, by omega⟩
    have hlt : p < t := by
      unfold hvf at ha
      by_cases g : p < t
      · exact g
      · rw [if_neg g, im1] at ha
        omega
    have hd : dig t ch p 0 9 = some a := dig_of hlt (by unfold hvf at ha; rw [if_pos hlt] at ha; exact ha) (by omega) (by omega)
    have ea : hvf t ch p - 48 = Int32.ofNat a := by
      refine Int32.toInt_inj.mp ?_
      rw [ti_sub (by rw [i48]; omega) (by rw [i48]; omega), i48, ti_nat (by omega)]
      omega
    have hau : a * u ≤ 9 * 100 := Nat.mul_le_mul (by omega) hu
    rw [ea, nn_m, nn_a]
    have e1 : Int32.ofNat (v + a * u) + Int32.ofNat u - 1 = Int32.ofNat (v + a * u + u - 1) := by
      rw [nn_a, show v + a * u + u = (v + a * u + u - 1) + 1 by omega, ← nn_s, Int32.add_sub_cancel]
      rfl
    rw [e1, nn_lt (by omega) (by omega), nn_le (by omega) (by omega), nn_s, show Int32.ofNat u / 10 = Int32.ofNat (u / 10) from nn_div2 (b := 10) (by omega) (by decide) (by decide)]
    have uniq : ∀ b, dig t ch p 0 9 = some b → b = a := fun b e => Option.some.inj (e.symm.trans hd)
    refine ⟨fun q3 => h0 (fun b g g2 => ?_), fun q3 => ⟨fun q4 => h1 a _ hd (by omega) (by omega) C.step, fun q4 => h0 (fun b g g2 => ?_)⟩⟩
    · rw [uniq b g] at g2
      omega
    · rw [uniq b g]
      omega
  · have g := dig_some g
    unfold hvf at q2
    rw [if_pos g.1, Int32.le_iff_toInt_le, i57] at q2
    omega
theorem dig_09 {t : Nat} {ch : Nat → Int32} {p lo hi a : Nat} (hi9 : hi ≤ 9) (h : dig t ch p lo hi = some a) : dig t ch p 0 9 = some a := by
  have g := dig_some h
  exact dig_of g.1 g.2.1 (by omega) (by omega)
theorem c4_num1 {M0 M : Mem} {t : Nat} {ch : Nat → Int32} {c : Reg} {p lo hi : Nat} {P : Int32 → Mem → Prop} (X : Tx M0 t ch) (C : CS M0 M t c p) (hp : p ≤ t) (hhi : hi ≤ 9) (hlo : lo ≤ 9) (h : ∀ M' : Mem, CS M0 M' t c (nm1 t ch p lo hi).1 → P (ov (nm1 t ch p lo hi).2) M') : wX4_readNumber 1 (Int32.ofNat lo) (Int32.ofNat hi) M P := by
  refine ⟨1, fun _ => ⟨2, c4_step (D := 1) (u := 1) (v := 0) (k := 0) X C hp (by decide) (by decide) (by omega) (by omega) (by decide) (by decide) (by decide) (fun a M' g g2 g3 C' => ⟨fun _ => ?_, fun q => absurd (Int32.le_refl _) q⟩) (fun g => ?_)⟩, fun q => absurd (Int32.le_refl _) q⟩
  · have d := dig_some g
    have e : nm1 t ch p lo hi = (p + 1, some a) := by unfold nm1; rw [dig_of d.1 d.2.1 (by omega) (by omega)]
    rw [e] at h
    rw [show 0 + a * 1 = a by omega]
    exact h M' C'
  · have e : nm1 t ch p lo hi = (p, none) := by
      unfold nm1
      cases hd : dig t ch p lo hi with
      | none => rfl
      | some a =>
        have d := dig_some hd
        exact absurd (by omega) (g a (dig_09 hhi hd) (by omega))
    rw [e] at h
    exact h M C
theorem c4_num2 {M0 M : Mem} {t : Nat} {ch : Nat → Int32} {c : Reg} {p lo hi : Nat} {P : Int32 → Mem → Prop} (X : Tx M0 t ch) (C : CS M0 M t c p) (hp : p ≤ t) (hhi : hi ≤ 99) (hlo : lo ≤ 99) (h : ∀ M' : Mem, CS M0 M' t c (nm2 t ch p lo hi).1 → P (ov (nm2 t ch p lo hi).2) M') : wX4_readNumber 2 (Int32.ofNat lo) (Int32.ofNat hi) M P := by
  refine ⟨2, fun q => absurd q (by decide), fun _ => ⟨fun _ => ⟨3, c4_step (D := 2) (u := 10) (v := 0) (k := 0) X C hp (by decide) (by decide) (by omega) (by omega) (by decide) (by decide) (by decide) (fun a M' g g2 g3 C' => ?_) (fun g => ?_)⟩, fun q => absurd (Int32.le_refl _) q⟩⟩
  · have d := dig_some g
    have ed : dig t ch p (lo / 10) (hi / 10) = some a := dig_of d.1 d.2.1 (by omega) (by omega)
    refine c4_step (D := 2) (u := 1) (v := 0 + a * 10) (k := 1) X C' (by omega) (by decide) (by decide) (by omega) (by omega) (by decide) (by decide) (by omega) (fun b M2 f f2 f3 C2 => ⟨fun _ => ?_, fun q => absurd (Int32.le_refl _) q⟩) (fun f => ?_)
    · have d2 := dig_some f
      have e : nm2 t ch p lo hi = (p + 2, some (10 * a + b)) := by
        unfold nm2
        rw [ed]
        dsimp only
        rw [dig_of d2.1 d2.2.1 (show lo - 10 * a ≤ b by omega) (show b ≤ min 9 (hi - 10 * a) by omega)]
      rw [e] at h
      rw [show 0 + a * 10 + b * 1 = 10 * a + b by omega]
      exact h M2 C2
    · have e : nm2 t ch p lo hi = (p + 1, none) := by
        unfold nm2
        rw [ed]
        dsimp only
        cases hd : dig t ch (p + 1) (lo - 10 * a) (min 9 (hi - 10 * a)) with
        | none => rfl
        | some b =>
          have d2 := dig_some hd
          exact absurd (by omega) (f b (dig_09 (by omega) hd) (by omega))
      rw [e] at h
      exact h M' C'
  · have e : nm2 t ch p lo hi = (p, none) := by
      unfold nm2
      cases hd : dig t ch p (lo / 10) (hi / 10) with
      | none => rfl
      | some a =>
        have d := dig_some hd
        exact absurd (by omega) (g a (dig_09 (by omega) hd) (by omega))
    rw [e] at h
    exact h M C
theorem c4_num3 {M0 M : Mem} {t : Nat} {ch : Nat → Int32} {c : Reg} {p : Nat} {P : Int32 → Mem → Prop} (X : Tx M0 t ch) (C : CS M0 M t c p) (hp : p ≤ t) (h : ∀ M' : Mem, CS M0 M' t c (nm3 t ch p).1 → P (ov (nm3 t ch p).2) M') : wX4_readNumber 3 (Int32.ofNat 0) (Int32.ofNat 200) M P := by
  refine ⟨3, fun q => absurd q (by decide), fun _ => ⟨fun q => absurd q (by decide), fun _ => ⟨fun _ => ⟨4, c4_step (D := 3) (u := 100) (v := 0) (k := 0) X C hp (by decide) (by decide) (by omega) (by omega) (by decide) (by decide) (by decide) (fun a M' g g2 g3 C' => ?_) (fun g => ?_)⟩, fun q => absurd (Int32.le_refl _) q⟩⟩⟩
  · have d := dig_some g
    have ed : dig t ch p 0 2 = some a := dig_of d.1 d.2.1 (by omega) (by omega)
    have en : nm3 t ch p = bnd (nm2 t ch (p + 1) 0 (if a = 2 then 0 else 99)) (fun q v => (q, some (100 * a + v))) := by unfold nm3; rw [ed]
    rw [en] at h
    refine c4_step (D := 3) (u := 10) (v := 0 + a * 100) (k := 1) X C' (by omega) (by decide) (by decide) (by omega) (by omega) (by decide) (by decide) (by omega) (fun b M2 f f2 f3 C2 => ?_) (fun f => ?_)
    · have d2 := dig_some f
      have ed2 : dig t ch (p + 1) (0 / 10) ((if a = 2 then 0 else 99) / 10) = some b := by
        refine dig_of d2.1 d2.2.1 (by omega) ?_
        by_cases e2 : a = 2
        · rw [if_pos e2]; omega
        · rw [if_neg e2]; omega
      refine c4_step (D := 3) (u := 1) (v := 0 + a * 100 + b * 10) (k := 2) X C2 (by omega) (by decide) (by decide) (by omega) (by omega) (by decide) (by decide) (by omega) (fun x M3 k1 k2 k3 C3 => ⟨fun _ => ?_, fun q => absurd (Int32.le_refl _) q⟩) (fun k1 => ?_)
      · have d3 := dig_some k1
        have e : nm2 t ch (p + 1) 0 (if a = 2 then 0 else 99) = (p + 1 + 2, some (10 * b + x)) := by
          unfold nm2
          rw [ed2]
          dsimp only
          rw [dig_of d3.1 d3.2.1 (show 0 - 10 * b ≤ x by omega) (show x ≤ min 9 ((if a = 2 then 0 else 99) - 10 * b) by
            by_cases e2 : a = 2
            · rw [if_pos e2]; omega
            · rw [if_neg e2]; omega)]
        rw [e] at h
        rw [show 0 + a * 100 + b * 10 + x * 1 = 100 * a + (10 * b + x) by omega]
        exact h M3 C3
      · have e : nm2 t ch (p + 1) 0 (if a = 2 then 0 else 99) = (p + 1 + 1, none) := by
          unfold nm2
          rw [ed2]
          dsimp only
          cases hd : dig t ch (p + 1 + 1) (0 - 10 * b) (min 9 ((if a = 2 then 0 else 99) - 10 * b)) with
          | none => rfl
          | some x =>
            have d3 := dig_some hd
            refine absurd (by omega) (k1 x (dig_09 (by omega) hd) ?_)
            by_cases e2 : a = 2
            · rw [if_pos e2] at d3; omega
            · rw [if_neg e2] at d3; omega
        rw [e] at h
        exact h M2 C2
    · have e : nm2 t ch (p + 1) 0 (if a = 2 then 0 else 99) = (p + 1, none) := by
        unfold nm2
        cases hd : dig t ch (p + 1) (0 / 10) ((if a = 2 then 0 else 99) / 10) with
        | none => rfl
        | some b =>
          have d2 := dig_some hd
          refine absurd (by omega) (f b (dig_09 ?_ hd) ?_)
          · by_cases e2 : a = 2
            · rw [if_pos e2]; omega
            · rw [if_neg e2]; omega
          · by_cases e2 : a = 2
            · rw [if_pos e2] at d2; omega
            · rw [if_neg e2] at d2; omega
      rw [e] at h
      exact h M' C'
  · have e : nm3 t ch p = (p, none) := by
      unfold nm3
      cases hd : dig t ch p 0 2 with
      | none => rfl
      | some a =>
        have d := dig_some hd
        exact absurd (by omega) (g a (dig_09 (by omega) hd) (by omega))
    rw [e] at h
    exact h M C
theorem z_9 : ¬ (0 ≤ (-99999 : Int32).toInt ∧ (-99999 : Int32).toInt ≤ 9) := by decide
