theorem le_nn {a b : Nat} (ha : a < 2147483648) (hb : b < 2147483648) (h : a ≤ b) : Int32.ofNat a ≤ Int32.ofNat b := (nn_le ha hb).mpr h
theorem bad_rng {d : Int32} {b : Nat} {hi : Int32} (hh : hi.toInt = b) (hd : ¬ (0 ≤ d.toInt ∧ d.toInt < (b + 1 : Nat))) {X Z : Prop} (h : X) : (d < 0 → X) ∧ (¬ d < 0 → ((d ≤ hi → Z) ∧ (¬ d ≤ hi → X))) := by
  refine ⟨fun _ => h, fun q => ⟨fun q2 => ?_, fun _ => h⟩⟩
  rw [Int32.lt_iff_toInt_lt, i0] at q
  rw [Int32.le_iff_toInt_le, hh] at q2
  exact absurd ⟨by omega, by omega⟩ hd
theorem i240 : (240 : Int32).toInt = (240 : Nat) := rfl
/-! minutesTo -/
theorem c3_isWarm {n i : Nat} {c : Reg} {m : Row} {P : Int32 → Reg → Prop} (G1 : Gd n m) (R : RlM n c m) (hi : i < n) (h : P (if degf m (2 + i) < m (27 + 8 * i) then 0 else 1) c) : wX3_isAsWarmAsWanted (Int32.ofNat i) c P := by
  have hn := G1.1
  have e0 : c (i + 9) 0 = m (27 + 8 * i) := R.2.2.2.1 i 0 hi (by decide)
  refine c3_hasRoom R.rooms hn (fun _ _ _ => ⟨fun q => absurd q z10, fun _ => ?_⟩) (fun q => absurd (ti_ok hi (by omega)) q)
  rw [ix_room]
  refine q3_degrees G1 R (by omega) ⟨nn_in (by omega) (by omega), ?_⟩
  rw [tn_nat (by omega), e0]
  refine ⟨fun q => ?_, fun q => ?_⟩
  · rw [if_pos q] at h; exact h
  · rw [if_neg q] at h; exact h
def tof (n : Nat) (m : Row) (i : Nat) : Nat → Nat → Int32
  | 0, _ => -99999
  | r + 1, v => if degf (mns n m v) (2 + i) < mns n m v (27 + 8 * i) then tof n m i r (v + 1) else Int32.ofNat v
theorem k5_minutesTo {n T i : Nat} {M : Mem} {m : Row} {P : Int32 → Mem → Prop} {X : String → Mem → Prop} (I : Inv n T m) (hT : T ≤ 100000) (hi : i < n) (h : ∀ M2 : Mem, (∀ j, j ≠ 1 → M2 j = M j) → P (tof n m i 241 0) M2) : ∀ (r v : Nat) (M2 : Mem), v + r = 240 → (∀ j, j ≠ 1 → M2 j = M j) → RlM n (M2 1) (mns n m v) → tof n m i 241 0 = tof n m i (r + 1) v → wX5_minutesTo_L34 (Int32.ofNat i) P X (r + 1) (Int32.ofNat v) M2 := by
  intro r
  induction r with
  | zero =>
    intro v M2 hv h1 R ht
    have hv : v = 240 := hv
    subst hv
    have Iv := I.mns 240 (by omega)
    refine ⟨fun _ => c3_isWarm Iv.1 R hi ?_, fun q => absurd (Int32.le_refl _) q⟩
    rw [va_ue]
    have h2 := h M2 h1
    rw [ht] at h2
    unfold tof at h2
    by_cases g : degf (mns n m 240) (2 + i) < mns n m 240 (27 + 8 * i)
    · rw [if_pos g] at h2 ⊢
      exact ⟨fun _ => h2, fun q => absurd rfl q⟩
    · rw [if_neg g] at h2 ⊢
      exact ⟨fun q => absurd q z10, fun _ => h2⟩
  | succ r ih =>
    intro v M2 hv h1 R ht
    have Iv := I.mns v (by omega)
    refine ⟨fun q => absurd q (nge (b := 240) (by omega) (by omega)), fun _ => c3_isWarm Iv.1 R hi ?_⟩
    rw [va_ue]
    rw [show tof n m i (r + 1 + 1) v = if degf (mns n m v) (2 + i) < mns n m v (27 + 8 * i) then tof n m i (r + 1) (v + 1) else Int32.ofNat v from rfl] at ht
    by_cases g : degf (mns n m v) (2 + i) < mns n m v (27 + 8 * i)
    · rw [if_pos g] at ht ⊢
      refine ⟨fun _ => q3_advance (k := 1) Iv (by omega) R (fun c' R' => ?_), fun q => absurd rfl q⟩
      rw [nn_s]
      exact ih (v + 1) _ (by omega) (fun j hj => by rw [va_un _ _ hj]; exact h1 j hj) R' ht
    · rw [if_neg g] at ht ⊢
      refine ⟨fun q => absurd q z10, fun _ => ?_⟩
      rw [← ht]
      exact h M2 h1
/-! whyOff -/
def whyf (m : Row) : Int32 := if m 3 = 1 then 0 else if m 6 = 1 then 1 else if degf m 0 < m 10 then (if m 9 = 0 then 3 else 4) else 2
theorem k5_whyOff {n T : Nat} {M : Mem} {m m4 : Row} {P : Int32 → Mem → Prop} (I : Inv n T m) (R : RlM n (M 0) m) (I4 : Inv n T m4) (e4 : ∀ i, i < 128 → m4 i = m i) (h : ∀ M2 : Mem, (∀ j, j ≠ 1 → M2 j = M j) → P (whyf (boilg (seasf m4))) M2) : wX5_whyOff M P := by
  have hn := I.1.1
  refine s3_copyFrom I.1 I.2.1 I.2.2.1 R (fun c1 R1 => ?_)
  refine q3_turnSeason I4.1 (R1.cong2 I.1 e4) I4.2.1.2.1 I4.2.1.2.2.1 (fun c2 R2 => ?_)
  have S2 := I4.2.1.seas
  refine q3_runBoiler I4.1.seas R2 S2.1 S2.2.1 (fun c3 R3 => ?_)
  have S3 := S2.boil
  have G3 : Gd n (boilg (seasf m4)) := I4.1.seas.boil
  generalize boilg (seasf m4) = m3 at R3 S3 G3 h
  have e2 : c3 0 2 = m3 3 := R3.1.2.2.1
  have e6 : c3 0 6 = m3 6 := R3.1.2.2.2.2.2.2.1
  unfold whyf at h
  refine ⟨fun q => ?_, fun q => ?_⟩
  · have q1 : m3 3 = 0 := e2.symm.trans q
    rw [if_neg (fun e => z10 (e.symm.trans q1))] at h
    refine ⟨fun q2 => ?_, fun q2 => ?_⟩
    · have q3 : m3 6 = 0 := e6.symm.trans q2
      rw [if_neg (fun e => z10 (e.symm.trans q3))] at h
      refine q3_degrees (p := 0) G3 R3 (by omega) (s3_settingOf (k := 1) R3 (by decide) ⟨fun q4 => ?_, fun q4 => ?_⟩)
      · rw [if_pos q4] at h
        refine s3_settingOf (k := 0) R3 (by decide) ⟨fun q5 => ?_, fun q5 => ?_⟩
        · rw [if_neg q5] at h
          exact h _ (fun j hj => by simp only [va_un _ _ hj])
        · rw [if_pos q5] at h
          exact h _ (fun j hj => by simp only [va_un _ _ hj])
      · rw [if_neg q4] at h
        exact h _ (fun j hj => by simp only [va_un _ _ hj])
    · have q3 : m3 6 = 1 := S3.2.1.resolve_left (fun e => q2 (e6.trans e))
      rw [if_pos q3] at h
      exact h _ (fun j hj => by simp only [va_un _ _ hj])
  · have q1 : m3 3 = 1 := S3.1.resolve_left (fun e => q (e2.trans e))
    rw [if_pos q1] at h
    exact h _ (fun j hj => by simp only [va_un _ _ hj])
/-! whyShare -/
def sharef (m3 : Row) : Int32 := if valvef m3 5 = 100 then 0 else if m3 6 = 1 then 1 else if freef m3 = 0 then 2 else if pinchf m3 then 3 else if 100 ≤ freef m3 then 5 else 4
theorem valve_free (m : Row) : freef (valvef m) = freef m := by
  have o : ∀ i, i ≠ 5 → valvef m i = m i := fun i h5 => valvef_o h5
  unfold freef freed wishf wishv degf
  rw [o 2 (by decide), o 13 (by decide), o _ (by decide), show capf (valvef m) 1 = capf m 1 from rfl]
theorem valve_deg0 (m : Row) : degf (valvef m) 0 = degf m 0 := by
  unfold degf
  rw [valvef_o (by decide), show capf (valvef m) 0 = capf m 0 from rfl]
theorem k5_whyShare {n T : Nat} {M : Mem} {m m4 : Row} {P : Int32 → Mem → Prop} (I : Inv n T m) (R : RlM n (M 0) m) (I4 : Inv n T m4) (e4 : ∀ i, i < 128 → m4 i = m i) (h : ∀ M2 : Mem, (∀ j, j ≠ 1 → M2 j = M j) → P (sharef (boilg (seasf m4))) M2) : wX5_whyShare M P := by
  have hn := I.1.1
  refine s3_copyFrom I.1 I.2.1 I.2.2.1 R (fun c1 R1 => ?_)
  refine q3_turnSeason I4.1 (R1.cong2 I.1 e4) I4.2.1.2.1 I4.2.1.2.2.1 (fun c2 R2 => ?_)
  have S2 := I4.2.1.seas
  refine q3_runBoiler I4.1.seas R2 S2.1 S2.2.1 (fun c3 R3 => ?_)
  have S3 := S2.boil
  have G3 : Gd n (boilg (seasf m4)) := I4.1.seas.boil
  generalize boilg (seasf m4) = m3 at R3 S3 G3 h
  refine q3_moveValve G3 R3 S3.2.2.2.2.1 S3.2.1 S3.2.2.2.1 S3.2.2.2.2.2.1 (fun c4 R4 => ?_)
  have S4 := S3.valve
  have e5 : c4 0 5 = valvef m3 5 := R4.1.2.2.2.2.2.1
  have e6 : c4 0 6 = m3 6 := R4.1.2.2.2.2.2.2.1.trans (valvef_o (by decide))
  have free : ∀ {Q : Int32 → Reg → Prop}, Q (freef m3) c4 → wX3_freeTarget c4 Q := fun hq => s3_freeTarget R4 hn S4.2.2.2.2.1 (by rw [valve_free]; exact hq)
  have pin : ∀ {Q : Int32 → Reg → Prop}, Q (if m3 16 ≤ degf m3 0 then 0 else 1) c4 → wX3_isPinched c4 Q := fun hq => s3_isPinched R4 hn (by rw [valve_deg0, valvef_o (by decide)]; exact hq)
  unfold sharef at h
  refine ⟨fun q => ?_, fun q => ?_⟩
  · rw [if_neg (fun e => q (e5.trans e))] at h
    refine ⟨fun q2 => ?_, fun q2 => ?_⟩
    · have q3 : m3 6 = 0 := e6.symm.trans q2
      rw [if_neg (fun e => z10 (e.symm.trans q3))] at h
      refine free ⟨fun q4 => ?_, fun q4 => ?_⟩
      · rw [if_neg q4] at h
        refine pin ⟨fun q5 => ?_, fun q5 => ?_⟩
        · have q6 : m3 16 ≤ degf m3 0 := Decidable.of_not_not (fun e => by rw [if_neg e] at q5; exact z10 q5)
          rw [if_neg (fun e => e.1 q6)] at h
          refine pin ⟨fun q7 => absurd q5 q7, fun _ => free ⟨fun q8 => ?_, fun q8 => ?_⟩⟩
          · rw [if_pos q8] at h
            exact h _ (fun j hj => by simp only [va_un _ _ hj])
          · rw [if_neg q8] at h
            exact h _ (fun j hj => by simp only [va_un _ _ hj])
        · have q6 : ¬ m3 16 ≤ degf m3 0 := fun e => q5 (if_pos e)
          refine free ⟨fun q7 => ?_, fun q7 => ?_⟩
          · rw [if_neg (fun e => e.2 q7), if_neg (fun e => by
              rw [Int32.le_iff_toInt_le, i100] at e
              rw [Int32.le_iff_toInt_le, i20] at q7
              omega)] at h
            refine pin ⟨fun _ => ?_, fun q8 => absurd q8 q5⟩
            exact h _ (fun j hj => by simp only [va_un _ _ hj])
          · rw [if_pos ⟨q6, q7⟩] at h
            exact h _ (fun j hj => by simp only [va_un _ _ hj])
      · rw [if_pos q4] at h
        exact h _ (fun j hj => by simp only [va_un _ _ hj])
    · have q3 : m3 6 = 1 := S3.2.1.resolve_left (fun e => q2 (e6.trans e))
      rw [if_pos q3] at h
      exact h _ (fun j hj => by simp only [va_un _ _ hj])
  · rw [if_pos (e5.symm.trans q)] at h
    exact h _ (fun j hj => by simp only [va_un _ _ hj])
