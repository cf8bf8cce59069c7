/-! the valve -/
abbrev pinchf (m : Row) : Prop := ¬ m 16 ≤ degf m 0 ∧ ¬ freef m ≤ 20
def targf (m : Row) : Int32 := if pinchf m then 20 else freef m
def stepf (s0 x v : Int32) : Int32 := if s0 - x ≤ v then (if -v ≤ s0 - x then x + (s0 - x) else x + -v) else x + v
def valvef (m : Row) : Row := if m 6 = 1 then upd m 5 (if m 1 - m 1 / 30 * 30 = 0 then 100 else 0) else upd m 5 (stepf (targf m) (m 5) (m 14))
theorem free_b (m : Row) : 0 ≤ (freef m).toInt ∧ (freef m).toInt ≤ 100 := by
  unfold freef
  by_cases a : 0 < freed m
  · rw [if_pos a]
    rw [Int32.lt_iff_toInt_lt, i0] at a
    by_cases b : freed m ≤ 10
    · rw [if_pos b]
      rw [Int32.le_iff_toInt_le, i10] at b
      have e : (10 * freed m).toInt = 10 * (freed m).toInt := ti_mul (by rw [i10]; omega) (by rw [i10]; omega)
      omega
    · rw [if_neg b, i100]
      omega
  · rw [if_neg a, i0]
    omega
/-- both ways to step -/
theorem step_e {t x v : Int32} (h1 : 0 ≤ t.toInt) (h2 : t.toInt ≤ 100) (h3 : 0 ≤ x.toInt) (h4 : x.toInt ≤ 100) (h5 : 0 ≤ v.toInt) (h6 : v.toInt ≤ 50) : (if t ≤ x then (if t < x - v then x - v else t) else (if x + v < t then x + v else t)) = stepf t x v := by
  have e1 : (t - x).toInt = t.toInt - x.toInt := ti_sub (by omega) (by omega)
  have e2 : (x - v).toInt = x.toInt - v.toInt := ti_sub (by omega) (by omega)
  have e3 : (x + v).toInt = x.toInt + v.toInt := ti_add (by omega) (by omega)
  have e4 : (-v).toInt = -v.toInt := ti_neg (by omega)
  have e5 : x + (t - x) = t := Int32.toInt_inj.mp (by rw [ti_add (by omega) (by omega)]; omega)
  have e6 : x + -v = x - v := (Int32.sub_eq_add_neg ..).symm
  unfold stepf
  rw [e5, e6]
  simp only [Int32.le_iff_toInt_le, Int32.lt_iff_toInt_lt, e1, e2, e3, e4]
  by_cases a : t.toInt ≤ x.toInt
  · rw [if_pos a, if_pos (show t.toInt - x.toInt ≤ v.toInt by omega)]
    by_cases b : t.toInt < x.toInt - v.toInt
    · rw [if_pos b, if_neg (show ¬ -v.toInt ≤ t.toInt - x.toInt by omega)]
    · rw [if_neg b, if_pos (show -v.toInt ≤ t.toInt - x.toInt by omega)]
  · rw [if_neg a]
    by_cases b : x.toInt + v.toInt < t.toInt
    · rw [if_pos b, if_neg (show ¬ t.toInt - x.toInt ≤ v.toInt by omega)]
    · rw [if_neg b, if_pos (show t.toInt - x.toInt ≤ v.toInt by omega), if_pos (show -v.toInt ≤ t.toInt - x.toInt by omega)]
theorem s3_isPinched {n w : Nat} {c : Reg} {m : Row} {P : Int32 → Reg → Prop} (R : Rel n w c m) (hn : n ≤ 6) (h : P (if m 16 ≤ degf m 0 then 0 else 1) c) : wX3_isPinched c P := by
  refine s3_degrees (p := 0) R hn (by omega) (cap0 m) (s3_settingOf (k := 7) R (by decide) ⟨fun q => ?_, fun q => ?_⟩)
  · rw [if_pos q] at h; exact h
  · rw [if_neg q] at h; exact h
theorem s3_moveValve {n w : Nat} {c : Reg} {m : Row} {P : Reg → Prop} (R : Rel n w c m) (hn : n ≤ 6) (hM : Mild m) (h6 : m 6 = 0 ∨ m 6 = 1) (h5 : 0 ≤ (m 5).toInt ∧ (m 5).toInt ≤ 100) (hv : 0 ≤ (m 14).toInt ∧ (m 14).toInt ≤ 50) (h : ∀ c' : Reg, Rel n w c' (valvef m) → P c') : wX3_moveValve c P := by
  obtain ⟨r0, r1, r2, r3, r4, r5, r6, r7, r8, r9⟩ := R.1
  have fin : ∀ x : Int32, valvef m = upd m 5 x → P (cu c 0 5 x) := by
    intro x e
    refine h _ ?_
    rw [e]
    refine R.small (fun r hr => by rw [cu_e, va_un _ _ hr]) (fun i hi => upd_n _ _ (by omega)) ?_ hn
    simp [cu, va_up, upd, r0, r1, r2, r3, r4, r6, r7, r8, r9]
  have hf := free_b m
  have l47 : m 6 = 0 → ∀ t : Int32, t = targf m → 0 ≤ t.toInt → t.toInt ≤ 100 → wX3_moveValve_L47 P t c := by
    intro g t e b1 b2
    subst e
    have ev : valvef m = upd m 5 (stepf (targf m) (m 5) (m 14)) := by unfold valvef; rw [if_neg (by rw [g]; decide)]
    rw [← step_e b1 b2 h5.1 h5.2 hv.1 hv.2] at ev
    refine s3_settingOf (k := 5) R (by decide) ⟨fun q => fin _ ?_, fun q => fin _ ?_⟩
    · rw [r5] at q ⊢
      rw [ev, if_pos q]
    · rw [r5] at q ⊢
      rw [ev, if_neg q]
  refine ⟨fun q => s3_freeTarget R hn hM (s3_isPinched R hn ⟨fun q2 => ?_, fun q2 => ?_⟩), fun q => ⟨fun q2 => fin 0 ?_, fun q2 => fin 100 ?_⟩⟩
  · rw [r6] at q
    have z : m 16 ≤ degf m 0 := Decidable.of_not_not (fun e => by rw [if_neg e] at q2; exact absurd q2 (by decide))
    exact l47 q _ (by unfold targf; rw [if_neg (fun e => e.1 z)]) hf.1 hf.2
  · rw [r6] at q
    have z : ¬ m 16 ≤ degf m 0 := fun e => q2 (if_pos e)
    by_cases b : freef m ≤ 20
    · have e : (if freef m < 20 then freef m else 20) = freef m := by rw [min_e, if_pos b]
      rw [e]
      exact l47 q _ (by unfold targf; rw [if_neg (fun e => e.2 b)]) hf.1 hf.2
    · have e : (if freef m < 20 then freef m else 20) = 20 := by rw [min_e, if_neg b]
      rw [e]
      exact l47 q _ (by unfold targf; rw [if_pos ⟨z, b⟩]) (by decide) (by decide)
  · rw [r6] at q
    rw [r0] at q2
    unfold valvef
    rw [if_pos (h6.resolve_left q), if_neg q2]
  · rw [r6] at q
    rw [r0] at q2
    unfold valvef
    rw [if_pos (h6.resolve_left q), if_pos q2]
