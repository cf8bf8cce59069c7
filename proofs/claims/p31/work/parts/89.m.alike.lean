/-! alike -/
def Bo (T : Nat) (A : Ab) (D : DM) : Prop := AR T D.1 A ∧ AR T D.2 A
/-- both answer alike -/
theorem two {w : Mem → (Int64 → Mem → Prop) → Prop} {T : Nat} {A : Ab} {v : Int64} (r : Ro w T A v) {M1 M2 : Mem} {F G : Int64 → Int64 → Mem → Mem → Prop} (S1 : AR T M1 A) (S2 : AR T M2 A) (h : ∀ M3 M4, AR T M3 A → AR T M4 A → G v v M3 M4) : w M1 (fun r1 M3 => w M2 (fun r2 M4 => (¬ lg_cmp r1 r2 = 0 → F r1 r2 M3 M4) ∧ (lg_cmp r1 r2 = 0 → G r1 r2 M3 M4))) :=
  r M1 _ S1 (fun M3 S3 _ => r M2 _ S2 (fun M4 S4 _ => eqk rfl (h M3 M4 S3 S4)))
theorem eq32 {a b : Int32} {F G : Prop} (e : a = b) (h : G) : (¬ a = b → F) ∧ (a = b → G) := ⟨fun q => absurd e q, fun _ => h⟩
theorem q_alike {n T X : Nat} {A : Ab} {D : DM} {P : Int32 → DM → Prop} (I : Inv n T A.1) (hT : T ≤ 100000) (hX : X < 2147483648) (S : Bo T A D) (hP : ∀ D', Bo T A D' → P 1 D') : wL_alike (Int32.ofNat X) D P := by
  have hn := I.1.1
  have e4 : Int32.ofNat X - Int32.ofNat X / 4 * 4 = Int32.ofNat (X % 4) := by
    rw [show (4 : Int32) = Int32.ofNat 4 from rfl, nn_rem2 hX (by decide) (by decide)]
  have e40 : Int32.ofNat X - Int32.ofNat X / 40 * 40 = Int32.ofNat (X % 40) := by
    rw [show (40 : Int32) = Int32.ofNat 40 from rfl, nn_rem2 hX (by decide) (by decide)]
  have e1000 : Int32.ofNat X - Int32.ofNat X / 1000 * 1000 = Int32.ofNat (X % 1000) := by
    rw [show (1000 : Int32) = Int32.ofNat 1000 from rfl, nn_rem2 hX (by decide) (by decide)]
  have ra : ∃ v, Ro (wL_ahead (Int32.ofNat (X % 4)) (Int32.ofNat (X % 40))) T A v := by
    by_cases c : X % 4 < 2 + n
    · exact ⟨_, q_ahead (p := X % 4) (k := X % 40) I hT c (by omega)⟩
    · exact ⟨_, b_ahead1 I (by rw [ti_nat (by omega)]; omega)⟩
  obtain ⟨va, ra⟩ := ra
  have rm : ∃ v, Ro (wL_minutesTo 0) T A v := by
    by_cases c : 0 < n
    · exact ⟨_, q_minutesTo (i := 0) I hT c⟩
    · exact ⟨_, b_minutesTo I (fun q => c (by have := q.2; have : (0 : Int) < n := this; omega))⟩
  obtain ⟨vm, rm⟩ := rm
  have rb : Ro (wL_bestSlope (1 + Int32.ofNat (X % 40))) T A (Int32.toInt64 (bsf n (1 + X % 40) A.1)) := by
    rw [show (1 : Int32) = Int32.ofNat 1 from rfl, nn_a]
    exact q_bestSlope I hT (by omega) (by omega)
  have rl := q_leastPower (k := X % 40) I hT (by omega)
  have rh := q_heatFor (k := X % 40) I hT (by omega)
  have rs := q_simulate (x := Int32.toInt64 (Int32.ofNat X)) (k := 3) I hT (by decide) (by decide)
  have ex : (10301000 + Int32.toInt64 (Int32.ofNat (X % 1000))).toInt = ((10301000 + X % 1000 : Nat) : Int) := by
    have c : (10301000 : Int64).toInt = 10301000 := rfl
    rw [tl_add (by rw [c, t64 (by omega)]; omega) (by rw [c, t64 (by omega)]; omega), c, t64 (by omega)]
    omega
  have rc := q_script (N := 2) (X := 10301000 + X % 1000) I hT (by decide) (by decide) ex (by show _ < 100000000; omega)
  unfold wL_alike
  rw [e4, e40, e1000]
  refine two (q_now I) S.1 S.2 (fun M1 M2 S1 S2 => ?_)
  refine q_errorPosition S1 (fun M3 S3 _ => q_errorPosition S2 (fun M4 S4 _ => eq32 rfl ?_))
  refine q_whyOff I S3 (fun M5 S5 _ => q_whyOff I S4 (fun M6 S6 _ => eq32 rfl ?_))
  refine q_whyShare I S5 (fun M7 S7 _ => q_whyShare I S6 (fun M8 S8 _ => eq32 rfl ?_))
  refine two ra S7 S8 (fun M9 M10 S9 S10 => ?_)
  refine two rm S9 S10 (fun M11 M12 S11 S12 => ?_)
  refine two rb S11 S12 (fun M13 M14 S13 S14 => ?_)
  refine two rl S13 S14 (fun M15 M16 S15 S16 => ?_)
  refine two rh S15 S16 (fun M17 M18 S17 S18 => ?_)
  refine two rs S17 S18 (fun M19 M20 S19 S20 => ?_)
  exact two rc S19 S20 (fun M21 M22 S21 S22 => hP (M21, M22) ⟨S21, S22⟩)
