/-! the boiler, the program's -/
theorem s3_mayStart {n w : Nat} {c : Reg} {m : Row} {P : Int32 → Reg → Prop} (R : Rel n w c m) (hn : n ≤ 6) (h : P (if mayf m then 1 else 0) c) : wX3_mayStart c P := by
  obtain ⟨r0, r1, r2, r3, r4, r5, r6, r7, r8, r9⟩ := R.1
  have no : ¬ mayf m → P 0 c := fun g => by rw [if_neg g] at h; exact h
  refine s3_settingOf (k := 3) R (by decide) ⟨fun q => no ?_, fun q => ⟨fun q2 => no ?_, fun q2 => s3_settingOf (k := 0) R (by decide) ⟨fun q4 => no ?_, fun q4 => s3_degrees (p := 0) R hn (by omega) (cap0 m) (s3_settingOf (k := 1) R (by decide) ⟨fun q5 => no ?_, fun q5 => ?_⟩)⟩⟩⟩
  · rw [r3] at q; exact fun e => e.1 q
  · rw [r6] at q2; exact fun e => q2 e.2.1
  · exact fun e => e.2.2.1 q4
  · exact fun e => e.2.2.2 q5
  · rw [r3] at q
    rw [r6] at q2
    rw [if_pos ⟨q, q2, q4, q5⟩] at h
    exact h
theorem s3_mustStop {n w : Nat} {c : Reg} {m : Row} {P : Int32 → Reg → Prop} (R : Rel n w c m) (hn : n ≤ 6) (h6 : m 6 = 0 ∨ m 6 = 1) (h : P (if mustf m then 1 else 0) c) : wX3_mustStop c P := by
  obtain ⟨r0, r1, r2, r3, r4, r5, r6, r7, r8, r9⟩ := R.1
  have no : ¬ mustf m → P 0 c := fun g => by rw [if_neg g] at h; exact h
  have yes : mustf m → P 1 c := fun g => by rw [if_pos g] at h; exact h
  have lt90 : ∀ x : Int32, x < 90 ↔ ¬ 90 ≤ x := fun x => by rw [Int32.lt_iff_toInt_lt, Int32.le_iff_toInt_le]; omega
  refine s3_degrees (p := 0) R hn (by omega) (cap0 m) ⟨fun q => s3_settingOf (k := 2) R (by decide) ⟨fun q2 => no ?_, fun q2 => ⟨fun q3 => yes ?_, fun q3 => s3_settingOf (k := 1) R (by decide) ⟨fun q4 => no ?_, fun q4 => yes ?_⟩⟩⟩, fun q => yes ?_⟩
  · rw [r3] at q2
    rintro (g | g)
    · exact (lt90 _).mp q g
    · exact g.1 q2
  · rw [r3] at q2
    rw [r6] at q3
    exact Or.inr ⟨q2, Or.inl (h6.resolve_left q3)⟩
  · rw [r6] at q3
    rintro (g | g)
    · exact (lt90 _).mp q g
    · rcases g.2 with g2 | g2
      · rw [q3] at g2
        exact absurd g2 (by decide)
      · exact g2 q4
  · rw [r3] at q2
    exact Or.inr ⟨q2, Or.inr q4⟩
  · exact Or.inl (Decidable.of_not_not (fun e => q ((lt90 _).mpr e)))
theorem s3_L54 {n w : Nat} {c : Reg} {m : Row} {P : Reg → Prop} (R : Rel n w c m) (hn : n ≤ 6) (hw : w ≤ 26) (hd : Dist w m) (hk : WOk w m) (h3 : m 3 = 0 ∨ m 3 = 1) (h : ∀ c' : Reg, Rel n (if m 3 = 1 then waysGo m 9 0 w (m 9) else w) c' (if m 3 = 1 then gof m 9 0 (m 9) w else m) → P c') : wX3_runBoiler_L54 P c := by
  have r2 : c 0 2 = m 3 := R.1.2.2.1
  refine ⟨fun q => ?_, fun q => ?_⟩
  · rw [r2] at q
    have z : ¬ m 3 = 1 := fun e => by rw [q] at e; exact absurd e (by decide)
    rw [if_neg z, if_neg z] at h
    exact h c R
  · rw [r2] at q
    have z : m 3 = 1 := h3.resolve_left q
    rw [if_pos z, if_pos z] at h
    exact s3_settingOf (k := 0) R (by decide) (s3_move (f := 9) (t := 0) R hn hw hd hk (Or.inr (Or.inr rfl)) (Or.inl (by omega)) (by decide) h)
theorem turnf_3 (m : Row) (a : Int32) : turnf m a 3 = a := by
  unfold turnf
  rw [upd_n _ _ (by decide), upd_n _ _ (by decide), upd_s]
theorem s3_runBoiler {n w : Nat} {c : Reg} {m : Row} {P : Reg → Prop} (R : Rel n w c m) (hn : n ≤ 6) (hw : w ≤ 26) (hd : Dist w m) (hk : WOk w m) (h3 : m 3 = 0 ∨ m 3 = 1) (h6 : m 6 = 0 ∨ m 6 = 1) (h : ∀ c' : Reg, Rel n (waysBoil m w) c' (boilf m w) → P c') : wX3_runBoiler c P := by
  obtain ⟨r0, r1, r2, r3, r4, r5, r6, r7, r8, r9⟩ := R.1
  have z10 : ¬ (1 : Int32) = 0 := by decide
  have stay : boil1 m = m → wX3_runBoiler_L54 P c := by
    intro e
    unfold waysBoil boilf at h
    rw [e] at h
    exact s3_L54 R hn hw hd hk h3 h
  have turned : ∀ (a : Int32) (c1 : Reg), (a = 0 ∨ a = 1) → boil1 m = turnf m a → Rel n w c1 (turnf m a) → wX3_runBoiler_L54 P c1 := by
    intro a c1 ha e R1
    unfold waysBoil boilf at h
    rw [e] at h
    have e74 : ∀ i, 74 ≤ i → turnf m a i = m i := fun i hi => turnf_at (by omega)
    exact s3_L54 R1 hn hw (hd.cong e74) (hk.cong e74) (by rw [turnf_3]; exact ha) h
  refine ⟨fun q => s3_mayStart R hn ⟨fun q2 => stay ?_, fun q2 => turned 1 _ (Or.inr rfl) ?_ ?_⟩, fun q => s3_mustStop R hn h6 ⟨fun q2 => stay ?_, fun q2 => turned 0 _ (Or.inl rfl) ?_ ?_⟩⟩
  · rw [r2] at q
    unfold boil1
    rw [if_neg (fun e => by rw [q] at e; exact absurd e (by decide)), if_neg (fun e => by rw [if_pos e] at q2; exact z10 q2)]
  · rw [r2] at q
    unfold boil1
    rw [if_neg (fun e => by rw [q] at e; exact absurd e (by decide)), if_pos (Decidable.of_not_not (fun e => q2 (if_neg e)))]
  · refine R.small (fun r hr => by simp only [cu_e, va_un _ _ hr]) (fun i hi => turnf_at hi) ?_ hn
    simp [cu, va_up, upd, turnf, r0, r1, r2, r4, r5, r6, r7, r8, r9]
  · rw [r2] at q
    unfold boil1
    rw [if_pos (h3.resolve_left q), if_neg (fun e => by rw [if_pos e] at q2; exact z10 q2)]
  · rw [r2] at q
    unfold boil1
    rw [if_pos (h3.resolve_left q), if_pos (Decidable.of_not_not (fun e => q2 (if_neg e)))]
  · refine R.small (fun r hr => by simp only [cu_e, va_un _ _ hr]) (fun i hi => turnf_at hi) ?_ hn
    simp [cu, va_up, upd, turnf, r0, r1, r2, r4, r5, r6, r7, r8, r9]
