/-! the season -/
def hotI (m : Row) : Int32 := if m 2 < m 17 then 0 else 1
def ctrf (m : Row) : Int32 := if (if m 6 = 0 then (1 : Int32) else 0) = hotI m then m 7 + 1 else 0
def seasf (m : Row) : Row := if ctrf m = 60 then upd (upd (upd m 7 (ctrf m)) 6 (1 - m 6)) 7 0 else upd m 7 (ctrf m)
theorem Rel.small {n w : Nat} {c c' : Reg} {m m' : Row} (R : Rel n w c m) (h0 : ∀ r, r ≠ 0 → c' r = c r) (hm : ∀ i, 9 ≤ i → m' i = m i)
    (h : c' 0 0 = m' 1 ∧ c' 0 1 = m' 2 ∧ c' 0 2 = m' 3 ∧ c' 0 3 = m' 1 - m' 4 ∧ c' 0 4 = m' 8 ∧ c' 0 5 = m' 5 ∧ c' 0 6 = m' 6 ∧ c' 0 7 = m' 7 ∧ c' 0 8 = Int32.ofNat n ∧ m' 0 = Int32.ofNat n) (hn : n ≤ 6) : Rel n w c' m' := by
  obtain ⟨-, R2, R3, R4, R5⟩ := R
  refine ⟨h, fun k hk => ?_, fun p hp => ?_, fun i q hi hq => ?_, ?_⟩
  · rw [h0 1 (by decide), hm _ (by omega)]; exact R2 k hk
  · rw [h0 2 (by decide), h0 3 (by decide), hm _ (by omega), capf_cong (fun i h1 _ => hm i (by omega)) (by omega)]; exact R3 p hp
  · rw [h0 _ (by omega), hm _ (by omega)]; exact R4 i q hi hq
  · exact (R5.same (fun r h1 h2 => h0 r (by omega))).cong (fun i hi => hm i (by omega))
theorem s3_turnSeason {n w : Nat} {c : Reg} {m : Row} {P : Reg → Prop} (R : Rel n w c m) (hn : n ≤ 6) (h6 : m 6 = 0 ∨ m 6 = 1) (h7 : 0 ≤ (m 7).toInt ∧ (m 7).toInt < 60) (h : ∀ c' : Reg, Rel n w c' (seasf m) → P c') : wX3_turnSeason c P := by
  have R0 := R.1
  obtain ⟨r0, r1, r2, r3, r4, r5, r6, r7, r8, r9⟩ := R.1
  have hc : ctrf m = m 7 + 1 ∨ ctrf m = 0 := by
    unfold ctrf
    by_cases g : (if m 6 = 0 then (1 : Int32) else 0) = hotI m
    · exact Or.inl (if_pos g)
    · exact Or.inr (if_neg g)
  have hctr : ctrf m < 60 ∨ ctrf m = 60 := by
    rcases hc with g | g
    · have e : (m 7 + 1).toInt = (m 7).toInt + 1 := ti_add (by rw [show (1 : Int32).toInt = 1 from rfl]; omega) (by rw [show (1 : Int32).toInt = 1 from rfl]; omega)
      rw [g, Int32.lt_iff_toInt_lt, ← Int32.toInt_inj, e, show (60 : Int32).toInt = 60 from rfl]
      omega
    · rw [g]
      exact Or.inl (by decide)
  have e38 : ∀ s0, s0 = ctrf m → wX3_turnSeason_L38 P s0 c := by
    intro s0 e
    subst e
    unfold seasf at h
    have d7 : cu c 0 7 (ctrf m) 0 7 = ctrf m := by rw [cu_e, va_us, upd_s]
    have d6 : cu c 0 7 (ctrf m) 0 6 = m 6 := by rw [cu_e, va_us, upd_n _ _ (by decide), r6]
    unfold wX3_turnSeason_L38
    rw [d7, d6]
    refine ⟨fun q => h _ ?_, fun q => ?_⟩
    · rw [if_neg (fun e => by rw [e] at q; exact absurd q (by decide))]
      refine R.small (fun r hr => by rw [cu_e, va_un _ _ hr]) (fun i hi => upd_n _ _ (by omega)) ?_ hn
      simp [cu, va_up, upd, r0, r1, r2, r3, r4, r5, r6, r8, r9]
    · have e60 : ctrf m = 60 := hctr.resolve_left q
      rw [if_pos e60] at h
      refine ⟨fun g => h _ ?_, fun g => h _ ?_⟩
      · have g1 := h6.resolve_left g
        refine R.small (fun r hr => by simp only [cu_e, va_un _ _ hr]) (fun i hi => by rw [upd_n _ _ (by omega), upd_n _ _ (by omega), upd_n _ _ (by omega)]) ?_ hn
        simp [cu, va_up, upd, r0, r1, r2, r3, r4, r5, r8, r9, g1]
      · refine R.small (fun r hr => by simp only [cu_e, va_un _ _ hr]) (fun i hi => by rw [upd_n _ _ (by omega), upd_n _ _ (by omega), upd_n _ _ (by omega)]) ?_ hn
        simp [cu, va_up, upd, r0, r1, r2, r3, r4, r5, r8, r9, g]
  have e18 : ∀ s0, s0 = hotI m → wX3_turnSeason_L18 P s0 c := by
    intro s0 e
    subst e
    refine ⟨fun q => e38 _ ?_, fun q => e38 _ ?_⟩
    · rw [r6] at q
      unfold ctrf
      rw [if_neg ?_]
      rw [q]
      rcases h6 with g | g <;> rw [g] <;> decide
    · rw [r6] at q
      unfold ctrf
      rw [if_pos ?_, r7]
      have hh : hotI m = 0 ∨ hotI m = 1 := by unfold hotI; split <;> simp
      rcases h6 with g | g <;> rcases hh with g2 | g2 <;> rw [g, g2] at q ⊢ <;> first | rfl | exact absurd rfl q
  refine s3_settingOf (k := 8) R (by decide) ⟨fun q => e18 _ ?_, fun q => e18 _ ?_⟩
  · rw [r1] at q; unfold hotI; rw [if_pos q]
  · rw [r1] at q; unfold hotI; rw [if_neg q]
