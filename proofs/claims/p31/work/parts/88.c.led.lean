/-! the ledger stays sound -/
theorem wayf_led {m : Row} {f t w : Nat} {u : Int32} (hw : w ≤ 26) (h74 : m 74 = Int32.ofNat w) (hd : Dist w m) (hk : WOk w m) (ha : 10 * f + t ∈ wl26) : waysAfter m f t w ≤ 26 ∧ wayf m f t u w 74 = Int32.ofNat (waysAfter m f t w) ∧ Dist (waysAfter m f t w) (wayf m f t u w) ∧ WOk (waysAfter m f t w) (wayf m f t u w) := by
  cases hl : lasti m (codeOf f t) w with
  | some k =>
    have hk2 := lasti_lt hl
    have ew : waysAfter m f t w = w := by unfold waysAfter; rw [hl]; rfl
    have em : wayf m f t u w = upd m (76 + 2 * k) (m (76 + 2 * k) + u) := by unfold wayf; rw [hl]
    have ec : ∀ i, wayf m f t u w (75 + 2 * i) = m (75 + 2 * i) := fun i => by rw [em]; exact upd_n _ _ (by omega)
    rw [ew]
    refine ⟨hw, by rw [em, upd_n _ _ (by omega)]; exact h74, fun a b h1 h2 h3 => hd a b h1 h2 (by rw [ec, ec] at h3; exact h3), fun a h1 => by rw [ec]; exact hk a h1⟩
  | none =>
    have h26 := pigeon hd hk ha hl
    have ew : waysAfter m f t w = w + 1 := by unfold waysAfter; rw [if_pos hl]
    have em : wayf m f t u w = upd (upd (upd (upd m (75 + 2 * w) (codeOf f t)) (76 + 2 * w) 0) 74 (m 74 + 1)) (76 + 2 * w) (0 + u) := by unfold wayf; rw [hl]
    have ec : ∀ i, i ≠ w → wayf m f t u w (75 + 2 * i) = m (75 + 2 * i) := fun i hi => by rw [em, upd_n _ _ (by omega), upd_n _ _ (by omega), upd_n _ _ (by omega), upd_n _ _ (by omega)]
    have ecw : wayf m f t u w (75 + 2 * w) = codeOf f t := by rw [em, upd_n _ _ (by omega), upd_n _ _ (by omega), upd_n _ _ (by omega), upd_s]
    rw [ew]
    refine ⟨by omega, by rw [em, upd_n _ _ (by omega), upd_s, h74, nn_s], fun a b h1 h2 h3 => ?_, fun a h1 => ?_⟩
    · by_cases ea : a = w
      · by_cases eb : b = w
        · rw [ea, eb]
        · subst ea
          rw [ecw, ec b eb] at h3
          exact absurd h3.symm (lasti_no hl (by omega))
      · by_cases eb : b = w
        · subst eb
          rw [ecw, ec a ea] at h3
          exact absurd h3 (lasti_no hl (by omega))
        · rw [ec a ea, ec b eb] at h3
          exact hd a b (by omega) (by omega) h3
    · by_cases ea : a = w
      · subst ea
        exact ⟨10 * f + t, ha, ecw⟩
      · rw [ec a ea]
        exact hk a (by omega)
theorem gof_led {m : Row} {f t w : Nat} {u : Int32} (hw : w ≤ 26) (h74 : m 74 = Int32.ofNat w) (hd : Dist w m) (hk : WOk w m) (ha : 10 * f + t ∈ wl26) : waysGo m f t w u ≤ 26 ∧ gof m f t u w 74 = Int32.ofNat (waysGo m f t w u) ∧ Dist (waysGo m f t w u) (gof m f t u w) ∧ WOk (waysGo m f t w u) (gof m f t u w) := by
  unfold waysGo gof
  by_cases g : u ≤ 0
  · rw [if_pos g, if_pos g]
    exact ⟨hw, h74, hd, hk⟩
  · rw [if_neg g, if_neg g]
    obtain ⟨h1, h2, h3, h4⟩ := wayf_led (u := u) hw h74 hd hk ha
    have e : ∀ i, 74 ≤ i → addh (subh (wayf m f t u w) f u) t u i = wayf m f t u w i := fun i hi => by rw [addh_at (by omega), subh_at (by omega)]
    exact ⟨h1, by rw [e 74 (by omega)]; exact h2, h3.cong e, h4.cong e⟩
