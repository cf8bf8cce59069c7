/-! the ledger, the program's -/
def Led (w : Nat) (c : Reg) (m : Row) : Prop := c 5 3 = Int32.ofNat w ∧ m 74 = Int32.ofNat w ∧ ∀ k, k < w → ∃ f t : Nat, f ≤ 9 ∧ t ≤ 9 ∧ c 6 k = Int32.ofNat f ∧ c 7 k = Int32.ofNat t ∧ m (75 + 2 * k) = codeOf f t ∧ c 8 k = m (76 + 2 * k)
def Dist (w : Nat) (m : Row) : Prop := ∀ k k' : Nat, k < w → k' < w → m (75 + 2 * k) = m (75 + 2 * k') → k = k'
theorem codeOf_inj {f t f' t' : Nat} (hf : f ≤ 9) (ht : t ≤ 9) (hf' : f' ≤ 9) (ht' : t' ≤ 9) (h : codeOf f t = codeOf f' t') : f = f' ∧ t = t' := by
  have := (nn_eq (by omega) (by omega)).mp h
  omega
theorem lasti_of {m : Row} {a : Int32} {w k : Nat} (hd : Dist w m) (hk : k < w) (h : m (75 + 2 * k) = a) : lasti m a w = some k := by
  cases hl : lasti m a w with
  | none => exact absurd h (lasti_no hl hk)
  | some k' =>
    have := lasti_lt hl
    rw [hd k' k this.1 hk (this.2.trans h.symm)]
theorem lasti_nil {m : Row} {a : Int32} {w : Nat} (h : ∀ k, k < w → ¬ m (75 + 2 * k) = a) : lasti m a w = none := by
  cases hl : lasti m a w with
  | none => rfl
  | some k' => exact absurd (lasti_lt hl).2 (h k' (lasti_lt hl).1)
def waysAfter (m : Row) (f t w : Nat) : Nat := if lasti m (codeOf f t) w = none then w + 1 else w
theorem s1_note {f t w : Nat} {u : Int32} {c : Reg} {m : Row} {P : Reg → Prop} (hL : Led w c m) (hw : w ≤ 26) (hd : Dist w m) (hf : f ≤ 9) (ht : t ≤ 9) (hfree : lasti m (codeOf f t) w = none → w < 26)
    (h : ∀ c' : Reg, (∀ r, r < 5 ∨ 8 < r → c' r = c r) → Led (waysAfter m f t w) c' (wayf m f t u w) → P c') : wX1_note (Int32.ofNat f) (Int32.ofNat t) u c P := by
  obtain ⟨h1, h2, h3⟩ := hL
  have hend : (∀ k, k < w → ¬ m (75 + 2 * k) = codeOf f t) → wX1_note_L59 (Int32.ofNat f) (Int32.ofNat t) u P c := by
    intro hno
    have hl := lasti_nil hno
    have hw2 := hfree hl
    have e5 : ∀ (r : Nat) (x : Int32) (k : Nat), r ≠ 5 → cu c r k x 5 3 = Int32.ofNat w := fun r x k hr => by rw [cu_e, va_un _ _ (fun e => hr e.symm), h1]
    have z1 : ¬ Int32.ofNat w < 0 := by
      rw [show (0 : Int32) = Int32.ofNat 0 from rfl, nn_lt (by omega) (by omega)]
      omega
    have z2 : ¬ (26 : Int32) ≤ Int32.ofNat w := by
      rw [show (26 : Int32) = Int32.ofNat 26 from rfl, nn_le (by omega) (by omega)]
      omega
    unfold wX1_note_L59
    simp only [h1, e5 6 _ _ (by decide), tn_nat (show w < 2147483648 by omega)]
    have e7 : cu (cu c 6 w (Int32.ofNat f)) 7 w (Int32.ofNat t) 5 3 = Int32.ofNat w := by
      rw [cu_e, va_un _ _ (by decide), cu_e, va_un _ _ (by decide), h1]
    simp only [e7, tn_nat (show w < 2147483648 by omega)]
    refine ⟨fun q => absurd q z1, fun _ => ⟨fun q => absurd q z2, fun _ => ⟨nn_in (by omega) (by omega), nn_in (by omega) (by omega), nn_in (by omega) (by omega), h _ ?_ ?_⟩⟩⟩
    · intro r hr
      have r5 : r ≠ 5 := by omega
      have r6 : r ≠ 6 := by omega
      have r7 : r ≠ 7 := by omega
      have r8 : r ≠ 8 := by omega
      simp only [cu_e, va_un _ _ r5, va_un _ _ r6, va_un _ _ r7, va_un _ _ r8]
    · have ew : waysAfter m f t w = w + 1 := by unfold waysAfter; rw [if_pos hl]
      have em : wayf m f t u w = upd (upd (upd (upd m (75 + 2 * w) (codeOf f t)) (76 + 2 * w) 0) 74 (m 74 + 1)) (76 + 2 * w) (0 + u) := by unfold wayf; rw [hl]
      rw [ew, em]
      refine ⟨?_, ?_, fun k hk => ?_⟩
      · rw [← nn_s, ← h1]
        simp [cu, va_up, upd]
      · rw [upd_n _ _ (by omega), upd_s, h2, nn_s]
      · by_cases hkw : k = w
        · subst hkw
          refine ⟨f, t, hf, ht, ?_, ?_, ?_, ?_⟩
          · simp [cu, va_up, upd]
          · simp [cu, va_up, upd]
          · rw [upd_n _ _ (by omega), upd_n _ _ (by omega), upd_n _ _ (by omega), upd_s]
          · rw [upd_s]
            simp [cu, va_up, upd]
        · obtain ⟨f', t', g1, g2, g3, g4, g5, g6⟩ := h3 k (by omega)
          refine ⟨f', t', g1, g2, ?_, ?_, ?_, ?_⟩
          · simp [cu, va_up, upd, hkw, g3]
          · simp [cu, va_up, upd, hkw, g4]
          · rw [upd_n _ _ (by omega), upd_n _ _ (by omega), upd_n _ _ (by omega), upd_n _ _ (by omega), g5]
          · rw [upd_n _ _ (by omega), upd_n _ _ (by omega), upd_n _ _ (by omega), upd_n _ _ (by omega), ← g6]
            simp [cu, va_up, upd, hkw]
  have key : ∀ (r k : Nat), k + r = w → (∀ k', k' < k → ¬ m (75 + 2 * k') = codeOf f t) → wX1_note_L3 (Int32.ofNat f) (Int32.ofNat t) u P (r + 1) (Int32.ofNat k) c := by
    intro r
    induction r with
    | zero =>
      intro k hk hno
      have hk : k = w := hk
      subst hk
      exact ⟨fun _ => hend hno, fun q => absurd (by rw [h1]; exact Int32.le_refl _) q⟩
    | succ r ih =>
      intro k hk hno
      obtain ⟨f', t', g1, g2, g3, g4, g5, g6⟩ := h3 k (by omega)
      have hnext : ¬ (f' = f ∧ t' = t) → wX1_note_L3 (Int32.ofNat f) (Int32.ofNat t) u P (r + 1) (Int32.ofNat k + 1) c := by
        intro hne
        rw [nn_s]
        refine ih (k + 1) (by omega) (fun k' hk' => ?_)
        rcases Nat.lt_succ_iff_lt_or_eq.mp hk' with q | q
        · exact hno k' q
        · subst q
          rw [g5]
          exact fun e => hne (codeOf_inj g1 g2 hf ht e)
      have ein : vp_in (Int32.ofNat k) 26 := nn_in (by omega) (by omega)
      refine ⟨fun q => ?_, fun _ => ⟨fun q => ?_, fun _ => ⟨ein, ?_⟩⟩⟩
      · rw [h1, nn_le (by omega) (by omega)] at q
        omega
      · rw [show (26 : Int32) = Int32.ofNat 26 from rfl, nn_le (by omega) (by omega)] at q
        omega
      · rw [tn_nat (by omega), g3, g4]
        refine ⟨fun q => hnext (fun e => q (by rw [e.1])), fun q => ⟨ein, fun q2 => hnext (fun e => q2 (by rw [e.2])), fun q2 => ⟨ein, ein, h _ ?_ ?_⟩⟩⟩
        · intro r hr
          have r8 : r ≠ 8 := by omega
          rw [cu_e, va_un _ _ r8]
        · have ef := (nn_eq (by omega) (by omega)).mp q
          have et := (nn_eq (by omega) (by omega)).mp q2
          subst ef
          subst et
          have hl := lasti_of hd (show k < w by omega) g5
          have ew : waysAfter m f' t' w = w := by unfold waysAfter; rw [hl]; rfl
          have em : wayf m f' t' u w = upd m (76 + 2 * k) (m (76 + 2 * k) + u) := by unfold wayf; rw [hl]
          rw [ew, em]
          refine ⟨?_, ?_, fun k' hk' => ?_⟩
          · rw [cu_e, va_un _ _ (by decide), h1]
          · rw [upd_n _ _ (by omega), h2]
          · obtain ⟨f2, t2, b1, b2, b3, b4, b5, b6⟩ := h3 k' hk'
            refine ⟨f2, t2, b1, b2, ?_, ?_, ?_, ?_⟩
            · rw [cu_e, va_un _ _ (by decide), b3]
            · rw [cu_e, va_un _ _ (by decide), b4]
            · rw [upd_n _ _ (by omega), b5]
            · rw [cu_e, va_us]
              by_cases hkk : k' = k
              · subst hkk
                rw [upd_s, upd_s, b6]
              · rw [upd_n _ _ hkk, upd_n _ _ (by omega), b6]
  exact ⟨w + 1, key w 0 (by omega) (fun k' hk' => by omega)⟩
