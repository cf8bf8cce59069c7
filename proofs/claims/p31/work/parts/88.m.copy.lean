/-! copying a State -/
theorem cpy_in {α : Type} {f g : Nat → α} {n k : Nat} (h : k < n) : va_cpy f g 0 0 n k = f k := by
  unfold va_cpy
  rw [if_pos ⟨Nat.zero_le _, by omega⟩]
  exact congrArg f (by omega)
def Same (n : Nat) (c c' : Reg) : Prop := (∀ k, k < 9 → c' 0 k = c 0 k) ∧ (∀ k, k < 9 → c' 1 k = c 1 k) ∧ (∀ p, p < 8 → c' 2 p = c 2 p ∧ c' 3 p = c 3 p) ∧ (∀ k, k < 26 → c' 6 k = c 6 k ∧ c' 7 k = c 7 k ∧ c' 8 k = c 8 k) ∧ c' 5 3 = c 5 3 ∧ ∀ i q, i < n → q < 7 → c' (i + 9) q = c (i + 9) q
theorem RlM.same {n : Nat} {c c' : Reg} {m : Row} (R : RlM n c m) (hn : n ≤ 6) (hw : wy m ≤ 26) (h : Same n c c') : RlM n c' m := by
  obtain ⟨h0, h1, h2, h3, h5, h9⟩ := h
  obtain ⟨R1, R2, R3, R4, L1, L2, L3⟩ := R
  refine ⟨?_, fun k hk => by rw [h1 k hk]; exact R2 k hk, fun p hp => ?_, fun i q hi hq => by rw [h9 i q hi hq]; exact R4 i q hi hq, by rw [h5]; exact L1, L2, fun k hk => ?_⟩
  · rw [h0 0 (by decide), h0 1 (by decide), h0 2 (by decide), h0 3 (by decide), h0 4 (by decide), h0 5 (by decide), h0 6 (by decide), h0 7 (by decide), h0 8 (by decide)]
    exact R1
  · rw [(h2 p (by omega)).1, (h2 p (by omega)).2]
    exact R3 p hp
  · obtain ⟨e6, e7, e8⟩ := h3 k (by omega)
    rw [e6, e7, e8]
    exact L3 k hk
theorem s3_copyFrom {n : Nat} {c2 c : Reg} {m : Row} {P : Reg → Prop} (G1 : Gd n m) (S : Sg m) (W : Rw n m) (R : RlM n c2 m) (h : ∀ c' : Reg, RlM n c' m → P c') : wX3_copyFrom c2 c P := by
  have hn := G1.1
  have R0 := R
  obtain ⟨⟨r0, r1, r2, r3, r4, r5, r6, r7, r8, r9⟩, R2, R3, R4, L1, L2, L3⟩ := R0
  refine ⟨by rw [r2]; exact S.1, by rw [r6]; exact S.2.1, ?_⟩
  show ∃ Nx, wX3_copyFrom_L130 c2 P Nx 0 _
  generalize hB : (va_up (va_up (va_up (cu (va_up (va_up (va_up (cu (cu (cu (cu (cu (cu (cu (cu (cu c 0 0 (c2 0 0)) 0 1 (c2 0 1)) 0 2 (c2 0 2)) 0 3 (c2 0 3)) 0 4 (c2 0 4)) 0 5 (c2 0 5)) 0 6 (c2 0 6)) 0 7 (c2 0 7)) 0 8 (c2 0 8)) 6 _) 7 _) 8 _) 5 3 (c2 5 3)) 1 _) 2 _) 3 _) = B
  have hb : (∀ k, k < 9 → B 0 k = c2 0 k) ∧ (∀ k, k < 9 → B 1 k = c2 1 k) ∧ (∀ p, p < 8 → B 2 p = c2 2 p ∧ B 3 p = c2 3 p) ∧ (∀ k, k < 26 → B 6 k = c2 6 k ∧ B 7 k = c2 7 k ∧ B 8 k = c2 8 k) ∧ B 5 3 = c2 5 3 := by
    subst hB
    refine ⟨fun k hk => ?_, fun k hk => ?_, fun p hp => ⟨?_, ?_⟩, fun k hk => ⟨?_, ?_, ?_⟩, ?_⟩
    · rcases (by omega : k = 0 ∨ k = 1 ∨ k = 2 ∨ k = 3 ∨ k = 4 ∨ k = 5 ∨ k = 6 ∨ k = 7 ∨ k = 8) with e | e | e | e | e | e | e | e | e <;> subst e <;> simp [cu, va_up, upd]
    · simp [va_up, cpy_in hk]
    · simp [va_up, cpy_in hp]
    · simp [va_up, cpy_in hp]
    · simp [cu, va_up, cpy_in hk]
    · simp [cu, va_up, cpy_in hk]
    · simp [cu, va_up, cpy_in hk]
    · simp [cu, va_up, upd]
  have key : ∀ (r k : Nat) (c' : Reg), k + r = n → (∀ j, j < 9 → c' j = B j) → (∀ i q, i < k → q < 7 → c' (i + 9) q = c2 (i + 9) q) → wX3_copyFrom_L130 c2 P (r + 1) (Int32.ofNat k) c' := by
    intro r
    induction r with
    | zero =>
      intro k c' hk h1 h2
      have hk : k = n := hk
      subst hk
      have e8 : c' 0 8 = Int32.ofNat k := by rw [h1 0 (by decide), hb.1 8 (by decide), r8]
      refine ⟨fun _ => h c' (R.same hn G1.2.2.1 ⟨fun i hi => ?_, fun i hi => ?_, fun p hp => ?_, fun i hi => ?_, ?_, h2⟩), fun q => absurd (by rw [e8]; exact Int32.le_refl _) q⟩
      · rw [h1 0 (by decide)]; exact hb.1 i hi
      · rw [h1 1 (by decide)]; exact hb.2.1 i hi
      · rw [h1 2 (by decide), h1 3 (by decide)]; exact hb.2.2.1 p hp
      · rw [h1 6 (by decide), h1 7 (by decide), h1 8 (by decide)]; exact hb.2.2.2.1 i hi
      · rw [h1 5 (by decide)]; exact hb.2.2.2.2
    | succ r ih =>
      intro k c' hk h1 h2
      have e8 : c' 0 8 = Int32.ofNat n := by rw [h1 0 (by decide), hb.1 8 (by decide), r8]
      have ein : vp_in (Int32.ofNat k) 6 := nn_in (by omega) (by omega)
      refine ⟨fun q => ?_, fun _ => ⟨fun q => ?_, fun _ => ⟨ein, ein, ?_⟩⟩⟩
      · rw [e8, nn_le (by omega) (by omega)] at q
        omega
      · rw [show (6 : Int32) = Int32.ofNat 6 from rfl, nn_le (by omega) (by omega)] at q
        omega
      · rw [tn_nat (by omega)]
        refine ⟨?_, ?_⟩
        · have e := R4 k 3 (by omega) (by decide)
          rw [show 27 + 8 * k + 3 = 30 + 8 * k by omega] at e
          rw [e]
          exact W.1 k (by omega)
        · rw [nn_s]
          refine ih (k + 1) _ (by omega) (fun j hj => ?_) (fun i q hi hq => ?_)
          · have hne : j ≠ k + 9 := by omega
            simp only [cu_e, va_un _ _ hne]
            exact h1 j hj
          · by_cases e : i = k
            · subst e
              simp only [cu_e, va_us, va_uu]
              rcases (by omega : q = 0 ∨ q = 1 ∨ q = 2 ∨ q = 3 ∨ q = 4 ∨ q = 5 ∨ q = 6) with e | e | e | e | e | e | e <;> subst e <;> simp [upd]
            · have hne : i + 9 ≠ k + 9 := by omega
              simp only [cu_e, va_un _ _ hne]
              exact h2 i q (by omega) hq
  exact ⟨n + 1, key n 0 B (by omega) (fun _ _ => rfl) (fun i q hi hq => by omega)⟩
/-! a row counts up to its 128th cell -/
theorem Gd.cong2 {n : Nat} {m m' : Row} (G1 : Gd n m) (e : ∀ i, i < 128 → m' i = m i) : Gd n m' := by
  obtain ⟨h1, h2, h3, h4, h5, h6, h7⟩ := G1
  have ew := wy_cong (e 74 (by omega))
  refine ⟨h1, by rw [e 0 (by omega)]; exact h2, by rw [ew]; exact h3, by rw [ew, e 74 (by omega)]; exact h4, ?_, ?_, fun i hi => by rw [e _ (by omega)]; exact h7 i hi⟩
  · rw [ew]
    intro k k' hk hk' he
    rw [e _ (by omega), e _ (by omega)] at he
    exact h5 k k' hk hk' he
  · rw [ew]
    intro k hk
    rw [e _ (by omega)]
    exact h6 k hk
theorem Inv.cong2 {n T : Nat} {m m' : Row} (I : Inv n T m) (e : ∀ i, i < 128 → m' i = m i) : Inv n T m' := by
  obtain ⟨G1, S, W, B1, B2⟩ := I
  have hn := G1.1
  refine ⟨G1.cong2 e, S.lo (fun i hi => e i (by omega)), W.same hn (fun i h1 h2 => e i (by omega)), fun i hi => by rw [e _ (by omega)]; exact B1 i hi, ?_⟩
  rw [made_cong G1.2.2.1 (fun i h1 h2 => e i h2)]
  exact B2
theorem RlM.cong2 {n : Nat} {c : Reg} {m m' : Row} (R : RlM n c m) (G1 : Gd n m) (e : ∀ i, i < 128 → m' i = m i) : RlM n c m' := by
  have hn := G1.1
  have hw := G1.2.2.1
  unfold RlM
  rw [wy_cong (e 74 (by omega))]
  obtain ⟨R1, R2, R3, R4, L1, L2, L3⟩ := R
  refine ⟨?_, fun k hk => by rw [e _ (by omega)]; exact R2 k hk, fun p hp => ?_, fun i q hi hq => by rw [e _ (by omega)]; exact R4 i q hi hq, L1, by rw [e _ (by omega)]; exact L2, fun k hk => ?_⟩
  · rw [e 0 (by omega), e 1 (by omega), e 2 (by omega), e 3 (by omega), e 4 (by omega), e 5 (by omega), e 6 (by omega), e 7 (by omega), e 8 (by omega)]
    exact R1
  · rw [e _ (by omega), capf_cong (fun i h1 h2 => e i (by omega)) (by omega)]
    exact R3 p hp
  · rw [e _ (by omega), e _ (by omega)]
    exact L3 k hk
/-- a State and its row -/
def HR (T : Nat) (c : Reg) (m : Row) : Prop := ∃ n, RlM n c m ∧ Inv n T m
theorem HR.mono {T T' : Nat} {c : Reg} {m : Row} (h : HR T c m) (hT : T ≤ T') : HR T' c m := by
  obtain ⟨n, h1, h2⟩ := h
  exact ⟨n, h1, h2.mono hT⟩
theorem HR.cong2 {T : Nat} {c : Reg} {m m' : Row} (h : HR T c m) (e : ∀ i, i < 128 → m' i = m i) : HR T c m' := by
  obtain ⟨n, h1, h2⟩ := h
  exact ⟨n, h1.cong2 h2.1 e, h2.cong2 e⟩
theorem h3_copyFrom {T : Nat} {c2 c : Reg} {m : Row} {P : Reg → Prop} (H : HR T c2 m) (h : ∀ c' : Reg, HR T c' m → P c') : wX3_copyFrom c2 c P := by
  obtain ⟨n, R, I⟩ := H
  exact s3_copyFrom I.1 I.2.1 I.2.2.1 R (fun c' R' => h c' ⟨n, R', I⟩)
