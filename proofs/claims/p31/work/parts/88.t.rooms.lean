/-! windows -/
theorem RlM.win {n i : Nat} {v : Int32} {c : Reg} {m : Row} (R : RlM n c m) (hn : n ≤ 6) (hi : i < n) : RlM n (cu c (i + 9) 3 v) (upd m (30 + 8 * i) v) := by
  have h := R.cell (v := v) hn hi (q := 3) (by decide)
  rw [show 27 + 8 * i + 3 = 30 + 8 * i by omega] at h
  exact h
theorem Inv.win {n T i : Nat} {m : Row} {v : Int32} (I : Inv n T m) (hi : i < n) (hb : v = 0 ∨ v = 1) : Inv n T (upd m (30 + 8 * i) v) := by
  obtain ⟨G1, S, ⟨W1, W2⟩, B1, B2⟩ := I
  have hn := G1.1
  refine ⟨G1.cong (upd_n _ _ (by omega)) (fun i hi => upd_n _ _ (by omega)) (fun i hi => upd_n _ _ (by omega)), S.lo (fun i hi => upd_n _ _ (by omega)), ⟨fun k hk => ?_, fun k h1 h2 => ?_⟩, fun k hk => by rw [upd_n _ _ (by omega)]; exact B1 k hk, ?_⟩
  · by_cases e : k = i
    · subst e
      rw [upd_s]
      exact hb
    · rw [upd_n _ _ (by omega)]
      exact W1 k hk
  · rw [upd_n _ _ (by omega), upd_n _ _ (by omega), upd_n _ _ (by omega), upd_n _ _ (by omega), upd_n _ _ (by omega)]
    exact W2 k h1 h2
  · rw [made_cong G1.2.2.1 (fun i h1 h2 => upd_n _ _ (by omega))]
    exact B2
/-! a new room -/
def adr (m : Row) (n : Nat) (t wa ra le : Int32) : Row := upd (upd (upd (upd (upd m (26 + 8 * n) t) (27 + 8 * n) wa) (28 + 8 * n) ra) (29 + 8 * n) le) 0 (m 0 + 1)
def addf (m : Row) (n : Nat) (t wa ra le : Int32) : Row := go1 (adr m n t wa ra le) 9 (2 + n) (150 * t)
theorem adr_o {m : Row} {n i : Nat} {t wa ra le : Int32} (h0 : i ≠ 0) (h : i < 26 + 8 * n ∨ 30 + 8 * n ≤ i) : adr m n t wa ra le i = m i := by
  unfold adr
  rw [upd_n _ _ h0, upd_n _ _ (by omega), upd_n _ _ (by omega), upd_n _ _ (by omega), upd_n _ _ (by omega)]
theorem adr_0 {m : Row} {n : Nat} {t wa ra le : Int32} : adr m n t wa ra le 0 = m 0 + 1 := by
  unfold adr
  rw [upd_s]
theorem adr_t {m : Row} {n : Nat} {t wa ra le : Int32} : adr m n t wa ra le (26 + 8 * n) = t := by
  unfold adr
  rw [upd_n _ _ (by omega), upd_n _ _ (by omega), upd_n _ _ (by omega), upd_n _ _ (by omega), upd_s]
theorem Gd.addr {n : Nat} {m : Row} {t wa ra le : Int32} (G1 : Gd n m) (hn : n < 6) (ht : 1 ≤ t.toInt ∧ t.toInt ≤ 9) : Gd (n + 1) (adr m n t wa ra le) := by
  obtain ⟨h1, h2, h3, h4, h5, h6, h7⟩ := G1
  have e1 : ∀ i, 74 ≤ i → adr m n t wa ra le i = m i := fun i hi => adr_o (by omega) (by omega)
  have ew := wy_cong (e1 74 (by omega))
  refine ⟨by omega, by rw [adr_0, h2, nn_s], by rw [ew]; exact h3, by rw [ew, e1 74 (by omega)]; exact h4, by rw [ew]; exact h5.cong e1, by rw [ew]; exact h6.cong e1, fun i hi => ?_⟩
  by_cases e : i = n
  · subst e
    rw [adr_t]
    exact ht
  · rw [adr_o (by omega) (by omega)]
    exact h7 i (by omega)
theorem wl_add : ∀ i, i < 6 → 10 * 9 + (2 + i) ∈ wl26 := by decide
theorem s3_buildRoom {n : Nat} {t wa ra le : Int32} {c : Reg} {m : Row} {P : Reg → Prop} (G1 : Gd n m) (W : Rw n m) (R : RlM n c m) (hn : n < 6) (ht : 1 ≤ t.toInt ∧ t.toInt ≤ 9) (h : ∀ c' : Reg, RlM (n + 1) c' (addf m n t wa ra le) → P c') : wX3_buildRoom t wa ra le c P := by
  have e8 := R.rooms
  have G2 : Gd (n + 1) (adr m n t wa ra le) := G1.addr hn ht
  unfold wX3_buildRoom
  rw [e8]
  refine ⟨fun q => absurd q (ng (by omega)), fun _ => ⟨fun _ => ⟨nn_in (by omega) hn, ?_⟩, fun q => absurd ((nn_lt (b := 6) (by omega) (by omega)).mpr hn) q⟩⟩
  unfold wX2_begin
  rw [tn_nat (by omega), ix_room, tn_nat (by omega)]
  refine ⟨nn_in (by omega) (by omega), nn_in (by omega) (by omega), nn_in (by omega) (by omega), ?_⟩
  generalize hX : cu (cu (cu _ 3 (2 + n) (10 * t)) 2 (2 + n) 0) 0 8 _ = X
  have x3 : ∀ p, X 3 p = if p = 2 + n then 10 * t else c 3 p := by
    intro p
    rw [← hX]
    have : ¬ 3 = n + 9 := by omega
    simp [cu, va_up, upd, this]
  have x2 : ∀ p, X 2 p = if p = 2 + n then 0 else c 2 p := by
    intro p
    rw [← hX]
    have : ¬ 2 = n + 9 := by omega
    simp [cu, va_up, upd, this]
  have x08 : X 0 8 = Int32.ofNat (n + 1) := by
    rw [← hX, ← nn_s, ← e8]
    have : ¬ 0 = n + 9 := by omega
    simp [cu, va_up, upd, this]
  have x0 : ∀ k, k < 8 → X 0 k = c 0 k := by
    intro k hk
    rw [← hX]
    have : ¬ 0 = n + 9 := by omega
    have h8 : ¬ k = 8 := by omega
    simp [cu, va_up, upd, this, h8]
  have xo : ∀ r, r ≠ 0 → r ≠ 2 → r ≠ 3 → r ≠ n + 9 → X r = c r := by
    intro r h0 h2 h3 h9
    rw [← hX]
    simp [cu, va_up, h0, h2, h3, h9]
  have x9 : ∀ q, q < 7 → X (n + 9) q = if q = 0 then wa else if q = 1 then ra else if q = 2 then le else 0 := by
    intro q hq
    rw [← hX]
    rcases (by omega : q = 0 ∨ q = 1 ∨ q = 2 ∨ q = 3 ∨ q = 4 ∨ q = 5 ∨ q = 6) with e | e | e | e | e | e | e <;> subst e <;> simp [cu, va_up, upd]
  have ew : wy (adr m n t wa ra le) = wy m := wy_cong (adr_o (by omega) (by omega))
  have RX : RlM (n + 1) X (adr m n t wa ra le) := by
    unfold RlM
    rw [ew]
    obtain ⟨⟨r0, r1, r2, r3, r4, r5, r6, r7, r8, r9⟩, R2, R3, R4, R5⟩ := R
    have lo : ∀ i, i ≠ 0 → i < 26 → adr m n t wa ra le i = m i := fun i h0 hi => adr_o h0 (by omega)
    refine ⟨⟨?_, ?_, ?_, ?_, ?_, ?_, ?_, ?_, x08, G2.2.1⟩, fun k hk => ?_, fun p hp => ⟨?_, ?_⟩, fun i q hi hq => ?_, ?_⟩
    · rw [x0 0 (by decide), lo 1 (by decide) (by decide)]; exact r0
    · rw [x0 1 (by decide), lo 2 (by decide) (by decide)]; exact r1
    · rw [x0 2 (by decide), lo 3 (by decide) (by decide)]; exact r2
    · rw [x0 3 (by decide), lo 1 (by decide) (by decide), lo 4 (by decide) (by decide)]; exact r3
    · rw [x0 4 (by decide), lo 8 (by decide) (by decide)]; exact r4
    · rw [x0 5 (by decide), lo 5 (by decide) (by decide)]; exact r5
    · rw [x0 6 (by decide), lo 6 (by decide) (by decide)]; exact r6
    · rw [x0 7 (by decide), lo 7 (by decide) (by decide)]; exact r7
    · rw [xo 1 (by decide) (by decide) (by decide) (by omega), lo _ (by omega) (by omega)]; exact R2 k hk
    · rw [x2, lo _ (by omega) (by omega)]
      by_cases e : p = 2 + n
      · rw [if_pos e, e, show 18 + (2 + n) = 20 + n by omega]
        exact (W.2 n (Nat.le_refl n) hn).1.symm
      · rw [if_neg e]
        exact (R3 p (by omega)).1
    · rw [x3]
      by_cases e : p = 2 + n
      · rw [if_pos e, e]
        unfold capf
        rw [if_neg (by omega), if_neg (by omega), show 26 + 8 * (2 + n - 2) = 26 + 8 * n by omega, adr_t]
      · rw [if_neg e, (R3 p (by omega)).2]
        unfold capf
        by_cases p0 : p = 0
        · rw [if_pos p0, if_pos p0]
        · rw [if_neg p0, if_neg p0]
          by_cases p1 : p = 1
          · rw [if_pos p1, if_pos p1]
          · rw [if_neg p1, if_neg p1, adr_o (by omega) (by omega)]
    · by_cases e : i = n
      · subst e
        rw [x9 q hq]
        have z := W.2 i (Nat.le_refl i) hn
        rcases (by omega : q = 0 ∨ q = 1 ∨ q = 2 ∨ q = 3 ∨ q = 4 ∨ q = 5 ∨ q = 6) with e | e | e | e | e | e | e <;> subst e
        · unfold adr
          rw [upd_n _ _ (by omega), upd_n _ _ (by omega), upd_n _ _ (by omega)]
          exact (upd_s _ _ _).symm
        · unfold adr
          rw [upd_n _ _ (by omega), upd_n _ _ (by omega), show 27 + 8 * i + 1 = 28 + 8 * i by omega]
          exact (upd_s _ _ _).symm
        · unfold adr
          rw [upd_n _ _ (by omega), show 27 + 8 * i + 2 = 29 + 8 * i by omega]
          exact (upd_s _ _ _).symm
        · rw [adr_o (by omega) (by omega), show 27 + 8 * i + 3 = 30 + 8 * i by omega]
          exact z.2.1.symm
        · rw [adr_o (by omega) (by omega), show 27 + 8 * i + 4 = 31 + 8 * i by omega]
          exact z.2.2.1.symm
        · rw [adr_o (by omega) (by omega), show 27 + 8 * i + 5 = 32 + 8 * i by omega]
          exact z.2.2.2.1.symm
        · rw [adr_o (by omega) (by omega), show 27 + 8 * i + 6 = 33 + 8 * i by omega]
          exact z.2.2.2.2.symm
      · rw [xo _ (by omega) (by omega) (by omega) (by omega), adr_o (by omega) (by omega)]
        exact R4 i q (by omega) hq
    · exact (R5.same (fun r h1 h2 => xo r (by omega) (by omega) (by omega) (by omega))).cong (fun i hi => adr_o (by omega) (by omega))
  have ea : (15 : Int32) * X 3 (2 + n) = 150 * t := by
    rw [x3, if_pos rfl, ← Int32.mul_assoc]
    rfl
  rw [ea]
  exact q3_move (n := n + 1) (f := 9) (t := 2 + n) G2 RX (Or.inr (Or.inr rfl)) (Or.inl (by omega)) (wl_add n hn) h
theorem Inv.addr {n T : Nat} {t wa ra le : Int32} {m : Row} (I : Inv n T m) (hn : n < 6) (ht : 1 ≤ t.toInt ∧ t.toInt ≤ 9) : Inv (n + 1) T (addf m n t wa ra le) := by
  obtain ⟨G1, S, W, B1, B2⟩ := I
  have G2 : Gd (n + 1) (adr m n t wa ra le) := G1.addr hn ht
  have W2 : Rw (n + 1) (adr m n t wa ra le) := by
    refine ⟨fun i hi => ?_, fun i h1 h2 => ?_⟩
    · rw [adr_o (by omega) (by omega)]
      by_cases e : i = n
      · subst e
        exact Or.inl (W.2 i (Nat.le_refl i) hn).2.1
      · exact W.1 i (by omega)
    · rw [adr_o (by omega) (by omega), adr_o (by omega) (by omega), adr_o (by omega) (by omega), adr_o (by omega) (by omega), adr_o (by omega) (by omega)]
      exact W.2 i (by omega) h2
  have S2 : Sg (adr m n t wa ra le) := S.cong (adr_o (by omega) (by omega)) (adr_o (by omega) (by omega)) (adr_o (by omega) (by omega)) (adr_o (by omega) (by omega)) (adr_o (by omega) (by omega)) (adr_o (by omega) (by omega)) (adr_o (by omega) (by omega)) (adr_o (by omega) (by omega))
  refine ⟨G2.go (wl_add n hn), S2.go, W2.go (by omega) (Or.inr (by omega)) (Or.inl (by omega)), fun i hi => ?_, ?_⟩
  · show 0 ≤ (go1 (adr m n t wa ra le) 9 (2 + n) (150 * t) (31 + 8 * i)).toInt ∧ (go1 (adr m n t wa ra le) 9 (2 + n) (150 * t) (31 + 8 * i)).toInt ≤ T
    rw [go1_at (by omega) (by omega), adr_o (by omega) (by omega)]
    by_cases e : i = n
    · subst e
      rw [(W.2 i (Nat.le_refl i) hn).2.2.1, i0]
      omega
    · exact B1 i (by omega)
  · have e : made (addf m n t wa ra le) = made m := by
      unfold addf
      rw [made_go G2 (wl_add n hn) (code_ne (by omega) (by decide) (by omega)), made_cong G1.2.2.1 (fun i h1 h2 => adr_o (by omega) (by omega))]
    rw [e]
    exact B2
theorem i6 : (6 : Int32).toInt = 6 := rfl
def AddOk (t wa ra le : Int32) : Prop := (1 ≤ t.toInt ∧ t.toInt ≤ 9) ∧ (10 ≤ wa.toInt ∧ wa.toInt ≤ 25) ∧ (1 ≤ ra.toInt ∧ ra.toInt ≤ 9) ∧ (0 ≤ le.toInt ∧ le.toInt ≤ 9)
theorem c5_addRoom {t wa ra le : Int32} {M : Mem} {P : Int32 → Mem → Prop} {X : String → Mem → Prop} (h1 : AddOk t wa ra le → wX3_isFull (M 0) (fun r4 c5 => ((r4 = 0 → wX0_remember (va_up M 0 c5) (fun M6 => wX3_buildRoom t wa ra le (M6 0) (fun c7 => P (((va_up M6 0 c7) 0 0 8) - 1) (va_up M6 0 c7)))) ∧ (¬ r4 = 0 → X eISE (va_up M 0 c5))))) (h0 : ¬ AddOk t wa ra le → X eIAE M) : wX5_addRoom t wa ra le M P X := by
  refine ⟨fun q => h0 (fun g => ?_), fun q1 => ⟨fun q => h0 (fun g => ?_), fun q2 => c5_wanted (fun g2 => ⟨fun q => absurd q z10, fun _ => c5_radiators (fun g3 => ⟨fun q => absurd q z10, fun _ => c5_leak (fun g4 => ⟨fun _ => h1 ⟨⟨?_, ?_⟩, g2, g3, g4⟩, fun q => absurd q z10⟩) (fun g4 => ⟨fun q => absurd rfl q, fun _ => h0 (fun q => g4 q.2.2.2)⟩)⟩) (fun g3 => ⟨fun _ => h0 (fun q => g3 q.2.2.1), fun q => absurd rfl q⟩)⟩) (fun g2 => ⟨fun _ => h0 (fun q => g2 q.2.1), fun q => absurd rfl q⟩)⟩⟩
  · rw [Int32.lt_iff_toInt_lt, i1] at q
    have := g.1.1
    omega
  · rw [Int32.lt_iff_toInt_lt, i9] at q
    have := g.1.2
    omega
  · rw [Int32.lt_iff_toInt_lt, i1] at q1
    omega
  · rw [Int32.lt_iff_toInt_lt, i9] at q2
    omega
