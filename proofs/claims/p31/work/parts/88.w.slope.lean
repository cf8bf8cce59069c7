/-! what lies behind a row's 128 cells stays -/
theorem go1_hi {n f t i : Nat} {m : Row} {u : Int32} (G1 : Gd n m) (ha : 10 * f + t ∈ wl26) (hi : 128 ≤ i) : go1 m f t u i = m i := by
  have hw := G1.2.2.1
  unfold go1 gof
  split
  · rfl
  · rw [addh_at (by omega), subh_at (by omega)]
    unfold wayf
    cases hl : lasti m (codeOf f t) (wy m) with
    | some k =>
      have := (lasti_lt hl).1
      exact upd_n _ _ (by omega)
    | none =>
      have h26 := pigeon G1.2.2.2.2.1 G1.2.2.2.2.2.1 ha hl
      show (upd (upd (upd (upd m (75 + 2 * wy m) (codeOf f t)) (76 + 2 * wy m) 0) 74 (m 74 + 1)) (76 + 2 * wy m) (0 + u)) i = m i
      rw [upd_n _ _ (by omega), upd_n _ _ (by omega), upd_n _ _ (by omega), upd_n _ _ (by omega)]
theorem iter_hi {n i : Nat} {f : Row → Nat → Row} {m : Row} (hg : ∀ (m : Row) (i : Nat), Gd n m → i < n → Gd n (f m i)) (hf : ∀ (m : Row) (k : Nat), Gd n m → k < n → f m k i = m i) (G1 : Gd n m) : ∀ k, k ≤ n → iter f m k i = m i := by
  intro k
  induction k with
  | zero => intro _; rfl
  | succ k ih => intro hk; exact (hf _ k (iter_Gd hg G1 k (by omega)) (by omega)).trans (ih (by omega))
theorem mnA_hi {n i : Nat} {m : Row} (G1 : Gd n m) (hi : 128 ≤ i) : mnA m i = m i := by
  have e1 : boilg (seasf m) i = m i := by
    rw [boilg_e]
    have e0 : boil1 (seasf m) i = m i := by rw [boil1_o (by omega) (by omega) (by omega), seasf_o (by omega) (by omega)]
    split
    · rw [go1_hi G1.seas.boil1 (by decide) hi, e0]
    · exact e0
  unfold mnA
  rw [mixg_e]
  split
  · rw [valvef_o (by omega), e1]
  · rw [go1_hi G1.seas.boil.valve (by decide) hi, valvef_o (by omega), e1]
theorem mnf_hi {n i : Nat} {m : Row} (G1 : Gd n m) (hi : 128 ≤ i) : mnf n m i = m i := by
  have hn := G1.1
  have g1 := iter_Gd (fun _ _ g hi => g.rad hi) G1.A n (Nat.le_refl n)
  unfold mnf
  rw [upd_n _ _ (by omega)]
  have e1 : mnC n m i = mnB n m i := iter_hi (fun _ _ g hi => g.feel hi) (fun m k g hk => (by have := what_b m k; unfold feelf; exact upd_n _ _ (by omega))) G1.B n (Nat.le_refl n)
  have e2 : mnB n m i = iter radf (mnA m) n i := iter_hi (fun _ _ g hi => g.leak hi) (fun m k g hk => (by
    have hw := wl_out k (by omega)
    unfold leakf
    rw [go1_hi (g.go hw.1) hw.2 hi, go1_hi g hw.1 hi])) g1 n (Nat.le_refl n)
  have e3 : iter radf (mnA m) n i = mnA m i := iter_hi (fun _ _ g hi => g.rad hi) (fun m k g hk => (by
    unfold radf
    split
    · rfl
    · split
      · rfl
      · exact go1_hi g (wl_rad k (by omega)) hi)) G1.A n (Nat.le_refl n)
  rw [e1, e2, e3, mnA_hi G1 hi]
theorem mns_hi {n T i : Nat} {m : Row} (I : Inv n T m) (hi : 128 ≤ i) : ∀ k, T + k ≤ 1000000 → mns n m k i = m i := by
  intro k
  induction k with
  | zero => intro _; rfl
  | succ k ih =>
    intro hk
    show mnf n (mns n m k) i = m i
    rw [mnf_hi (I.mns k (by omega)).1 hi, ih (by omega)]
theorem cpy_hi {f g : Row} : ∀ i, 128 ≤ i → va_cpy f g 0 0 128 i = g i := fun i hi => by
  unfold va_cpy
  rw [if_neg (by omega)]
/-- copied again, it is the same row -/
theorem cpy_eq {f g : Row} {m4 : Row} (e4 : ∀ i, i < 128 → m4 i = f i) (h : ∀ i, 128 ≤ i → g i = m4 i) : va_cpy f g 0 0 128 = m4 := by
  funext i
  by_cases hi : i < 128
  · rw [cpy_in hi, e4 i hi]
  · rw [cpy_hi i (by omega), h i (by omega)]
/-! bestSlope -/
def gsf (n k : Nat) (m : Row) (s : Nat) : Nat := gns n (upd m 13 (Int32.ofNat s)) k
def bst (n k : Nat) (m : Row) : Nat → Nat
  | 0 => 0
  | s + 1 => if gsf n k m (s + 1) ≤ gsf n k m (bst n k m s) then bst n k m s else s + 1
theorem bst_le (n k : Nat) (m : Row) : ∀ s, bst n k m s ≤ s := by
  intro s
  induction s with
  | zero => exact Nat.le_refl 0
  | succ s ih =>
    unfold bst
    split <;> omega
theorem sumc_b {n T : Nat} {m : Row} (B : ∀ i, i < n → 0 ≤ (m (31 + 8 * i)).toInt ∧ (m (31 + 8 * i)).toInt ≤ T) (hn : n ≤ 6) (hT : T ≤ 1000000) : ∀ k, k ≤ n → 0 ≤ (sumc m k).toInt ∧ (sumc m k).toInt ≤ k * T := by
  intro k
  induction k with
  | zero => intro _; rw [show (sumc m 0).toInt = 0 from rfl]; omega
  | succ k ih =>
    intro hk
    have h1 := ih (by omega)
    have h2 := B k (by omega)
    have h3 : (k : Int) * T ≤ 6 * 1000000 := Int.mul_le_mul (by omega) (by omega) (by omega) (by decide)
    have h4 : ((k + 1 : Nat) : Int) * T = k * T + T := by rw [Int.natCast_succ, Int.add_mul, Int.one_mul]
    show 0 ≤ (sumc m k + m (31 + 8 * k)).toInt ∧ (sumc m k + m (31 + 8 * k)).toInt ≤ ((k + 1 : Nat) : Int) * T
    rw [ti_add (by omega) (by omega), h4]
    omega
theorem gsf_b (n k : Nat) (m : Row) (s : Nat) (hn : n ≤ 6) (hk : k ≤ 240) : gsf n k m s ≤ 1440 := by
  have h1 := gns_b n (upd m 13 (Int32.ofNat s)) k
  have h2 : n * k ≤ 6 * 240 := Nat.mul_le_mul hn hk
  unfold gsf
  omega
theorem sum_le {S : Int32} {a b : Nat} (h0 : 0 ≤ S.toInt) (h1 : S.toInt ≤ 6000000) (ha : a ≤ 1440) (hb : b ≤ 1440) : S + Int32.ofNat a ≤ S + Int32.ofNat b ↔ a ≤ b := by
  rw [Int32.le_iff_toInt_le, ti_add (by rw [ti_nat (by omega)]; omega) (by rw [ti_nat (by omega)]; omega), ti_add (by rw [ti_nat (by omega)]; omega) (by rw [ti_nat (by omega)]; omega), ti_nat (by omega), ti_nat (by omega)]
  omega
theorem setok4 {s : Nat} (hs : s ≤ 30) : SetOk 4 (Int32.ofNat s) := by
  unfold SetOk
  rw [ti_nat (by omega), show (sv1 4).toInt = 0 from rfl, show (sv2 4).toInt = 30 from rfl]
  omega
theorem c5_slope {n T k s : Nat} {M M2 : Mem} {m m4 : Row} {Q : Int32 → Mem → Prop} (I : Inv n T m) (R : RlM n (M 0) m) (I4 : Inv n T m4) (e4 : ∀ i, i < 128 → m4 i = m i) (hT : T + k ≤ 1000000) (hs : s ≤ 30) (h1 : ∀ j, j ≠ 1 → M2 j = M j) (h : ∀ M3 : Mem, (∀ j, j ≠ 1 → M3 j = M j) → Q (sumc m4 n + Int32.ofNat (gsf n k m4 s)) M3) : wX3_copyFrom (M2 0) (M2 1) (fun c7 => wX3_changeSetting 4 (Int32.ofNat s) ((va_up M2 1 c7) 1) (fun c8 => wX3_advance (Int32.ofNat k) ((va_up (va_up M2 1 c7) 1 c8) 1) (fun c9 => wX3_allComfort ((va_up (va_up (va_up M2 1 c7) 1 c8) 1 c9) 1) (fun r10 c11 => Q r10 (va_up (va_up (va_up (va_up M2 1 c7) 1 c8) 1 c9) 1 c11))))) := by
  have hn := I.1.1
  refine s3_copyFrom I.1 I.2.1 I.2.2.1 (by rw [h1 0 (by decide)]; exact R) (fun c7 R7 => c3_change (k := 4) (by decide) ?_)
  have I8 : Inv n T (upd m4 13 (Int32.ofNat s)) := I4.set (k := 4) (by decide) (setok4 hs)
  have R8 : RlM n (cu c7 1 4 (Int32.ofNat s)) (upd m4 13 (Int32.ofNat s)) := (R7.cong2 I.1 e4).set hn (k := 4) (by decide)
  refine q3_advance I8 hT R8 (fun c9 R9 => c3_allComfort R9 hn ?_)
  rw [sum_mns hn, sumc_cong (m := m4) n (fun k hk => upd_n _ _ (by omega))]
  exact h _ (fun j hj => by simp only [va_un _ _ hj]; exact h1 j hj)
theorem k5_bestSlope {n T k : Nat} {M : Mem} {m m4 : Row} {P : Int32 → Mem → Prop} {X : String → Mem → Prop} (I : Inv n T m) (R : RlM n (M 0) m) (I4 : Inv n T m4) (e4 : ∀ i, i < 128 → m4 i = m i) (hT : T ≤ 100000) (hk : k ≤ 240) (h : ∀ M2 : Mem, (∀ j, j ≠ 1 → M2 j = M j) → P (Int32.ofNat (bst n k m4 30)) M2) : ∀ (r s : Nat) (M2 : Mem), s + r = 30 → (∀ j, j ≠ 1 → M2 j = M j) → wX5_bestSlope_L47 (Int32.ofNat k) P X (r + 1) (Int32.ofNat (bst n k m4 s)) (sumc m4 n + Int32.ofNat (gsf n k m4 (bst n k m4 s))) (Int32.ofNat (s + 1)) M2 := by
  have hn := I.1.1
  have sb := sumc_b I4.2.2.2.1 hn (by omega) n (Nat.le_refl n)
  have sb2 : (n : Int) * T ≤ 6 * 100000 := Int.mul_le_mul (by omega) (by omega) (by omega) (by decide)
  intro r
  induction r with
  | zero =>
    intro s M2 hs h1
    have hs : s = 30 := hs
    subst hs
    exact s5_high (k := 4) (by decide) ⟨fun _ => h M2 h1, fun q => absurd (by decide) q⟩
  | succ r ih =>
    intro s M2 hs h1
    refine s5_high (k := 4) (by decide) ⟨fun q => absurd q (fun q => ?_), fun _ => ?_⟩
    · have := (nn_lt (a := 30) (by omega) (by omega)).mp q
      omega
    refine c5_slope (Q := fun r10 M3 => ((r10 ≤ (sumc m4 n + Int32.ofNat (gsf n k m4 (bst n k m4 s))) → wX5_bestSlope_L47 (Int32.ofNat k) P X (r + 1) (Int32.ofNat (bst n k m4 s)) (sumc m4 n + Int32.ofNat (gsf n k m4 (bst n k m4 s))) (Int32.ofNat (s + 1) + 1) M3) ∧ (¬ r10 ≤ (sumc m4 n + Int32.ofNat (gsf n k m4 (bst n k m4 s))) → wX5_bestSlope_L47 (Int32.ofNat k) P X (r + 1) (Int32.ofNat (s + 1)) r10 (Int32.ofNat (s + 1) + 1) M3))) I R I4 e4 (by omega) (by omega) h1 (fun M3 h3 => ?_)
    rw [sum_le sb.1 (by omega) (gsf_b _ _ _ _ hn hk) (gsf_b _ _ _ _ hn hk), nn_s]
    have hi := ih (s + 1) M3 (by omega) h3
    have eb : bst n k m4 (s + 1) = if gsf n k m4 (s + 1) ≤ gsf n k m4 (bst n k m4 s) then bst n k m4 s else s + 1 := rfl
    refine ⟨fun q => ?_, fun q => ?_⟩
    · rw [eb, if_pos q] at hi; exact hi
    · rw [eb, if_neg q] at hi; exact hi
