/-! append -/
theorem char_n : ∀ n : Nat, n < 256 → ((Int32.toUInt32 (Int32.ofNat n)) % 65536).toInt32 = Int32.ofNat n := by decide +kernel
theorem char_e {a : Int32} (h : 0 ≤ a.toInt ∧ a.toInt < (256 : Nat)) : vp_nar .char ((Int32.toUInt32 a % 65536).toInt32) = a := by
  obtain ⟨k, hk, e⟩ := nat_of h
  rw [pk_vc, e, char_n k hk]
theorem i255 : (255 : Int32).toInt = 255 := rfl
theorem i80 : (80 : Int32).toInt = 80 := rfl
theorem s5_append {M : Mem} {a : Int32} {t : Nat} {P : Int32 → Mem → Prop} {X : String → Mem → Prop} (t2 : M 20 0 1 = Int32.ofNat t) (ht : t < 80) (ha : 0 ≤ a.toInt ∧ a.toInt < (256 : Nat)) (h : ∀ M1 : Mem, (∀ i, i ≠ 20 → M1 i = M i) → (∀ j, j ≠ 0 → j ≠ 1 → M1 20 j = M 20 j) → M1 20 0 1 = Int32.ofNat (t + 1) → M1 20 1 = upd (M 20 1) t a → P (Int32.ofNat (t + 1)) M1) : wX5_append a M P X := by
  unfold wX5_append
  rw [char_e ha, t2, tn_nat (by omega)]
  generalize hM : va_up (va_up M 20 (cu (M 20) 1 t a)) 20 _ = M1
  have e20 : M1 20 = cu (cu (M 20) 1 t a) 0 1 (cu (M 20) 1 t a 0 1 + 1) := by rw [← hM, va_us, va_us]
  have e1 : M1 20 0 1 = Int32.ofNat (t + 1) := by
    rw [e20, cu_e, va_us, upd_s, cu_e, va_un _ _ (by decide), t2, nn_s]
  refine ⟨fun q => ?_, fun _ => ⟨fun _ => ⟨fun q => absurd q (ng (by omega)), fun _ => ⟨fun _ => ⟨nn_in (by omega) ht, ?_⟩, fun q => absurd ((nn_lt (b := 80) (by omega) (by omega)).mpr ht) q⟩⟩, fun q => ?_⟩⟩
  · rw [Int32.lt_iff_toInt_lt, i0] at q
    omega
  · rw [e1]
    refine h M1 (fun i hi => ?_) (fun j h0 h1 => ?_) e1 ?_
    · rw [← hM, va_un _ _ hi, va_un _ _ hi]
    · rw [e20, cu_e, va_un _ _ h0, cu_e, va_un _ _ h1]
    · rw [e20, cu_e, va_un _ _ (by decide), cu_e, va_us]
  · rw [Int32.le_iff_toInt_le, i255] at q
    omega
/-! actions -/
theorem cu_sv (c : Reg) (j i : Nat) (v : Int32) : cu c j i v j = upd (c j) i v := by rw [cu_e, va_us]
/-! outside -/
theorem RlM.out {n : Nat} {c : Reg} {m : Row} {v : Int32} (hn : n ≤ 6) (R : RlM n c m) : RlM n (cu c 0 1 v) (upd m 2 v) := by
  unfold RlM
  rw [wy_cong (upd_n _ _ (by decide))]
  obtain ⟨r0, r1, r2, r3, r4, r5, r6, r7, r8, r9⟩ := R.1
  refine Rel.small R (fun r hr => by rw [cu_e, va_un _ _ hr]) (fun i hi => upd_n _ _ (by omega)) ?_ hn
  simp [cu, va_up, upd, r0, r2, r3, r4, r5, r6, r7, r8, r9]
theorem Inv.out {n T : Nat} {m : Row} {v : Int32} (I : Inv n T m) (h1 : -20 ≤ v.toInt) (h2 : v.toInt ≤ 40) : Inv n T (upd m 2 v) := by
  obtain ⟨G1, S, W, B1, B2⟩ := I
  have hn := G1.1
  obtain ⟨s3, s6, s7, s5, ⟨sa, sb, sc, sd⟩, s14, s9⟩ := S
  refine ⟨G1.cong (upd_n _ _ (by decide)) (fun i hi => upd_n _ _ (by omega)) (fun i hi => upd_n _ _ (by omega)), ?_, W.same hn (fun i h1 h2 => upd_n _ _ (by omega)), fun i hi => by rw [upd_n _ _ (by omega)]; exact B1 i hi, ?_⟩
  · unfold Sg Mild
    rw [upd_s, upd_n _ _ (by decide), upd_n _ _ (by decide), upd_n _ _ (by decide), upd_n _ _ (by decide), upd_n _ _ (by decide), upd_n _ _ (by decide), upd_n _ _ (by decide)]
    exact ⟨s3, s6, s7, s5, ⟨h1, h2, sc, sd⟩, s14, s9⟩
  · rw [made_cong G1.2.2.1 (fun i h1 h2 => upd_n _ _ (by omega))]
    exact B2
theorem im20 : (-20 : Int32).toInt = -20 := rfl
theorem i40 : (40 : Int32).toInt = 40 := rfl
theorem c5_outside {a : Int32} {P : Int32 → Prop} (h1 : -20 ≤ a.toInt ∧ a.toInt ≤ 40 → P 1) (h0 : ¬ (-20 ≤ a.toInt ∧ a.toInt ≤ 40) → P 0) : wX5_outsideAllowed a P := by
  refine ⟨fun q => h0 ?_, fun q => ⟨fun q2 => h0 ?_, fun q2 => h1 ?_⟩⟩
  · rw [Int32.lt_iff_toInt_lt, im20] at q
    omega
  · rw [Int32.lt_iff_toInt_lt, i40] at q2
    omega
  · rw [Int32.lt_iff_toInt_lt, im20] at q
    rw [Int32.lt_iff_toInt_lt, i40] at q2
    omega
