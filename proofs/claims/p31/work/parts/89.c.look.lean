/-! what would be -/
theorem q_ahead {n T p k : Nat} {A : Ab} (I : Inv n T A.1) (hT : T ≤ 100000) (hp : p < 2 + n) (hk : k ≤ 240) : Ro (wL_ahead (Int32.ofNat p) (Int32.ofNat k)) T A (Int32.toInt64 (degf (mns n A.1 k) p)) := by
  intro M P S h
  obtain ⟨R, -⟩ := I.at S.1
  have hn := I.1.1
  unfold wL_ahead wX5_ahead
  refine c3_hasPlace R.rooms hn (fun p' hp' ea => ⟨fun _ => ?_, fun q => absurd q z10⟩) (fun q => absurd (ti_ok hp (by omega)) q)
  rw [va_ue]
  refine ⟨fun q => absurd q (ng (by omega)), fun _ => ⟨fun _ => ?_, fun q => absurd (le_nn (b := 240) (by omega) (by omega) hk) q⟩⟩
  refine s3_copyFrom I.1 I.2.1 I.2.2.1 R (fun c' R' => ?_)
  refine q3_advance I (by omega) (by rw [va_us]; exact R') (fun c2 R2 => ?_)
  refine q3_degrees (I.mns k (by omega)).1 (by rw [va_us]; exact R2) hp ?_
  refine h _ (S.look (fun j hj => ?_)) ?_
  · rw [va_un _ _ hj, va_un _ _ hj, va_un _ _ hj]
  · rw [va_un _ _ (by decide), va_un _ _ (by decide), va_un _ _ (by decide)]
theorem b_ahead1 {n T : Nat} {A : Ab} {a b : Int32} (I : Inv n T A.1) (ha : ¬ (0 ≤ a.toInt ∧ a.toInt < (2 + n : Nat))) : Ro (wL_ahead a b) T A xIOB := by
  intro M P S h
  obtain ⟨R, -⟩ := I.at S.1
  have hn := I.1.1
  unfold wL_ahead wX5_ahead
  refine c3_hasPlace R.rooms hn (fun i hi e => absurd ⟨by rw [e, ti_nat (by omega)]; omega, by rw [e, ti_nat (by omega)]; omega⟩ ha) (fun _ => ⟨fun q => absurd rfl q, fun _ => Or.inl ⟨rfl, ?_⟩⟩)
  rw [va_ue]
  exact h M S rfl
theorem b_ahead2 {n T p : Nat} {A : Ab} {b : Int32} (I : Inv n T A.1) (hp : p < 2 + n) (hb : ¬ (0 ≤ b.toInt ∧ b.toInt < (240 + 1 : Nat))) : Ro (wL_ahead (Int32.ofNat p) b) T A xIAE := by
  intro M P S h
  obtain ⟨R, -⟩ := I.at S.1
  have hn := I.1.1
  unfold wL_ahead wX5_ahead
  refine c3_hasPlace R.rooms hn (fun p' hp' ea => ⟨fun _ => ?_, fun q => absurd q z10⟩) (fun q => absurd (ti_ok hp (by omega)) q)
  rw [va_ue]
  exact bad_rng i240 hb (Or.inr ⟨rfl, h M S rfl⟩)
theorem q_minutesTo {n T i : Nat} {A : Ab} (I : Inv n T A.1) (hT : T ≤ 100000) (hi : i < n) : Ro (wL_minutesTo (Int32.ofNat i)) T A (Int32.toInt64 (tof n A.1 i 241 0)) := by
  intro M P S h
  obtain ⟨R, -⟩ := I.at S.1
  have hn := I.1.1
  unfold wL_minutesTo wX5_minutesTo
  refine c3_hasRoom R.rooms hn (fun i' hi' er => ⟨fun _ => ?_, fun q => absurd q z10⟩) (fun hr => absurd (ti_ok hi (by omega)) hr)
  rw [va_ue]
  refine s3_copyFrom I.1 I.2.1 I.2.2.1 R (fun c' R' => ⟨241, ?_⟩)
  exact k5_minutesTo (M := M) (m := A.1) I hT hi (fun M2 h1 => h M2 (S.look h1) (h1 23 (by decide))) 240 0 _ rfl (fun j hj => va_un _ _ hj) (by rw [va_us]; exact R') rfl
theorem b_minutesTo {n T : Nat} {A : Ab} {r : Int32} (I : Inv n T A.1) (hr : ¬ (0 ≤ r.toInt ∧ r.toInt < n)) : Ro (wL_minutesTo r) T A xIOB := by
  intro M P S h
  obtain ⟨R, -⟩ := I.at S.1
  have hn := I.1.1
  unfold wL_minutesTo wX5_minutesTo
  refine c3_hasRoom R.rooms hn (fun i hi e => absurd (by rw [e]; exact ti_ok hi (by omega)) hr) (fun hr => ⟨fun q => absurd rfl q, fun _ => ⟨rfl, ?_⟩⟩)
  rw [va_ue]
  exact h M S rfl
theorem q_whyOff {n T : Nat} {A : Ab} {M : Mem} {P : Int32 → Mem → Prop} (I : Inv n T A.1) (S : AR T M A) (h : ∀ M', AR T M' A → M' 23 = M 23 → P (whyf (boilg (seasf A.1))) M') : wX5_whyOff M P := by
  obtain ⟨R, I'⟩ := I.at S.1
  exact k5_whyOff I' R I' (fun _ _ => rfl) (fun M2 h1 => h M2 (S.look h1) (h1 23 (by decide)))
theorem q_whyShare {n T : Nat} {A : Ab} {M : Mem} {P : Int32 → Mem → Prop} (I : Inv n T A.1) (S : AR T M A) (h : ∀ M', AR T M' A → M' 23 = M 23 → P (sharef (boilg (seasf A.1))) M') : wX5_whyShare M P := by
  obtain ⟨R, I'⟩ := I.at S.1
  exact k5_whyShare I' R I' (fun _ _ => rfl) (fun M2 h1 => h M2 (S.look h1) (h1 23 (by decide)))
/-- what bestSlope answers -/
def bsf (n k : Nat) (m : Row) : Int32 := if n = 0 then -99999 else Int32.ofNat (bst n k m 30)
theorem q_bestSlope {n T k : Nat} {A : Ab} (I : Inv n T A.1) (hT : T ≤ 100000) (h1k : 1 ≤ k) (hk : k ≤ 240) : Ro (wL_bestSlope (Int32.ofNat k)) T A (Int32.toInt64 (bsf n k A.1)) := by
  intro M P S h
  obtain ⟨R, -⟩ := I.at S.1
  have hn := I.1.1
  unfold wL_bestSlope wX5_bestSlope
  refine ⟨fun q => absurd ((nn_lt (b := 1) (by omega) (by omega)).mp q) (by omega), fun _ => ⟨fun _ => ⟨fun hn0 => s5_low (k := 4) (by decide) ⟨32, ?_⟩, fun q => ?_⟩, fun q => absurd (le_nn (b := 240) (by omega) (by omega) hk) q⟩⟩
  · have hn1 : n ≠ 0 := fun e => hn0 (by rw [R.rooms, e]; rfl)
    unfold bsf at h
    rw [if_neg hn1] at h
    have sb := sumc_b I.2.2.2.1 hn (by omega) n (Nat.le_refl n)
    have sb2 : (n : Int) * T ≤ 6 * 100000 := Int.mul_le_mul (by omega) (by omega) (by omega) (by decide)
    refine s5_high (k := 4) (by decide) ⟨fun q => absurd q (by decide), fun _ => ?_⟩
    refine c5_slope (s := 0) (M := M) (m4 := A.1) (T := T) (n := n) (Q := fun r10 M3 => ((r10 ≤ (-1) → wX5_bestSlope_L47 (Int32.ofNat k) _ _ 31 (-99999) (-1) (sv1 4 + 1) M3) ∧ (¬ r10 ≤ (-1) → wX5_bestSlope_L47 (Int32.ofNat k) _ _ 31 (sv1 4) r10 (sv1 4 + 1) M3))) I R I (fun _ _ => rfl) (by omega) (by omega) (fun _ _ => rfl) (fun M3 h3 => ⟨fun q => absurd q (fun q => ?_), fun _ => ?_⟩)
    · have g0 := gsf_b n k A.1 0 hn (by omega)
      rw [Int32.le_iff_toInt_le, ti_add (by rw [ti_nat (by omega)]; omega) (by rw [ti_nat (by omega)]; omega), ti_nat (by omega), im1] at q
      omega
    · exact k5_bestSlope (M := M) (m := A.1) (m4 := A.1) (T := T) (n := n) I R I (fun _ _ => rfl) hT (by omega) (fun M2 h1 => h M2 (S.look h1) (h1 23 (by decide))) 30 0 M3 rfl h3
  · have hn1 : n = 0 := by
      rw [R.rooms] at q
      exact (nn_eq (b := 0) (by omega) (by omega)).mp q
    unfold bsf at h
    rw [if_pos hn1] at h
    exact h M S rfl
theorem b_bestSlope {T : Nat} {A : Ab} {d : Int32} (hd : ¬ (1 ≤ d.toInt ∧ d.toInt ≤ 240)) : Ro (wL_bestSlope d) T A xIAE := by
  intro M P S h
  unfold wL_bestSlope wX5_bestSlope
  refine ⟨fun _ => ⟨rfl, h M S rfl⟩, fun q => ⟨fun q2 => ?_, fun _ => ⟨rfl, h M S rfl⟩⟩⟩
  rw [Int32.lt_iff_toInt_lt, i1] at q
  rw [Int32.le_iff_toInt_le, i240] at q2
  exact absurd ⟨by omega, by omega⟩ hd
theorem q_leastPower {n T k : Nat} {A : Ab} (I : Inv n T A.1) (hT : T ≤ 100000) (hk : k ≤ 240) : Ro (wL_leastPower (Int32.ofNat k)) T A (Int32.toInt64 (lpf n k A.1 21 0)) := by
  intro M P S h
  obtain ⟨R, I'⟩ := I.at S.1
  unfold wL_leastPower wX5_leastPower
  refine ⟨fun q => absurd q (ng (by omega)), fun _ => ⟨fun _ => s5_low (k := 0) (by decide) ⟨22, ?_⟩, fun q => absurd (le_nn (b := 240) (by omega) (by omega) hk) q⟩⟩
  exact k5_leastPower (M := M) I' R I' (fun _ _ => rfl) hT hk (fun M2 h1 => h M2 (S.look h1) (h1 23 (by decide))) 21 0 M rfl (fun _ _ => rfl) rfl
theorem b_leastPower {T : Nat} {A : Ab} {d : Int32} (hd : ¬ (0 ≤ d.toInt ∧ d.toInt < (240 + 1 : Nat))) : Ro (wL_leastPower d) T A xIAE := by
  intro M P S h
  unfold wL_leastPower wX5_leastPower
  exact bad_rng i240 hd ⟨rfl, h M S rfl⟩
theorem q_heatFor {n T k : Nat} {A : Ab} (I : Inv n T A.1) (hT : T ≤ 100000) (hk : k ≤ 240) : Ro (wL_heatFor (Int32.ofNat k)) T A (Int32.toInt64 (made (mns n A.1 k) - made A.1)) := by
  intro M P S h
  obtain ⟨R, -⟩ := I.at S.1
  unfold wL_heatFor wX5_heatFor wX3_heatMade
  refine ⟨fun q => absurd q (ng (by omega)), fun _ => ⟨fun _ => ?_, fun q => absurd (le_nn (b := 240) (by omega) (by omega) hk) q⟩⟩
  refine s3_copyFrom I.1 I.2.1 I.2.2.1 R (fun c' R' => ?_)
  refine q3_advance I (by omega) (by rw [va_us]; exact R') (fun c2 R2 => ?_)
  refine s3_sumBetween (f := 9) (t := 0) (I.mns k (by omega)).1 (by rw [va_us]; exact R2) (by decide) (by decide) ?_
  refine s3_sumBetween (f := 9) (t := 0) I.1 (by rw [va_un _ _ (by decide), va_un _ _ (by decide), va_un _ _ (by decide)]; exact R) (by decide) (by decide) ?_
  have e : ∀ j, j ≠ 1 → va_up (va_up (va_up (va_up M 1 c') 1 c2) 1 (va_up (va_up M 1 c') 1 c2 1)) 0 (va_up (va_up (va_up M 1 c') 1 c2) 1 (va_up (va_up M 1 c') 1 c2 1) 0) j = M j := by
    intro j hj
    rw [va_ue, va_un _ _ hj, va_un _ _ hj, va_un _ _ hj]
  exact h _ (S.look e) (e 23 (by decide))
theorem b_heatFor {T : Nat} {A : Ab} {d : Int32} (hd : ¬ (0 ≤ d.toInt ∧ d.toInt < (240 + 1 : Nat))) : Ro (wL_heatFor d) T A xIAE := by
  intro M P S h
  unfold wL_heatFor wX5_heatFor
  exact bad_rng i240 hd ⟨rfl, h M S rfl⟩
/-- what simulate answers -/
def smf (n : Nat) (x : Int64) (m : Row) (k : Nat) : Int64 := 1000000 * Int32.toInt64 (Int32.ofNat (sgn n x m k)) + Int32.toInt64 (made (sm n x m k) - made m)
theorem q_simulate {n T k : Nat} {A : Ab} {x : Int64} (I : Inv n T A.1) (hT : T ≤ 100000) (h1k : 1 ≤ k) (hk : k ≤ 60) : Ro (wL_simulate x (Int32.ofNat k)) T A (smf n x A.1 k) := by
  intro M P S h
  obtain ⟨R, I'⟩ := I.at S.1
  unfold wL_simulate wX5_simulate
  refine ⟨fun q => absurd ((nn_lt (b := 1) (by omega) (by omega)).mp q) (by omega), fun _ => ⟨fun _ => ?_, fun q => absurd (le_nn (b := 60) (by omega) (by omega) hk) q⟩⟩
  refine s3_copyFrom I.1 I.2.1 I.2.2.1 R (fun c3 R3 => ⟨k + 1, ?_⟩)
  exact k5_sim (n := n) (T := T) (M := M) (m := A.1) (m4 := A.1) I' R I' hT hk rfl rfl (fun M2 h1 => h M2 (S.look h1) (h1 23 (by decide))) k 0 _ (by omega) (fun j hj => va_un _ _ hj) (by rw [va_us]; exact R3)
theorem b_simulate {T : Nat} {A : Ab} {x : Int64} {d : Int32} (hd : ¬ (1 ≤ d.toInt ∧ d.toInt ≤ 60)) : Ro (wL_simulate x d) T A xIAE := by
  intro M P S h
  unfold wL_simulate wX5_simulate
  refine ⟨fun _ => ⟨rfl, h M S rfl⟩, fun q => ⟨fun q2 => ?_, fun _ => ⟨rfl, h M S rfl⟩⟩⟩
  rw [Int32.lt_iff_toInt_lt, i1] at q
  rw [Int32.le_iff_toInt_le, show (60 : Int32).toInt = 60 from rfl] at q2
  exact absurd ⟨by omega, by omega⟩ hd
theorem q_script {n T N X : Nat} {A : Ab} {x : Int64} (I : Inv n T A.1) (hT : T ≤ 100000) (h1 : 1 ≤ N) (hN : N ≤ 4) (hx : x.toInt = X) (hX : X < 10000 ^ N) : Ro (wL_script (Int32.ofNat N) x) T A (Int32.toInt64 (rsf n (fun v => grp X (N - 1 - v)) N 0 A.1)) := by
  intro M P S h
  obtain ⟨R, I'⟩ := I.at S.1
  obtain ⟨t1, t2, t3, t4⟩ := ttf_lsf N (by omega)
  unfold wL_script wX5_runScript
  refine ⟨fun q => absurd ((nn_lt (b := 1) (by omega) (by omega)).mp q) (by omega), fun _ => ⟨fun _ => ⟨fun q => ?_, fun _ => c5_longest (by omega) ⟨fun _ => ?_, fun q2 => absurd ?_ q2⟩⟩, fun q => absurd (le_nn (b := 4) (by omega) (by omega) hN) q⟩⟩
  · rw [lg_cmp_lt, Int64.lt_iff_toInt_lt, l0] at q
    omega
  · refine s3_copyFrom I.1 I.2.1 I.2.2.1 R (fun c3 R3 => ⟨N + 1, ?_⟩)
    exact k5_script (n := n) (N := N) (A := X) (M := M) (res := rsf n (fun v => grp X (N - 1 - v)) N 0 A.1) hx (by omega) (fun M2 h1 => h M2 (S.look h1) (h1 23 (by decide))) N 0 T A.1 _ (by omega) I' (by omega) (fun j hj => va_un _ _ hj) (by rw [va_us]; exact R3) rfl
  · rw [lg_cmp_le, Int64.le_iff_toInt_le, t3, hx]
    have : (X : Int) < (10000 ^ N : Nat) := by exact_mod_cast hX
    omega
theorem b_script {T : Nat} {A : Ab} {x : Int64} {d : Int32} (hd : ¬ (1 ≤ d.toInt ∧ d.toInt ≤ 4) ∨ ∃ N : Nat, 1 ≤ N ∧ N ≤ 4 ∧ d = Int32.ofNat N ∧ (10000 ^ N : Nat) ≤ x.toInt) : Ro (wL_script d x) T A xIAE := by
  intro M P S h
  unfold wL_script wX5_runScript
  by_cases hd2 : 1 ≤ d.toInt ∧ d.toInt ≤ 4
  · obtain ⟨N, h1, h4, e, hx⟩ := hd.resolve_left (fun q => q hd2)
    subst e
    obtain ⟨t1, t2, t3, t4⟩ := ttf_lsf N (by omega)
    refine ⟨fun q => ⟨rfl, h M S rfl⟩, fun _ => ⟨fun _ => ⟨fun q => ⟨rfl, h M S rfl⟩, fun q => c5_longest (by omega) ⟨fun q2 => ?_, fun q2 => ⟨rfl, h M S rfl⟩⟩⟩, fun q => ⟨rfl, h M S rfl⟩⟩⟩
    rw [lg_cmp_le, Int64.le_iff_toInt_le, t3] at q2
    omega
  · refine ⟨fun _ => ⟨rfl, h M S rfl⟩, fun q => ⟨fun q2 => ?_, fun _ => ⟨rfl, h M S rfl⟩⟩⟩
    rw [Int32.lt_iff_toInt_lt, i1] at q
    rw [Int32.le_iff_toInt_le, show (4 : Int32).toInt = 4 from rfl] at q2
    exact absurd ⟨by omega, by omega⟩ hd2
/-! texts -/
def row0 : Row := clr (fun _ => 0)
theorem q_append {T : Nat} {A : Ab} {a : Int32} (ht : A.2.2.2.1 < 80) (ha : 0 ≤ a.toInt ∧ a.toInt < (256 : Nat)) : Sp (wL_append a) T A T (Int32.toInt64 (Int32.ofNat (A.2.2.2.1 + 1))) (A.1, A.2.1, A.2.2.1, (A.2.2.2.1 + 1, upd A.2.2.2.2 A.2.2.2.1 a)) := by
  intro M P S h
  obtain ⟨S1, S2, S3, t2, t1, t4⟩ := S
  refine s5_append t2 ht ha (fun M1 h1 h2 h3 h4 => h _ ⟨?_, S2.same (Nat.le_refl _) (fun i g1 g2 => h1 i (by omega)) ?_ (h2 3 (by decide) (by decide)), S3.same (Nat.le_refl _) (h1 16 (by decide)) (h1 17 (by decide)) (h2 5 (by decide) (by decide)), ⟨h3, ht, fun k hk => ?_⟩⟩ (h1 23 (by decide)))
  · rw [h1 0 (by decide)]; exact S1
  · rw [h2 2 (by decide) (by decide)]
  · show M1 20 1 k = upd A.2.2.2.2 A.2.2.2.1 a k ∧ 0 ≤ (upd A.2.2.2.2 A.2.2.2.1 a k).toInt ∧ (upd A.2.2.2.2 A.2.2.2.1 a k).toInt ≤ 255
    have hk : k < A.2.2.2.1 + 1 := hk
    rw [h4]
    by_cases e : k = A.2.2.2.1
    · subst e
      rw [upd_s, upd_s]
      exact ⟨rfl, ha.1, by omega⟩
    · rw [upd_n _ _ e, upd_n _ _ e]
      exact t4 k (by omega)
theorem b_append {T : Nat} {A : Ab} {a : Int32} (ha : ¬ (0 ≤ a.toInt ∧ a.toInt < (256 : Nat))) : Ro (wL_append a) T A xIAE := by
  intro M P S h
  unfold wL_append wX5_append
  refine ⟨fun _ => Or.inl ⟨rfl, h M S rfl⟩, fun q => ⟨fun q2 => ?_, fun _ => Or.inl ⟨rfl, h M S rfl⟩⟩⟩
  rw [Int32.lt_iff_toInt_lt, i0] at q
  rw [Int32.le_iff_toInt_le, i255] at q2
  exact absurd ⟨by omega, by omega⟩ ha
theorem q_clearText {T : Nat} {A : Ab} {M : Mem} {P : Int32 → Mem → Prop} (S : AR T M A) (h : ∀ M', AR T M' (A.1, A.2.1, A.2.2.1, (0, fun _ => 0)) → M' 23 = M 23 → P (Int32.ofNat A.2.2.2.1) M') : wX5_clearText M P := by
  obtain ⟨S1, S2, S3, t2, t1, t4⟩ := S
  unfold wX5_clearText
  rw [t2]
  exact h _ ⟨S1, S2.same (Nat.le_refl _) (fun i h1 h2 => va_un _ _ (by omega)) rfl rfl, S3.same (Nat.le_refl _) rfl rfl rfl, ⟨rfl, Nat.zero_le _, fun k hk => absurd hk (Nat.not_lt_zero k)⟩⟩ rfl
/-- what errorPosition answers -/
def epf (t : Tt) : Int32 := match (prs t.1 t.2 row0).2 with
  | some _ => -99999
  | none => Int32.ofNat (prs t.1 t.2 row0).1
theorem q_errorPosition {T : Nat} {A : Ab} {M : Mem} {P : Int32 → Mem → Prop} (S : AR T M A) (h : ∀ M', AR T M' A → M' 23 = M 23 → P (epf A.2.2.2) M') : wX5_errorPosition M P := by
  have S0 := S
  obtain ⟨S1, S2, S3, t2, X⟩ := S
  have fr : ∀ (M' : Mem) (c' : Reg) (q : Nat), CS M M' A.2.2.2.1 c' q → AR T M' A ∧ M' 23 = M 23 := fun M' c' q C => ⟨S0.frame (Nat.le_refl _) (fun i g1 g2 => C.2.2.2.2.2 i g2 (by omega)) (fun j hj => C.2.2.2.2.1 j hj), C.2.2.2.2.2 23 (by decide) (by decide)⟩
  refine c4_readInto (old := fun _ => 0) X (cs_start t2) (fun row' n' M' c' g C R I => ⟨fun q => absurd q z10, fun _ => ?_⟩) (fun g M' c' C => ⟨fun _ => ?_, fun q => absurd rfl q⟩)
  · have e : epf A.2.2.2 = -99999 := by unfold epf row0; rw [g]
    rw [e] at h
    exact h _ (fr M' c' _ C).1 (fr M' c' _ C).2
  · have e : epf A.2.2.2 = Int32.ofNat (prs A.2.2.2.1 A.2.2.2.2 row0).1 := by unfold epf row0; rw [g]
    rw [e] at h
    rw [C.2.2.1]
    exact h _ (fr M' c' _ C).1 (fr M' c' _ C).2
theorem q_load {T : Nat} {A : Ab} {row : Row} (hp : (prs A.2.2.2.1 A.2.2.2.2 row0).2 = some row) : Sp wL_load T A T (Int32.toInt64 (row 0)) (row, h00, (fun _ => none), A.2.2.2) := by
  intro M P S h
  obtain ⟨S1, S2, S3, t2, X⟩ := S
  refine c4_readInto (old := fun _ => 0) X (cs_start t2) (fun row' n' M' c' e C R I => ⟨fun _ => ?_, fun q => absurd q z10⟩) (fun e M' c' C => absurd (e.symm.trans hp) (fun q => by cases q))
  have er : row' = row := Option.some.inj (e.symm.trans hp)
  subst er
  refine s3_copyFrom I.1 I.2.1 I.2.2.1 (by rw [C.1]; exact R) (fun c4 R4 => ?_)
  unfold wX0_forgetAll
  refine ⟨3, fun q => absurd q (by decide), fun _ => ⟨nn_in (a := 0) (by decide) (by decide), fun q => absurd q (by decide), fun _ => ⟨nn_in (a := 1) (by decide) (by decide), fun _ => ?_, fun q => absurd (by decide) q⟩⟩⟩
  rw [bool0]
  generalize hM : va_up (va_up (va_up (va_up M' 0 c4) 20 _) 20 _) 20 _ = M2
  have m0 : M2 0 = c4 := by rw [← hM]; rfl
  have mo : ∀ i, i ≠ 0 → i ≠ 20 → M2 i = M' i := fun i h0 h20 => by rw [← hM, va_un _ _ h20, va_un _ _ h20, va_un _ _ h20, va_un _ _ h0]
  have mj : ∀ j, j ≠ 2 → j ≠ 5 → M2 20 j = M' 20 j := fun j h2 h5 => by
    rw [← hM, va_us, cu_e, va_un _ _ h5, va_us, cu_e, va_un _ _ h5, va_us, cu_e, va_un _ _ h2, va_un _ _ (by decide)]
  have m21 : M2 20 2 1 = 0 := by rw [← hM]; rfl
  have m50 : M2 20 5 0 = 0 := by rw [← hM]; rfl
  have m51 : M2 20 5 1 = 0 := by rw [← hM]; rfl
  have e8 : M2 0 0 8 = row' 0 := by rw [m0, R4.rooms, I.1.2.1]
  rw [e8]
  refine h _ ⟨?_, S2.empty m21 ?_, fun s hs => ?_, ⟨?_, X.1, fun k hk => ?_⟩⟩ ?_
  · rw [m0]
    exact ⟨n', R4, I.mono (by omega)⟩
  · rw [mj 3 (by decide) (by decide)]; exact C.2.2.2.2.1 3 (by decide)
  · show M2 20 5 s = 0
    rcases (by omega : s = 0 ∨ s = 1) with es | es <;> subst es
    · exact m50
    · exact m51
  · rw [mj 0 (by decide) (by decide), C.2.2.2.2.1 0 (by decide)]
    exact t2
  · rw [mj 1 (by decide) (by decide), C.2.2.2.2.1 1 (by decide)]
    exact X.2 k hk
  · rw [mo 23 (by decide) (by decide)]; exact C.2.2.2.2.2 23 (by decide) (by decide)
