/-! append -/
theorem char_n : ∀ n : Nat, n < 256 → ((Int32.toUInt32 (Int32.ofNat n)) % 65536).toInt32 = Int32.ofNat n := by decide +kernel
theorem char_e {a : Int32} (h : 0 ≤ a.toInt ∧ a.toInt < (256 : Nat)) : vp_nar .char ((Int32.toUInt32 a % 65536).toInt32) = a := by
  obtain ⟨k, hk, e⟩ := nat_of h
  rw [pk_vc, e, char_n k hk]
theorem i255 : (255 : Int32).toInt = 255 := rfl
theorem i80 : (80 : Int32).toInt = 80 := rfl
theorem s5_append {M : Mem} {a : Int32} {t : Nat} {P : Int32 → Mem → Prop} {X : String → Mem → Prop} (t2 : M 20 0 1 = Int32.ofNat t) (ht : t < 80) (ha : 0 ≤ a.toInt ∧ a.toInt < (256 : Nat)) (h : ∀ M1 : Mem, (∀ i, i ≠ 20 → M1 i = M i) → (∀ j, j ≠ 0 → j ≠ 1 → M1 20 j = M 20 j) → M1 20 0 1 = Int32.ofNat (t + 1) → M1 20 1 = upd (M 20 1) t a → P (Int32.ofNat (t + 1)) M1) : wX5_append a M P X := by
  unfold wX5_append
  rw [char_e ha, t2, tn_nat (by omega)]
  generalize hM : va_up (va_up M 20 (cu (M 20) 1 t a)) 20 _ = M1
  have e20 : M1 20 = cu (cu (M 20) 1 t a) 0 1 (cu (M 20) 1 t a 0 1 + 1) := by rw [← hM, va_us, va_us]
  have e1 : M1 20 0 1 = Int32.ofNat (t + 1) := by
    rw [e20, cu_e, va_us, upd_s, cu_e, va_un _ _ (by decide), t2, nn_s]
  refine ⟨fun q => ?_, fun _ => ⟨fun _ => ⟨fun q => absurd q (ng (by omega)), fun _ => ⟨fun _ => ⟨nn_in (by omega) ht, ?_⟩, fun q => absurd ((nn_lt (b := 80) (by omega) (by omega)).mpr ht) q⟩⟩, fun q => ?_⟩⟩
  · rw [Int32.lt_iff_toInt_lt, i0] at q
    omega
  · rw [e1]
    refine h M1 (fun i hi => ?_) (fun j h0 h1 => ?_) e1 ?_
    · rw [← hM, va_un _ _ hi, va_un _ _ hi]
    · rw [e20, cu_e, va_un _ _ h0, cu_e, va_un _ _ h1]
    · rw [e20, cu_e, va_un _ _ (by decide), cu_e, va_us]
  · rw [Int32.le_iff_toInt_le, i255] at q
    omega
theorem s6_append {c : Reg} {a : Int32} {t : Nat} {P : Int32 → Reg → Prop} (t3 : c 0 2 = Int32.ofNat t) (ht : t < 80) (ha : 0 ≤ a.toInt ∧ a.toInt < (256 : Nat)) (h : ∀ c1 : Reg, (∀ j, j ≠ 0 → j ≠ 1 → c1 j = c j) → c1 0 0 = 0 → c1 0 9 = c 0 9 → c1 0 2 = Int32.ofNat (t + 1) → c1 1 = upd (c 1) t a → P (Int32.ofNat (t + 1)) c1) : wX6_append a c P := by
  refine c6_in (lo := 0) (hi := 255) rfl rfl (fun _ => ⟨fun _ => ⟨fun _ => ?_, fun q => ?_⟩, fun q => absurd q z10⟩) (fun q => absurd (by omega) q)
  · refine c6_refused0 ⟨fun _ => ?_, fun q => absurd rfl q⟩
    have e2 : cu c 0 0 0 0 2 = Int32.ofNat t := t3
    rw [e2, tn_nat (by omega)]
    generalize hc : cu (cu (cu c 0 0 0) 1 t a) 0 2 _ = c1
    have e02 : c1 0 2 = Int32.ofNat (t + 1) := by
      rw [← hc, cu_e, va_us, upd_s, cu_e, va_un _ _ (by decide), e2, nn_s]
    refine ⟨nn_in (by omega) ht, ?_⟩
    rw [e02]
    refine h c1 (fun j h0 h1 => ?_) ?_ ?_ e02 ?_
    · rw [← hc, cu_e, va_un _ _ h0, cu_e, va_un _ _ h1, e_row _ _ h0]
    · rw [← hc]; rfl
    · rw [← hc]; rfl
    · rw [← hc]; rfl
  · rw [t3] at q
    have := (nn_eq (b := 80) (by omega) (by omega)).mp q
    omega
theorem road0 {L T : Nat} {xs : Nat → Int32} {v4 : Int32} {K : Mem → (Nat → Int64) → Prop} {M : Mem} {O : Nat → Int64} (S : Sim T M) (hK : ∀ M' O', Sim (T + 60) M' → K M' O') (hv : ∀ d : Int32, 0 ≤ d.toInt → d.toInt ≤ 4 → vp_in (v4 + d) L) : wL_law_C0 L xs v4 K M O := by
  have v1 := hv 1 (by decide) (by decide)
  have S0 := S
  obtain ⟨S1, S2, S3, t, t1, t2, t3, t4⟩ := S
  refine ⟨v1, ?_⟩
  generalize xs (Int32.toNatClampNeg (v4 + 1)) = a
  by_cases ha : 0 ≤ a.toInt ∧ a.toInt < (256 : Nat)
  · by_cases ht : t < 80
    · refine s5_append t2 ht ha (fun M1 h1 h2 h3 h4 => ⟨v1, ?_⟩)
      rw [h1 21 (by decide)]
      refine s6_append t3 ht ha (fun c1 g1 g2 g3 g4 g5 => chk_ok g2 (fun _ => upL _ _) (hK _ _ ⟨?_, ?_, ?_, t + 1, ht, h3, g4, fun k hk => ?_⟩))
      · show HR (T + 60) (M1 0) (c1 3)
        rw [h1 0 (by decide), g1 3 (by decide) (by decide)]
        exact S1.mono (by omega)
      · refine S2.same (by omega) (fun i h5 h6 => ?_) ?_ ?_ g3 (g1 5 (by decide) (by decide))
        · rw [va_un _ _ (by omega), h1 i (by omega)]
        · rw [va_un _ _ (by decide), h2 2 (by decide) (by decide)]
        · rw [va_un _ _ (by decide), h2 3 (by decide) (by decide)]
      · refine S3.same (by omega) (h1 16 (by decide)) (h1 17 (by decide)) (h2 5 (by decide) (by decide)) (g1 6 (by decide) (by decide)) (g1 7 (by decide) (by decide))
      · show M1 20 1 k = c1 1 k ∧ 0 ≤ (c1 1 k).toInt ∧ (c1 1 k).toInt ≤ 255
        rw [h4, g5]
        by_cases e : k = t
        · subst e
          rw [upd_s, upd_s]
          exact ⟨rfl, ha.1, by omega⟩
        · rw [upd_n _ _ e, upd_n _ _ e]
          exact t4 k (by omega)
    · have et : t = 80 := by omega
      subst et
      unfold wL_append wX5_append
      rw [t2]
      refine ⟨fun q => ?_, fun _ => ⟨fun _ => ⟨fun q => absurd q (by decide), fun _ => ⟨fun q => absurd q (by decide), fun _ => Or.inr ⟨rfl, v1, ?_⟩⟩⟩, fun q => ?_⟩⟩
      · rw [Int32.lt_iff_toInt_lt, i0] at q
        omega
      · refine c6_in (lo := 0) (hi := 255) rfl rfl (fun _ => ⟨fun _ => ⟨fun q => absurd t3 q, fun _ => ?_⟩, fun q => absurd q z10⟩) (fun q => absurd (by omega) q)
        exact c6_refused2 ⟨fun q => absurd q z10, fun _ => chk_ok rfl (fun q => absurd q (by decide)) (hK _ _ (S0.ref (by omega)))⟩
      · rw [Int32.le_iff_toInt_le, i255] at q
        omega
  · have md : wX6_append a (M 21) (fun r4 c5 => wX6_thrown ((va_up M 21 c5) 21) (fun r6 c7 => ((r6 = 1 → ((¬ (1 : Int32) = 0 → K (va_up (va_up M 21 c5) 21 c7) O) ∧ ((1 : Int32) = 0 → (((lg_cmp (O 0) (Int32.toInt64 r4)) = 0 → K (va_up (va_up M 21 c5) 21 c7) O) ∧ (¬ (lg_cmp (O 0) (Int32.toInt64 r4)) = 0 → False))))) ∧ (¬ r6 = 1 → False)))) :=
      c6_in (lo := 0) (hi := 255) rfl rfl (fun q => absurd ⟨q.1, by omega⟩ ha) (fun _ => ⟨fun q => absurd rfl q, fun _ => c6_refused1 ⟨fun q => absurd q z10, fun _ => chk_ok rfl (fun q => absurd q z10) (hK _ _ (S0.ref (by omega)))⟩⟩)
    unfold wL_append wX5_append
    refine ⟨fun _ => Or.inl ⟨rfl, v1, md⟩, fun q => ⟨fun q2 => ?_, fun _ => Or.inl ⟨rfl, v1, md⟩⟩⟩
    rw [Int32.lt_iff_toInt_lt, i0] at q
    rw [Int32.le_iff_toInt_le, i255] at q2
    exact absurd ⟨by omega, by omega⟩ ha
/-! actions -/
theorem cu_sv (c : Reg) (j i : Nat) (v : Int32) : cu c j i v j = upd (c j) i v := by rw [cu_e, va_us]
theorem Sim.act {T a : Nat} {M M1 M3 : Mem} {c1 c5 : Reg} {f : Nat → Reg} {g : Nat → Row} (S : Sim T M) (hk : ∀ k, k < a → HR T (f k) (g k)) (kp : Keep M M1) (r1 : HR T c1 (M 21 3)) (hc : HC M1 (acts1 a) (push a f c1)) (h3 : ∀ i, i ≠ 0 → M3 i = M1 i) (hm : HM c5 (acts1 a) (push a g (M 21 3))) (h5 : ∀ j, j ≠ 0 → j ≠ 3 → j ≠ 5 → c5 j = M 21 j) (e2 : c5 0 2 = M 21 0 2) (hr : HR (T + 60) (M3 0) (c5 3)) : Sim (T + 60) (va_up M3 21 c5) := by
  obtain ⟨S1, S2, S3, S4⟩ := S
  obtain ⟨k0, k1, k2, k3⟩ := kp
  have e20 : va_up M3 21 c5 20 = M1 20 := by rw [va_un _ _ (by decide), h3 20 (by decide)]
  refine ⟨hr, ⟨acts1 a, push a f c1, push a g (M 21 3), hc.same (fun i h1 h2 => ?_) (by rw [e20]) (by rw [e20]), hm.same rfl rfl, fun k hk2 => (push_ok (Q := HR T) hk r1 k hk2).mono (by omega)⟩, S3.same (by omega) ?_ ?_ ?_ (h5 6 (by decide) (by decide) (by decide)) (h5 7 (by decide) (by decide) (by decide)), S4.same ?_ ?_ e2 (h5 1 (by decide) (by decide) (by decide))⟩
  · rw [va_un _ _ (by omega), h3 i (by omega)]
  · rw [va_un _ _ (by decide), h3 16 (by decide), k2 16 (by decide) (by decide)]
  · rw [va_un _ _ (by decide), h3 17 (by decide), k2 17 (by decide) (by decide)]
  · rw [e20, k3 5 (by decide) (by decide)]
  · rw [e20, k3 0 (by decide) (by decide)]
  · rw [e20, k3 1 (by decide) (by decide)]
/-- the model's note behind a refusal that was none -/
theorem s6_noteR {M : Mem} {M1 : Mem} {a : Nat} {g : Nat → Row} {P : Reg → Prop} (e21 : M1 21 = M 21) (H : HM (M 21) a g) (h : ∀ c1 : Reg, (∀ j, j ≠ 0 → j ≠ 5 → c1 j = M 21 j) → c1 0 0 = 0 → c1 0 2 = M 21 0 2 → HM c1 (acts1 a) (push a g (M 21 3)) → P c1) : wX6_note (cu (M1 21) 0 0 0) P := by
  rw [e21]
  refine s6_note (a := a) (g := g) (H.same rfl rfl) (fun c1 h1 h2 h3 => h c1 (fun j h0 h5 => ?_) ?_ ?_ ?_)
  · rw [h1 j h0 h5, e_row _ _ h0]
  · rw [h2 0 (by decide)]; rfl
  · rw [h2 2 (by decide)]; rfl
  · exact h3
/-! outside -/
theorem RlM.out {n : Nat} {c : Reg} {m : Row} {v : Int32} (hn : n ≤ 6) (R : RlM n c m) : RlM n (cu c 0 1 v) (upd m 2 v) := by
  unfold RlM
  rw [wy_cong (upd_n _ _ (by decide))]
  obtain ⟨r0, r1, r2, r3, r4, r5, r6, r7, r8, r9⟩ := R.1
  refine Rel.small R (fun r hr => by rw [cu_e, va_un _ _ hr]) (fun i hi => upd_n _ _ (by omega)) ?_ hn
  simp [cu, va_up, upd, r0, r2, r3, r4, r5, r6, r7, r8, r9]
theorem Inv.out {n T : Nat} {m : Row} {v : Int32} (I : Inv n T m) (h1 : -20 ≤ v.toInt) (h2 : v.toInt ≤ 40) : Inv n T (upd m 2 v) := by
  obtain ⟨G1, S, W, B1, B2⟩ := I
  have hn := G1.1
  obtain ⟨s3, s6, s7, s5, ⟨sa, sb, sc, sd⟩, s14, s9⟩ := S
  refine ⟨G1.cong (upd_n _ _ (by decide)) (fun i hi => upd_n _ _ (by omega)) (fun i hi => upd_n _ _ (by omega)), ?_, W.same hn (fun i h1 h2 => upd_n _ _ (by omega)), fun i hi => by rw [upd_n _ _ (by omega)]; exact B1 i hi, ?_⟩
  · unfold Sg Mild
    rw [upd_s, upd_n _ _ (by decide), upd_n _ _ (by decide), upd_n _ _ (by decide), upd_n _ _ (by decide), upd_n _ _ (by decide), upd_n _ _ (by decide), upd_n _ _ (by decide)]
    exact ⟨s3, s6, s7, s5, ⟨h1, h2, sc, sd⟩, s14, s9⟩
  · rw [made_cong G1.2.2.1 (fun i h1 h2 => upd_n _ _ (by omega))]
    exact B2
theorem im20 : (-20 : Int32).toInt = -20 := rfl
theorem i40 : (40 : Int32).toInt = 40 := rfl
theorem c5_outside {a : Int32} {P : Int32 → Prop} (h1 : -20 ≤ a.toInt ∧ a.toInt ≤ 40 → P 1) (h0 : ¬ (-20 ≤ a.toInt ∧ a.toInt ≤ 40) → P 0) : wX5_outsideAllowed a P := by
  refine ⟨fun q => h0 ?_, fun q => ⟨fun q2 => h0 ?_, fun q2 => h1 ?_⟩⟩
  · rw [Int32.lt_iff_toInt_lt, im20] at q
    omega
  · rw [Int32.lt_iff_toInt_lt, i40] at q2
    omega
  · rw [Int32.lt_iff_toInt_lt, im20] at q
    rw [Int32.lt_iff_toInt_lt, i40] at q2
    omega
theorem c6_outside {a : Int32} {P : Int32 → Prop} (h1 : -20 ≤ a.toInt ∧ a.toInt ≤ 40 → P 1) (h0 : ¬ (-20 ≤ a.toInt ∧ a.toInt ≤ 40) → P 0) : wX6_isOutside a P :=
  c6_in (lo := -20) (hi := 40) rfl rfl (fun q => ⟨Or.inr rfl, h1 q⟩) (fun q => ⟨Or.inl rfl, h0 q⟩)
theorem road14 {L T : Nat} {xs : Nat → Int32} {v4 : Int32} {K : Mem → (Nat → Int64) → Prop} {M : Mem} {O : Nat → Int64} (S : Sim T M) (hK : ∀ M' O', Sim (T + 60) M' → K M' O') (hv : ∀ d : Int32, 0 ≤ d.toInt → d.toInt ≤ 4 → vp_in (v4 + d) L) : wL_law_C14 L xs v4 K M O := by
  have v1 := hv 1 (by decide) (by decide)
  obtain ⟨n, R, I⟩ := S.1
  have hn := I.1.1
  obtain ⟨a, f, g, hf, hg, hfg⟩ := S.2.1
  refine ⟨v1, ?_⟩
  generalize xs (Int32.toNatClampNeg (v4 + 1)) = d
  unfold wL_outside wX5_outside
  refine c5_outside (fun hd => ⟨fun _ => ?_, fun q => absurd q z10⟩) (fun hd => ⟨fun q => absurd rfl q, fun _ => ⟨rfl, v1, ?_⟩⟩)
  · refine s0_remember hf S.1 (fun M1 c1 kp rc hc => ⟨v1, c6_outside (fun _ => ⟨fun q => absurd q z10, fun _ => ?_⟩) (fun q => absurd hd q)⟩)
    refine c6_refused0 ⟨fun _ => s6_noteR (kp.2.2.1 21 (by decide) (by decide)) hg (fun c2 h1 h2 h3 h4 => chk_ok h2 (fun _ => ?_) (hK _ _ (S.act hfg kp rc hc (fun i hi => va_un _ _ hi) (h4.same rfl rfl) (fun j h0 h3' h5 => ?_) h3 ⟨n, ?_, ?_⟩))), fun q => absurd rfl q⟩
    · rw [upL, h1 3 (by decide) (by decide), kp.1, R.1.2.1]
    · rw [cu_e, va_un _ _ h3', h1 j h0 h5]
    · rw [va_us, cu_sv, h1 3 (by decide) (by decide), kp.1]
      exact R.out hn
    · rw [cu_sv, h1 3 (by decide) (by decide)]
      exact (I.out hd.1 hd.2).mono (by omega)
  · exact c6_outside (fun q => absurd q hd) (fun _ => ⟨fun _ => c6_refused1 ⟨fun q => absurd q z10, fun _ => chk_ok rfl (fun q => absurd q z10) (hK _ _ (S.ref (by omega)))⟩, fun q => absurd rfl q⟩)
