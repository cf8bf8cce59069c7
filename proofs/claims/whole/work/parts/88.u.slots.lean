/-! pass -/
theorem t6_goMinutes {n T j k : Nat} {c : Reg} {P : Int32 → Reg → Prop} (I : Inv n T (c j)) (hT : T + k ≤ 1000000) (h : P (Int32.ofNat (gns n (c j) k)) (va_up c j (mns n (c j) k))) : wX6_goMinutes j (Int32.ofNat k) c P := by
  have hs := r6_goMinutes (c := c) (m := c j) I hT h
  rw [va_ue] at hs
  exact hs
theorem c5_pass {a : Int32} {P : Int32 → Prop} (h1 : 1 ≤ a.toInt ∧ a.toInt ≤ 60 → P 1) (h0 : ¬ (1 ≤ a.toInt ∧ a.toInt ≤ 60) → P 0) : wX5_passAllowed a P := c5_rng rfl rfl h1 h0
theorem sub_sum {n : Nat} {m : Row} (hn : n ≤ 6) (k : Nat) : sumc (mns n m k) n - sumc m n = Int32.ofNat (gns n m k) := by
  rw [sum_mns hn, Int32.add_comm, Int32.add_sub_cancel]
theorem road15 {L T : Nat} {xs : Nat → Int32} {v4 : Int32} {K : Mem → (Nat → Int64) → Prop} {M : Mem} {O : Nat → Int64} (S : Sim T M) (hK : ∀ M' O', Sim (T + 60) M' → K M' O') (hv : ∀ d : Int32, 0 ≤ d.toInt → d.toInt ≤ 4 → vp_in (v4 + d) L) (hT : T ≤ 100000) : wL_law_C15 L xs v4 K M O := by
  have v1 := hv 1 (by decide) (by decide)
  obtain ⟨n, R, I⟩ := S.1
  have hn := I.1.1
  obtain ⟨a, f, g, hf, hg, hfg⟩ := S.2.1
  refine ⟨v1, ?_⟩
  generalize xs (Int32.toNatClampNeg (v4 + 1)) = d
  unfold wL_pass wX5_pass
  refine c5_pass (fun hd => ⟨fun _ => ?_, fun q => absurd q z10⟩) (fun hd => ⟨fun q => absurd rfl q, fun _ => ⟨rfl, v1, ?_⟩⟩)
  · obtain ⟨k, hk, e⟩ := nat_of (a := d) (n := 61) ⟨by omega, by omega⟩
    subst e
    refine s0_remember hf S.1 (fun M1 c1 kp rc hc => ?_)
    have R1 : RlM n (M1 0) (M 21 3) := by rw [kp.1]; exact R
    refine c3_allComfort R1 hn ?_
    rw [va_ue]
    refine q3_advance I (by omega) R1 (fun c' R' => c3_allComfort R' hn ?_)
    rw [va_ue, sub_sum hn]
    refine ⟨v1, c6_in (lo := 1) (hi := 60) rfl rfl (fun _ => ⟨fun q => absurd q z10, fun _ => ?_⟩) (fun q => absurd hd q)⟩
    refine c6_refused0 ⟨fun _ => s6_noteR (kp.2.2.1 21 (by decide) (by decide)) hg (fun c2 h1 h2 h3 h4 => ?_), fun q => absurd rfl q⟩
    have e3 := h1 3 (by decide) (by decide)
    refine t6_goMinutes (n := n) (T := T) (by rw [e3]; exact I) (by omega) (chk_ok h2 (fun _ => ?_) (hK _ _ (S.act hfg kp rc hc (fun i hi => va_un _ _ hi) (h4.same rfl rfl) (fun j h0 h3' h5 => ?_) h3 ⟨n, ?_, ?_⟩)))
    · rw [upL, e3]
    · rw [va_un _ _ h3', h1 j h0 h5]
    · rw [va_us, va_us, e3]
      exact R'
    · rw [va_us, e3]
      exact (I.mns k (by omega)).mono (by omega)
  · exact c6_in (lo := 1) (hi := 60) rfl rfl (fun q => absurd q hd) (fun _ => ⟨fun _ => c6_refused1 ⟨fun q => absurd q z10, fun _ => chk_ok rfl (fun q => absurd q z10) (hK _ _ (S.ref (by omega)))⟩, fun q => absurd rfl q⟩)
/-! undo -/
theorem road16 {L T : Nat} {xs : Nat → Int32} {v4 : Int32} {K : Mem → (Nat → Int64) → Prop} {M : Mem} {O : Nat → Int64} (S : Sim T M) (hK : ∀ M' O', Sim (T + 60) M' → K M' O') (hv : ∀ d : Int32, 0 ≤ d.toInt → d.toInt ≤ 4 → vp_in (v4 + d) L) : wL_law_C16 L xs v4 K M O := by
  have S0 := S
  obtain ⟨S1, ⟨a, f, g, hf, hg, hfg⟩, S3, S4⟩ := S
  have e21 := hf.1
  have ha := hf.2.1
  have eg := hg.1
  unfold wL_law_C16 wL_undo wX5_undo wX0_isEmpty
  rw [e21]
  by_cases h0 : a = 0
  · subst h0
    refine ⟨fun q => absurd q (by decide), fun _ => ⟨fun q => absurd q z10, fun _ => ⟨rfl, ?_⟩⟩⟩
    exact ⟨fun q => absurd eg q, fun _ => c6_refused1 ⟨fun q => absurd q z10, fun _ => chk_ok rfl (fun q => absurd q z10) (hK _ _ (S0.ref (by omega)))⟩⟩
  · obtain ⟨b, eb⟩ : ∃ b, a = b + 1 := ⟨a - 1, by omega⟩
    subst eb
    refine ⟨fun _ => ⟨fun _ => s0_takeBack hf (hfg b (by omega)) (fun c1 r1 => ?_), fun q => absurd rfl q⟩, fun q => absurd ((nn_lt (a := 0) (by omega) (by omega)).mpr (by omega)) q⟩
    have ev : va_up (va_up M 0 c1) 20 (cu (M 20) 2 1 (Int32.ofNat b)) 20 2 1 = Int32.ofNat b := by rw [va_us, cu_sv, upd_s]
    rw [ev]
    have en : ¬ (M 21 0 9) = 0 := by
      rw [eg]
      exact fun q => by
        have := (nn_eq (b := 0) (by omega) (by omega)).mp q
        omega
    refine ⟨fun _ => c6_refused0 ⟨fun _ => ?_, fun q => absurd rfl q⟩, fun q => absurd q en⟩
    have e9 : cu (va_up (va_up M 0 c1) 20 (cu (M 20) 2 1 (Int32.ofNat b)) 21) 0 0 0 0 9 - 1 = Int32.ofNat b := by
      show M 21 0 9 - 1 = Int32.ofNat b
      rw [eg, ← nn_s]
      exact Int32.add_sub_cancel _ _
    rw [e9]
    generalize hc : cu (cu (va_up (va_up M 0 c1) 20 (cu (M 20) 2 1 (Int32.ofNat b)) 21) 0 0 0) 0 9 (Int32.ofNat b) = c3
    have o : ∀ j, j ≠ 0 → c3 j = M 21 j := fun j hj => by rw [← hc, cu_e, va_un _ _ hj, e_row _ _ hj]; rfl
    have o9 : c3 0 9 = Int32.ofNat b := by rw [← hc, cu_sv, upd_s]
    have o0 : c3 0 0 = 0 := by rw [← hc]; rfl
    have o2 : c3 0 2 = M 21 0 2 := by rw [← hc]; rfl
    rw [o9, show (128 : Int32) * Int32.ofNat b = Int32.ofNat (128 * b) from nn_m 128 b]
    refine s6_copy (j1 := 5) (j2 := 3) (s := 128 * b) (d := 0) (n := 128) (by rw [mdl_v.2.2.2.2.1]; omega) (by decide) (by decide) (by decide) (Or.inl (by decide)) ?_
    have e9' : va_up c3 3 (va_cpy (c3 5) (c3 3) (128 * b) 0 128) 0 9 = Int32.ofNat b := by rw [va_un _ _ (by decide), o9]
    rw [e9']
    refine chk_ok (by rw [va_un _ _ (by decide)]; exact o0) (fun _ => upL _ _) (hK _ _ ⟨?_, ⟨b, f, g, ⟨ev, by omega, ?_⟩, ⟨e9', by omega, fun k i hk hi => ?_⟩, fun k hk => (hfg k (by omega)).mono (by omega)⟩, S3.same (by omega) rfl rfl rfl ?_ ?_, S4.same rfl rfl ?_ ?_⟩)
    · refine (r1.mono (by omega)).cong2 (fun i hi => ?_)
      show va_up c3 3 (va_cpy (c3 5) (c3 3) (128 * b) 0 128) 3 i = g b i
      rw [va_us, o 5 (by decide)]
      unfold va_cpy
      rw [if_pos (by omega), ← hg.2.2 b i (by omega) hi]
      exact congrArg _ (by omega)
    · obtain ⟨p, p1, p2, p3⟩ := hf.2.2
      refine ⟨p, fun k hk => p1 k hk, p2, fun k hk => ?_⟩
      have hp := (p1 k (by omega)).1
      rw [va_un _ _ (by omega), va_un _ _ (by omega), va_un _ _ (by omega)]
      exact p3 k (by omega)
    · show va_up c3 3 (va_cpy (c3 5) (c3 3) (128 * b) 0 128) 5 (128 * k + i) = g k i
      rw [va_un _ _ (by decide), o 5 (by decide)]
      exact hg.2.2 k i (by omega) hi
    · show va_up c3 3 (va_cpy (c3 5) (c3 3) (128 * b) 0 128) 6 = M 21 6
      rw [va_un _ _ (by decide), o 6 (by decide)]
    · show va_up c3 3 (va_cpy (c3 5) (c3 3) (128 * b) 0 128) 7 = M 21 7
      rw [va_un _ _ (by decide), o 7 (by decide)]
    · exact o2
    · show va_up c3 3 (va_cpy (c3 5) (c3 3) (128 * b) 0 128) 1 = M 21 1
      rw [va_un _ _ (by decide), o 1 (by decide)]
/-! slots -/
theorem i2 : (2 : Int32).toInt = 2 := rfl
theorem bool1 : vp_nar .boolean 1 = 1 := by decide
theorem bool0 : vp_nar .boolean 0 = 0 := by decide
theorem road26 {L T : Nat} {xs : Nat → Int32} {v4 : Int32} {K : Mem → (Nat → Int64) → Prop} {M : Mem} {O : Nat → Int64} (S : Sim T M) (hK : ∀ M' O', Sim (T + 60) M' → K M' O') (hv : ∀ d : Int32, 0 ≤ d.toInt → d.toInt ≤ 4 → vp_in (v4 + d) L) : wL_law_C26 L xs v4 K M O := by
  have v1 := hv 1 (by decide) (by decide)
  have S0 := S
  obtain ⟨S1, S2, S3, S4⟩ := S
  obtain ⟨n, R, I⟩ := S1
  have hn := I.1.1
  refine ⟨v1, ?_⟩
  generalize xs (Int32.toNatClampNeg (v4 + 1)) = d
  unfold wL_save wX5_save
  by_cases hd : 0 ≤ d.toInt ∧ d.toInt < (2 : Nat)
  · obtain ⟨s, hs, e⟩ := nat_of hd
    subst e
    refine ⟨fun q => absurd q (ng (by omega)), fun _ => ⟨fun q => absurd q (nge (b := 2) hs (by omega)), fun _ => ⟨fun _ => ⟨nn_in (by omega) hs, ?_⟩, fun q => absurd ((nn_lt (b := 2) (by omega) (by omega)).mpr hs) q⟩⟩⟩
    rw [tn_nat (by omega)]
    refine s3_copyFrom I.1 I.2.1 I.2.2.1 R (fun c' R' => ⟨nn_in (by omega) hs, ?_⟩)
    rw [bool1]
    generalize hM : va_up (va_up M (s + 16) c') 20 _ = M2
    have m0 : M2 0 = M 0 := by rw [← hM, va_un _ _ (by omega), va_un _ _ (by omega)]
    have mo : ∀ i, i ≠ 20 → i ≠ s + 16 → M2 i = M i := fun i h1 h2 => by rw [← hM, va_un _ _ h1, va_un _ _ h2]
    have ms : M2 (s + 16) = c' := by rw [← hM, va_un _ _ (by omega), va_us]
    have m20 : M2 20 = cu (M 20) 5 s 1 := by rw [← hM, va_us, va_un _ _ (by omega)]
    refine ⟨v1, c6_in (lo := 0) (hi := 1) rfl rfl (fun _ => ⟨fun q => absurd q z10, fun _ => ?_⟩) (fun q => absurd (by omega) q)⟩
    refine c6_refused0 ⟨fun _ => ?_, fun q => absurd rfl q⟩
    rw [mo 21 (by decide) (by omega), show (128 : Int32) * Int32.ofNat s = Int32.ofNat (128 * s) from nn_m 128 s]
    refine s6_copy (j1 := 3) (j2 := 6) (s := 0) (d := 128 * s) (n := 128) (by decide) (by rw [mdl_v.2.2.2.2.2]; omega) (by decide) (by decide) (Or.inl (by decide)) ⟨nn_in (by omega) hs, ?_⟩
    rw [bool1, tn_nat (by omega)]
    generalize hc : cu (va_up (cu (M 21) 0 0 0) 6 _) 7 s 1 = c5
    have co : ∀ j, j ≠ 0 → j ≠ 6 → j ≠ 7 → c5 j = M 21 j := fun j h0 h6 h7 => by rw [← hc, cu_e, va_un _ _ h7, va_un _ _ h6, e_row _ _ h0]
    have c6 : c5 6 = va_cpy (M 21 3) (M 21 6) 0 (128 * s) 128 := by rw [← hc]; rfl
    have c7 : c5 7 = upd (M 21 7) s 1 := by rw [← hc]; rfl
    refine chk_ok (by rw [← hc]; rfl) (fun _ => ?_) (hK _ _ ⟨?_, S2.same (by omega) (fun i h1 h2 => ?_) ?_ ?_ ?_ (co 5 (by decide) (by decide) (by decide)), ?_, S4.same ?_ ?_ ?_ (co 1 (by decide) (by decide) (by decide))⟩)
    · rw [upL, m0, R.1.1, co 3 (by decide) (by decide) (by decide)]
    · show HR (T + 60) (M2 0) (c5 3)
      rw [m0, co 3 (by decide) (by decide) (by decide)]
      exact ⟨n, R, I.mono (by omega)⟩
    · rw [va_un _ _ (by omega), mo i (by omega) (by omega)]
    · show M2 20 2 1 = _
      rw [m20]; rfl
    · show M2 20 3 = _
      rw [m20]; rfl
    · show c5 0 9 = _
      rw [← hc]; rfl
    · intro s' hs'
      rw [show va_up M2 21 c5 (s' + 16) = M2 (s' + 16) from va_un _ _ (by omega)]
      show (M2 20 5 s' = 0 ∧ c5 7 s' = 0) ∨ (M2 20 5 s' = 1 ∧ c5 7 s' = 1 ∧ HR (T + 60) (M2 (s' + 16)) (fun i => c5 6 (128 * s' + i)))
      rw [m20, cu_sv, c6, c7]
      by_cases e : s' = s
      · subst e
        rw [upd_s, upd_s, ms]
        refine Or.inr ⟨rfl, rfl, HR.cong2 ⟨n, R', I.mono (by omega)⟩ (fun i hi => ?_)⟩
        unfold va_cpy
        rw [if_pos (by omega)]
        exact congrArg _ (by omega)
      · rw [upd_n _ _ e, upd_n _ _ e, mo (s' + 16) (by omega) (by omega)]
        rcases S3 s' hs' with q | q
        · exact Or.inl q
        · refine Or.inr ⟨q.1, q.2.1, (q.2.2.mono (by omega)).cong2 (fun i hi => ?_)⟩
          unfold va_cpy
          rw [if_neg (by omega)]
    · show M2 20 0 1 = _
      rw [m20]; rfl
    · show M2 20 1 = _
      rw [m20]; rfl
    · show c5 0 2 = _
      rw [← hc]; rfl
  · have md : vp_in (v4 + 1) L ∧ wX6_save d (M 21) (fun r4 c5 => wX6_thrown ((va_up M 21 c5) 21) (fun r6 c7 => ((r6 = 1 → ((¬ (1 : Int32) = 0 → K (va_up (va_up M 21 c5) 21 c7) O) ∧ ((1 : Int32) = 0 → (((lg_cmp (O 0) (Int32.toInt64 r4)) = 0 → K (va_up (va_up M 21 c5) 21 c7) O) ∧ (¬ (lg_cmp (O 0) (Int32.toInt64 r4)) = 0 → False))))) ∧ (¬ r6 = 1 → False)))) := ⟨v1, c6_in (lo := 0) (hi := 1) rfl rfl (fun q => absurd ⟨q.1, by omega⟩ hd) (fun _ => ⟨fun _ => c6_refused1 ⟨fun q => absurd q z10, fun _ => chk_ok rfl (fun q => absurd q z10) (hK _ _ (S0.ref (by omega)))⟩, fun q => absurd rfl q⟩)⟩
    refine ⟨fun _ => ⟨rfl, md⟩, fun q => ⟨fun _ => ⟨rfl, md⟩, fun q2 => ?_⟩⟩
    rw [Int32.lt_iff_toInt_lt, i0] at q
    rw [Int32.le_iff_toInt_le, i2] at q2
    exact absurd ⟨by omega, by omega⟩ hd
theorem road27 {L T : Nat} {xs : Nat → Int32} {v4 : Int32} {K : Mem → (Nat → Int64) → Prop} {M : Mem} {O : Nat → Int64} (S : Sim T M) (hK : ∀ M' O', Sim (T + 60) M' → K M' O') (hv : ∀ d : Int32, 0 ≤ d.toInt → d.toInt ≤ 4 → vp_in (v4 + d) L) : wL_law_C27 L xs v4 K M O := by
  have v1 := hv 1 (by decide) (by decide)
  have S0 := S
  obtain ⟨S1, S2, S3, S4⟩ := S
  refine ⟨v1, ?_⟩
  generalize xs (Int32.toNatClampNeg (v4 + 1)) = d
  unfold wL_restore wX5_restore
  by_cases hd : 0 ≤ d.toInt ∧ d.toInt < (2 : Nat)
  · obtain ⟨s, hs, e⟩ := nat_of hd
    subst e
    have vs : vp_in (Int32.ofNat s) 2 := nn_in (by omega) hs
    refine ⟨fun q => absurd q (ng (by omega)), fun _ => ⟨fun q => absurd q (nge (b := 2) hs (by omega)), fun _ => ⟨fun _ => ⟨vs, ?_⟩, fun q => absurd ((nn_lt (b := 2) (by omega) (by omega)).mpr hs) q⟩⟩⟩
    rw [tn_nat (by omega)]
    rcases S3 s hs with ⟨z1, z2⟩ | ⟨z1, z2, z3⟩
    · refine ⟨fun q => absurd z1 q, fun _ => Or.inr ⟨rfl, v1, ?_⟩⟩
      refine c6_in (lo := 0) (hi := 1) rfl rfl (fun _ => ⟨fun _ => ⟨vs, ?_⟩, fun q => absurd q z10⟩) (fun q => absurd (by omega) q)
      rw [tn_nat (by omega)]
      exact ⟨fun _ => c6_refused2 ⟨fun q => absurd q z10, fun _ => chk_ok rfl (fun q => absurd q (by decide)) (hK _ _ (S0.ref (by omega)))⟩, fun q => absurd z2 q⟩
    · refine ⟨fun _ => ⟨vs, h3_copyFrom z3 (fun c' H' => ?_)⟩, fun q => absurd (z1.symm.trans q) z10⟩
      unfold wX0_forgetAll
      generalize hM : va_up (va_up M 0 c') 20 _ = M2
      have m0 : M2 0 = c' := by rw [← hM]; rfl
      have mo : ∀ i, i ≠ 20 → i ≠ 0 → M2 i = M i := fun i h1 h2 => by rw [← hM, va_un _ _ h1, va_un _ _ h2]
      have m20 : M2 20 = cu (M 20) 2 1 0 := by rw [← hM]; rfl
      refine ⟨v1, c6_in (lo := 0) (hi := 1) rfl rfl (fun _ => ⟨fun _ => ⟨vs, ?_⟩, fun q => absurd q z10⟩) (fun q => absurd (by omega) q)⟩
      rw [tn_nat (by omega), mo 21 (by decide) (by decide)]
      refine ⟨fun q => absurd (z2.symm.trans q) z10, fun _ => c6_refused0 ⟨fun _ => ?_, fun q => absurd rfl q⟩⟩
      rw [show (128 : Int32) * Int32.ofNat s = Int32.ofNat (128 * s) from nn_m 128 s]
      refine s6_copy (j1 := 6) (j2 := 3) (s := 128 * s) (d := 0) (n := 128) (by rw [mdl_v.2.2.2.2.2]; omega) (by decide) (by decide) (by decide) (Or.inl (by decide)) ?_
      generalize hc : cu (va_up (cu (M 21) 0 0 0) 3 _) 0 9 0 = c5
      have co : ∀ j, j ≠ 0 → j ≠ 3 → c5 j = M 21 j := fun j h0 h3 => by rw [← hc, cu_e, va_un _ _ h0, va_un _ _ h3, e_row _ _ h0]
      have c3 : c5 3 = va_cpy (M 21 6) (M 21 3) (128 * s) 0 128 := by rw [← hc]; rfl
      have H3 : HR T c' (c5 3) := by
        rw [c3]
        refine H'.cong2 (fun i hi => ?_)
        unfold va_cpy
        rw [if_pos (by omega)]
        exact congrArg _ (by omega)
      obtain ⟨a, f, g, hf, hg, hfg⟩ := S2
      refine chk_ok (by rw [← hc]; rfl) (fun _ => ?_) (hK _ _ ⟨?_, ⟨0, f, g, ⟨?_, by omega, ?_⟩, ⟨?_, by omega, fun k i hk hi => by omega⟩, fun k hk => by omega⟩, S3.same (by omega) ?_ ?_ ?_ (co 6 (by decide) (by decide)) (co 7 (by decide) (by decide)), S4.same ?_ ?_ ?_ (co 1 (by decide) (by decide))⟩)
      · obtain ⟨n, R3, I3⟩ := H3
        rw [upL, m0, R3.1.1]
      · show HR (T + 60) (M2 0) (c5 3)
        rw [m0]
        exact H3.mono (by omega)
      · show M2 20 2 1 = _
        rw [m20, cu_sv, upd_s]; rfl
      · obtain ⟨p, p1, p2, p3⟩ := hf.2.2
        refine ⟨p, fun k hk => ⟨(p1 k hk).1, ?_⟩, p2, fun k hk => by omega⟩
        show M2 20 3 k = _
        rw [m20]
        exact (p1 k hk).2
      · show c5 0 9 = _
        rw [← hc]; rfl
      · exact mo 16 (by decide) (by decide)
      · exact mo 17 (by decide) (by decide)
      · show M2 20 5 = _
        rw [m20]; rfl
      · show M2 20 0 1 = _
        rw [m20]; rfl
      · show M2 20 1 = _
        rw [m20]; rfl
      · show c5 0 2 = _
        rw [← hc]; rfl
  · have md : vp_in (v4 + 1) L ∧ wX6_restore d (M 21) (fun r4 c5 => wX6_thrown ((va_up M 21 c5) 21) (fun r6 c7 => ((r6 = 1 → ((¬ (1 : Int32) = 0 → K (va_up (va_up M 21 c5) 21 c7) O) ∧ ((1 : Int32) = 0 → (((lg_cmp (O 0) (Int32.toInt64 r4)) = 0 → K (va_up (va_up M 21 c5) 21 c7) O) ∧ (¬ (lg_cmp (O 0) (Int32.toInt64 r4)) = 0 → False))))) ∧ (¬ r6 = 1 → False)))) := ⟨v1, c6_in (lo := 0) (hi := 1) rfl rfl (fun q => absurd ⟨q.1, by omega⟩ hd) (fun _ => ⟨fun q => absurd rfl q, fun _ => c6_refused1 ⟨fun q => absurd q z10, fun _ => chk_ok rfl (fun q => absurd q z10) (hK _ _ (S0.ref (by omega)))⟩⟩)⟩
    refine ⟨fun _ => Or.inl ⟨rfl, md⟩, fun q => ⟨fun _ => Or.inl ⟨rfl, md⟩, fun q2 => ?_⟩⟩
    rw [Int32.lt_iff_toInt_lt, i0] at q
    rw [Int32.le_iff_toInt_le, i2] at q2
    exact absurd ⟨by omega, by omega⟩ hd
