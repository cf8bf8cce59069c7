/-! looking ahead -/
theorem Sim.look {T T' : Nat} {M M2 : Mem} {c5 : Reg} (S : Sim T M) (hT : T ≤ T') (h1 : ∀ i, i ≠ 1 → M2 i = M i) (h5 : ∀ j, j ≠ 0 → j ≠ 4 → c5 j = M 21 j) (e2 : c5 0 2 = M 21 0 2) (e9 : c5 0 9 = M 21 0 9) : Sim T' (va_up M2 21 c5) := by
  refine S.frame hT (fun i g1 g2 g3 => ?_) (fun j hj => ?_) (fun j h0 h2 h4 => ?_) ?_ ?_
  · rw [va_un _ _ g3, h1 i g1]
  · rw [va_un _ _ (by decide), h1 20 (by decide)]
  · rw [va_us, h5 j h0 h4]
  · rw [va_us]; exact e2
  · rw [va_us]; exact e9
theorem s6_begin {c : Reg} {P : Reg → Prop} (h : P (va_up c 4 (va_cpy (c 3) (c 4) 0 0 128))) : wX6_begin c P :=
  s6_copy (j1 := 3) (j2 := 4) (s := 0) (d := 0) (n := 128) (by decide) (by decide) (by decide) (by decide) (Or.inl (by decide)) h
/-- the row on which is looked ahead -/
def tri (M : Mem) : Row := va_cpy (M 21 3) (M 21 4) 0 0 128
theorem tri_e (M : Mem) : ∀ i, i < 128 → tri M i = M 21 3 i := fun i hi => cpy_in hi
theorem le_nn {a b : Nat} (ha : a < 2147483648) (hb : b < 2147483648) (h : a ≤ b) : Int32.ofNat a ≤ Int32.ofNat b := (nn_le ha hb).mpr h
theorem bad_rng {d : Int32} {b : Nat} {hi : Int32} (hh : hi.toInt = b) (hd : ¬ (0 ≤ d.toInt ∧ d.toInt < (b + 1 : Nat))) {X Z : Prop} (h : X) : (d < 0 → X) ∧ (¬ d < 0 → ((d ≤ hi → Z) ∧ (¬ d ≤ hi → X))) := by
  refine ⟨fun _ => h, fun q => ⟨fun q2 => ?_, fun _ => h⟩⟩
  rw [Int32.lt_iff_toInt_lt, i0] at q
  rw [Int32.le_iff_toInt_le, hh] at q2
  exact absurd ⟨by omega, by omega⟩ hd
theorem i240 : (240 : Int32).toInt = (240 : Nat) := rfl
theorem c6_ahead {a : Int32} {P : Int32 → Prop} (h1 : 0 ≤ a.toInt ∧ a.toInt < (240 + 1 : Nat) → P 1) (h0 : ¬ (0 ≤ a.toInt ∧ a.toInt < (240 + 1 : Nat)) → P 0) : wX6_isAhead a P :=
  c6_in (lo := 0) (hi := 240) rfl rfl (fun q => ⟨Or.inr rfl, h1 ⟨q.1, by omega⟩⟩) (fun q => ⟨Or.inl rfl, h0 (fun g => q ⟨g.1, by omega⟩)⟩)
theorem road17 {L T : Nat} {xs : Nat → Int32} {v4 : Int32} {K : Mem → (Nat → Int64) → Prop} {M : Mem} {O : Nat → Int64} (S : Sim T M) (hK : ∀ M' O', Sim (T + 60) M' → K M' O') (hv : ∀ d : Int32, 0 ≤ d.toInt → d.toInt ≤ 4 → vp_in (v4 + d) L) (hT : T ≤ 100000) : wL_law_C17 L xs v4 K M O := by
  have v1 := hv 1 (by decide) (by decide)
  have v2 := hv 2 (by decide) (by decide)
  obtain ⟨n, R, I⟩ := S.1
  have hn := I.1.1
  have I4 : Inv n T (tri M) := I.cong2 (tri_e M)
  refine ⟨v1, v2, ?_⟩
  generalize xs (Int32.toNatClampNeg (v4 + 1)) = a
  generalize xs (Int32.toNatClampNeg (v4 + 2)) = d
  unfold wL_ahead wX5_ahead
  refine c3_hasPlace R.rooms hn (fun p hp ea => ⟨fun _ => ?_, fun q => absurd q z10⟩) (fun ha => ⟨fun q => absurd rfl q, fun _ => Or.inl ⟨rfl, v1, v2, ?_⟩⟩)
  · subst ea
    have inp : 0 ≤ (Int32.ofNat p).toInt ∧ (Int32.ofNat p).toInt < (2 + n : Nat) := ti_ok hp (by omega)
    rw [va_ue]
    by_cases hd : 0 ≤ d.toInt ∧ d.toInt < (240 + 1 : Nat)
    · obtain ⟨k, hk, e⟩ := nat_of hd
      subst e
      refine ⟨fun q => absurd q (ng (by omega)), fun _ => ⟨fun _ => ?_, fun q => absurd (le_nn (b := 240) (by omega) (by omega) (by omega)) q⟩⟩
      refine s3_copyFrom I.1 I.2.1 I.2.2.1 R (fun c3 R3 => ?_)
      refine q3_advance I4 (by omega) (R3.cong2 I.1 (tri_e M)) (fun c4 R4 => ?_)
      refine q3_degrees (I4.mns k (by omega)).1 R4 hp ⟨v1, v2, ?_⟩
      refine c6_isWarmPlace I.1.2.1 hn (fun _ _ _ => ⟨fun _ => c6_ahead (fun _ => ⟨fun q => absurd q z10, fun _ => ?_⟩) (fun q => absurd hd q), fun q => absurd q z10⟩) (fun q => absurd inp q)
      refine c6_refused0 ⟨fun _ => s6_begin ?_, fun q => absurd rfl q⟩
      refine r6_goMinutes (m := tri M) I4 (by omega) ?_
      refine r6_degrees (I4.mns k (by omega)).1 hp (chk_ok rfl (fun _ => upL _ _) (hK _ _ (S.look (by omega) (fun i h1 => ?_) (fun j h0 h4 => ?_) rfl rfl)))
      · simp only [va_un _ _ h1]
      · rw [va_un _ _ h4, e_row _ _ h0]
        rfl
    · refine bad_rng i240 hd (Or.inr ⟨rfl, v1, v2, ?_⟩)
      refine c6_isWarmPlace I.1.2.1 hn (fun _ _ _ => ⟨fun _ => c6_ahead (fun q => absurd q hd) (fun _ => ⟨fun _ => ?_, fun q => absurd rfl q⟩), fun q => absurd q z10⟩) (fun q => absurd inp q)
      exact c6_refused2 ⟨fun q => absurd q z10, fun _ => chk_ok rfl (fun q => absurd q (by decide)) (hK _ _ (S.ref (by omega)))⟩
  · rw [va_ue]
    exact c6_isWarmPlace I.1.2.1 hn (fun i hi e => absurd (by rw [e]; exact ti_ok hi (by omega)) ha) (fun _ => ⟨fun q => absurd rfl q, fun _ => c6_refused1 ⟨fun q => absurd q z10, fun _ => chk_ok rfl (fun q => absurd q z10) (hK _ _ (S.ref (by omega)))⟩⟩)
/-! heatFor -/
theorem road23 {L T : Nat} {xs : Nat → Int32} {v4 : Int32} {K : Mem → (Nat → Int64) → Prop} {M : Mem} {O : Nat → Int64} (S : Sim T M) (hK : ∀ M' O', Sim (T + 60) M' → K M' O') (hv : ∀ d : Int32, 0 ≤ d.toInt → d.toInt ≤ 4 → vp_in (v4 + d) L) (hT : T ≤ 100000) : wL_law_C23 L xs v4 K M O := by
  have v1 := hv 1 (by decide) (by decide)
  obtain ⟨n, R, I⟩ := S.1
  have hn := I.1.1
  have I4 : Inv n T (tri M) := I.cong2 (tri_e M)
  refine ⟨v1, ?_⟩
  generalize xs (Int32.toNatClampNeg (v4 + 1)) = d
  unfold wL_heatFor wX5_heatFor
  by_cases hd : 0 ≤ d.toInt ∧ d.toInt < (240 + 1 : Nat)
  · obtain ⟨k, hk, e⟩ := nat_of hd
    subst e
    refine ⟨fun q => absurd q (ng (by omega)), fun _ => ⟨fun _ => ?_, fun q => absurd (le_nn (b := 240) (by omega) (by omega) (by omega)) q⟩⟩
    refine s3_copyFrom I.1 I.2.1 I.2.2.1 R (fun c3 R3 => ?_)
    refine q3_advance I4 (by omega) (R3.cong2 I.1 (tri_e M)) (fun c4 R4 => ?_)
    have I5 := I4.mns k (by omega)
    refine s3_sumBetween (f := 9) (t := 0) I5.1 R4 (by decide) (by decide) (s3_sumBetween (f := 9) (t := 0) I.1 R (by decide) (by decide) ⟨v1, ?_⟩)
    refine c6_ahead (fun _ => ⟨fun q => absurd q z10, fun _ => ?_⟩) (fun q => absurd hd q)
    refine c6_refused0 ⟨fun _ => s6_begin ?_, fun q => absurd rfl q⟩
    refine r6_goMinutes (m := tri M) I4 (by omega) ?_
    refine s6_movedOf (n := n) (f := 9) (t := 0) (by rw [va_us]; exact I5.1) (s6_movedOf (n := n) (f := 9) (t := 0) (by rw [va_un _ _ (by decide), e_row _ _ (by decide)]; exact I.1) ?_)
    refine chk_ok rfl (fun _ => ?_) (hK _ _ (S.look (by omega) (fun i h1 => ?_) (fun j h0 h4 => ?_) rfl rfl))
    · rw [upL, va_us, va_un _ _ (by decide), e_row _ _ (by decide)]
      rfl
    · by_cases h0 : i = 0
      · subst h0
        rfl
      · simp only [va_un _ _ h1, va_un _ _ h0]
    · rw [va_un _ _ h4, e_row _ _ h0]
      rfl
  · refine bad_rng i240 hd ⟨rfl, v1, ?_⟩
    exact c6_ahead (fun q => absurd q hd) (fun _ => ⟨fun _ => c6_refused1 ⟨fun q => absurd q z10, fun _ => chk_ok rfl (fun q => absurd q z10) (hK _ _ (S.ref (by omega)))⟩, fun q => absurd rfl q⟩)
/-! minutesTo -/
theorem c3_isWarm {n i : Nat} {c : Reg} {m : Row} {P : Int32 → Reg → Prop} (G1 : Gd n m) (R : RlM n c m) (hi : i < n) (h : P (if degf m (2 + i) < m (27 + 8 * i) then 0 else 1) c) : wX3_isAsWarmAsWanted (Int32.ofNat i) c P := by
  have hn := G1.1
  have e0 : c (i + 9) 0 = m (27 + 8 * i) := R.2.2.2.1 i 0 hi (by decide)
  refine c3_hasRoom R.rooms hn (fun _ _ _ => ⟨fun q => absurd q z10, fun _ => ?_⟩) (fun q => absurd (ti_ok hi (by omega)) q)
  rw [ix_room]
  refine q3_degrees G1 R (by omega) ⟨nn_in (by omega) (by omega), ?_⟩
  rw [tn_nat (by omega), e0]
  refine ⟨fun q => ?_, fun q => ?_⟩
  · rw [if_pos q] at h; exact h
  · rw [if_neg q] at h; exact h
def tof (n : Nat) (m : Row) (i : Nat) : Nat → Nat → Int32
  | 0, _ => -99999
  | r + 1, v => if degf (mns n m v) (2 + i) < mns n m v (27 + 8 * i) then tof n m i r (v + 1) else Int32.ofNat v
theorem k5_minutesTo {n T i : Nat} {M : Mem} {m : Row} {P : Int32 → Mem → Prop} {X : String → Mem → Prop} (I : Inv n T m) (hT : T ≤ 100000) (hi : i < n) (h : ∀ M2 : Mem, (∀ j, j ≠ 1 → M2 j = M j) → P (tof n m i 241 0) M2) : ∀ (r v : Nat) (M2 : Mem), v + r = 240 → (∀ j, j ≠ 1 → M2 j = M j) → RlM n (M2 1) (mns n m v) → tof n m i 241 0 = tof n m i (r + 1) v → wX5_minutesTo_L34 (Int32.ofNat i) P X (r + 1) (Int32.ofNat v) M2 := by
  intro r
  induction r with
  | zero =>
    intro v M2 hv h1 R ht
    have hv : v = 240 := hv
    subst hv
    have Iv := I.mns 240 (by omega)
    refine ⟨fun _ => c3_isWarm Iv.1 R hi ?_, fun q => absurd (Int32.le_refl _) q⟩
    rw [va_ue]
    have h2 := h M2 h1
    rw [ht] at h2
    unfold tof at h2
    by_cases g : degf (mns n m 240) (2 + i) < mns n m 240 (27 + 8 * i)
    · rw [if_pos g] at h2 ⊢
      exact ⟨fun _ => h2, fun q => absurd rfl q⟩
    · rw [if_neg g] at h2 ⊢
      exact ⟨fun q => absurd q z10, fun _ => h2⟩
  | succ r ih =>
    intro v M2 hv h1 R ht
    have Iv := I.mns v (by omega)
    refine ⟨fun q => absurd q (nge (b := 240) (by omega) (by omega)), fun _ => c3_isWarm Iv.1 R hi ?_⟩
    rw [va_ue]
    rw [show tof n m i (r + 1 + 1) v = if degf (mns n m v) (2 + i) < mns n m v (27 + 8 * i) then tof n m i (r + 1) (v + 1) else Int32.ofNat v from rfl] at ht
    by_cases g : degf (mns n m v) (2 + i) < mns n m v (27 + 8 * i)
    · rw [if_pos g] at ht ⊢
      refine ⟨fun _ => q3_advance (k := 1) Iv (by omega) R (fun c' R' => ?_), fun q => absurd rfl q⟩
      rw [nn_s]
      exact ih (v + 1) _ (by omega) (fun j hj => by rw [va_un _ _ hj]; exact h1 j hj) R' ht
    · rw [if_neg g] at ht ⊢
      refine ⟨fun q => absurd q z10, fun _ => ?_⟩
      rw [← ht]
      exact h M2 h1
theorem k6_minutesTo {n T i : Nat} {c : Reg} {m : Row} {P : Int32 → Reg → Prop} (I : Inv n T m) (hT : T ≤ 100000) (hi : i < n) (h : ∀ row : Row, P (tof n m i 241 0) (va_up c 4 row)) : ∀ (r v : Nat), v + r = 241 → tof n m i 241 0 = tof n m i r v → wX6_minutesTo_L28 (Int32.ofNat i) P (r + 1) (Int32.ofNat v) (va_up c 4 (mns n m v)) := by
  have hn := I.1.1
  intro r
  induction r with
  | zero =>
    intro v hv ht
    have hv : v = 241 := hv
    subst hv
    refine ⟨fun _ => ?_, fun q => absurd (by decide) q⟩
    have h2 := h (mns n m 241)
    rw [ht] at h2
    exact h2
  | succ r ih =>
    intro v hv ht
    have Iv := I.mns v (by omega)
    refine ⟨fun q => absurd q (fun q => ?_), fun _ => ?_⟩
    · have := (nn_lt (a := 240) (by omega) (by omega)).mp q
      omega
    rw [ix_room]
    refine r6_degrees Iv.1 (by omega) (s6_cell (q := 1) (k := 27 + 8 * i) (by omega) ⟨nn_in (by omega) (by omega), ?_⟩)
    rw [tn_nat (by omega), va_us]
    rw [show tof n m i (r + 1) v = if degf (mns n m v) (2 + i) < mns n m v (27 + 8 * i) then tof n m i r (v + 1) else Int32.ofNat v from rfl] at ht
    refine ⟨fun g => ?_, fun g => ?_⟩
    · rw [if_pos g] at ht
      refine r6_goMinute Iv.1 ?_
      rw [nn_s]
      exact ih (v + 1) (by omega) ht
    · rw [if_neg g] at ht
      rw [← ht]
      exact h _
theorem road18 {L T : Nat} {xs : Nat → Int32} {v4 : Int32} {K : Mem → (Nat → Int64) → Prop} {M : Mem} {O : Nat → Int64} (S : Sim T M) (hK : ∀ M' O', Sim (T + 60) M' → K M' O') (hv : ∀ d : Int32, 0 ≤ d.toInt → d.toInt ≤ 4 → vp_in (v4 + d) L) (hT : T ≤ 100000) : wL_law_C18 L xs v4 K M O := by
  have v1 := hv 1 (by decide) (by decide)
  obtain ⟨n, R, I⟩ := S.1
  have hn := I.1.1
  have I4 : Inv n T (tri M) := I.cong2 (tri_e M)
  refine ⟨v1, ?_⟩
  generalize xs (Int32.toNatClampNeg (v4 + 1)) = d
  unfold wL_minutesTo wX5_minutesTo
  refine c3_hasRoom R.rooms hn (fun i hi er => ⟨fun _ => ?_, fun q => absurd q z10⟩) (fun hr => ⟨fun q => absurd rfl q, fun _ => ⟨rfl, v1, ?_⟩⟩)
  · subst er
    rw [va_ue]
    refine s3_copyFrom I.1 I.2.1 I.2.2.1 R (fun c3 R3 => ⟨241, k5_minutesTo (m := tri M) (T := T) (M := M) I4 hT hi (fun M2 h1 => ⟨v1, ?_⟩) 240 0 _ rfl (fun j hj => va_un _ _ hj) (R3.cong2 I.1 (tri_e M)) rfl⟩)
    rw [h1 21 (by decide)]
    refine c6_isRoom I.1.2.1 hn (fun _ _ _ => ⟨fun q => absurd q z10, fun _ => ?_⟩) (fun q => absurd (ti_ok hi (by omega)) q)
    refine c6_refused0 ⟨fun _ => s6_begin ⟨242, ?_⟩, fun q => absurd rfl q⟩
    refine k6_minutesTo (c := cu (M 21) 0 0 0) (m := tri M) (T := T) I4 hT hi (fun row => ?_) 241 0 rfl rfl
    refine chk_ok rfl (fun _ => upL _ _) (hK _ _ (S.look (by omega) h1 (fun j h0 h4 => ?_) rfl rfl))
    rw [va_un _ _ h4, e_row _ _ h0]
  · rw [va_ue]
    exact c6_isRoom I.1.2.1 hn (fun i hi e => absurd (by rw [e]; exact ti_ok hi (by omega)) hr) (fun _ => ⟨fun _ => c6_refused1 ⟨fun q => absurd q z10, fun _ => chk_ok rfl (fun q => absurd q z10) (hK _ _ (S.ref (by omega)))⟩, fun q => absurd rfl q⟩)
/-! whyOff -/
def whyf (m : Row) : Int32 := if m 3 = 1 then 0 else if m 6 = 1 then 1 else if degf m 0 < m 10 then (if m 9 = 0 then 3 else 4) else 2
theorem chk2 {K : Mem → (Nat → Int64) → Prop} {r1 r3 : Int32} {M2 : Mem} {O : Nat → Int64} {c4 : Reg} (h : r1 = r3) (hK : K (va_up M2 21 c4) O) : (r1 = r3 → K (va_up M2 21 c4) O) ∧ (¬ r1 = r3 → False) := ⟨fun _ => hK, fun q => q h⟩
theorem k5_whyOff {n T : Nat} {M : Mem} {m m4 : Row} {P : Int32 → Mem → Prop} (I : Inv n T m) (R : RlM n (M 0) m) (I4 : Inv n T m4) (e4 : ∀ i, i < 128 → m4 i = m i) (h : ∀ M2 : Mem, (∀ j, j ≠ 1 → M2 j = M j) → P (whyf (boilg (seasf m4))) M2) : wX5_whyOff M P := by
  have hn := I.1.1
  refine s3_copyFrom I.1 I.2.1 I.2.2.1 R (fun c1 R1 => ?_)
  refine q3_turnSeason I4.1 (R1.cong2 I.1 e4) I4.2.1.2.1 I4.2.1.2.2.1 (fun c2 R2 => ?_)
  have S2 := I4.2.1.seas
  refine q3_runBoiler I4.1.seas R2 S2.1 S2.2.1 (fun c3 R3 => ?_)
  have S3 := S2.boil
  have G3 : Gd n (boilg (seasf m4)) := I4.1.seas.boil
  generalize boilg (seasf m4) = m3 at R3 S3 G3 h
  have e2 : c3 0 2 = m3 3 := R3.1.2.2.1
  have e6 : c3 0 6 = m3 6 := R3.1.2.2.2.2.2.2.1
  unfold whyf at h
  refine ⟨fun q => ?_, fun q => ?_⟩
  · have q1 : m3 3 = 0 := e2.symm.trans q
    rw [if_neg (fun e => z10 (e.symm.trans q1))] at h
    refine ⟨fun q2 => ?_, fun q2 => ?_⟩
    · have q3 : m3 6 = 0 := e6.symm.trans q2
      rw [if_neg (fun e => z10 (e.symm.trans q3))] at h
      refine q3_degrees (p := 0) G3 R3 (by omega) (s3_settingOf (k := 1) R3 (by decide) ⟨fun q4 => ?_, fun q4 => ?_⟩)
      · rw [if_pos q4] at h
        refine s3_settingOf (k := 0) R3 (by decide) ⟨fun q5 => ?_, fun q5 => ?_⟩
        · rw [if_neg q5] at h
          exact h _ (fun j hj => by simp only [va_un _ _ hj])
        · rw [if_pos q5] at h
          exact h _ (fun j hj => by simp only [va_un _ _ hj])
      · rw [if_neg q4] at h
        exact h _ (fun j hj => by simp only [va_un _ _ hj])
    · have q3 : m3 6 = 1 := S3.2.1.resolve_left (fun e => q2 (e6.trans e))
      rw [if_pos q3] at h
      exact h _ (fun j hj => by simp only [va_un _ _ hj])
  · have q1 : m3 3 = 1 := S3.1.resolve_left (fun e => q (e2.trans e))
    rw [if_pos q1] at h
    exact h _ (fun j hj => by simp only [va_un _ _ hj])
theorem k6_whyOff {n T : Nat} {c : Reg} {P : Int32 → Reg → Prop} (I4 : Inv n T (va_cpy (c 3) (c 4) 0 0 128)) (h : P (whyf (boilg (seasf (va_cpy (c 3) (c 4) 0 0 128)))) (va_up (cu c 0 0 0) 4 (boilg (seasf (va_cpy (c 3) (c 4) 0 0 128))))) : wX6_whyOff c P := by
  refine s6_begin (r6_goSeason (r6_goBoiler I4.1.seas ?_))
  have G3 : Gd n (boilg (seasf (va_cpy (c 3) (c 4) 0 0 128))) := I4.1.seas.boil
  have e : va_cpy (cu c 0 0 0 3) (cu c 0 0 0 4) 0 0 128 = va_cpy (c 3) (c 4) 0 0 128 := rfl
  rw [e]
  generalize boilg (seasf (va_cpy (c 3) (c 4) 0 0 128)) = m3 at G3 h
  have hn := G3.1
  unfold whyf at h
  rw [va_us]
  refine ⟨fun q => ?_, fun q => ?_⟩
  · rw [if_neg q] at h
    refine ⟨fun q2 => ?_, fun q2 => ?_⟩
    · rw [if_neg q2] at h
      refine r6_degrees (p := 0) G3 (by omega) ?_
      rw [va_us]
      refine ⟨fun q3 => ?_, fun q3 => ?_⟩
      · rw [if_pos q3] at h
        refine ⟨fun q4 => ?_, fun q4 => ?_⟩
        · rw [if_neg q4] at h; exact h
        · rw [if_pos q4] at h; exact h
      · rw [if_neg q3] at h; exact h
    · rw [if_pos q2] at h; exact h
  · rw [if_pos q] at h; exact h
theorem road19 {L T : Nat} {xs : Nat → Int32} {v4 : Int32} {K : Mem → (Nat → Int64) → Prop} {M : Mem} {O : Nat → Int64} (S : Sim T M) (hK : ∀ M' O', Sim (T + 60) M' → K M' O') (hv : ∀ d : Int32, 0 ≤ d.toInt → d.toInt ≤ 4 → vp_in (v4 + d) L) : wL_law_C19 L xs v4 K M O := by
  obtain ⟨n, R, I⟩ := S.1
  have I4 : Inv n T (tri M) := I.cong2 (tri_e M)
  refine k5_whyOff I R I4 (tri_e M) (fun M2 h1 => ?_)
  rw [h1 21 (by decide)]
  refine k6_whyOff (n := n) (T := T) I4 (chk2 rfl (hK _ _ (S.look (by omega) h1 (fun j h0 h4 => ?_) rfl rfl)))
  rw [va_un _ _ h4, e_row _ _ h0]
/-! whyShare -/
def sharef (m3 : Row) : Int32 := if valvef m3 5 = 100 then 0 else if m3 6 = 1 then 1 else if freef m3 = 0 then 2 else if pinchf m3 then 3 else if 100 ≤ freef m3 then 5 else 4
theorem valve_free (m : Row) : freef (valvef m) = freef m := by
  have o : ∀ i, i ≠ 5 → valvef m i = m i := fun i h5 => valvef_o h5
  unfold freef freed wishf wishv degf
  rw [o 2 (by decide), o 13 (by decide), o _ (by decide), show capf (valvef m) 1 = capf m 1 from rfl]
theorem valve_deg0 (m : Row) : degf (valvef m) 0 = degf m 0 := by
  unfold degf
  rw [valvef_o (by decide), show capf (valvef m) 0 = capf m 0 from rfl]
theorem k5_whyShare {n T : Nat} {M : Mem} {m m4 : Row} {P : Int32 → Mem → Prop} (I : Inv n T m) (R : RlM n (M 0) m) (I4 : Inv n T m4) (e4 : ∀ i, i < 128 → m4 i = m i) (h : ∀ M2 : Mem, (∀ j, j ≠ 1 → M2 j = M j) → P (sharef (boilg (seasf m4))) M2) : wX5_whyShare M P := by
  have hn := I.1.1
  refine s3_copyFrom I.1 I.2.1 I.2.2.1 R (fun c1 R1 => ?_)
  refine q3_turnSeason I4.1 (R1.cong2 I.1 e4) I4.2.1.2.1 I4.2.1.2.2.1 (fun c2 R2 => ?_)
  have S2 := I4.2.1.seas
  refine q3_runBoiler I4.1.seas R2 S2.1 S2.2.1 (fun c3 R3 => ?_)
  have S3 := S2.boil
  have G3 : Gd n (boilg (seasf m4)) := I4.1.seas.boil
  generalize boilg (seasf m4) = m3 at R3 S3 G3 h
  refine q3_moveValve G3 R3 S3.2.2.2.2.1 S3.2.1 S3.2.2.2.1 S3.2.2.2.2.2.1 (fun c4 R4 => ?_)
  have S4 := S3.valve
  have e5 : c4 0 5 = valvef m3 5 := R4.1.2.2.2.2.2.1
  have e6 : c4 0 6 = m3 6 := R4.1.2.2.2.2.2.2.1.trans (valvef_o (by decide))
  have free : ∀ {Q : Int32 → Reg → Prop}, Q (freef m3) c4 → wX3_freeTarget c4 Q := fun hq => s3_freeTarget R4 hn S4.2.2.2.2.1 (by rw [valve_free]; exact hq)
  have pin : ∀ {Q : Int32 → Reg → Prop}, Q (if m3 16 ≤ degf m3 0 then 0 else 1) c4 → wX3_isPinched c4 Q := fun hq => s3_isPinched R4 hn (by rw [valve_deg0, valvef_o (by decide)]; exact hq)
  unfold sharef at h
  refine ⟨fun q => ?_, fun q => ?_⟩
  · rw [if_neg (fun e => q (e5.trans e))] at h
    refine ⟨fun q2 => ?_, fun q2 => ?_⟩
    · have q3 : m3 6 = 0 := e6.symm.trans q2
      rw [if_neg (fun e => z10 (e.symm.trans q3))] at h
      refine free ⟨fun q4 => ?_, fun q4 => ?_⟩
      · rw [if_neg q4] at h
        refine pin ⟨fun q5 => ?_, fun q5 => ?_⟩
        · have q6 : m3 16 ≤ degf m3 0 := Decidable.of_not_not (fun e => by rw [if_neg e] at q5; exact z10 q5)
          rw [if_neg (fun e => e.1 q6)] at h
          refine pin ⟨fun q7 => absurd q5 q7, fun _ => free ⟨fun q8 => ?_, fun q8 => ?_⟩⟩
          · rw [if_pos q8] at h
            exact h _ (fun j hj => by simp only [va_un _ _ hj])
          · rw [if_neg q8] at h
            exact h _ (fun j hj => by simp only [va_un _ _ hj])
        · have q6 : ¬ m3 16 ≤ degf m3 0 := fun e => q5 (if_pos e)
          refine free ⟨fun q7 => ?_, fun q7 => ?_⟩
          · rw [if_neg (fun e => e.2 q7), if_neg (fun e => by
              rw [Int32.le_iff_toInt_le, i100] at e
              rw [Int32.le_iff_toInt_le, i20] at q7
              omega)] at h
            refine pin ⟨fun _ => ?_, fun q8 => absurd q8 q5⟩
            exact h _ (fun j hj => by simp only [va_un _ _ hj])
          · rw [if_pos ⟨q6, q7⟩] at h
            exact h _ (fun j hj => by simp only [va_un _ _ hj])
      · rw [if_pos q4] at h
        exact h _ (fun j hj => by simp only [va_un _ _ hj])
    · have q3 : m3 6 = 1 := S3.2.1.resolve_left (fun e => q2 (e6.trans e))
      rw [if_pos q3] at h
      exact h _ (fun j hj => by simp only [va_un _ _ hj])
  · rw [if_pos (e5.symm.trans q)] at h
    exact h _ (fun j hj => by simp only [va_un _ _ hj])
theorem r6_freeTarget {j : Nat} {c : Reg} {m : Row} {P : Int32 → Reg → Prop} (h : P (freef m) (va_up c j m)) : wX6_freeTarget j (va_up c j m) P := s6_freeTarget (by rw [va_us]; exact h)
theorem r6_isPinched {j : Nat} {c : Reg} {m : Row} {P : Int32 → Reg → Prop} (h : P (if pinchf m then 1 else 0) (va_up c j m)) : wX6_isPinched j (va_up c j m) P := s6_isPinched (by rw [va_us]; exact h)
theorem k6_whyShare {n T : Nat} {c : Reg} {P : Int32 → Reg → Prop} (I4 : Inv n T (va_cpy (c 3) (c 4) 0 0 128)) (h : P (sharef (boilg (seasf (va_cpy (c 3) (c 4) 0 0 128)))) (va_up (cu c 0 0 0) 4 (valvef (boilg (seasf (va_cpy (c 3) (c 4) 0 0 128)))))) : wX6_whyShare c P := by
  refine s6_begin (r6_goSeason (r6_goBoiler I4.1.seas ?_))
  have e : va_cpy (cu c 0 0 0 3) (cu c 0 0 0 4) 0 0 128 = va_cpy (c 3) (c 4) 0 0 128 := rfl
  rw [e]
  generalize boilg (seasf (va_cpy (c 3) (c 4) 0 0 128)) = m3 at h
  refine r6_freeTarget (r6_isPinched (r6_goValve ?_))
  rw [va_us, show valvef m3 6 = m3 6 from valvef_o (by decide)]
  unfold sharef at h
  refine ⟨fun q => ?_, fun q => ?_⟩
  · rw [if_neg q] at h
    refine ⟨fun q2 => ?_, fun q2 => ?_⟩
    · rw [if_neg q2] at h
      refine ⟨fun q3 => ?_, fun q3 => ?_⟩
      · rw [if_neg q3] at h
        refine ⟨fun q4 => ?_, fun q4 => ?_⟩
        · rw [if_neg (fun e => by rw [if_pos e] at q4; exact z10 q4)] at h
          refine ⟨fun q5 => ?_, fun q5 => ?_⟩
          · rw [if_pos q5] at h; exact h
          · rw [if_neg q5] at h; exact h
        · rw [if_pos (Decidable.of_not_not (fun e => q4 (if_neg e)))] at h; exact h
      · rw [if_pos q3] at h; exact h
    · rw [if_pos q2] at h; exact h
  · rw [if_pos q] at h; exact h
theorem road20 {L T : Nat} {xs : Nat → Int32} {v4 : Int32} {K : Mem → (Nat → Int64) → Prop} {M : Mem} {O : Nat → Int64} (S : Sim T M) (hK : ∀ M' O', Sim (T + 60) M' → K M' O') (hv : ∀ d : Int32, 0 ≤ d.toInt → d.toInt ≤ 4 → vp_in (v4 + d) L) : wL_law_C20 L xs v4 K M O := by
  obtain ⟨n, R, I⟩ := S.1
  have I4 : Inv n T (tri M) := I.cong2 (tri_e M)
  refine k5_whyShare I R I4 (tri_e M) (fun M2 h1 => ?_)
  rw [h1 21 (by decide)]
  refine k6_whyShare (n := n) (T := T) I4 (chk2 rfl (hK _ _ (S.look (by omega) h1 (fun j h0 h4 => ?_) rfl rfl)))
  rw [va_un _ _ h4, e_row _ _ h0]
