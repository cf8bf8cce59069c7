/-! place -/
theorem ng {k : Nat} (h : k < 2147483648) : ¬ Int32.ofNat k < 0 := by
  rw [show (0 : Int32) = Int32.ofNat 0 from rfl, nn_lt h (by omega)]
  omega
theorem nge {k b : Nat} (h : k < b) (hb : b < 2147483648) : ¬ Int32.ofNat b ≤ Int32.ofNat k := by
  rw [nn_le hb (by omega)]
  omega
theorem c3_heatOf {n p : Nat} {c : Reg} {m : Row} {P : Int32 → Reg → Prop} (R : RlM n c m) (hn : n ≤ 6) (hp : p < 2 + n) (h : P (m (18 + p)) c) : wX3_heatOf (Int32.ofNat p) c P := by
  refine ⟨fun q => absurd q (ng (by omega)), fun _ => ⟨fun q => absurd q (nge (b := 8) (by omega) (by omega)), fun _ => ⟨nn_in (by omega) (by omega), ?_⟩⟩⟩
  rw [tn_nat (by omega), (R.2.2.1 p hp).1]
  exact h
theorem c3_capacityOf {n p : Nat} {c : Reg} {m : Row} {P : Int32 → Reg → Prop} (R : RlM n c m) (hn : n ≤ 6) (hp : p < 2 + n) (h : P (capf m p) c) : wX3_capacityOf (Int32.ofNat p) c P := by
  refine ⟨fun q => absurd q (ng (by omega)), fun _ => ⟨fun q => absurd q (nge (b := 8) (by omega) (by omega)), fun _ => ⟨nn_in (by omega) (by omega), ?_⟩⟩⟩
  rw [tn_nat (by omega), (R.2.2.1 p hp).2]
  exact h
def placef (m : Row) (p : Nat) : Nat → Int32
  | 0 => m (18 + p)
  | 1 => degf m p
  | _ => capf m p
theorem k5_place {n p k : Nat} {M : Mem} {m : Row} {P : Int32 → Mem → Prop} {X : String → Mem → Prop} (R : RlM n (M 0) m) (G1 : Gd n m) (hp : p < 2 + n) (hk : k < 3) (h : P (placef m p k) M) : wX5_place (Int32.ofNat p) (Int32.ofNat k) M P X := by
  have hn := G1.1
  refine c3_hasPlace R.rooms hn (fun _ _ _ => ⟨fun _ => ?_, fun q => absurd q z10⟩) (fun q => absurd ⟨by rw [ti_nat (by omega)]; omega, by rw [ti_nat (by omega)]; omega⟩ q)
  rw [va_ue]
  rcases (by omega : k = 0 ∨ k = 1 ∨ k = 2) with e | e | e <;> subst e
  · refine ⟨fun q => absurd q (by decide), fun _ => ?_, fun q => absurd q (by decide), fun q => absurd q (by decide)⟩
    exact c3_heatOf R hn hp (by rw [va_ue]; exact h)
  · refine ⟨fun q => absurd q (by decide), fun q => absurd q (by decide), fun _ => ?_, fun q => absurd q (by decide)⟩
    exact q3_degrees G1 R hp (by rw [va_ue]; exact h)
  · refine ⟨fun q => absurd q (by decide), fun q => absurd q (by decide), fun q => absurd q (by decide), fun _ => ?_⟩
    exact c3_capacityOf R hn hp (by rw [va_ue]; exact h)
theorem e_row (c : Reg) (v : Int32) {j : Nat} (hj : j ≠ 0) : cu c 0 0 v j = c j := by rw [cu_e, va_un _ _ hj]
theorem k6_place {n p k : Nat} {c : Reg} {P : Int32 → Reg → Prop} (G1 : Gd n (c 3)) (hp : p < 2 + n) (hk : k < 3) (h : P (placef (c 3) p k) (cu c 0 0 0)) : wX6_place (Int32.ofNat p) (Int32.ofNat k) c P := by
  have hn := G1.1
  refine c6_isWarmPlace G1.2.1 hn (fun _ _ _ => ⟨fun _ => ?_, fun q => absurd q z10⟩) (fun q => absurd ⟨by rw [ti_nat (by omega)]; omega, by rw [ti_nat (by omega)]; omega⟩ q)
  refine c6_in (lo := 0) (hi := 2) rfl rfl (fun _ => ⟨fun q => absurd q z10, fun _ => c6_refused0 ⟨fun _ => ?_, fun q => absurd rfl q⟩⟩) (fun q => absurd (by rw [ti_nat (by omega)]; omega) q)
  rcases (by omega : k = 0 ∨ k = 1 ∨ k = 2) with e | e | e <;> subst e
  · refine ⟨fun q => absurd rfl q, fun _ => ?_⟩
    rw [ix_heat, tn_nat (by omega)]
    exact ⟨nn_in (by omega) (by omega), h⟩
  · refine ⟨fun _ => ⟨fun q => absurd rfl q, fun _ => ?_⟩, fun q => absurd q (by decide)⟩
    exact q6_degrees (n := n) (by rw [e_row c 0 (by decide)]; exact G1) hp h
  · refine ⟨fun _ => ⟨fun _ => ?_, fun q => absurd q (by decide)⟩, fun q => absurd q (by decide)⟩
    exact s6_capacity (by omega) h
theorem road6 {L T : Nat} {xs : Nat → Int32} {v4 : Int32} {K : Mem → (Nat → Int64) → Prop} {M : Mem} {O : Nat → Int64} (S : Sim T M) (hK : ∀ M' O', Sim (T + 60) M' → K M' O') (hv : ∀ d : Int32, 0 ≤ d.toInt → d.toInt ≤ 4 → vp_in (v4 + d) L) : wL_law_C6 L xs v4 K M O := by
  have v1 := hv 1 (by decide) (by decide)
  have v2 := hv 2 (by decide) (by decide)
  obtain ⟨n, R, I⟩ := S.1
  have hn := I.1.1
  refine ⟨v1, v2, ?_⟩
  generalize xs (Int32.toNatClampNeg (v4 + 1)) = a
  generalize xs (Int32.toNatClampNeg (v4 + 2)) = b
  by_cases ha : 0 ≤ a.toInt ∧ a.toInt < (2 + n : Nat)
  · obtain ⟨p, hp, e⟩ := nat_of ha
    subst e
    by_cases hb : 0 ≤ b.toInt ∧ b.toInt < (3 : Nat)
    · obtain ⟨k, hk, e⟩ := nat_of hb
      subst e
      exact k5_place R I.1 hp hk ⟨v1, v2, k6_place I.1 hp hk (chk_ok rfl (fun _ => upL _ _) (hK _ _ (S.ref (by omega))))⟩
    · unfold wL_place wX5_place
      refine c3_hasPlace R.rooms hn (fun _ _ _ => ⟨fun _ => ⟨fun _ => Or.inr ⟨rfl, ?_⟩, fun q => ?_, fun q => ?_, fun q => ?_⟩, fun q => absurd q z10⟩) (fun q => absurd ha q)
      · rw [va_ue]
        refine ⟨v1, v2, c6_isWarmPlace I.1.2.1 hn (fun _ _ _ => ⟨fun _ => ?_, fun q => absurd q z10⟩) (fun q => absurd ha q)⟩
        exact c6_in (lo := 0) (hi := 2) rfl rfl (fun q => absurd ⟨q.1, by omega⟩ hb) (fun _ => ⟨fun _ => c6_refused2 ⟨fun q => absurd q z10, fun _ => chk_ok rfl (fun q => absurd q (by decide)) (hK _ _ (S.ref (by omega)))⟩, fun q => absurd rfl q⟩)
      all_goals exact absurd (by rw [q]; decide) hb
  · unfold wL_place wX5_place
    refine c3_hasPlace R.rooms hn (fun i hi e => absurd ⟨by rw [e, ti_nat (by omega)]; omega, by rw [e, ti_nat (by omega)]; omega⟩ ha) (fun _ => ⟨fun q => absurd rfl q, fun _ => Or.inl ⟨rfl, ?_⟩⟩)
    rw [va_ue]
    refine ⟨v1, v2, c6_isWarmPlace I.1.2.1 hn (fun i hi e => absurd ⟨by rw [e, ti_nat (by omega)]; omega, by rw [e, ti_nat (by omega)]; omega⟩ ha) (fun _ => ⟨fun q => absurd rfl q, fun _ => c6_refused1 ⟨fun q => absurd q z10, fun _ => chk_ok rfl (fun q => absurd q z10) (hK _ _ (S.ref (by omega)))⟩⟩)⟩
/-! room -/
theorem ti_ok {k b : Nat} (h : k < b) (hb : b < 2147483648) : 0 ≤ (Int32.ofNat k).toInt ∧ (Int32.ofNat k).toInt < b := by
  rw [ti_nat (by omega)]
  omega
theorem k5_room {n i k : Nat} {M : Mem} {m : Row} {P : Int32 → Mem → Prop} {X : String → Mem → Prop} (R : RlM n (M 0) m) (hn : n ≤ 6) (W : m (30 + 8 * i) = 0 ∨ m (30 + 8 * i) = 1) (hi : i < n) (hk : k < 7) (h : P (m (27 + 8 * i + k)) M) : wX5_room (Int32.ofNat i) (Int32.ofNat k) M P X := by
  have e := R.2.2.2.1 i k hi hk
  refine c3_hasRoom R.rooms hn (fun _ _ _ => ⟨fun _ => ⟨nn_in (by omega) (by omega), ?_⟩, fun q => absurd q z10⟩) (fun q => absurd (ti_ok hi (by omega)) q)
  rw [va_ue, tn_nat (by omega)]
  rcases (by omega : k = 0 ∨ k = 1 ∨ k = 2 ∨ k = 3 ∨ k = 4 ∨ k = 5 ∨ k = 6) with e2 | e2 | e2 | e2 | e2 | e2 | e2 <;> subst e2
  · refine ⟨fun q => absurd q (by decide), fun _ => ?_, fun q => absurd q (by decide), fun q => absurd q (by decide), fun q => absurd q (by decide), fun q => absurd q (by decide), fun q => absurd q (by decide), fun q => absurd q (by decide)⟩
    rw [e]; exact h
  · refine ⟨fun q => absurd q (by decide), fun q => absurd q (by decide), fun _ => ?_, fun q => absurd q (by decide), fun q => absurd q (by decide), fun q => absurd q (by decide), fun q => absurd q (by decide), fun q => absurd q (by decide)⟩
    rw [e]; exact h
  · refine ⟨fun q => absurd q (by decide), fun q => absurd q (by decide), fun q => absurd q (by decide), fun _ => ?_, fun q => absurd q (by decide), fun q => absurd q (by decide), fun q => absurd q (by decide), fun q => absurd q (by decide)⟩
    rw [e]; exact h
  · refine ⟨fun q => absurd q (by decide), fun q => absurd q (by decide), fun q => absurd q (by decide), fun q => absurd q (by decide), fun _ => ?_, fun q => absurd q (by decide), fun q => absurd q (by decide), fun q => absurd q (by decide)⟩
    rw [e]
    rw [show 27 + 8 * i + 3 = 30 + 8 * i by omega] at h ⊢
    refine ⟨fun q => ?_, fun q => ?_⟩
    · rw [q] at h; exact h
    · rw [W.resolve_left q] at h; exact h
  · refine ⟨fun q => absurd q (by decide), fun q => absurd q (by decide), fun q => absurd q (by decide), fun q => absurd q (by decide), fun q => absurd q (by decide), fun _ => ?_, fun q => absurd q (by decide), fun q => absurd q (by decide)⟩
    rw [e]; exact h
  · refine ⟨fun q => absurd q (by decide), fun q => absurd q (by decide), fun q => absurd q (by decide), fun q => absurd q (by decide), fun q => absurd q (by decide), fun q => absurd q (by decide), fun _ => ?_, fun q => absurd q (by decide)⟩
    rw [e]; exact h
  · refine ⟨fun q => absurd q (by decide), fun q => absurd q (by decide), fun q => absurd q (by decide), fun q => absurd q (by decide), fun q => absurd q (by decide), fun q => absurd q (by decide), fun q => absurd q (by decide), fun _ => ?_⟩
    rw [e]; exact h
theorem k6_room {n i k : Nat} {c : Reg} {P : Int32 → Reg → Prop} (h0 : c 3 0 = Int32.ofNat n) (hn : n ≤ 6) (hi : i < n) (hk : k < 7) (h : P (c 3 (27 + 8 * i + k)) (cu c 0 0 0)) : wX6_room (Int32.ofNat i) (Int32.ofNat k) c P := by
  refine c6_isRoom h0 hn (fun _ _ _ => ⟨fun _ => ?_, fun q => absurd q z10⟩) (fun q => absurd (ti_ok hi (by omega)) q)
  refine c6_in (lo := 0) (hi := 6) rfl rfl (fun _ => ⟨fun q => absurd q z10, fun _ => c6_refused0 ⟨fun _ => ?_, fun q => absurd rfl q⟩⟩) (fun q => absurd (by rw [ti_nat (by omega)]; omega) q)
  rw [nn_s]
  refine s6_cell (q := k + 1) (k := 27 + 8 * i + k) (by omega) ?_
  rw [tn_nat (by omega)]
  exact ⟨nn_in (by omega) (by omega), h⟩
theorem road7 {L T : Nat} {xs : Nat → Int32} {v4 : Int32} {K : Mem → (Nat → Int64) → Prop} {M : Mem} {O : Nat → Int64} (S : Sim T M) (hK : ∀ M' O', Sim (T + 60) M' → K M' O') (hv : ∀ d : Int32, 0 ≤ d.toInt → d.toInt ≤ 4 → vp_in (v4 + d) L) : wL_law_C7 L xs v4 K M O := by
  have v1 := hv 1 (by decide) (by decide)
  have v2 := hv 2 (by decide) (by decide)
  obtain ⟨n, R, I⟩ := S.1
  have hn := I.1.1
  refine ⟨v1, v2, ?_⟩
  generalize xs (Int32.toNatClampNeg (v4 + 1)) = a
  generalize xs (Int32.toNatClampNeg (v4 + 2)) = b
  by_cases ha : 0 ≤ a.toInt ∧ a.toInt < n
  · obtain ⟨i, hi, e⟩ := nat_of ha
    subst e
    by_cases hb : 0 ≤ b.toInt ∧ b.toInt < (7 : Nat)
    · obtain ⟨k, hk, e⟩ := nat_of hb
      subst e
      exact k5_room R hn (I.2.2.1.1 i hi) hi hk ⟨v1, v2, k6_room I.1.2.1 hn hi hk (chk_ok rfl (fun _ => upL _ _) (hK _ _ (S.ref (by omega))))⟩
    · unfold wL_room wX5_room
      refine c3_hasRoom R.rooms hn (fun _ _ _ => ⟨fun _ => ⟨nn_in (by omega) (by omega), fun _ => Or.inr ⟨rfl, ?_⟩, fun q => ?_, fun q => ?_, fun q => ?_, fun q => ?_, fun q => ?_, fun q => ?_, fun q => ?_⟩, fun q => absurd q z10⟩) (fun q => absurd ha q)
      · rw [va_ue]
        refine ⟨v1, v2, c6_isRoom I.1.2.1 hn (fun _ _ _ => ⟨fun _ => ?_, fun q => absurd q z10⟩) (fun q => absurd ha q)⟩
        exact c6_in (lo := 0) (hi := 6) rfl rfl (fun q => absurd ⟨q.1, by omega⟩ hb) (fun _ => ⟨fun _ => c6_refused2 ⟨fun q => absurd q z10, fun _ => chk_ok rfl (fun q => absurd q (by decide)) (hK _ _ (S.ref (by omega)))⟩, fun q => absurd rfl q⟩)
      all_goals exact absurd (by rw [q]; decide) hb
  · unfold wL_room wX5_room
    refine c3_hasRoom R.rooms hn (fun i hi e => absurd (by rw [e]; exact ti_ok hi (by omega)) ha) (fun _ => ⟨fun q => absurd rfl q, fun _ => Or.inl ⟨rfl, ?_⟩⟩)
    rw [va_ue]
    refine ⟨v1, v2, c6_isRoom I.1.2.1 hn (fun i hi e => absurd (by rw [e]; exact ti_ok hi (by omega)) ha) (fun _ => ⟨fun q => absurd rfl q, fun _ => c6_refused1 ⟨fun q => absurd q z10, fun _ => chk_ok rfl (fun q => absurd q z10) (hK _ _ (S.ref (by omega)))⟩⟩)⟩
/-! moved -/
theorem c6_moved29 {a1 a2 : Int32} {c : Reg} {P : Int32 → Reg → Prop} (h : P 0 (cu c 0 0 1)) : wX6_moved_L29 a1 a2 P c := by
  unfold wX6_moved_L29 wX6_moved_L30
  exact c6_refused1 ⟨fun q => absurd q z10, fun _ => h⟩
theorem road8 {L T : Nat} {xs : Nat → Int32} {v4 : Int32} {K : Mem → (Nat → Int64) → Prop} {M : Mem} {O : Nat → Int64} (S : Sim T M) (hK : ∀ M' O', Sim (T + 60) M' → K M' O') (hv : ∀ d : Int32, 0 ≤ d.toInt → d.toInt ≤ 4 → vp_in (v4 + d) L) : wL_law_C8 L xs v4 K M O := by
  have v1 := hv 1 (by decide) (by decide)
  have v2 := hv 2 (by decide) (by decide)
  obtain ⟨n, R, I⟩ := S.1
  have hn := I.1.1
  refine ⟨v1, v2, ?_⟩
  generalize xs (Int32.toNatClampNeg (v4 + 1)) = a
  generalize xs (Int32.toNatClampNeg (v4 + 2)) = b
  by_cases ha : 0 ≤ a.toInt ∧ a.toInt < (10 : Nat)
  · obtain ⟨f, hf, e⟩ := nat_of ha
    subst e
    by_cases hb : 0 ≤ b.toInt ∧ b.toInt < (10 : Nat)
    · obtain ⟨t, ht, e⟩ := nat_of hb
      subst e
      refine ⟨fun q => absurd q (ng (by omega)), fun _ => ⟨fun q => absurd q (nge (b := 10) hf (by omega)), fun _ => ⟨fun q => absurd q (ng (by omega)), fun _ => ⟨fun _ => s3_sumBetween I.1 R (by omega) (by omega) ?_, fun q => absurd ((nn_lt (b := 10) (by omega) (by omega)).mpr ht) q⟩⟩⟩⟩
      rw [va_ue]
      refine ⟨v1, v2, c6_in (lo := 0) (hi := 9) rfl rfl (fun _ => ⟨fun q => absurd q z10, fun _ => ?_⟩) (fun q => absurd (by omega) q)⟩
      refine c6_in (lo := 0) (hi := 9) rfl rfl (fun _ => ⟨fun q => absurd q z10, fun _ => c6_refused0 ⟨fun _ => ?_, fun q => absurd rfl q⟩⟩) (fun q => absurd (by omega) q)
      exact s6_movedOf (n := n) (by rw [e_row _ 0 (by decide)]; exact I.1) (chk_ok rfl (fun _ => upL _ _) (hK _ _ (S.ref (by omega))))
    · have md : wX6_moved (Int32.ofNat f) b (M 21) (fun r4 c5 => wX6_thrown ((va_up M 21 c5) 21) (fun r6 c7 => ((r6 = 1 → ((¬ (1 : Int32) = 0 → K (va_up (va_up M 21 c5) 21 c7) O) ∧ ((1 : Int32) = 0 → (((lg_cmp (O 0) (Int32.toInt64 r4)) = 0 → K (va_up (va_up M 21 c5) 21 c7) O) ∧ (¬ (lg_cmp (O 0) (Int32.toInt64 r4)) = 0 → False))))) ∧ (¬ r6 = 1 → False)))) := by
        refine c6_in (lo := 0) (hi := 9) rfl rfl (fun _ => ⟨fun q => absurd q z10, fun _ => ?_⟩) (fun q => absurd (by omega) q)
        exact c6_in (lo := 0) (hi := 9) rfl rfl (fun q => absurd ⟨q.1, by omega⟩ hb) (fun _ => ⟨fun _ => c6_moved29 (chk_ok rfl (fun q => absurd q z10) (hK _ _ (S.ref (by omega)))), fun q => absurd rfl q⟩)
      refine ⟨fun q => absurd q (ng (by omega)), fun _ => ⟨fun q => absurd q (nge (b := 10) hf (by omega)), fun _ => ⟨fun _ => ⟨rfl, v1, v2, md⟩, fun q => ⟨fun q2 => ?_, fun _ => ⟨rfl, v1, v2, md⟩⟩⟩⟩⟩
      rw [Int32.lt_iff_toInt_lt, i0] at q
      rw [Int32.lt_iff_toInt_lt, i10] at q2
      exact absurd ⟨by omega, by omega⟩ hb
  · have md : wX6_moved a b (M 21) (fun r4 c5 => wX6_thrown ((va_up M 21 c5) 21) (fun r6 c7 => ((r6 = 1 → ((¬ (1 : Int32) = 0 → K (va_up (va_up M 21 c5) 21 c7) O) ∧ ((1 : Int32) = 0 → (((lg_cmp (O 0) (Int32.toInt64 r4)) = 0 → K (va_up (va_up M 21 c5) 21 c7) O) ∧ (¬ (lg_cmp (O 0) (Int32.toInt64 r4)) = 0 → False))))) ∧ (¬ r6 = 1 → False)))) :=
      c6_in (lo := 0) (hi := 9) rfl rfl (fun q => absurd ⟨q.1, by omega⟩ ha) (fun _ => ⟨fun _ => c6_moved29 (chk_ok rfl (fun q => absurd q z10) (hK _ _ (S.ref (by omega)))), fun q => absurd rfl q⟩)
    refine ⟨fun _ => ⟨rfl, v1, v2, md⟩, fun q => ⟨fun _ => ⟨rfl, v1, v2, md⟩, fun q2 => ?_⟩⟩
    rw [Int32.lt_iff_toInt_lt, i0] at q
    rw [Int32.le_iff_toInt_le, i10] at q2
    exact absurd ⟨by omega, by omega⟩ ha
/-! way -/
theorem code_div {f t : Nat} (hf : f ≤ 9) (ht : t ≤ 9) : codeOf f t / 10 = Int32.ofNat f ∧ codeOf f t - codeOf f t / 10 * 10 = Int32.ofNat t := by
  have e0 : (codeOf f t).toInt = 10 * f + t := by
    unfold codeOf
    rw [ti_nat (by omega)]
    omega
  have e1 : (codeOf f t / 10).toInt = f := by
    rw [ti_div (by decide), e0, i10, Int.tdiv_eq_ediv_of_nonneg (by omega)]
    omega
  have e2 : (codeOf f t - codeOf f t / 10 * 10).toInt = t := by
    rw [ti_rem (by decide), e0, i10, Int.tmod_eq_emod_of_nonneg (by omega)]
    omega
  exact ⟨ofNat_of e1, ofNat_of e2⟩
theorem road9 {L T : Nat} {xs : Nat → Int32} {v4 : Int32} {K : Mem → (Nat → Int64) → Prop} {M : Mem} {O : Nat → Int64} (S : Sim T M) (hK : ∀ M' O', Sim (T + 60) M' → K M' O') (hv : ∀ d : Int32, 0 ≤ d.toInt → d.toInt ≤ 4 → vp_in (v4 + d) L) : wL_law_C9 L xs v4 K M O := by
  have v1 := hv 1 (by decide) (by decide)
  have v2 := hv 2 (by decide) (by decide)
  obtain ⟨n, R, I⟩ := S.1
  have hn := I.1.1
  have hw := I.1.2.2.1
  obtain ⟨l1, l2, l3⟩ := R.2.2.2.2
  have e74 : (Int32.toInt64 (M 21 3 74 - 1)).toInt = (wy (M 21 3) : Int) - 1 := by
    rw [i64, l2, ti_sub (by rw [ti_nat (by omega), i1]; omega) (by rw [ti_nat (by omega), i1]; omega), ti_nat (by omega), i1]
  refine ⟨v1, v2, ?_⟩
  generalize xs (Int32.toNatClampNeg (v4 + 1)) = a
  generalize xs (Int32.toNatClampNeg (v4 + 2)) = b
  by_cases ha : 0 ≤ a.toInt ∧ a.toInt < wy (M 21 3)
  · obtain ⟨k, hk, e⟩ := nat_of ha
    subst e
    have has : ∀ P : Int32 → Reg → Prop, P 1 (M 0) → wX1_hasWay (Int32.ofNat k) (M 0) P := fun P h => by
      refine ⟨fun q => absurd q (ng (by omega)), fun _ => ⟨fun q => ?_, fun _ => ⟨fun q => absurd q (nge (b := 26) (by omega) (by omega)), fun _ => h⟩⟩⟩
      rw [l1, nn_le (by omega) (by omega)] at q
      omega
    obtain ⟨f, t, g1, g2, g3, g4, g5, g6⟩ := l3 k hk
    have d := code_div g1 g2
    have ein : vp_in (Int32.ofNat k) 26 := nn_in (by omega) (by omega)
    have m6 : ∀ (P : Int32 → Reg → Prop) (j : Nat), j < 3 → b = Int32.ofNat j → P (if j = 0 then Int32.ofNat f else if j = 1 then Int32.ofNat t else M 21 3 (76 + 2 * k)) (cu (M 21) 0 0 0) → wX6_way (Int32.ofNat k) b (M 21) P := by
      intro P j hj eb h
      subst eb
      refine c6_in (lo := 0) (hi := wy (M 21 3) - 1) rfl e74 (fun _ => ⟨fun _ => ?_, fun q => absurd q z10⟩) (fun q => absurd (by omega) q)
      refine c6_in (lo := 0) (hi := 2) rfl rfl (fun _ => ⟨fun q => absurd q z10, fun _ => c6_refused0 ⟨fun _ => ?_, fun q => absurd rfl q⟩⟩) (fun q => absurd (by rw [ti_nat (by omega)]; omega) q)
      rw [ix_code, ix_sum, tn_nat (by omega), tn_nat (by omega), e_row _ 0 (by decide), g5, d.2, d.1]
      refine ⟨nn_in (by omega) (by omega), ?_⟩
      rcases (by omega : j = 0 ∨ j = 1 ∨ j = 2) with e | e | e <;> subst e
      · exact ⟨fun q => absurd rfl q, fun _ => h⟩
      · exact ⟨fun _ => ⟨fun q => absurd rfl q, fun _ => h⟩, fun q => absurd q (by decide)⟩
      · exact ⟨fun _ => ⟨fun _ => ⟨nn_in (by omega) (by omega), h⟩, fun q => absurd q (by decide)⟩, fun q => absurd q (by decide)⟩
    by_cases hb : 0 ≤ b.toInt ∧ b.toInt < (3 : Nat)
    · obtain ⟨j, hj, e⟩ := nat_of hb
      unfold wL_way wX5_way
      refine has _ ⟨fun _ => ?_, fun q => absurd q z10⟩
      rw [va_ue, tn_nat (by omega), g3, g4, g6]
      rcases (by omega : j = 0 ∨ j = 1 ∨ j = 2) with e2 | e2 | e2 <;> subst e2
      · refine ⟨fun q => absurd q (by rw [e]; decide), fun _ => ⟨ein, v1, v2, m6 _ 0 (by decide) e (chk_ok rfl (fun _ => upL _ _) (hK _ _ (S.ref (by omega))))⟩, fun q => absurd q (by rw [e]; decide), fun q => absurd q (by rw [e]; decide)⟩
      · refine ⟨fun q => absurd q (by rw [e]; decide), fun q => absurd q (by rw [e]; decide), fun _ => ⟨ein, v1, v2, m6 _ 1 (by decide) e (chk_ok rfl (fun _ => upL _ _) (hK _ _ (S.ref (by omega))))⟩, fun q => absurd q (by rw [e]; decide)⟩
      · refine ⟨fun q => absurd q (by rw [e]; decide), fun q => absurd q (by rw [e]; decide), fun q => absurd q (by rw [e]; decide), fun _ => ⟨ein, v1, v2, m6 _ 2 (by decide) e (chk_ok rfl (fun _ => upL _ _) (hK _ _ (S.ref (by omega))))⟩⟩
    · unfold wL_way wX5_way
      refine has _ ⟨fun _ => ⟨fun _ => Or.inr ⟨rfl, ?_⟩, fun q => ?_, fun q => ?_, fun q => ?_⟩, fun q => absurd q z10⟩
      · rw [va_ue]
        refine ⟨v1, v2, c6_in (lo := 0) (hi := wy (M 21 3) - 1) rfl e74 (fun _ => ⟨fun _ => ?_, fun q => absurd q z10⟩) (fun q => absurd (by omega) q)⟩
        exact c6_in (lo := 0) (hi := 2) rfl rfl (fun q => absurd ⟨q.1, by omega⟩ hb) (fun _ => ⟨fun _ => c6_refused2 ⟨fun q => absurd q z10, fun _ => chk_ok rfl (fun q => absurd q (by decide)) (hK _ _ (S.ref (by omega)))⟩, fun q => absurd rfl q⟩)
      all_goals exact absurd (by rw [q]; decide) hb
  · have bad : ∀ P : Int32 → Reg → Prop, P 0 (M 0) → wX1_hasWay a (M 0) P := fun P h => by
      refine ⟨fun _ => h, fun q => ⟨fun _ => h, fun q2 => ?_⟩⟩
      rw [Int32.lt_iff_toInt_lt, i0] at q
      rw [l1, Int32.le_iff_toInt_le, ti_nat (by omega)] at q2
      exact absurd ⟨by omega, by omega⟩ ha
    unfold wL_way wX5_way
    refine bad _ ⟨fun q => absurd rfl q, fun _ => Or.inl ⟨rfl, ?_⟩⟩
    rw [va_ue]
    exact ⟨v1, v2, c6_in (lo := 0) (hi := wy (M 21 3) - 1) rfl e74 (fun q => absurd ⟨q.1, by omega⟩ ha) (fun _ => ⟨fun q => absurd rfl q, fun _ => c6_refused1 ⟨fun q => absurd q z10, fun _ => chk_ok rfl (fun q => absurd q z10) (hK _ _ (S.ref (by omega)))⟩⟩)⟩
