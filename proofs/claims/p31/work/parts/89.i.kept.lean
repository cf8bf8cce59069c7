/-! kept -/
theorem ltn {a b : Int64} {F G : Prop} (e : b.toInt ≤ a.toInt) (h : G) : (lg_cmp a b < 0 → F) ∧ (¬ lg_cmp a b < 0 → G) := ⟨fun q => by rw [lg_cmp_lt, Int64.lt_iff_toInt_lt] at q; omega, fun _ => h⟩
theorem gtn {a b : Int64} {F G : Prop} (e : a.toInt ≤ b.toInt) (h : G) : (0 < lg_cmp a b → F) ∧ (¬ 0 < lg_cmp a b → G) := ⟨fun q => by rw [lg_cmp_gt, Int64.lt_iff_toInt_lt] at q; omega, fun _ => h⟩
theorem len {a b : Int64} {F G : Prop} (e : b.toInt < a.toInt) (h : G) : (lg_cmp a b ≤ 0 → F) ∧ (¬ lg_cmp a b ≤ 0 → G) := ⟨fun q => by rw [lg_cmp_le, Int64.le_iff_toInt_le] at q; omega, fun _ => h⟩
theorem gen {a b : Int64} {F G : Prop} (e : a.toInt < b.toInt) (h : G) : (0 ≤ lg_cmp a b → F) ∧ (¬ 0 ≤ lg_cmp a b → G) := ⟨fun q => by rw [lg_cmp_ge, Int64.le_iff_toInt_le] at q; omega, fun _ => h⟩
theorem yes {F G : Prop} (h : G) : ((1 : Int32) = 0 → F) ∧ (¬ (1 : Int32) = 0 → G) := ⟨fun q => absurd q z10, fun _ => h⟩
theorem kin {a lo hi : Int64} {P : Int32 → Prop} (h1 : lo.toInt ≤ a.toInt) (h2 : a.toInt ≤ hi.toInt) (h : P 1) : wL_in a lo hi P := ltn h1 (gtn h2 h)
theorem e64 {a b : Int64} (h : a.toInt = b.toInt) : a = b := Int64.toInt_inj.mp h
theorem way_f {n k : Nat} {B : Int} {m : Row} (J : Jn n B m) (hk : k < wy m) : ∃ f t, f ≤ 9 ∧ t ≤ 8 ∧ f ≠ t ∧ m (75 + 2 * k) = codeOf f t ∧ cdn m k / 10 = f ∧ cdn m k % 10 = t ∧ 0 < (m (76 + 2 * k)).toInt ∧ (f = 9 → t = 0 ∨ ∃ i, i < n ∧ t = 2 + i ∧ (m (76 + 2 * k)).toInt = 150 * (m (26 + 8 * i)).toInt) ∧ amt m f t = m (76 + 2 * k) := by
  obtain ⟨a, a1, a2, a3, a4, a5, a6⟩ := J.2.2.2.2 k hk
  have hf := wl26_ft a a1
  have ec : cdn m k = a := cdn_of a2 (by omega)
  have ea : codeOf (a / 10) (a % 10) = Int32.ofNat a := by
    unfold codeOf
    rw [show 10 * (a / 10) + a % 10 = a by omega]
  refine ⟨a / 10, a % 10, by omega, by omega, hf.1, by rw [a2, ea], by rw [ec], by rw [ec], a4, fun q => ?_, ?_⟩
  · rcases hf.2.2.1 q with e | e
    · exact Or.inl e
    · have e92 : a = 92 + (a % 10 - 2) := by omega
      exact Or.inr ⟨a % 10 - 2, a3 _ (by omega) (Or.inl e92), by omega, a6 _ (by omega) e92⟩
  · unfold amt
    rw [ea]
    cases hl : lasti m (Int32.ofNat a) (wy m) with
    | none => exact absurd a2 (lasti_no hl hk)
    | some k' =>
      have l := lasti_lt hl
      have e : k' = k := J.1.2.2.2.2.1 k' k l.1 hk (l.2.trans a2.symm)
      rw [e]
      rfl
section
variable {n T : Nat} {A : Ab} {P : Int32 → Mem → Prop} {W : Reg} {K : Int32 → Int32 → Int32 → Int64 → Int32 → Mem → Prop} {v1 v2 : Int32} {v5 : Int64}
theorem kp_201 (I : Inv n T A.1) {k f t : Nat} {v10 : Int64} (hk : k < wy A.1) (ef : cdn A.1 k / 10 = f) (et : cdn A.1 k % 10 = t) (hf : f < 10) : ∀ (r j N : Nat) (M : Mem), j + r = k → r < N → AR T M A → M 23 = W → (∀ M', AR T M' A → M' 23 = W → wL_kept_L254 P K v1 v2 1 v5 (Int32.ofNat k) (Int32.ofNat f) (Int32.ofNat t) v10 M') → wL_kept_L201 P K N v1 v2 1 v5 (Int32.ofNat k) (Int32.ofNat f) (Int32.ofNat t) v10 (Int32.ofNat j) M := by
  have hw := I.1.2.2.1
  intro r
  induction r with
  | zero =>
    intro j N M hj hN S e h
    obtain ⟨N, rfl⟩ : ∃ g, N = g + 1 := ⟨N - 1, by omega⟩
    refine ⟨fun _ => h M S e, fun q => absurd ?_ q⟩
    exact (nn_le (by omega) (by omega)).mpr (by omega)
  | succ r ih =>
    intro j N M hj hN S e h
    obtain ⟨N, rfl⟩ : ∃ g, N = g + 1 := ⟨N - 1, by omega⟩
    refine ⟨fun q => ?_, fun _ => yes ?_⟩
    · have := (nn_le (by omega) (by omega)).mp q
      omega
    refine q_way (k := j) (j := 0) I (by omega) (by decide) M _ S (fun M2 S2 e2 => ⟨fun _ => ?_, fun q1 => ?_⟩)
    · rw [nn_s]
      exact ih (j + 1) N M2 (by omega) (by omega) S2 (e2.trans e) h
    · refine q_way (k := j) (j := 1) I (by omega) (by decide) M2 _ S2 (fun M3 S3 e3 => ⟨fun q2 => ?_, fun _ => ?_⟩)
      · rw [lg_cmp_eq] at q1 q2
        have g1 := congrArg Int64.toInt q1
        have g2 := congrArg Int64.toInt q2
        obtain ⟨a, a1, a2⟩ := I.1.2.2.2.2.2.1 j (by omega)
        obtain ⟨b, b1, b2⟩ := I.1.2.2.2.2.2.1 k hk
        have la := wl26_lt a a1
        have lb := wl26_lt b b1
        have ca : cdn A.1 j = a := cdn_of a2 (by omega)
        have cb : cdn A.1 k = b := cdn_of b2 (by omega)
        have g1 : (Int32.toInt64 (Int32.ofNat (cdn A.1 j / 10))).toInt = (Int32.toInt64 (Int32.ofNat f)).toInt := g1
        have g2 : (Int32.toInt64 (Int32.ofNat (cdn A.1 j % 10))).toInt = (Int32.toInt64 (Int32.ofNat t)).toInt := g2
        rw [ca, t64 (by omega), t64 (by omega)] at g1 g2
        have eab : a = b := by omega
        have := I.1.2.2.2.2.1 j k (by omega) hk (by rw [a2, b2, eab])
        omega
      · rw [nn_s]
        exact ih (j + 1) N M3 (by omega) (by omega) S3 (e3.trans (e2.trans e)) h
def HZ (n : Nat) (m : Row) (k : Nat) (M : Mem) : Prop := ∀ p, p < 2 + n → M 23 1 p = Int32.ofInt (hasZ m p k)
theorem kp_254 (I : Inv n T A.1) {k f t : Nat} {M : Mem} (ef : cdn A.1 k / 10 = f) (et : cdn A.1 k % 10 = t) (hf : f ≤ 9) (ht : t ≤ 9) (hft : f ≠ t) (S : AR T M A) (H : HZ n A.1 k M) (h : ∀ M', AR T M' A → HZ n A.1 (k + 1) M' → K v1 v2 1 v5 (Int32.ofNat (k + 1)) M') : wL_kept_L254 P K v1 v2 1 v5 (Int32.ofNat k) (Int32.ofNat f) (Int32.ofNat t) (Int32.toInt64 (A.1 (76 + 2 * k))) M := by
  have hn := I.1.1
  have i1 : vp_in (Int32.ofNat f) 10 := nn_in (by omega) (by omega)
  have i2 : vp_in (Int32.ofNat t) 10 := nn_in (by omega) (by omega)
  refine yes ⟨i1, i1, i2, i2, ?_⟩
  rw [b32, nn_s, tn_nat (by omega), tn_nat (by omega)]
  refine h _ (S.frame (Nat.le_refl _) (fun i h1 h2 => by rw [va_un _ _ (by omega), va_un _ _ (by omega)]) (fun j hj => by rw [va_un _ _ (by decide), va_un _ _ (by decide)])) (fun p hp => ?_)
  have g := H p hp
  have ez : hasZ A.1 p (k + 1) = hasZ A.1 p k - (if f = p then (A.1 (76 + 2 * k)).toInt else 0) + (if t = p then (A.1 (76 + 2 * k)).toInt else 0) := by
    rw [← ef, ← et]
    rfl
  rw [va_us, cu_sv, va_us, cu_sv, ez]
  by_cases e1 : t = p
  · subst e1
    rw [upd_s, upd_n _ _ (Ne.symm hft), g, if_neg hft, if_pos rfl, Int.sub_zero, Int32.ofInt_add, Int32.ofInt_toInt]
  · rw [upd_n _ _ (Ne.symm e1), if_neg e1, Int.add_zero]
    by_cases e2 : f = p
    · subst e2
      rw [upd_s, g, if_pos rfl, Int32.ofInt_sub, Int32.ofInt_toInt]
    · rw [upd_n _ _ (Ne.symm e2), if_neg e2, Int.sub_zero, g]
theorem kp_41 (I : Inv n T A.1) (X : Ex n T A.1) : ∀ (r k N : Nat) (M : Mem), k + r = wy A.1 → r < N → AR T M A → HZ n A.1 k M → (∀ M', AR T M' A → HZ n A.1 (wy A.1) M' → wL_kept_L288 P 9 v1 1 v5 0 M') → wL_kept_L41 P N v1 (Int32.ofNat (wy A.1)) 1 v5 (Int32.ofNat k) M := by
  have hn := I.1.1
  have hw := I.1.2.2.1
  intro r
  induction r with
  | zero =>
    intro k N M hk hN S H h
    obtain ⟨N, rfl⟩ : ∃ g, N = g + 1 := ⟨N - 1, by omega⟩
    have hk : k = wy A.1 := hk
    rw [hk] at H
    refine ⟨fun _ => h M S H, fun q => absurd ?_ q⟩
    exact (nn_le (by omega) (by omega)).mpr (by omega)
  | succ r ih =>
    intro k N M hk hN S H h
    obtain ⟨N, rfl⟩ : ∃ g, N = g + 1 := ⟨N - 1, by omega⟩
    obtain ⟨f, t, f9, t8, hft, ecode, ef, et, hv, h9, hamt⟩ := way_f X.1 (k := k) (by omega)
    have hkw : k < wy A.1 := by omega
    refine ⟨fun q => ?_, fun _ => yes ?_⟩
    · have := (nn_le (by omega) (by omega)).mp q
      omega
    refine q_way (k := k) (j := 0) I hkw (by decide) M _ S (fun M2 S2 e2 => ?_)
    refine q_way (k := k) (j := 1) I hkw (by decide) M2 _ S2 (fun M3 S3 e3 => ?_)
    refine q_way (k := k) (j := 2) I hkw (by decide) M3 _ S3 (fun M4 S4 e4 => ?_)
    have w0 : Int64.toInt32 (Int32.toInt64 (wayv A.1 k 0)) = Int32.ofNat f := by rw [b32, ← ef]; rfl
    have w1 : Int64.toInt32 (Int32.toInt64 (wayv A.1 k 1)) = Int32.ofNat t := by rw [b32, ← et]; rfl
    rw [w0, w1]
    show wL_in _ 0 9 _
    refine kin (by rw [t64 (by omega)]; show (0 : Int) ≤ _; omega) (by rw [t64 (by omega)]; show _ ≤ (9 : Int); omega) (yes ?_)
    refine kin (by rw [t64 (by omega)]; show (0 : Int) ≤ _; omega) (by rw [t64 (by omega)]; show _ ≤ (9 : Int); omega) (yes ?_)
    refine ⟨fun q => absurd (nn_inj q (by omega) (by omega)) hft, fun _ => ?_⟩
    refine len (by rw [i64]; exact hv) ?_
    refine q_moved (f := f) (t := t) I (by omega) (by omega) M4 _ S4 (fun M5 S5 e5 => ?_)
    rw [hamt]
    refine eqk rfl ?_
    have H5 : HZ n A.1 k M5 := fun p hp => by rw [e5, e4, e3, e2]; exact H p hp
    have fin : ∀ M6, AR T M6 A → M6 23 = M5 23 → wL_kept_L201 P (fun v1' v2' v4' v5' v7' M' => wL_kept_L41 P N v1' v2' v4' v5' v7' M') 27 v1 (Int32.ofNat (wy A.1)) 1 v5 (Int32.ofNat k) (Int32.ofNat f) (Int32.ofNat t) (Int32.toInt64 (A.1 (76 + 2 * k))) 0 M6 := by
      intro M6 S6 e6
      refine kp_201 (W := M5 23) I hkw ef et (by omega) k 0 27 M6 (by omega) (by omega) S6 e6 (fun M7 S7 e7 => ?_)
      have H7 : HZ n A.1 k M7 := fun p hp => by rw [e7]; exact H5 p hp
      exact kp_254 I ef et (by omega) (by omega) hft S7 H7 (fun M8 S8 H8 => ih (k + 1) N M8 (by omega) (by omega) S8 H8 h)
    have l149 : wL_kept_L149 P (fun v1' v2' v4' v5' v7' M' => wL_kept_L41 P N v1' v2' v4' v5' v7' M') v1 (Int32.ofNat (wy A.1)) v5 (Int32.ofNat k) (Int32.ofNat f) (Int32.ofNat t) (Int32.toInt64 (A.1 (76 + 2 * k))) M5 := by
      refine ⟨fun _ => fin M5 S5 rfl, fun q => ?_⟩
      have f9' : f = 9 := nn_inj (b := 9) q (by omega) (by omega)
      refine ⟨fun _ => fin M5 S5 rfl, fun q0 => ?_⟩
      rcases h9 f9' with e | ⟨i, hi, et2, ev⟩
      · subst e
        exact absurd rfl q0
      · have cz := capZ I.1 hi
        refine ⟨fun q1 => ?_, fun _ => ⟨fun q1 => ?_, fun _ => ?_⟩⟩
        · have := (nn_le (a := t) (b := 1) (by omega) (by omega)).mp q1
          omega
        · have := (nn_le (a := 8) (b := t) (by omega) (by omega)).mp q1
          omega
        · refine q_place (p := t) (k := 2) I (by omega) (by decide) M5 _ S5 (fun M6 S6 e6 => eqk ?_ (fin M6 S6 e6))
          refine e64 ?_
          have c15 : (15 : Int64).toInt = 15 := rfl
          have ec : (Int32.toInt64 (placef A.1 t 2)).toInt = 10 * (A.1 (26 + 8 * i)).toInt := by
            rw [i64, et2]
            exact cz.1
          rw [tl_mul (by rw [c15, ec]; omega) (by rw [c15, ec]; omega), c15, ec, i64, ev]
          omega
    refine ⟨fun _ => l149, fun _ => ⟨fun q => ?_, fun _ => l149⟩⟩
    have := nn_inj (b := 9) q (by omega) (by omega)
    omega
end
theorem sumh_b {n : Nat} {m : Row} (G1 : Gd n m) (Hh : Hb n m) : ∀ p, p ≤ 2 + n → -10000 * (p : Int) ≤ (sumh m p).toInt ∧ (sumh m p).toInt ≤ 10000 * (p : Int) := by
  have hn := G1.1
  intro p
  induction p with
  | zero =>
    intro _
    show -10000 * ((0 : Nat) : Int) ≤ (0 : Int32).toInt ∧ (0 : Int32).toInt ≤ 10000 * ((0 : Nat) : Int)
    decide
  | succ p ih =>
    intro hp
    have h := ih (by omega)
    have b := Hh p (by omega)
    have c := G1.cap (p := p) (by omega)
    show _ ≤ (sumh m p + m (18 + p)).toInt ∧ (sumh m p + m (18 + p)).toInt ≤ _
    rw [ti_add (by omega) (by omega)]
    omega
section
variable {n T : Nat} {A : Ab} {P : Int32 → Mem → Prop}
theorem kp_543 (I : Inv n T A.1) (X : Ex n T A.1) (hT : T ≤ 100000) {M : Mem} {v5 v7 : Int64} (S : AR T M A) (h5 : v5.toInt = (sumh A.1 (2 + n)).toInt) (h7 : v7.toInt = (sumc A.1 n).toInt) (h : ∀ M', AR T M' A → P 1 M') : wL_kept_L543 P (Int32.ofNat n) 1 v5 v7 M := by
  have hn := I.1.1
  have Sg := I.2.1
  refine q_about (k := 5) I (by decide) M _ S (fun M1 S1 _ => yes ?_)
  refine q_about (k := 10) I (by decide) M1 _ S1 (fun M2 S2 _ => eqk (e64 (by rw [i64, h5]; rfl)) ?_)
  refine q_about (k := 12) I (by decide) M2 _ S2 (fun M3 S3 _ => eqk (e64 (by rw [i64, h7]; rfl)) ?_)
  refine kin (by rw [i64]; exact Sg.2.2.2.1.1) (by rw [i64]; exact Sg.2.2.2.1.2) (yes ?_)
  refine q_about (k := 7) I (by decide) M3 _ S3 (fun M4 S4 _ => ?_)
  refine kin (by rw [i64]; exact Sg.2.2.1.1) (by rw [i64]; show _ ≤ (59 : Int); have := Sg.2.2.1.2; show (A.1 7).toInt ≤ 59; omega) (yes ?_)
  refine q_about (k := 4) I (by decide) M4 _ S4 (fun M5 S5 _ => ?_)
  refine q_about (k := 1) I (by decide) M5 _ S5 (fun M6 S6 _ => ?_)
  have e4 : (aboutf n A.1 4).toInt = (A.1 1).toInt - (A.1 4).toInt := by
    obtain ⟨g1, g2, g3, -⟩ := X.2
    exact ti_sub (by omega) (by omega)
  refine kin (by rw [i64, e4]; show (0 : Int) ≤ _; have := X.2.2.1; omega) (by rw [i64, i64, e4]; show _ ≤ (A.1 1).toInt; have := X.2.1; omega) (yes ?_)
  refine q_about (k := 8) I (by decide) M6 _ S6 (fun M7 S7 _ => ?_)
  have wb := wish_b Sg.2.2.2.2.1
  refine kin (by rw [i64]; exact wb.1) (by rw [i64]; exact wb.2) (yes ?_)
  refine q_heatFor (k := 0) I hT (by decide) M7 _ S7 (fun M8 S8 _ => eqk (e64 ?_) ?_)
  · rw [i64]
    show (made A.1 - made A.1).toInt = 0
    rw [ti_sub (by omega) (by omega)]
    omega
  refine q_bestSlope (k := 1) I hT (by decide) (by decide) M8 _ S8 (fun M9 S9 _ => ?_)
  have z0 : (Int32.ofNat n = 0) ↔ n = 0 := nn_eq (b := 0) (by omega) (by omega)
  refine ⟨fun q => ltn ?_ (h M9 S9), fun q => ltn ?_ (h M9 S9)⟩
  · unfold bsf
    rw [if_neg (fun e => q (z0.mpr e)), t64 (by have := bst_le n 1 A.1 30; omega)]
    show (0 : Int) ≤ _
    omega
  · unfold bsf
    rw [if_pos (z0.mp q), i64]
    decide
theorem kp_402 (I : Inv n T A.1) (X : Ex n T A.1) (hT : T ≤ 100000) {v5 : Int64} (h5 : v5.toInt = (sumh A.1 (2 + n)).toInt) (h : ∀ M', AR T M' A → P 1 M') : ∀ (r i N : Nat) (M : Mem) (v7 : Int64), i + r = n → r < N → AR T M A → v7.toInt = (sumc A.1 i).toInt → wL_kept_L402 P N (Int32.ofNat n) 1 v5 v7 (Int32.ofNat i) M := by
  have hn := I.1.1
  intro r
  induction r with
  | zero =>
    intro i N M v7 hi hN S h7
    obtain ⟨N, rfl⟩ : ∃ g, N = g + 1 := ⟨N - 1, by omega⟩
    have hi : i = n := hi
    rw [hi] at h7
    refine ⟨fun _ => kp_543 I X hT S h5 h7 h, fun q => absurd ?_ q⟩
    exact (nn_le (by omega) (by omega)).mpr (by omega)
  | succ r ih =>
    intro i N M v7 hi hN S h7
    obtain ⟨N, rfl⟩ : ∃ g, N = g + 1 := ⟨N - 1, by omega⟩
    have hin : i < n := by omega
    obtain ⟨g1, g2, g3, g4⟩ := X.2
    have g := g4 i hin
    refine ⟨fun q => ?_, fun _ => yes ?_⟩
    · have := (nn_le (by omega) (by omega)).mp q
      omega
    refine q_room (i := i) (k := 4) I hin (by decide) M _ S (fun M1 S1 _ => ?_)
    refine q_room (i := i) (k := 5) I hin (by decide) M1 _ S1 (fun M2 S2 _ => ?_)
    refine q_room (i := i) (k := 6) I hin (by decide) M2 _ S2 (fun M3 S3 _ => ?_)
    refine q_about (k := 1) I (by decide) M3 _ S3 (fun M4 S4 _ => ?_)
    rw [show 27 + 8 * i + 4 = 31 + 8 * i by omega, show 27 + 8 * i + 5 = 32 + 8 * i by omega, show 27 + 8 * i + 6 = 33 + 8 * i by omega]
    have l1 : (Int32.toInt64 (A.1 (31 + 8 * i)) + Int32.toInt64 (A.1 (32 + 8 * i))).toInt = (A.1 (31 + 8 * i)).toInt + (A.1 (32 + 8 * i)).toInt := by
      rw [tl_add (by rw [i64, i64]; omega) (by rw [i64, i64]; omega), i64, i64]
    have l2 : (Int32.toInt64 (A.1 (31 + 8 * i)) + Int32.toInt64 (A.1 (32 + 8 * i)) + Int32.toInt64 (A.1 (33 + 8 * i))).toInt = (A.1 (31 + 8 * i)).toInt + (A.1 (32 + 8 * i)).toInt + (A.1 (33 + 8 * i)).toInt := by
      rw [tl_add (by rw [l1, i64]; omega) (by rw [l1, i64]; omega), l1, i64]
    refine gtn (by rw [l2, i64]; exact g.2.2.2) ?_
    refine q_room (i := i) (k := 4) I hin (by decide) M4 _ S4 (fun M5 S5 _ => ltn (by rw [i64, show 27 + 8 * i + 4 = 31 + 8 * i by omega]; exact g.1) ?_)
    refine q_room (i := i) (k := 5) I hin (by decide) M5 _ S5 (fun M6 S6 _ => ltn (by rw [i64, show 27 + 8 * i + 5 = 32 + 8 * i by omega]; exact g.2.1) ?_)
    refine q_room (i := i) (k := 6) I hin (by decide) M6 _ S6 (fun M7 S7 _ => ltn (by rw [i64, show 27 + 8 * i + 6 = 33 + 8 * i by omega]; exact g.2.2.1) ?_)
    have l523 : ∀ M', AR T M' A → wL_kept_L523 P (fun v1' v4' v5' v7' v9' M' => wL_kept_L402 P N v1' v4' v5' v7' v9' M') (Int32.ofNat n) v5 v7 (Int32.ofNat i) 1 M' := by
      intro M' S'
      refine q_room (i := i) (k := 4) I hin (by decide) M' _ S' (fun M8 S8 _ => ?_)
      rw [nn_s, show 27 + 8 * i + 4 = 31 + 8 * i by omega]
      refine ih (i + 1) N M8 _ (by omega) (by omega) S8 ?_
      have sb := sumc_b (T := T) (m := A.1) I.2.2.2.1 hn (by omega) i (by omega)
      have sb2 : ((i : Int) * T) ≤ 6 * 100000 := Int.mul_le_mul (by omega) (by omega) (by omega) (by omega)
      have b := I.2.2.2.1 i hin
      show _ = (sumc A.1 i + A.1 (31 + 8 * i)).toInt
      rw [tl_add (by rw [h7, i64]; omega) (by rw [h7, i64]; omega), h7, i64, ti_add (by omega) (by omega)]
    rw [ix_room]
    refine q_place (p := 2 + i) (k := 1) I (by omega) (by decide) M7 _ S7 (fun M8 S8 _ => ?_)
    refine q_room (i := i) (k := 0) I hin (by decide) M8 _ S8 (fun M9 S9 _ => ⟨fun _ => l523 M9 S9, fun q => ?_⟩)
    refine q_minutesTo I hT hin M9 _ S9 (fun M10 S10 _ => eqk ?_ (l523 M10 S10))
    have hq : ¬ degf A.1 (2 + i) < A.1 (27 + 8 * i) := fun c => q (by
      rw [lg_cmp_lt, Int64.lt_iff_toInt_lt, i64, i64]
      rw [Int32.lt_iff_toInt_lt] at c
      exact c)
    have e : tof n A.1 i 241 0 = Int32.ofNat 0 := by
      show (if degf (mns n A.1 0) (2 + i) < mns n A.1 0 (27 + 8 * i) then _ else Int32.ofNat 0) = _
      exact if_neg hq
    rw [e]
    rfl
theorem kp_288 (I : Inv n T A.1) (X : Ex n T A.1) (hT : T ≤ 100000) (h : ∀ M', AR T M' A → P 1 M') : ∀ (r p N : Nat) (M : Mem) (v5 : Int64), p + r = 2 + n → r < N → AR T M A → HZ n A.1 (wy A.1) M → v5.toInt = (sumh A.1 p).toInt → wL_kept_L288 P N (Int32.ofNat n) 1 v5 (Int32.ofNat p) M := by
  have hn := I.1.1
  have en : Int32.ofNat n + 2 = Int32.ofNat (2 + n) := by
    rw [show (2 : Int32) = Int32.ofNat 2 from rfl, nn_a, Nat.add_comm]
  intro r
  induction r with
  | zero =>
    intro p N M v5 hp hN S H h5
    obtain ⟨N, rfl⟩ : ∃ g, N = g + 1 := ⟨N - 1, by omega⟩
    have hp : p = 2 + n := hp
    subst hp
    refine ⟨fun _ => kp_402 I X hT h5 h n 0 7 M 0 (by omega) (by omega) S rfl, fun q => absurd ?_ q⟩
    rw [en]
    exact (nn_le (by omega) (by omega)).mpr (by omega)
  | succ r ih =>
    intro p N M v5 hp hN S H h5
    obtain ⟨N, rfl⟩ : ∃ g, N = g + 1 := ⟨N - 1, by omega⟩
    have hpn : p < 2 + n := by omega
    have cp := I.1.cap hpn
    have hb := X.1.2.2.1 p hpn
    have dz := degZ I.1 hpn
    have cz := X.1.2.2.2.1 p hpn
    refine ⟨fun q => ?_, fun _ => yes ?_⟩
    · rw [en] at q
      have := (nn_le (by omega) (by omega)).mp q
      omega
    refine q_place (p := p) (k := 0) I hpn (by decide) M _ S (fun M1 S1 e1 => ?_)
    refine q_place (p := p) (k := 2) I hpn (by decide) M1 _ S1 (fun M2 S2 e2 => ?_)
    refine q_place (p := p) (k := 1) I hpn (by decide) M2 _ S2 (fun M3 S3 e3 => ⟨nn_in (by omega) (by omega), ?_⟩)
    have H3 : HZ n A.1 (wy A.1) M3 := fun p hp => by rw [e3, e2, e1]; exact H p hp
    have a0 : (Int32.toInt64 (placef A.1 p 0)).toInt = (A.1 (18 + p)).toInt := i64 _
    have a1 : (Int32.toInt64 (placef A.1 p 1)).toInt = (A.1 (18 + p)).toInt / (capf A.1 p).toInt := by rw [i64]; exact dz
    have a2 : (Int32.toInt64 (placef A.1 p 2)).toInt = (capf A.1 p).toInt := i64 _
    refine eqk ?_ ?_
    · rw [tn_nat (by omega), H3 p hpn, ← cz, Int32.ofInt_toInt]
      rfl
    have m1 := Int.emod_nonneg (A.1 (18 + p)).toInt (show (capf A.1 p).toInt ≠ 0 by omega)
    have m2 := Int.emod_lt_of_pos (A.1 (18 + p)).toInt cp.1
    have m3 := Int.mul_ediv_add_emod (A.1 (18 + p)).toInt (capf A.1 p).toInt
    have db : -100000 ≤ (A.1 (18 + p)).toInt / (capf A.1 p).toInt ∧ (A.1 (18 + p)).toInt / (capf A.1 p).toInt ≤ 100000 := by
      rw [← dz]
      constructor
      · rw [dz]
        exact Int.le_ediv_of_mul_le cp.1 (by omega)
      · rw [dz]
        exact Int.ediv_le_of_le_mul cp.1 (by omega)
    have c1 : (1 : Int64).toInt = 1 := rfl
    generalize hd : (A.1 (18 + p)).toInt / (capf A.1 p).toInt = d at a1 m3 db
    have a3 : (Int32.toInt64 (placef A.1 p 1) + 1).toInt = d + 1 := by
      rw [tl_add (by rw [a1, c1]; omega) (by rw [a1, c1]; omega), a1, c1]
    have p1 : d * (capf A.1 p).toInt = (A.1 (18 + p)).toInt - (A.1 (18 + p)).toInt % (capf A.1 p).toInt := by
      rw [Int.mul_comm]
      omega
    have p2 : (d + 1) * (capf A.1 p).toInt = d * (capf A.1 p).toInt + (capf A.1 p).toInt := by rw [Int.add_mul, Int.one_mul]
    refine gtn ?_ ?_
    · rw [tl_mul (by rw [a1, a2]; omega) (by rw [a1, a2]; omega), a1, a2, a0]
      omega
    refine gen ?_ ?_
    · rw [tl_mul (by rw [a3, a2]; omega) (by rw [a3, a2]; omega), a3, a2, a0]
      omega
    refine q_ahead (p := p) (k := 0) I hT hpn (by decide) M3 _ S3 (fun M4 S4 e4 => eqk rfl ?_)
    have H4 : HZ n A.1 (wy A.1) M4 := fun p hp => by rw [e4]; exact H3 p hp
    rw [nn_s]
    refine ih (p + 1) N M4 _ (by omega) (by omega) S4 H4 ?_
    have sb := sumh_b I.1 X.1.2.2.1 p (by omega)
    show _ = (sumh A.1 p + A.1 (18 + p)).toInt
    rw [tl_add (by rw [h5, a0]; omega) (by rw [h5, a0]; omega), h5, a0, ti_add (by omega) (by omega)]
theorem q_kept {M : Mem} (I : Inv n T A.1) (X : Ex n T A.1) (hT : T ≤ 100000) (S : AR T M A) (h : ∀ M', AR T M' A → P 1 M') : wL_kept M P := by
  have hn := I.1.1
  have hw := I.1.2.2.1
  refine q_about (k := 0) I (by decide) M _ S (fun M1 S1 e1 => ?_)
  refine q_about (k := 11) I (by decide) M1 _ S1 (fun M2 S2 e2 => ?_)
  have e3 : Int64.toInt32 (Int32.toInt64 (aboutf n A.1 0)) = Int32.ofNat n := by rw [b32]; exact I.1.2.1
  have e11 : Int64.toInt32 (Int32.toInt64 (aboutf n A.1 11)) = Int32.ofNat (wy A.1) := by rw [b32]; exact I.1.2.2.2.1
  rw [e3, e11]
  refine kp_41 I X (wy A.1) 0 27 _ (by omega) (by omega) (S2.frame (Nat.le_refl _) (fun i h1 h2 => by rw [va_un _ _ (by omega), va_un _ _ (by omega), va_un _ _ (by omega)]) (fun j hj => by rw [va_un _ _ (by decide), va_un _ _ (by decide), va_un _ _ (by decide)])) (fun p hp => ?_) (fun M' S' H' => kp_288 I X hT h (2 + n) 0 9 M' 0 (by omega) (by omega) S' H' rfl)
  rw [va_us, cu_sv, va_us, cu_sv, va_us, va_us]
  show upd (upd (fun _ => 0) 0 800) 1 1200 p = Int32.ofInt (if p = 0 then 800 else if p = 1 then 1200 else 0)
  by_cases p0 : p = 0
  · subst p0; rfl
  · by_cases p1 : p = 1
    · subst p1; rfl
    · rw [upd_n _ _ p1, upd_n _ _ p0, if_neg p0, if_neg p1]
      rfl
end
