/-! a minute keeps it -/
theorem degZ {n p : Nat} {m : Row} (G1 : Gd n m) (hp : p < 2 + n) : (degf m p).toInt = (m (18 + p)).toInt / (capf m p).toInt := ti_dn (G1.cap hp).1
theorem cap0Z (m : Row) : (capf m 0).toInt = 40 := rfl
theorem cap1Z (m : Row) : (capf m 1).toInt = 60 := rfl
theorem capZ {n i : Nat} {m : Row} (G1 : Gd n m) (hi : i < n) : (capf m (2 + i)).toInt = 10 * (m (26 + 8 * i)).toInt ∧ 1 ≤ (m (26 + 8 * i)).toInt ∧ (m (26 + 8 * i)).toInt ≤ 9 := by
  have g := G1.2.2.2.2.2.2 i hi
  refine ⟨?_, g⟩
  unfold capf
  rw [if_neg (by omega), if_neg (by omega), Nat.add_sub_cancel_left, ti_mul (by rw [i10]; omega) (by rw [i10]; omega), i10]
theorem Jn.cong {n : Nat} {B : Int} {m m' : Row} (J : Jn n B m) (e0 : m' 0 = m 0) (e2 : m' 2 = m 2) (e10 : m' 10 = m 10) (e15 : m' 15 = m 15) (e18 : ∀ i, 18 ≤ i → i < 26 → m' i = m i) (er : ∀ i q, i < n → q < 4 → m' (26 + 8 * i + q) = m (26 + 8 * i + q)) (e74 : ∀ i, 74 ≤ i → m' i = m i) : Jn n B m' := by
  obtain ⟨G1, X, Hh, C, Wq⟩ := J
  have hn := G1.1
  have ew : wy m' = wy m := wy_cong (e74 74 (by omega))
  have er0 : ∀ i, i < n → m' (26 + 8 * i) = m (26 + 8 * i) := fun i hi => er i 0 hi (by omega)
  have ec : ∀ p, p < 2 + n → capf m' p = capf m p := by
    intro p hp
    unfold capf
    by_cases h0 : p = 0
    · rw [if_pos h0, if_pos h0]
    · rw [if_neg h0, if_neg h0]
      by_cases h1 : p = 1
      · rw [if_pos h1, if_pos h1]
      · rw [if_neg h1, if_neg h1, er0 (p - 2) (by omega)]
  refine ⟨G1.cong e0 e74 er0, ⟨by rw [e2]; exact X.1, by rw [e10]; exact X.2.1, by rw [e15]; exact X.2.2.1, fun i hi => ?_⟩, fun p hp => ?_, fun p hp => ?_, fun k hk => ?_⟩
  · have g1 := er i 1 hi (by omega)
    have g2 := er i 2 hi (by omega)
    have g3 := er i 3 hi (by omega)
    rw [show 26 + 8 * i + 1 = 27 + 8 * i by omega] at g1
    rw [show 26 + 8 * i + 2 = 28 + 8 * i by omega] at g2
    rw [show 26 + 8 * i + 3 = 29 + 8 * i by omega] at g3
    rw [g1, g2, g3]
    exact X.2.2.2 i hi
  · rw [ec p hp, e18 _ (by omega) (by omega)]
    exact Hh p hp
  · rw [e18 _ (by omega) (by omega), C p hp, ew]
    exact (hasZ_cong (wy m) (fun k hk => ⟨e74 _ (by omega), e74 _ (by omega)⟩)).symm
  · rw [ew] at hk
    obtain ⟨a, a1, a2, a3, a4, a5, a6⟩ := Wq k hk
    refine ⟨a, a1, by rw [e74 _ (by omega)]; exact a2, a3, by rw [e74 _ (by omega)]; exact a4, by rw [e74 _ (by omega)]; exact a5, fun i hi e => ?_⟩
    rw [e74 _ (by omega), er0 i (a3 i hi (Or.inl e))]
    exact a6 i hi e
theorem Jn.seas {n : Nat} {B : Int} {m : Row} (J : Jn n B m) : Jn n B (seasf m) :=
  J.cong (seasf_o (by omega) (by omega)) (seasf_o (by omega) (by omega)) (seasf_o (by omega) (by omega)) (seasf_o (by omega) (by omega)) (fun i h1 h2 => seasf_o (by omega) (by omega)) (fun i q h1 h2 => seasf_o (by omega) (by omega)) (fun i h => seasf_o (by omega) (by omega))
theorem Jn.bo1 {n : Nat} {B : Int} {m : Row} (J : Jn n B m) : Jn n B (boil1 m) :=
  J.cong (boil1_o (by omega) (by omega) (by omega)) (boil1_o (by omega) (by omega) (by omega)) (boil1_o (by omega) (by omega) (by omega)) (boil1_o (by omega) (by omega) (by omega)) (fun i h1 h2 => boil1_o (by omega) (by omega) (by omega)) (fun i q h1 h2 => boil1_o (by omega) (by omega) (by omega)) (fun i h => boil1_o (by omega) (by omega) (by omega))
theorem Jn.valve {n : Nat} {B : Int} {m : Row} (J : Jn n B m) : Jn n B (valvef m) :=
  J.cong (valvef_o (by omega)) (valvef_o (by omega)) (valvef_o (by omega)) (valvef_o (by omega)) (fun i h1 h2 => valvef_o (by omega)) (fun i q h1 h2 => valvef_o (by omega)) (fun i h => valvef_o (by omega))
theorem i90 : (90 : Int32).toInt = 90 := rfl
theorem i4 : (4 : Int32).toInt = 4 := rfl
theorem i3 : (3 : Int32).toInt = 3 := rfl
theorem i8 : (8 : Int32).toInt = 8 := rfl
theorem Jn.boil {n : Nat} {B : Int} {m : Row} (J : Jn n B m) (S : Sg m) (hB0 : 0 ≤ B) (hB : B + 200 < 2147483648) : Jn n (B + 200) (boilg m) := by
  rw [boilg_e]
  have J1 := J.bo1
  by_cases h : boil1 m 3 = 1
  · rw [if_pos h]
    have e9 : boil1 m 9 = m 9 := boil1_at (by omega)
    have hp := S.2.2.2.2.2.2
    have d0 : (m 18).toInt / 40 < 90 := by
      have dz := degZ (p := 0) J.1 (by omega)
      rw [cap0Z] at dz
      have hb10 := J.2.1.2.1
      unfold boil1 at h
      by_cases h3 : m 3 = 1
      · rw [if_pos h3] at h
        by_cases hm : mustf m
        · rw [if_pos hm, turnf_3] at h
          exact absurd h (by decide)
        · have h1 : ¬ 90 ≤ degf m 0 := fun q => hm (Or.inl q)
          rw [Int32.le_iff_toInt_le, i90, dz] at h1
          simpa using h1
      · rw [if_neg h3] at h
        by_cases hm : mayf m
        · have h1 := hm.2.2.2
          rw [Int32.le_iff_toInt_le, dz] at h1
          have : ¬ (m 10).toInt ≤ (m 18).toInt / 40 := h1
          omega
        · rw [if_neg hm] at h
          exact absurd h h3
    have e18 : boil1 m (18 + 0) = m 18 := boil1_at (by omega)
    refine J1.go (U := 200) (by decide) (Or.inr (by omega)) (Or.inl (by omega)) (by decide) (by decide) (fun _ => rfl) (by rw [e9]; exact hp.2) (by decide) hB0 hB (fun _ q => by have := J.1.1; omega) (fun _ _ => ?_)
    rw [e18, e9, cap0Z]
    omega
  · rw [if_neg h]
    exact J1.mono (by omega)
theorem Jn.mix {n : Nat} {B : Int} {m : Row} (J : Jn n B m) (h5 : 0 ≤ (m 5).toInt ∧ (m 5).toInt ≤ 100) (hB0 : 0 ≤ B) (hB : B + 2400 < 2147483648) : Jn n (B + 2400) (mixg m) := by
  rw [mixg_e]
  have z0 := degZ (p := 0) J.1 (by omega)
  have z1 := degZ (p := 1) J.1 (by omega)
  have b0 := J.2.2.1 0 (by omega)
  have b1 := J.2.2.1 1 (by omega)
  rw [cap0Z] at z0 b0
  rw [cap1Z] at z1 b1
  have x15 := J.2.1.2.2.1
  have b0' : -800 ≤ (m 18).toInt ∧ (m 18).toInt < 3800 := by simpa using b0
  have b1' : -1200 ≤ (m 19).toInt ∧ (m 19).toInt < 5700 := by simpa using b1
  have z0' : (degf m 0).toInt = (m 18).toInt / 40 := z0
  have z1' : (degf m 1).toInt = (m 19).toInt / 60 := z1
  have zd : (mixd m).toInt = (m 18).toInt / 40 - (m 19).toInt / 60 := by
    unfold mixd
    rw [ti_sub (by rw [z0', z1']; omega) (by rw [z0', z1']; omega), z0', z1']
  by_cases h : mixd m ≤ 0
  · rw [if_pos h]
    exact J.mono (by omega)
  · rw [if_neg h]
    rw [Int32.le_iff_toInt_le, i0] at h
    generalize hD : (mixd m).toInt = D at h zd
    have a1 : 0 ≤ (m 15).toInt * (m 5).toInt := Int.mul_nonneg x15.1 h5.1
    have a2 : (m 15).toInt * (m 5).toInt ≤ 20 * 100 := Int.mul_le_mul x15.2 h5.2 h5.1 (by decide)
    have a3 : (m 15 * m 5).toInt = (m 15).toInt * (m 5).toInt := ti_mul (by omega) (by omega)
    generalize hA : (m 15).toInt * (m 5).toInt = A at a1 a2 a3
    have c1 : 0 ≤ A * D := Int.mul_nonneg a1 (by omega)
    have c2 : A * D ≤ 2000 * D := Int.mul_le_mul_of_nonneg_right (by omega) (by omega)
    have c3 : (m 15 * m 5 * mixd m).toInt = A * D := by
      rw [ti_mul (by rw [a3, hD]; omega) (by rw [a3, hD]; omega), a3, hD]
    generalize hX : A * D = X at c1 c2 c3
    have zu : (mixu m).toInt = X / 100 := by
      unfold mixu
      rw [ti_div (by decide), c3, i100, Int.tdiv_eq_ediv_of_nonneg c1]
    refine J.go (U := 2400) (by decide) (Or.inl (by omega)) (Or.inl (by omega)) (by decide) (by decide) (fun q => by cases q) (by rw [zu]; omega) (by decide) hB0 hB (fun _ _ => ?_) (fun _ _ => ?_)
    · rw [cap0Z, zu]
      show -20 * 40 ≤ (m 18).toInt - X / 100
      omega
    · rw [cap1Z, zu]
      show (m 19).toInt + X / 100 < 95 * 60
      omega
theorem Jn.rad {n i : Nat} {B : Int} {m : Row} (J : Jn n B m) (hi : i < n) (hB0 : 0 ≤ B) (hB : B + 300 < 2147483648) : Jn n (B + 300) (radf m i) := by
  have hn := J.1.1
  have z1 := degZ (p := 1) J.1 (by omega)
  have zi := degZ (p := 2 + i) J.1 (by omega)
  have b1 := J.2.2.1 1 (by omega)
  have bi := J.2.2.1 (2 + i) (by omega)
  rw [cap1Z] at z1 b1
  have hc := capZ J.1 hi
  rw [hc.1] at zi bi
  have xi := J.2.1.2.2.2 i hi
  have ei : 18 + (2 + i) = 20 + i := by omega
  rw [ei] at zi bi
  have b1' : -1200 ≤ (m 19).toInt ∧ (m 19).toInt < 5700 := by simpa using b1
  have z1' : (degf m 1).toInt = (m 19).toInt / 60 := z1
  unfold radf
  by_cases h : m (27 + 8 * i) ≤ degf m (2 + i)
  · rw [if_pos h]; exact J.mono (by omega)
  rw [if_neg h]
  have hw : (degf m (2 + i)).toInt ≤ 24 := by
    rw [Int32.le_iff_toInt_le] at h
    omega
  have hlo : -20 ≤ (degf m (2 + i)).toInt := by
    rw [zi]
    generalize (m (26 + 8 * i)).toInt = t at hc bi zi
    rcases (by omega : t = 1 ∨ t = 2 ∨ t = 3 ∨ t = 4 ∨ t = 5 ∨ t = 6 ∨ t = 7 ∨ t = 8 ∨ t = 9) with e | e | e | e | e | e | e | e | e <;> subst e <;> omega
  have zd : (radd m i).toInt = (degf m 1).toInt - (degf m (2 + i)).toInt := by
    unfold radd
    rw [ti_sub (by rw [z1']; omega) (by rw [z1']; omega)]
  by_cases h2 : radd m i ≤ 0
  · rw [if_pos h2]; exact J.mono (by omega)
  rw [if_neg h2]
  rw [Int32.le_iff_toInt_le, i0] at h2
  generalize hD : (radd m i).toInt = D at h2 zd
  have c1 : 0 ≤ (m (28 + 8 * i)).toInt * D := Int.mul_nonneg xi.2.1.1 (by omega)
  have c2 : (m (28 + 8 * i)).toInt * D ≤ 9 * D := Int.mul_le_mul_of_nonneg_right xi.2.1.2 (by omega)
  have c3 : (m (28 + 8 * i) * radd m i).toInt = (m (28 + 8 * i)).toInt * D := by
    rw [ti_mul (by rw [hD]; omega) (by rw [hD]; omega), hD]
  generalize hX : (m (28 + 8 * i)).toInt * D = X at c1 c2 c3
  have zv : (radv m i).toInt = X / 4 := by
    unfold radv
    rw [ti_div (by decide), c3, i4, Int.tdiv_eq_ediv_of_nonneg c1]
  have zu : 1 ≤ (if 1 ≤ radv m i then radv m i else 1).toInt ∧ 4 * (if 1 ≤ radv m i then radv m i else 1).toInt ≤ 9 * D := by
    by_cases h1 : 1 ≤ radv m i
    · rw [if_pos h1, zv]
      rw [Int32.le_iff_toInt_le, i1, zv] at h1
      omega
    · rw [if_neg h1, i1]
      omega
  generalize (if 1 ≤ radv m i then radv m i else 1) = u at zu
  refine J.go (U := 300) (wl_rad i (by omega)) (Or.inl (by omega)) (Or.inl (by omega)) (by decide) (by omega) (fun q => by cases q) (by omega) (by decide) hB0 hB (fun _ _ => ?_) (fun _ _ => ?_)
  · rw [cap1Z]
    show -20 * 60 ≤ (m 19).toInt - u.toInt
    omega
  · rw [hc.1, ei]
    rw [zi] at hw hlo zd
    generalize (m (26 + 8 * i)).toInt = t at hc bi zi hw hlo zd
    rcases (by omega : t = 1 ∨ t = 2 ∨ t = 3 ∨ t = 4 ∨ t = 5 ∨ t = 6 ∨ t = 7 ∨ t = 8 ∨ t = 9) with e | e | e | e | e | e | e | e | e <;> subst e <;> omega
theorem Jn.leak {n i : Nat} {B : Int} {m : Row} (J : Jn n B m) (hi : i < n) (hB0 : 0 ≤ B) (hB : B + 1000 < 2147483648) : Jn n (B + 1000) (leakf m i) := by
  have hn := J.1.1
  have zi := degZ (p := 2 + i) J.1 (by omega)
  have bi := J.2.2.1 (2 + i) (by omega)
  have hc := capZ J.1 hi
  rw [hc.1] at zi bi
  have xi := J.2.1.2.2.2 i hi
  have xo := J.2.1.1
  have ei : 18 + (2 + i) = 20 + i := by omega
  rw [ei] at zi bi
  have hd : -20 ≤ (degf m (2 + i)).toInt ∧ (degf m (2 + i)).toInt ≤ 94 := by
    rw [zi]
    generalize (m (26 + 8 * i)).toInt = t at hc bi zi
    rcases (by omega : t = 1 ∨ t = 2 ∨ t = 3 ∨ t = 4 ∨ t = 5 ∨ t = 6 ∨ t = 7 ∨ t = 8 ∨ t = 9) with e | e | e | e | e | e | e | e | e <;> subst e <;> omega
  have zd : (degf m (2 + i) - m 2).toInt = (degf m (2 + i)).toInt - (m 2).toInt := ti_sub (by omega) (by omega)
  -- the leak, with the window
  have zl : ∃ L : Int, 0 ≤ L ∧ L ≤ 27 ∧ (m (29 + 8 * i) * (if m (30 + 8 * i) = 1 then 3 else 1)).toInt = L := by
    by_cases h : m (30 + 8 * i) = 1
    · rw [if_pos h]
      refine ⟨(m (29 + 8 * i)).toInt * 3, by omega, by omega, ?_⟩
      rw [ti_mul (by rw [i3]; omega) (by rw [i3]; omega), i3]
    · rw [if_neg h]
      refine ⟨(m (29 + 8 * i)).toInt * 1, by omega, by omega, ?_⟩
      rw [ti_mul (by rw [i1]; omega) (by rw [i1]; omega), i1]
  obtain ⟨L, L0, L1, zl⟩ := zl
  generalize hD : (degf m (2 + i)).toInt - (m 2).toInt = D at zd
  have cb : (0 ≤ D → 0 ≤ L * D ∧ L * D ≤ 27 * D) ∧ (D ≤ 0 → 27 * D ≤ L * D ∧ L * D ≤ 0) := by
    refine ⟨fun h => ⟨Int.mul_nonneg L0 h, Int.mul_le_mul_of_nonneg_right L1 h⟩, fun h => ?_⟩
    have g1 : 0 ≤ L * (-D) := Int.mul_nonneg L0 (by omega)
    have g2 : L * (-D) ≤ 27 * (-D) := Int.mul_le_mul_of_nonneg_right L1 (by omega)
    rw [Int.mul_neg] at g1 g2
    omega
  have zx : (m (29 + 8 * i) * (if m (30 + 8 * i) = 1 then 3 else 1) * (degf m (2 + i) - m 2)).toInt = L * D := by
    rw [ti_mul (by rw [zl, zd]; omega) (by rw [zl, zd]; omega), zl, zd]
  generalize hX : L * D = X at cb zx
  have zv : (leakv m i).toInt = X / 8 := by
    unfold leakv
    rw [ti_dn (by decide), zx, i8]
  have wl := wl_out i (by omega)
  unfold leakf
  have J1 : Jn n (B + 500) (go1 m (2 + i) 8 (leakv m i)) := by
    refine J.go (U := 500) wl.1 (Or.inl (by omega)) (Or.inr (by omega)) (by omega) (by decide) (fun q => by omega) (by rw [zv]; omega) (by decide) hB0 (by omega) (fun hv _ => ?_) (fun _ q => by omega)
    rw [hc.1, ei, zv]
    rw [zv] at hv
    rw [zi] at hd hD
    generalize (m (26 + 8 * i)).toInt = t at hc bi zi hd hD
    rcases (by omega : t = 1 ∨ t = 2 ∨ t = 3 ∨ t = 4 ∨ t = 5 ∨ t = 6 ∨ t = 7 ∨ t = 8 ∨ t = 9) with e | e | e | e | e | e | e | e | e <;> subst e <;> omega
  have zn : (-(leakv m i)).toInt = -(X / 8) := by rw [ti_neg (by rw [zv]; omega), zv]
  have J2 : Jn n (B + 500 + 500) (go1 (go1 m (2 + i) 8 (leakv m i)) 8 (2 + i) (-(leakv m i))) := by
    refine J1.go (U := 500) wl.2 (Or.inr (by omega)) (Or.inl (by omega)) (by decide) (by omega) (fun q => by cases q) (by rw [zn]; omega) (by decide) (by omega) (by omega) (fun _ q => by omega) (fun hv _ => ?_)
    rw [zn] at hv
    rw [go1_le (m := m) (u := leakv m i) (by rw [zv]; omega), hc.1, ei, zn]
    rw [zi] at hd hD
    generalize (m (26 + 8 * i)).toInt = t at hc bi zi hd hD
    rcases (by omega : t = 1 ∨ t = 2 ∨ t = 3 ∨ t = 4 ∨ t = 5 ∨ t = 6 ∨ t = 7 ∨ t = 8 ∨ t = 9) with e | e | e | e | e | e | e | e | e <;> subst e <;> omega
  exact J2.mono (by omega)
theorem Jn.feel {n i : Nat} {B : Int} {m : Row} (J : Jn n B m) (hi : i < n) : Jn n B (feelf m i) := by
  have hn := J.1.1
  have wb := what_b m i
  have o : ∀ j, j ≠ 26 + 8 * i + whatf m i → feelf m i j = m j := fun j h => upd_n _ _ h
  exact J.cong (o _ (by omega)) (o _ (by omega)) (o _ (by omega)) (o _ (by omega)) (fun j h1 h2 => o _ (by omega)) (fun j q h1 h2 => o _ (by omega)) (fun j h => o _ (by omega))
theorem iter_Jn {n : Nat} {B U : Int} {f : Row → Nat → Row} {m : Row} (hU : 0 ≤ U) (hB0 : 0 ≤ B) (hf : ∀ (m : Row) (i : Nat) (B : Int), Jn n B m → i < n → 0 ≤ B → B + U < 2147483648 → Jn n (B + U) (f m i)) (hn : n ≤ 6) (hB : B + 6 * U < 2147483648) (J : Jn n B m) : ∀ k, k ≤ n → Jn n (B + k * U) (iter f m k) := by
  intro k
  induction k with
  | zero => intro _; exact J.mono (by omega)
  | succ k ih =>
    intro hk
    have h1 : (0 : Int) ≤ k * U := Int.mul_nonneg (by omega) hU
    have h2 : ((k : Int) + 1) * U ≤ 6 * U := Int.mul_le_mul_of_nonneg_right (by omega) hU
    have h3 : ((k : Int) + 1) * U = k * U + U := by rw [Int.add_mul, Int.one_mul]
    have g := hf (iter f m k) k (B + k * U) (ih (by omega)) (by omega) (by omega) (by omega)
    refine Jn.mono g ?_
    show B + k * U + U ≤ B + ((k + 1 : Nat) : Int) * U
    rw [show ((k + 1 : Nat) : Int) = (k : Int) + 1 from rfl, h3]
    omega
theorem Jn.mn {n : Nat} {B : Int} {m : Row} (J : Jn n B m) (S : Sg m) (hB0 : 0 ≤ B) (hB : B + 10400 < 2147483648) : Jn n (B + 10400) (mnf n m) := by
  have hn := J.1.1
  have S1 := S.seas
  have S2 := S1.boil
  have S3 := S2.valve
  have J3 := (J.seas.boil S1 hB0 (by omega)).valve.mix S3.2.2.2.1 (by omega) (by omega)
  have J4 := iter_Jn (U := 300) (f := radf) (by decide) (by omega) (fun m i B J hi h0 h1 => J.rad hi h0 h1) hn (by omega) J3 n (Nat.le_refl n)
  have q1 : (0 : Int) ≤ (n : Int) * 300 := by omega
  have J5 := iter_Jn (U := 1000) (f := leakf) (by decide) (by omega) (fun m i B J hi h0 h1 => J.leak hi h0 h1) hn (by omega) J4 n (Nat.le_refl n)
  have J6 := iter_Jn (U := 0) (f := feelf) (by decide) (by omega) (fun m i B J hi h0 h1 => (J.feel hi).mono (by omega)) hn (by omega) J5 n (Nat.le_refl n)
  have J7 : Jn n (B + 10400) (mnC n m) := Jn.mono J6 (by omega)
  have o : ∀ i, i ≠ 1 → mnf n m i = mnC n m i := fun i hi => upd_n _ _ hi
  exact J7.cong (o _ (by omega)) (o _ (by omega)) (o _ (by omega)) (o _ (by omega)) (fun j h1 h2 => o _ (by omega)) (fun j q h1 h2 => o _ (by omega)) (fun j h => o _ (by omega))
