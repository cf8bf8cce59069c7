/-! leaking -/
def leakv (m : Row) (i : Nat) : Int32 := dn (m (29 + 8 * i) * (if m (30 + 8 * i) = 1 then 3 else 1) * (degf m (2 + i) - m 2)) 8
def leakf (m : Row) (i : Nat) : Row := go1 (go1 m (2 + i) 8 (leakv m i)) 8 (2 + i) (-(leakv m i))
theorem wl_out : ∀ i, i < 6 → 10 * (2 + i) + 8 ∈ wl26 ∧ 10 * 8 + (2 + i) ∈ wl26 := by decide
theorem go1_at {m : Row} {f t : Nat} {u : Int32} {i : Nat} (h : i < 18 ∨ 26 ≤ i) (h2 : i < 74) : go1 m f t u i = m i := gof_at h h2
theorem leakf_at {m : Row} {i q : Nat} (h : q < 18 ∨ 26 ≤ q) (h2 : q < 74) : leakf m i q = m q := by
  unfold leakf
  rw [go1_at h h2, go1_at h h2]
theorem radf_at {m : Row} {i q : Nat} (h : q < 18 ∨ 26 ≤ q) (h2 : q < 74) : radf m i q = m q := by
  unfold radf
  split
  · rfl
  · split
    · rfl
    · exact go1_at h h2
theorem iter_at {f : Row → Nat → Row} {q : Nat} (hf : ∀ (m : Row) (i : Nat), f m i q = m q) (m : Row) : ∀ k, iter f m k q = m q := by
  intro k
  induction k with
  | zero => rfl
  | succ k ih => exact (hf _ k).trans ih
theorem Gd.leak {n i : Nat} {m : Row} (G1 : Gd n m) (hi : i < n) : Gd n (leakf m i) := by
  have hn := G1.1
  have hw := wl_out i (by omega)
  exact (G1.go hw.1).go hw.2
theorem s3_leakRooms {n : Nat} {c : Reg} {m : Row} {P : Reg → Prop} (G1 : Gd n m) (hwin : ∀ i, i < n → m (30 + 8 * i) = 0 ∨ m (30 + 8 * i) = 1) (R : RlM n c m) (h : ∀ c' : Reg, RlM n c' (iter leakf m n) → P c') : wX3_leakRooms c P := by
  have hn := G1.1
  have key : ∀ (r k : Nat) (c : Reg), k + r = n → RlM n c (iter leakf m k) → wX3_leakRooms_L2 P (r + 1) (Int32.ofNat k) c := by
    intro r
    induction r with
    | zero =>
      intro k c hk R
      have hk : k = n := hk
      subst hk
      have e8 : c 0 8 = Int32.ofNat k := R.1.2.2.2.2.2.2.2.2.1
      exact ⟨fun _ => h c R, fun q => absurd (by rw [e8]; exact Int32.le_refl _) q⟩
    | succ r ih =>
      intro k c hk R
      have e8 : c 0 8 = Int32.ofNat n := R.1.2.2.2.2.2.2.2.2.1
      have e1 : c 0 1 = iter leakf m k 2 := R.1.2.1
      have Gk := iter_Gd (fun m i g hi => g.leak hi) G1 k (by omega)
      have ek : iter leakf m (k + 1) = leakf (iter leakf m k) k := rfl
      have cont : ∀ c' : Reg, RlM n c' (leakf (iter leakf m k) k) → wX3_leakRooms_L2 P (r + 1) (Int32.ofNat k + 1) c' := by
        intro c' R'
        rw [nn_s]
        exact ih (k + 1) c' (by omega) (by rw [ek]; exact R')
      have w2 : c (k + 9) 2 = iter leakf m k (29 + 8 * k) := by
        rw [R.2.2.2.1 k 2 (by omega) (by decide)]
        exact congrArg _ (by omega)
      have w3 : c (k + 9) 3 = iter leakf m k (30 + 8 * k) := by
        rw [R.2.2.2.1 k 3 (by omega) (by decide)]
        exact congrArg _ (by omega)
      have hwk : iter leakf m k (30 + 8 * k) = 0 ∨ iter leakf m k (30 + 8 * k) = 1 := by
        rw [iter_at (fun m i => leakf_at (by omega) (by omega)) m k]
        exact hwin k (by omega)
      generalize iter leakf m k = mk at cont w2 w3 R Gk hwk e1
      have hw := wl_out k (by omega)
      have l51 : ∀ s0 : Int32, s0 = mk (29 + 8 * k) * (if mk (30 + 8 * k) = 1 then 3 else 1) → wX3_leakRooms_L51 P (fun v1' c' => wX3_leakRooms_L2 P (r + 1) v1' c') (Int32.ofNat k) s0 c := by
        intro s0 e
        unfold wX3_leakRooms_L51
        rw [ix_room]
        refine q3_degrees Gk R (by omega) (s_floorDiv (by decide) ?_)
        have ev : dn (s0 * (degf mk (2 + k) - c 0 1)) 8 = leakv mk k := by unfold leakv; rw [e, e1]
        rw [ev]
        exact q3_move (t := 8) Gk R (Or.inl (by omega)) (Or.inr (Or.inl rfl)) hw.1 (fun c1 R1 => q3_move (f := 8) (Gk.go hw.1) R1 (Or.inr (Or.inl rfl)) (Or.inl (by omega)) hw.2 cont)
      refine ⟨fun q => ?_, fun _ => ⟨fun q => ?_, fun _ => ⟨nn_in (by omega) (by omega), ?_⟩⟩⟩
      · rw [e8, nn_le (by omega) (by omega)] at q
        omega
      · rw [show (6 : Int32) = Int32.ofNat 6 from rfl, nn_le (by omega) (by omega)] at q
        omega
      · rw [tn_nat (by omega), w2, w3]
        refine ⟨fun q => ⟨nn_in (by omega) (by omega), l51 _ ?_⟩, fun q => ⟨nn_in (by omega) (by omega), l51 _ ?_⟩⟩
        · rw [if_neg (by rw [q]; decide), Int32.mul_one]
        · rw [if_pos (hwk.resolve_left q), Int32.mul_comm]
  exact ⟨n + 1, key n 0 c (by omega) R⟩
