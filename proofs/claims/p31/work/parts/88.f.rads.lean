/-! room after room -/
def iter (f : Row → Nat → Row) (m : Row) : Nat → Row
  | 0 => m
  | k + 1 => f (iter f m k) k
theorem iter_Gd {n : Nat} {f : Row → Nat → Row} {m : Row} (hf : ∀ (m : Row) (i : Nat), Gd n m → i < n → Gd n (f m i)) (G1 : Gd n m) : ∀ k, k ≤ n → Gd n (iter f m k) := by
  intro k
  induction k with
  | zero => intro _; exact G1
  | succ k ih => intro hk; exact hf _ k (ih (by omega)) (by omega)
theorem Gd.rad {n i : Nat} {m : Row} (G1 : Gd n m) (hi : i < n) : Gd n (radf m i) := by
  have hn := G1.1
  unfold radf
  by_cases a : m (27 + 8 * i) ≤ degf m (2 + i)
  · rw [if_pos a]; exact G1
  · rw [if_neg a]
    by_cases b : radd m i ≤ 0
    · rw [if_pos b]; exact G1
    · rw [if_neg b]; exact G1.go (wl_rad i (by omega))
theorem max_e (v : Int32) : (if 1 < v then v else 1) = (if 1 ≤ v then v else 1) := by
  by_cases a : 1 ≤ v
  · rw [if_pos a]
    by_cases b : 1 < v
    · rw [if_pos b]
    · rw [if_neg b]
      rw [Int32.le_iff_toInt_le] at a
      rw [Int32.lt_iff_toInt_lt] at b
      exact Int32.toInt_inj.mp (by omega)
  · rw [if_neg a, if_neg (fun b => a (by rw [Int32.le_iff_toInt_le]; rw [Int32.lt_iff_toInt_lt] at b; omega))]
theorem s3_heatRooms {n : Nat} {c : Reg} {m : Row} {P : Reg → Prop} (G1 : Gd n m) (R : RlM n c m) (h : ∀ c' : Reg, RlM n c' (iter radf m n) → P c') : wX3_heatRooms c P := by
  have hn := G1.1
  have key : ∀ (r k : Nat) (c : Reg), k + r = n → RlM n c (iter radf m k) → wX3_heatRooms_L2 P (r + 1) (Int32.ofNat k) c := by
    intro r
    induction r with
    | zero =>
      intro k c hk R
      have hk : k = n := hk
      subst hk
      have e8 : c 0 8 = Int32.ofNat k := R.1.2.2.2.2.2.2.2.2.1
      exact ⟨fun _ => h c R, fun q => absurd (by rw [e8]; exact Int32.le_refl _) q⟩
    | succ r ih =>
      intro k c hk R
      have e8 : c 0 8 = Int32.ofNat n := R.1.2.2.2.2.2.2.2.2.1
      have Gk := iter_Gd (fun m i g hi => g.rad hi) G1 k (by omega)
      have ek : iter radf m (k + 1) = radf (iter radf m k) k := rfl
      have cont : ∀ c' : Reg, RlM n c' (radf (iter radf m k) k) → wX3_heatRooms_L2 P (r + 1) (Int32.ofNat k + 1) c' := by
        intro c' R'
        rw [nn_s]
        exact ih (k + 1) c' (by omega) (by rw [ek]; exact R')
      have w0 : c (k + 9) 0 = iter radf m k (27 + 8 * k) := R.2.2.2.1 k 0 (by omega) (by decide)
      have w1 : c (k + 9) 1 = iter radf m k (28 + 8 * k) := by
        have := R.2.2.2.1 k 1 (by omega) (by decide)
        rw [this]
        exact congrArg _ (by omega)
      generalize iter radf m k = mk at cont w0 w1 R Gk
      refine ⟨fun q => ?_, fun _ => ⟨fun q => ?_, fun _ => ?_⟩⟩
      · rw [e8, nn_le (by omega) (by omega)] at q
        omega
      · rw [show (6 : Int32) = Int32.ofNat 6 from rfl, nn_le (by omega) (by omega)] at q
        omega
      · rw [ix_room]
        refine q3_degrees Gk R (by omega) (q3_degrees (p := 1) Gk R (by omega) ?_)
        rw [tn_nat (by omega), w0, w1]
        unfold radf at cont
        refine ⟨nn_in (by omega) (by omega), fun q => ?_, fun q => ⟨fun q2 => ?_, fun q2 => ⟨nn_in (by omega) (by omega), ?_⟩⟩⟩
        · rw [if_pos q] at cont
          exact cont c R
        · rw [if_neg q, if_pos (show radd mk k ≤ 0 from q2)] at cont
          exact cont c R
        · rw [if_neg q, if_neg (show ¬ radd mk k ≤ 0 from q2)] at cont
          rw [max_e]
          exact q3_move (f := 1) Gk R (Or.inl (by omega)) (Or.inl (by omega)) (wl_rad k (by omega)) cont
  exact ⟨n + 1, key n 0 c (by omega) R⟩
