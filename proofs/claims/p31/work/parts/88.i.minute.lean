/-! judging all rooms -/
theorem Gd.feel {n i : Nat} {m : Row} (G1 : Gd n m) (hi : i < n) : Gd n (feelf m i) := by
  have hb := what_b m i
  have hn := G1.1
  unfold feelf
  exact G1.cong (upd_n _ _ (by omega)) (fun k hk => upd_n _ _ (by omega)) (fun k hk => upd_n _ _ (by omega))
theorem s3_judgeRooms {n : Nat} {c : Reg} {m : Row} {P : Reg → Prop} (G1 : Gd n m) (R : RlM n c m) (h : ∀ c' : Reg, RlM n c' (iter feelf m n) → P c') : wX3_judgeRooms c P := by
  have hn := G1.1
  have key : ∀ (r k : Nat) (c : Reg), k + r = n → RlM n c (iter feelf m k) → wX3_judgeRooms_L2 P (r + 1) (Int32.ofNat k) c := by
    intro r
    induction r with
    | zero =>
      intro k c hk R
      have hk : k = n := hk
      subst hk
      have e8 : c 0 8 = Int32.ofNat k := R.1.2.2.2.2.2.2.2.2.1
      exact ⟨fun _ => h c R, fun q => absurd (by rw [e8]; exact Int32.le_refl _) q⟩
    | succ r ih =>
      intro k c hk R
      have e8 : c 0 8 = Int32.ofNat n := R.1.2.2.2.2.2.2.2.2.1
      have Gk := iter_Gd (fun m i g hi => g.feel hi) G1 k (by omega)
      have ek : iter feelf m (k + 1) = feelf (iter feelf m k) k := rfl
      refine ⟨fun q => ?_, fun _ => ⟨fun q => ?_, fun _ => ⟨nn_in (by omega) (by omega), ?_⟩⟩⟩
      · rw [e8, nn_le (by omega) (by omega)] at q
        omega
      · rw [show (6 : Int32) = Int32.ofNat 6 from rfl, nn_le (by omega) (by omega)] at q
        omega
      · rw [ix_room]
        refine q3_degrees Gk R (by omega) ?_
        rw [tn_nat (by omega)]
        refine s2_judge hn R (by omega) (fun c' R' => ?_)
        rw [nn_s]
        exact ih (k + 1) c' (by omega) (by rw [ek]; exact R')
  exact ⟨n + 1, key n 0 c (by omega) R⟩
/-! which cells the parts of a minute change -/
theorem seasf_o {m : Row} {i : Nat} (h6 : i ≠ 6) (h7 : i ≠ 7) : seasf m i = m i := by
  unfold seasf
  split
  · rw [upd_n _ _ h7, upd_n _ _ h6, upd_n _ _ h7]
  · rw [upd_n _ _ h7]
theorem turnf_o {m : Row} {a : Int32} {i : Nat} (h3 : i ≠ 3) (h4 : i ≠ 4) (h8 : i ≠ 8) : turnf m a i = m i := by
  unfold turnf
  rw [upd_n _ _ h8, upd_n _ _ h4, upd_n _ _ h3]
theorem boil1_o {m : Row} {i : Nat} (h3 : i ≠ 3) (h4 : i ≠ 4) (h8 : i ≠ 8) : boil1 m i = m i := by
  unfold boil1
  split
  · split
    · exact turnf_o h3 h4 h8
    · rfl
  · split
    · exact turnf_o h3 h4 h8
    · rfl
theorem valvef_o {m : Row} {i : Nat} (h5 : i ≠ 5) : valvef m i = m i := by
  unfold valvef
  split <;> exact upd_n _ _ h5
def boilg (m : Row) : Row := boilf m (wy m)
def mixg (m : Row) : Row := mixf m (wy m)
theorem boil1_wy (m : Row) : wy (boil1 m) = wy m := wy_cong (boil1_at (by omega))
theorem boilg_e (m : Row) : boilg m = if boil1 m 3 = 1 then go1 (boil1 m) 9 0 (boil1 m 9) else boil1 m := by
  unfold boilg boilf go1
  rw [boil1_wy]
theorem mixg_e (m : Row) : mixg m = if mixd m ≤ 0 then m else go1 m 0 1 (mixu m) := rfl
theorem Gd.seas {n : Nat} {m : Row} (G1 : Gd n m) : Gd n (seasf m) :=
  G1.cong (seasf_o (by omega) (by omega)) (fun i hi => seasf_o (by omega) (by omega)) (fun i hi => seasf_o (by omega) (by omega))
theorem Gd.boil1 {n : Nat} {m : Row} (G1 : Gd n m) : Gd n (boil1 m) :=
  G1.cong (boil1_o (by omega) (by omega) (by omega)) (fun i hi => boil1_at (by omega)) (fun i hi => boil1_at (by omega))
theorem Gd.boil {n : Nat} {m : Row} (G1 : Gd n m) : Gd n (boilg m) := by
  rw [boilg_e]
  split
  · exact G1.boil1.go (by decide)
  · exact G1.boil1
theorem Gd.valve {n : Nat} {m : Row} (G1 : Gd n m) : Gd n (valvef m) :=
  G1.cong (valvef_o (by omega)) (fun i hi => valvef_o (by omega)) (fun i hi => valvef_o (by omega))
theorem Gd.mix {n : Nat} {m : Row} (G1 : Gd n m) : Gd n (mixg m) := by
  rw [mixg_e]
  split
  · exact G1
  · exact G1.go (by decide)
theorem boilg_wy {n : Nat} {m : Row} (G1 : Gd n m) : wy (boilg m) = waysBoil m (wy m) := by
  rw [boilg_e]
  unfold waysBoil
  split
  · rw [go1_wy G1.boil1 (by decide), boil1_wy]
  · exact boil1_wy m
theorem mixg_wy {n : Nat} {m : Row} (G1 : Gd n m) : wy (mixg m) = waysMix m (wy m) := by
  rw [mixg_e]
  unfold waysMix
  split
  · rfl
  · rw [go1_wy G1 (by decide)]
/-! the program's parts over sound rows -/
theorem q3_turnSeason {n : Nat} {c : Reg} {m : Row} {P : Reg → Prop} (G1 : Gd n m) (R : RlM n c m) (h6 : m 6 = 0 ∨ m 6 = 1) (h7 : 0 ≤ (m 7).toInt ∧ (m 7).toInt < 60) (h : ∀ c' : Reg, RlM n c' (seasf m) → P c') : wX3_turnSeason c P :=
  s3_turnSeason R G1.1 h6 h7 (fun c' R' => h c' (by unfold RlM; rw [wy_cong (seasf_o (by omega) (by omega))]; exact R'))
theorem q3_runBoiler {n : Nat} {c : Reg} {m : Row} {P : Reg → Prop} (G1 : Gd n m) (R : RlM n c m) (h3 : m 3 = 0 ∨ m 3 = 1) (h6 : m 6 = 0 ∨ m 6 = 1) (h : ∀ c' : Reg, RlM n c' (boilg m) → P c') : wX3_runBoiler c P :=
  s3_runBoiler R G1.1 G1.2.2.1 G1.2.2.2.2.1 G1.2.2.2.2.2.1 h3 h6 (fun c' R' => h c' (by unfold RlM; rw [boilg_wy G1]; exact R'))
theorem q3_moveValve {n : Nat} {c : Reg} {m : Row} {P : Reg → Prop} (G1 : Gd n m) (R : RlM n c m) (hM : Mild m) (h6 : m 6 = 0 ∨ m 6 = 1) (h5 : 0 ≤ (m 5).toInt ∧ (m 5).toInt ≤ 100) (hv : 0 ≤ (m 14).toInt ∧ (m 14).toInt ≤ 50) (h : ∀ c' : Reg, RlM n c' (valvef m) → P c') : wX3_moveValve c P :=
  s3_moveValve R G1.1 hM h6 h5 hv (fun c' R' => h c' (by unfold RlM; rw [wy_cong (valvef_o (by omega))]; exact R'))
theorem q3_mix {n : Nat} {c : Reg} {m : Row} {P : Reg → Prop} (G1 : Gd n m) (R : RlM n c m) (h : ∀ c' : Reg, RlM n c' (mixg m) → P c') : wX3_mix c P :=
  s3_mix R G1.1 G1.2.2.1 G1.2.2.2.2.1 G1.2.2.2.2.2.1 (fun c' R' => h c' (by unfold RlM; rw [mixg_wy G1]; exact R'))
/-- how many of the first k rooms got a minute of comfort -/
def gai (m : Row) : Nat → Nat
  | 0 => 0
  | k + 1 => gai m k + (if whatf (iter feelf m k) k = 5 then 1 else 0)
def mnA (m : Row) : Row := mixg (valvef (boilg (seasf m)))
def mnB (n : Nat) (m : Row) : Row := iter leakf (iter radf (mnA m) n) n
def mnC (n : Nat) (m : Row) : Row := iter feelf (mnB n m) n
/-- a minute -/
def mnf (n : Nat) (m : Row) : Row := upd (mnC n m) 1 (mnC n m 1 + 1)
def gaf (n : Nat) (m : Row) : Nat := gai (mnB n m) n
theorem Gd.A {n : Nat} {m : Row} (G1 : Gd n m) : Gd n (mnA m) := G1.seas.boil.valve.mix
theorem Gd.B {n : Nat} {m : Row} (G1 : Gd n m) : Gd n (mnB n m) :=
  iter_Gd (fun _ _ g hi => g.leak hi) (iter_Gd (fun _ _ g hi => g.rad hi) G1.A n (Nat.le_refl n)) n (Nat.le_refl n)
theorem Gd.C {n : Nat} {m : Row} (G1 : Gd n m) : Gd n (mnC n m) := iter_Gd (fun _ _ g hi => g.feel hi) G1.B n (Nat.le_refl n)
theorem Gd.mn {n : Nat} {m : Row} (G1 : Gd n m) : Gd n (mnf n m) :=
  G1.C.cong (upd_n _ _ (by omega)) (fun i hi => upd_n _ _ (by omega)) (fun i hi => upd_n _ _ (by omega))
theorem le_n {a b : Nat} (ha : a < 2147483648) (hb : b < 2147483648) : ¬ Int32.ofNat a ≤ Int32.ofNat b → b < a := fun h => by
  rw [nn_le ha hb] at h
  omega
