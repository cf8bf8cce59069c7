/-! a sound row: its rooms, its ledger -/
def wy (m : Row) : Nat := (m 74).toNatClampNeg
def Gd (n : Nat) (m : Row) : Prop := n ≤ 6 ∧ m 0 = Int32.ofNat n ∧ wy m ≤ 26 ∧ m 74 = Int32.ofNat (wy m) ∧ Dist (wy m) m ∧ WOk (wy m) m ∧ ∀ i, i < n → 1 ≤ (m (26 + 8 * i)).toInt ∧ (m (26 + 8 * i)).toInt ≤ 9
def RlM (n : Nat) (c : Reg) (m : Row) : Prop := Rel n (wy m) c m
def go1 (m : Row) (f t : Nat) (u : Int32) : Row := gof m f t u (wy m)
theorem wy_of {m : Row} {w : Nat} (h : m 74 = Int32.ofNat w) (hw : w ≤ 26) : wy m = w := by
  unfold wy
  rw [h, tn_nat (by omega)]
theorem wy_cong {m m' : Row} (e : m' 74 = m 74) : wy m' = wy m := by
  unfold wy
  rw [e]
theorem Gd.cong {n : Nat} {m m' : Row} (G1 : Gd n m) (e0 : m' 0 = m 0) (e1 : ∀ i, 74 ≤ i → m' i = m i) (e2 : ∀ i, i < n → m' (26 + 8 * i) = m (26 + 8 * i)) : Gd n m' := by
  obtain ⟨h1, h2, h3, h4, h5, h6, h7⟩ := G1
  have e := wy_cong (e1 74 (by omega))
  refine ⟨h1, by rw [e0]; exact h2, by rw [e]; exact h3, by rw [e, e1 74 (by omega)]; exact h4, by rw [e]; exact h5.cong e1, by rw [e]; exact h6.cong e1, fun i hi => by rw [e2 i hi]; exact h7 i hi⟩
theorem go1_wy {n f t : Nat} {m : Row} {u : Int32} (G1 : Gd n m) (ha : 10 * f + t ∈ wl26) : wy (go1 m f t u) = waysGo m f t (wy m) u := by
  obtain ⟨h1, h2, h3, h4, h5, h6, h7⟩ := G1
  have g := gof_led (u := u) h3 h4 h5 h6 ha
  exact wy_of g.2.1 g.1
theorem Gd.go {n f t : Nat} {m : Row} {u : Int32} (G1 : Gd n m) (ha : 10 * f + t ∈ wl26) : Gd n (go1 m f t u) := by
  have ew := go1_wy (u := u) G1 ha
  obtain ⟨h1, h2, h3, h4, h5, h6, h7⟩ := G1
  have g := gof_led (u := u) h3 h4 h5 h6 ha
  have e : ∀ i, i < 18 ∨ 26 ≤ i → i < 74 → go1 m f t u i = m i := fun i h h' => gof_at h h'
  refine ⟨h1, by rw [e 0 (by omega) (by omega)]; exact h2, by rw [ew]; exact g.1, by rw [ew]; exact g.2.1, by rw [ew]; exact g.2.2.1, by rw [ew]; exact g.2.2.2, fun i hi => ?_⟩
  rw [e _ (by omega) (by omega)]
  exact h7 i hi
theorem Gd.cap {n p : Nat} {m : Row} (G1 : Gd n m) (hp : p < 2 + n) : 0 < (capf m p).toInt ∧ (capf m p).toInt ≤ 90 := by
  unfold capf
  by_cases a : p = 0
  · rw [if_pos a]; decide
  · rw [if_neg a]
    by_cases b : p = 1
    · rw [if_pos b]; decide
    · rw [if_neg b]
      have h := G1.2.2.2.2.2.2 (p - 2) (by omega)
      rw [ti_mul (by rw [i10]; omega) (by rw [i10]; omega), i10]
      omega
theorem q3_degrees {n p : Nat} {c : Reg} {m : Row} {P : Int32 → Reg → Prop} (G1 : Gd n m) (R : RlM n c m) (hp : p < 2 + n) (h : P (degf m p) c) : wX3_degrees (Int32.ofNat p) c P :=
  s3_degrees R G1.1 hp (G1.cap hp).1 h
theorem q3_move {n f t : Nat} {u : Int32} {c : Reg} {m : Row} {P : Reg → Prop} (G1 : Gd n m) (R : RlM n c m) (hf : f < 2 + n ∨ f = 8 ∨ f = 9) (ht : t < 2 + n ∨ t = 8 ∨ t = 9) (ha : 10 * f + t ∈ wl26) (h : ∀ c' : Reg, RlM n c' (go1 m f t u) → P c') : wX3_move (Int32.ofNat f) (Int32.ofNat t) u c P :=
  s3_move R G1.1 G1.2.2.1 G1.2.2.2.2.1 G1.2.2.2.2.2.1 hf ht ha (fun c' R' => h c' (by unfold RlM; rw [go1_wy G1 ha]; exact R'))
/-- radiators of a room -/
def radd (m : Row) (i : Nat) : Int32 := degf m 1 - degf m (2 + i)
def radv (m : Row) (i : Nat) : Int32 := m (28 + 8 * i) * radd m i / 4
def radf (m : Row) (i : Nat) : Row := if m (27 + 8 * i) ≤ degf m (2 + i) then m else if radd m i ≤ 0 then m else go1 m 1 (2 + i) (if 1 ≤ radv m i then radv m i else 1)
theorem wl_rad : ∀ i, i < 6 → 10 * 1 + (2 + i) ∈ wl26 := by decide
theorem ix_room (i : Nat) : (2 : Int32) + Int32.ofNat i = Int32.ofNat (2 + i) := by
  rw [show (2 : Int32) = Int32.ofNat 2 from rfl, nn_a]
