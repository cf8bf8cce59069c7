/-! all that is told of a station, as one number -/
def itl (F : Nat → Int64 → Int64) : Nat → Nat → Int64 → Int64
  | 0, _, v => v
  | r + 1, k, v => itl F r (k + 1) (F k v)
def nA (n : Nat) (m : Row) (k : Nat) (v : Int64) : Int64 := 31 * v + Int32.toInt64 (aboutf n m k)
def nS (m : Row) (k : Nat) (v : Int64) : Int64 := 31 * v + Int32.toInt64 (m (9 + k))
def nP (m : Row) (p : Nat) (v : Int64) : Int64 := 31 * v + Int32.toInt64 (placef m p 0)
def nQ (m : Row) (i k : Nat) (v : Int64) : Int64 := 31 * v + Int32.toInt64 (m (27 + 8 * i + k))
def nR (m : Row) (i : Nat) (v : Int64) : Int64 := itl (nQ m i) 7 0 v
def nW (m : Row) (k : Nat) (v : Int64) : Int64 := 31 * (31 * (31 * v + Int32.toInt64 (wayv m k 0)) + Int32.toInt64 (wayv m k 1)) + Int32.toInt64 (wayv m k 2)
def nowf (n : Nat) (m : Row) : Int64 := itl (nW m) (wy m) 0 (itl (nR m) n 0 (itl (nP m) (2 + n) 0 (itl (nS m) 9 0 (itl (nA n m) 13 0 17))))
theorem t64 {k : Nat} (h : k < 2147483648) : (Int32.toInt64 (Int32.ofNat k)).toInt = k := by rw [i64, ti_nat h]
theorem c64 {a b : Nat} (ha : a < 2147483648) (hb : b < 2147483648) : 0 ≤ lg_cmp (Int32.toInt64 (Int32.ofNat a)) (Int32.toInt64 (Int32.ofNat b)) ↔ b ≤ a := by
  rw [lg_cmp_ge, Int64.le_iff_toInt_le, t64 ha, t64 hb]
  omega
theorem l2 : (2 : Int64).toInt = 2 := rfl
section
variable {n T : Nat} {A : Ab} {P : Int64 → Mem → Prop} {W : Reg}
theorem now_W (I : Inv n T A.1) : ∀ (r k f : Nat) (v : Int64) (M : Mem), k + r = wy A.1 → r < f → AR T M A → M 23 = W → (∀ M', AR T M' A → M' 23 = W → P (itl (nW A.1) r k v) M') → wL_now_L143 P f v (Int32.ofNat k) M := by
  have hw := I.1.2.2.1
  have e74 : Int32.toInt64 (aboutf n A.1 11) = Int32.toInt64 (Int32.ofNat (wy A.1)) := by show Int32.toInt64 (A.1 74) = _; rw [I.1.2.2.2.1]
  intro r
  induction r with
  | zero =>
    intro k f v M hk hf S e h
    obtain ⟨f, rfl⟩ : ∃ g, f = g + 1 := ⟨f - 1, by omega⟩
    refine q_about (k := 11) I (by decide) M _ S (fun M2 S2 e2 => ⟨fun _ => h M2 S2 (e2.trans e), fun q => absurd ?_ q⟩)
    rw [e74, c64 (by omega) (by omega)]
    omega
  | succ r ih =>
    intro k f v M hk hf S e h
    obtain ⟨f, rfl⟩ : ∃ g, f = g + 1 := ⟨f - 1, by omega⟩
    refine q_about (k := 11) I (by decide) M _ S (fun M2 S2 e2 => ⟨fun q => ?_, fun _ => ?_⟩)
    · rw [e74, c64 (by omega) (by omega)] at q
      omega
    refine q_way (k := k) (j := 0) I (by omega) (by decide) M2 _ S2 (fun M3 S3 e3 => ?_)
    refine q_way (k := k) (j := 1) I (by omega) (by decide) M3 _ S3 (fun M4 S4 e4 => ?_)
    refine q_way (k := k) (j := 2) I (by omega) (by decide) M4 _ S4 (fun M5 S5 e5 => ?_)
    rw [nn_s]
    exact ih (k + 1) f _ M5 (by omega) (by omega) S5 (e5.trans (e4.trans (e3.trans (e2.trans e)))) h
theorem now_Q (I : Inv n T A.1) {i : Nat} (hi : i < n) {K : Int64 → Int32 → Mem → Prop} : ∀ (r k : Nat) (v : Int64) (M : Mem), k + r = 7 → AR T M A → M 23 = W → (∀ M', AR T M' A → M' 23 = W → K (itl (nQ A.1 i) r k v) (Int32.ofNat (i + 1)) M') → wL_now_L108 P K (r + 1) v (Int32.ofNat i) (Int32.ofNat k) M := by
  intro r
  induction r with
  | zero =>
    intro k v M hk S e h
    have hk : k = 7 := hk
    subst hk
    refine ⟨fun _ => ?_, fun q => absurd (by decide) q⟩
    rw [nn_s]
    exact h M S e
  | succ r ih =>
    intro k v M hk S e h
    refine ⟨fun q => ?_, fun _ => ?_⟩
    · have := (nn_le (a := 7) (b := k) (by omega) (by omega)).mp q
      omega
    refine q_room (k := k) I hi (by omega) M _ S (fun M2 S2 e2 => ?_)
    rw [nn_s]
    exact ih (k + 1) _ M2 (by omega) S2 (e2.trans e) h
theorem now_R (I : Inv n T A.1) : ∀ (r k f : Nat) (v : Int64) (M : Mem), k + r = n → r < f → AR T M A → M 23 = W → (∀ M', AR T M' A → M' 23 = W → P (itl (nW A.1) (wy A.1) 0 (itl (nR A.1) r k v)) M') → wL_now_L94 P f v (Int32.ofNat k) M := by
  have hn := I.1.1
  have hw := I.1.2.2.1
  have e0 : Int32.toInt64 (aboutf n A.1 0) = Int32.toInt64 (Int32.ofNat n) := by show Int32.toInt64 (A.1 0) = _; rw [I.1.2.1]
  intro r
  induction r with
  | zero =>
    intro k f v M hk hf S e h
    obtain ⟨f, rfl⟩ : ∃ g, f = g + 1 := ⟨f - 1, by omega⟩
    refine q_about (k := 0) I (by decide) M _ S (fun M2 S2 e2 => ⟨fun _ => now_W (W := W) I (wy A.1) 0 27 v M2 (by omega) (by omega) S2 (e2.trans e) h, fun q => absurd ?_ q⟩)
    rw [e0, c64 (by omega) (by omega)]
    omega
  | succ r ih =>
    intro k f v M hk hf S e h
    obtain ⟨f, rfl⟩ : ∃ g, f = g + 1 := ⟨f - 1, by omega⟩
    refine q_about (k := 0) I (by decide) M _ S (fun M2 S2 e2 => ⟨fun q => ?_, fun _ => ?_⟩)
    · rw [e0, c64 (by omega) (by omega)] at q
      omega
    refine now_Q (W := W) I (i := k) (by omega) 7 0 v M2 rfl S2 (e2.trans e) (fun M3 S3 e3 => ?_)
    exact ih (k + 1) f _ M3 (by omega) (by omega) S3 e3 h
theorem now_P (I : Inv n T A.1) : ∀ (r k f : Nat) (v : Int64) (M : Mem), k + r = 2 + n → r < f → AR T M A → M 23 = W → (∀ M', AR T M' A → M' 23 = W → P (itl (nW A.1) (wy A.1) 0 (itl (nR A.1) n 0 (itl (nP A.1) r k v))) M') → wL_now_L58 P f v (Int32.ofNat k) M := by
  have hn := I.1.1
  have e0 : Int32.toInt64 (aboutf n A.1 0) + 2 = Int32.toInt64 (Int32.ofNat (2 + n)) := by
    show Int32.toInt64 (A.1 0) + 2 = _
    rw [I.1.2.1]
    refine Int64.toInt_inj.mp ?_
    rw [tl_add (by rw [t64 (by omega), l2]; omega) (by rw [t64 (by omega), l2]; omega), t64 (by omega), t64 (by omega), l2]
    omega
  intro r
  induction r with
  | zero =>
    intro k f v M hk hf S e h
    obtain ⟨f, rfl⟩ : ∃ g, f = g + 1 := ⟨f - 1, by omega⟩
    refine q_about (k := 0) I (by decide) M _ S (fun M2 S2 e2 => ⟨fun _ => now_R (W := W) I n 0 7 v M2 (by omega) (by omega) S2 (e2.trans e) h, fun q => absurd ?_ q⟩)
    rw [e0, c64 (by omega) (by omega)]
    omega
  | succ r ih =>
    intro k f v M hk hf S e h
    obtain ⟨f, rfl⟩ : ∃ g, f = g + 1 := ⟨f - 1, by omega⟩
    refine q_about (k := 0) I (by decide) M _ S (fun M2 S2 e2 => ⟨fun q => ?_, fun _ => ?_⟩)
    · rw [e0, c64 (by omega) (by omega)] at q
      omega
    refine q_place (p := k) (k := 0) I (by omega) (by decide) M2 _ S2 (fun M3 S3 e3 => ?_)
    rw [nn_s]
    exact ih (k + 1) f _ M3 (by omega) (by omega) S3 (e3.trans (e2.trans e)) h
theorem now_S (I : Inv n T A.1) : ∀ (r k : Nat) (v : Int64) (M : Mem), k + r = 9 → AR T M A → M 23 = W → (∀ M', AR T M' A → M' 23 = W → P (itl (nW A.1) (wy A.1) 0 (itl (nR A.1) n 0 (itl (nP A.1) (2 + n) 0 (itl (nS A.1) r k v)))) M') → wL_now_L32 P (r + 1) v (Int32.ofNat k) M := by
  have hn := I.1.1
  intro r
  induction r with
  | zero =>
    intro k v M hk S e h
    have hk : k = 9 := hk
    subst hk
    exact ⟨fun _ => now_P (W := W) I (2 + n) 0 9 v M (by omega) (by omega) S e h, fun q => absurd (by decide) q⟩
  | succ r ih =>
    intro k v M hk S e h
    refine ⟨fun q => ?_, fun _ => ?_⟩
    · have := (nn_le (a := 9) (b := k) (by omega) (by omega)).mp q
      omega
    refine q_setting (k := k) I (by omega) M _ S (fun M2 S2 e2 => ?_)
    rw [nn_s]
    exact ih (k + 1) _ M2 (by omega) S2 (e2.trans e) h
theorem now_A (I : Inv n T A.1) : ∀ (r k : Nat) (v : Int64) (M : Mem), k + r = 13 → AR T M A → M 23 = W → (∀ M', AR T M' A → M' 23 = W → P (itl (nW A.1) (wy A.1) 0 (itl (nR A.1) n 0 (itl (nP A.1) (2 + n) 0 (itl (nS A.1) 9 0 (itl (nA n A.1) r k v))))) M') → wL_now_L6 P (r + 1) v (Int32.ofNat k) M := by
  intro r
  induction r with
  | zero =>
    intro k v M hk S e h
    have hk : k = 13 := hk
    subst hk
    exact ⟨fun _ => now_S (W := W) I 9 0 v M rfl S e h, fun q => absurd (by decide) q⟩
  | succ r ih =>
    intro k v M hk S e h
    refine ⟨fun q => ?_, fun _ => ?_⟩
    · have := (nn_le (a := 13) (b := k) (by omega) (by omega)).mp q
      omega
    refine q_about (k := k) I (by omega) M _ S (fun M2 S2 e2 => ?_)
    rw [nn_s]
    exact ih (k + 1) _ M2 (by omega) S2 (e2.trans e) h
end
theorem q_now {n T : Nat} {A : Ab} (I : Inv n T A.1) : Ro wL_now T A (nowf n A.1) := by
  intro M P S h
  exact now_A (W := M 23) I 13 0 17 M rfl S rfl h
