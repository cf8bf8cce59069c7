/-! longs -/
theorem bm64 {x : Int} (h1 : -9223372036854775808 ≤ x) (h2 : x < 9223372036854775808) : x.bmod (2 ^ 64) = x := by
  rw [Int.bmod_eq_of_le] <;> omega
theorem tl_add {a b : Int64} (h1 : -9223372036854775808 ≤ a.toInt + b.toInt) (h2 : a.toInt + b.toInt < 9223372036854775808) : (a + b).toInt = a.toInt + b.toInt := by
  rw [Int64.toInt_add, bm64 h1 h2]
theorem tl_sub {a b : Int64} (h1 : -9223372036854775808 ≤ a.toInt - b.toInt) (h2 : a.toInt - b.toInt < 9223372036854775808) : (a - b).toInt = a.toInt - b.toInt := by
  rw [Int64.toInt_sub, bm64 h1 h2]
theorem tl_mul {a b : Int64} (h1 : -9223372036854775808 ≤ a.toInt * b.toInt) (h2 : a.toInt * b.toInt < 9223372036854775808) : (a * b).toInt = a.toInt * b.toInt := by
  rw [Int64.toInt_mul, bm64 h1 h2]
theorem w_sub {a b : Int32} (h1 : -2147483648 ≤ a.toInt - b.toInt) (h2 : a.toInt - b.toInt < 2147483648) : Int32.toInt64 (a - b) = Int32.toInt64 a - Int32.toInt64 b := by
  refine Int64.toInt_inj.mp ?_
  rw [i64, ti_sub h1 h2, tl_sub (by rw [i64, i64]; omega) (by rw [i64, i64]; omega), i64, i64]
theorem w_add {a b : Nat} (h : a + b < 2147483648) : Int32.toInt64 (Int32.ofNat a) + Int32.toInt64 (Int32.ofNat b) = Int32.toInt64 (Int32.ofNat (a + b)) := by
  refine Int64.toInt_inj.mp ?_
  rw [i64, ti_nat h, tl_add (by rw [i64, i64, ti_nat (by omega), ti_nat (by omega)]; omega) (by rw [i64, i64, ti_nat (by omega), ti_nat (by omega)]; omega), i64, i64, ti_nat (by omega), ti_nat (by omega)]
  omega
theorem l_assoc (a b c : Int64) : a + (b - c) = a + b - c := by
  rw [Int64.sub_eq_add_neg, Int64.sub_eq_add_neg, Int64.add_assoc]
/-! what is drawn -/
def rr (y : Int64) : Int32 := Int64.toInt32 ((Int64.toUInt64 y >>> ((Int32.toInt64 33).toUInt64 &&& Int64.toUInt64 63)).toInt64)
def nxt (x : Int64) : Int64 := (x * 6364136223846793005) + 1442695040888963407
theorem rr_nn (y : Int64) : 0 ≤ (rr y).toInt := by
  have e33 : ((Int32.toInt64 33).toUInt64 &&& Int64.toUInt64 63) = 33 := by decide
  unfold rr
  rw [e33, Int64.toInt_toInt32]
  generalize y.toUInt64 = u
  have h1 : (u >>> 33).toNat = u.toNat / 2 ^ 33 := by
    rw [UInt64.toNat_shiftRight, Nat.shiftRight_eq_div_pow]
    rfl
  have h2 : u.toNat < 2 ^ 64 := u.toNat_lt
  have h3 : (u >>> 33).toNat < 2147483648 := by
    rw [h1]
    omega
  have h4 : ((u >>> 33).toInt64).toInt = (u >>> 33).toNat := BitVec.toInt_eq_toNat_of_lt (x := (u >>> 33).toBitVec) (by
    show 2 * (u >>> 33).toNat < 2 ^ 64
    omega)
  rw [h4, bm32 (by omega) (by omega)]
  omega
theorem nn_rem {r b : Int32} (hr : 0 ≤ r.toInt) (hb : 0 < b.toInt) : (r - r / b * b).toInt = r.toInt % b.toInt := by
  rw [ti_rem hb, Int.tmod_eq_emod_of_nonneg hr]
theorem nn_div {r b : Int32} (hr : 0 ≤ r.toInt) (hb : 0 < b.toInt) : (r / b).toInt = r.toInt / b.toInt := by
  rw [ti_div hb, Int.tdiv_eq_ediv_of_nonneg hr]
def outv (r : Int32) : Int32 := (r - r / 61 * 61) - 20
theorem outv_b {r : Int32} (hr : 0 ≤ r.toInt) : -20 ≤ (outv r).toInt ∧ (outv r).toInt ≤ 40 := by
  have h := nn_rem (b := 61) hr (by decide)
  rw [show (61 : Int32).toInt = 61 from rfl] at h
  unfold outv
  rw [ti_sub (by rw [i20, h]; omega) (by rw [i20, h]; omega), h, i20]
  omega
def idv (r : Int32) (n : Nat) : Nat := ((r / 64) - (r / 64) / Int32.ofNat n * Int32.ofNat n).toInt.toNat
theorem idv_b {r : Int32} {n : Nat} (hr : 0 ≤ r.toInt) (h0 : 0 < n) (hn : n ≤ 6) : idv r n < n ∧ (r / 64) - (r / 64) / Int32.ofNat n * Int32.ofNat n = Int32.ofNat (idv r n) := by
  have h1 : 0 ≤ (r / 64).toInt := by
    rw [nn_div hr (by decide), show (64 : Int32).toInt = 64 from rfl]
    omega
  have h2 := nn_rem (b := Int32.ofNat n) h1 (by rw [ti_nat (by omega)]; omega)
  rw [ti_nat (by omega)] at h2
  have h3 := Int.emod_nonneg (r / 64).toInt (show (n : Int) ≠ 0 by omega)
  have h4 := Int.emod_lt_of_pos (r / 64).toInt (show (0 : Int) < n by omega)
  have h5 : 0 ≤ ((r / 64) - (r / 64) / Int32.ofNat n * Int32.ofNat n).toInt ∧ ((r / 64) - (r / 64) / Int32.ofNat n * Int32.ofNat n).toInt < n := by rw [h2]; omega
  unfold idv
  refine ⟨by omega, Int32.toInt_inj.mp ?_⟩
  rw [ti_nat (by omega)]
  omega
def wnv (r : Int32) : Int32 := if ((r / 512) - (r / 512) / 4 * 4) = 0 then 1 else 0
theorem wnv_b (r : Int32) : wnv r = 0 ∨ wnv r = 1 := by
  unfold wnv
  split
  · exact Or.inr rfl
  · exact Or.inl rfl
/-- before the ten minutes of a round -/
def sst (n : Nat) (r : Int32) (m : Row) : Row := if n = 0 then upd m 2 (outv r) else upd (upd m 2 (outv r)) (30 + 8 * idv r n) (wnv r)
theorem Inv.stt {n T : Nat} {r : Int32} {m : Row} (I : Inv n T m) (hr : 0 ≤ r.toInt) : Inv n T (sst n r m) := by
  have hn := I.1.1
  have b := outv_b hr
  have I2 := I.out b.1 b.2
  unfold sst
  split
  · exact I2
  · exact I2.win (idv_b hr (by omega) hn).1 (wnv_b r)
theorem sst_c {n i : Nat} {r : Int32} {m : Row} (hr : 0 ≤ r.toInt) (hn : n ≤ 6) : sst n r m (31 + 8 * i) = m (31 + 8 * i) := by
  unfold sst
  split
  · rw [upd_n _ _ (by omega)]
  · rw [upd_n _ _ (by omega), upd_n _ _ (by omega)]
def sx (x : Int64) : Nat → Int64
  | 0 => x
  | k + 1 => nxt (sx x k)
def sm (n : Nat) (x : Int64) (m : Row) : Nat → Row
  | 0 => m
  | k + 1 => mns n (sst n (rr (sx x (k + 1))) (sm n x m k)) 10
def sgn (n : Nat) (x : Int64) (m : Row) : Nat → Nat
  | 0 => 0
  | k + 1 => sgn n x m k + gns n (sst n (rr (sx x (k + 1))) (sm n x m k)) 10
theorem Inv.smm {n T : Nat} {x : Int64} {m : Row} (I : Inv n T m) (hT : T ≤ 100000) : ∀ k, k ≤ 60 → Inv n (T + 10 * k) (sm n x m k) := by
  intro k
  induction k with
  | zero => intro _; exact I
  | succ k ih =>
    intro hk
    exact ((ih (by omega)).stt (rr_nn _)).mns 10 (by omega)
theorem sgn_b {n : Nat} {x : Int64} {m : Row} (hn : n ≤ 6) : ∀ k, sgn n x m k ≤ 60 * k := by
  intro k
  induction k with
  | zero => exact Nat.le_refl 0
  | succ k ih =>
    have h1 := gns_b n (sst n (rr (sx x (k + 1))) (sm n x m k)) 10
    show sgn n x m k + gns n (sst n (rr (sx x (k + 1))) (sm n x m k)) 10 ≤ _
    omega
theorem sum_sm {n : Nat} {x : Int64} {m : Row} (hn : n ≤ 6) : ∀ k, sumc (sm n x m k) n = sumc m n + Int32.ofNat (sgn n x m k) := by
  intro k
  induction k with
  | zero => exact (Int32.add_zero _).symm
  | succ k ih =>
    show sumc (mns n (sst n (rr (sx x (k + 1))) (sm n x m k)) 10) n = sumc m n + Int32.ofNat (sgn n x m k + gns n (sst n (rr (sx x (k + 1))) (sm n x m k)) 10)
    rw [sum_mns hn, sumc_cong (m := sm n x m k) n (fun i hi => sst_c (rr_nn _) hn), ih, ← nn_a]
    ac_rfl
theorem rr_e (y : Int64) : Int64.toInt32 ((Int64.toUInt64 y >>> ((Int32.toInt64 33).toUInt64 &&& Int64.toUInt64 63)).toInt64) = rr y := rfl
theorem nxt_e (x : Int64) : (x * 6364136223846793005) + 1442695040888963407 = nxt x := rfl
theorem out_e (r : Int32) : (r - r / 61 * 61) - 20 = outv r := rfl
theorem c3_turnWindow {n i : Nat} {v : Int32} {c : Reg} {m : Row} {P : Reg → Prop} (R : RlM n c m) (hn : n ≤ 6) (hi : i < n) (hb : v = 0 ∨ v = 1) (h : ∀ c' : Reg, RlM n c' (upd m (30 + 8 * i) v) → P c') : wX3_turnWindow (Int32.ofNat i) v c P := by
  refine c3_hasRoom R.rooms hn (fun _ _ _ => ⟨fun q => absurd q z10, fun _ => ⟨nn_in (by omega) (by omega), hb, ?_⟩⟩) (fun q => absurd (ti_ok hi (by omega)) q)
  rw [tn_nat (by omega)]
  exact h _ (R.win hn hi)
theorem k5_sim {n T k : Nat} {M : Mem} {m m4 : Row} {x : Int64} {P : Int64 → Mem → Prop} {X : String → Mem → Prop} (I : Inv n T m) (R : RlM n (M 0) m) (I4 : Inv n T m4) (hT : T ≤ 100000) (hk : k ≤ 60) (em : made m4 = made m) (ec : sumc m4 n = sumc m n) (h : ∀ M2 : Mem, (∀ j, j ≠ 1 → M2 j = M j) → P (1000000 * Int32.toInt64 (Int32.ofNat (sgn n x m4 k)) + Int32.toInt64 (made (sm n x m4 k) - made m)) M2) : ∀ (r v : Nat) (M2 : Mem), v + r = k → (∀ j, j ≠ 1 → M2 j = M j) → RlM n (M2 1) (sm n x m4 v) → wX5_simulate_L39 x (Int32.ofNat k) P X (r + 1) (sx x v) (Int32.ofNat v) M2 := by
  have hn := I.1.1
  intro r
  induction r with
  | zero =>
    intro v M2 hv h1 R2
    have hv : v = k := hv
    subst hv
    have Iv := I4.smm (x := x) hT v hk
    have R0 : RlM n (M2 0) m := by rw [h1 0 (by decide)]; exact R
    refine ⟨fun _ => ?_, fun q => absurd (Int32.le_refl _) q⟩
    refine c3_allComfort R2 hn ?_
    rw [va_ue]
    refine c3_allComfort R0 hn ?_
    rw [va_ue]
    refine s3_sumBetween (f := 9) (t := 0) Iv.1 R2 (by decide) (by decide) ?_
    dsimp only
    rw [va_ue]
    refine s3_sumBetween (f := 9) (t := 0) I.1 R0 (by decide) (by decide) ?_
    dsimp only
    rw [va_ue, sum_sm hn, ec, Int32.add_comm, Int32.add_sub_cancel]
    exact h M2 h1
  | succ r ih =>
    intro v M2 hv h1 R2
    have Iv := I4.smm (x := x) hT v (by omega)
    have hr := rr_nn (sx x (v + 1))
    have Io := Iv.stt hr
    have em2 : sm n x m4 (v + 1) = mns n (sst n (rr (sx x (v + 1))) (sm n x m4 v)) 10 := rfl
    have R3 : RlM n (cu (M2 1) 0 1 (outv (rr (sx x (v + 1))))) (upd (sm n x m4 v) 2 (outv (rr (sx x (v + 1))))) := R2.out hn
    have e8 : (va_up M2 1 (cu (M2 1) 0 1 (outv (rr (sx x (v + 1)))))) 1 0 8 = Int32.ofNat n := R3.rooms
    have adv : ∀ M3 : Mem, (∀ j, j ≠ 1 → M3 j = M j) → RlM n (M3 1) (sst n (rr (sx x (v + 1))) (sm n x m4 v)) → wX3_advance 10 (M3 1) (fun c => wX5_simulate_L39 x (Int32.ofNat k) P X (r + 1) (sx x (v + 1)) (Int32.ofNat v + 1) (va_up M3 1 c)) := by
      intro M3 h3 R4
      refine q3_advance (k := 10) Io (by omega) R4 (fun c' R' => ?_)
      rw [nn_s]
      exact ih (v + 1) _ (by omega) (fun j hj => by rw [va_un _ _ hj]; exact h3 j hj) (by rw [em2, va_us]; exact R')
    unfold wX5_simulate_L39
    rw [nxt_e, show nxt (sx x v) = sx x (v + 1) from rfl, rr_e, out_e, e8]
    refine ⟨fun q => ?_, fun _ => ⟨fun q => ?_, fun q => ⟨fun q2 => q (by rw [q2]; exact Int32.le_refl _), ?_⟩⟩⟩
    · rw [nn_le (by omega) (by omega)] at q
      omega
    · have h0 : n = 0 := by
        have := (nn_le (b := 0) (by omega) (by omega)).mp q
        omega
      refine adv _ (fun j hj => by rw [va_un _ _ hj]; exact h1 j hj) ?_
      unfold sst
      rw [if_pos h0, va_us]
      exact R3
    · have h0 : 0 < n := by
        rcases Nat.eq_zero_or_pos n with e | e
        · subst e
          exact absurd (Int32.le_refl _) q
        · exact e
      have hi := idv_b hr h0 hn
      rw [hi.2]
      have hw : ∀ b : Int32, wnv (rr (sx x (v + 1))) = b → wX3_turnWindow (Int32.ofNat (idv (rr (sx x (v + 1))) n)) b ((va_up M2 1 (cu (M2 1) 0 1 (outv (rr (sx x (v + 1)))))) 1) (fun c14 => wX3_advance 10 ((va_up (va_up M2 1 (cu (M2 1) 0 1 (outv (rr (sx x (v + 1)))))) 1 c14) 1) (fun c15 => wX5_simulate_L39 x (Int32.ofNat k) P X (r + 1) (sx x (v + 1)) (Int32.ofNat v + 1) (va_up (va_up (va_up M2 1 (cu (M2 1) 0 1 (outv (rr (sx x (v + 1)))))) 1 c14) 1 c15))) := by
        intro b e
        refine c3_turnWindow (v := b) R3 hn hi.1 (by rw [← e]; exact wnv_b _) (fun c' R' => ?_)
        refine adv _ (fun j hj => by rw [va_un _ _ hj, va_un _ _ hj]; exact h1 j hj) ?_
        unfold sst
        rw [if_neg (by omega), va_us, e]
        exact R'
      refine ⟨fun q2 => hw 0 (if_neg q2), fun q2 => hw 1 (if_pos q2)⟩
