/-! calls that are refused -/
theorem eqk {a b : Int64} {F G : Prop} (e : a = b) (h : G) : (¬ lg_cmp a b = 0 → F) ∧ (lg_cmp a b = 0 → G) := ⟨fun q => absurd ((lg_cmp_eq _ _).mpr e) q, fun _ => h⟩
theorem b32 (x : Int32) : Int64.toInt32 (Int32.toInt64 x) = x := by
  refine Int32.toInt_inj.mp ?_
  rw [Int64.toInt_toInt32, i64]
  exact bm32 (ti_lo x) (ti_hi x)
theorem no_set {d x : Int32} (h : ∀ k, k < 9 → d = Int32.ofNat k → ¬ SetOk k x) : ¬ ∃ k, k < 9 ∧ d = Int32.ofNat k ∧ SetOk k x := fun ⟨k, h1, h2, h3⟩ => h k h1 h2 h3
theorem nn_inj {a b : Nat} (h : Int32.ofNat a = Int32.ofNat b) (ha : a < 2147483648) (hb : b < 2147483648) : a = b := (nn_eq ha hb).mp h
theorem bad_s {j : Nat} {x : Int32} (hj : j < 9) (hx : ¬ SetOk j x) : ¬ ∃ k, k < 9 ∧ Int32.ofNat j = Int32.ofNat k ∧ SetOk k x := fun ⟨k, h1, h2, h3⟩ => by
  have e := nn_inj h2 (by omega) (by omega)
  subst e
  exact hx h3
theorem bad_r {j : Nat} {x : Int32} (hj : j < 1000) (hx : ¬ (j < 3 ∧ RoomOk j x)) : ¬ ∃ k, k < 3 ∧ Int32.ofNat j = Int32.ofNat k ∧ RoomOk k x := fun ⟨k, h1, h2, h3⟩ => by
  have e := nn_inj h2 (by omega) (by omega)
  subst e
  exact hx ⟨h1, h3⟩
theorem q_errors {n T : Nat} {A : Ab} {M : Mem} {P : Int32 → Mem → Prop} (I : Inv n T A.1) (S : AR T M A) (h : ∀ M', AR T M' A → P 1 M') : wL_errors M P := by
  have hn := I.1.1
  have hw := I.1.2.2.1
  have e3 : Int64.toInt32 (Int32.toInt64 (aboutf n A.1 0)) = Int32.ofNat n := by rw [b32]; exact I.1.2.1
  have e11 : Int64.toInt32 (Int32.toInt64 (aboutf n A.1 11)) = Int32.ofNat (wy A.1) := by rw [b32]; exact I.1.2.2.2.1
  have i2' : (2 : Int32).toInt = 2 := rfl
  have an2 : ¬ (0 ≤ (Int32.ofNat n + 2).toInt ∧ (Int32.ofNat n + 2).toInt < (2 + n : Nat)) := by
    rw [ti_add (by rw [ti_nat (by omega), i2']; omega) (by rw [ti_nat (by omega), i2']; omega), ti_nat (by omega), i2']
    omega
  have an : ¬ (0 ≤ (Int32.ofNat n).toInt ∧ (Int32.ofNat n).toInt < n) := by
    rw [ti_nat (by omega)]; omega
  have aw : ¬ (0 ≤ (Int32.ofNat (wy A.1)).toInt ∧ (Int32.ofNat (wy A.1)).toInt < wy A.1) := by
    rw [ti_nat (by omega)]; omega
  -- the last rows
  have l443 : ∀ M0, AR T M0 A → wL_errors_L443 P (nowf n A.1) (Int32.ofNat n) 1 M0 := by
    intro M0 S0
    refine ⟨fun q => absurd q z10, fun _ => ?_⟩
    refine b_ahead1 I an2 M0 _ S0 (fun M1 S1 _ => eqk rfl ?_)
    refine b_ahead2 (p := 0) I (by omega) (by decide) M1 _ S1 (fun M2 S2 _ => eqk rfl ?_)
    refine b_minutesTo I (fun q => absurd q.1 (by decide)) M2 _ S2 (fun M3 S3 _ => eqk rfl ?_)
    refine b_bestSlope (by decide) M3 _ S3 (fun M4 S4 _ => eqk rfl ?_)
    refine b_leastPower (by decide) M4 _ S4 (fun M5 S5 _ => eqk rfl ?_)
    refine b_heatFor (by decide) M5 _ S5 (fun M6 S6 _ => eqk rfl ?_)
    refine b_script (Or.inl (by decide)) M6 _ S6 (fun M7 S7 _ => eqk rfl ?_)
    refine b_script (Or.inr ⟨4, by decide, by decide, rfl, by decide⟩) M7 _ S7 (fun M8 S8 _ => eqk rfl ?_)
    refine b_simulate (by decide) M8 _ S8 (fun M9 S9 _ => eqk rfl ?_)
    refine b_save (by decide) M9 _ S9 (fun M10 S10 _ => eqk rfl ?_)
    refine b_restore1 (by decide) M10 _ S10 (fun M11 S11 _ => eqk rfl ?_)
    refine b_append (by decide) M11 _ S11 (fun M12 S12 _ => eqk rfl ?_)
    exact q_now I M12 _ S12 (fun M13 S13 _ => eqk rfl (h M13 S13))
  have l344 : ∀ M0, AR T M0 A → wL_errors_L344 P (nowf n A.1) (Int32.ofNat n) M0 := by
    intro M0 S0
    unfold wL_errors_L344
    refine b_window I an M0 _ S0 (fun M1 S1 _ => eqk rfl ?_)
    refine b_set (bad_s (j := 0) (by decide) (by unfold SetOk; decide)) M1 _ S1 (fun M2 S2 _ => eqk rfl ?_)
    refine b_set (bad_s (j := 1) (by decide) (by unfold SetOk; decide)) M2 _ S2 (fun M3 S3 _ => eqk rfl ?_)
    refine b_set (bad_s (j := 5) (by decide) (by unfold SetOk; decide)) M3 _ S3 (fun M4 S4 _ => eqk rfl ?_)
    refine b_set (fun ⟨k, h1, h2, _⟩ => by have := nn_inj (a := 9) h2 (by decide) (by omega); omega) M4 _ S4 (fun M5 S5 _ => eqk rfl ?_)
    refine b_outside (by decide) M5 _ S5 (fun M6 S6 _ => eqk rfl ?_)
    exact b_pass (by decide) M6 _ S6 (fun M7 S7 _ => eqk rfl (l443 M7 S7))
  have l268 : ∀ M0, AR T M0 A → wL_errors_L268 P (nowf n A.1) (Int32.ofNat n) M0 := by
    intro M0 S0
    unfold wL_errors_L268
    refine b_setRoom1 I an M0 _ S0 (fun M1 S1 _ => eqk rfl ⟨fun _ => l344 M1 S1, fun q => ?_⟩)
    have h0 : 0 < n := Nat.pos_of_ne_zero (fun e => q (by rw [e]; rfl))
    refine b_setRoom2 (i := 0) I h0 (bad_r (j := 3) (by decide) (by unfold RoomOk; decide)) M1 _ S1 (fun M2 S2 _ => eqk rfl ?_)
    refine b_setRoom2 (i := 0) I h0 (bad_r (j := 0) (by decide) (by unfold RoomOk; decide)) M2 _ S2 (fun M3 S3 _ => eqk rfl ?_)
    refine b_setRoom2 (i := 0) I h0 (bad_r (j := 1) (by decide) (by unfold RoomOk; decide)) M3 _ S3 (fun M4 S4 _ => eqk rfl ?_)
    exact b_setRoom2 (i := 0) I h0 (bad_r (j := 2) (by decide) (by unfold RoomOk; decide)) M4 _ S4 (fun M5 S5 _ => eqk rfl (l344 M5 S5))
  have l173 : ∀ M0, AR T M0 A → wL_errors_L173 P (nowf n A.1) (Int32.ofNat n) 1 M0 := by
    intro M0 S0
    refine ⟨fun q => absurd q z10, fun _ => ?_⟩
    refine b_addRoom1 (by unfold AddOk; decide) M0 _ S0 (fun M1 S1 _ => eqk rfl ?_)
    refine b_addRoom1 (by unfold AddOk; decide) M1 _ S1 (fun M2 S2 _ => eqk rfl ?_)
    refine b_addRoom1 (by unfold AddOk; decide) M2 _ S2 (fun M3 S3 _ => eqk rfl ?_)
    refine b_addRoom1 (by unfold AddOk; decide) M3 _ S3 (fun M4 S4 _ => eqk rfl ⟨fun _ => l268 M4 S4, fun q => ?_⟩)
    have e6 : n = 6 := by
      have : ¬ n < 6 := fun g => q ((nn_lt (b := 6) (by omega) (by omega)).mpr g)
      omega
    subst e6
    exact b_addRoom2 I (by unfold AddOk; decide) M4 _ S4 (fun M5 S5 _ => eqk rfl (l268 M5 S5))
  have l110 : ∀ M0, AR T M0 A → wL_errors_L110 P (nowf n A.1) (Int32.ofNat n) M0 := by
    intro M0 S0
    unfold wL_errors_L110
    refine b_moved (f := 0) (by decide) (by decide) M0 _ S0 (fun M1 S1 _ => eqk rfl ?_)
    refine q_about (k := 11) I (by decide) M1 _ S1 (fun M2 S2 _ => ?_)
    rw [e11]
    refine b_way1 I aw M2 _ S2 (fun M3 S3 _ => eqk rfl ?_)
    refine q_about (k := 11) I (by decide) M3 _ S3 (fun M4 S4 _ => ⟨fun _ => l173 M4 S4, fun q => ?_⟩)
    have hw0 : 0 < wy A.1 := by
      refine Nat.pos_of_ne_zero (fun e => q ((lg_cmp_eq _ _).mpr ?_))
      show Int32.toInt64 (A.1 74) = 0
      rw [I.1.2.2.2.1, e]
      rfl
    exact b_way2 (k := 0) I hw0 (by decide) M4 _ S4 (fun M5 S5 _ => eqk rfl (l173 M5 S5))
  unfold wL_errors
  refine q_now I M _ S (fun M1 S1 _ => ?_)
  refine q_about (k := 0) I (by decide) M1 _ S1 (fun M2 S2 _ => ?_)
  rw [e3]
  refine b_about (by decide) M2 _ S2 (fun M3 S3 _ => eqk rfl ?_)
  refine b_about (by decide) M3 _ S3 (fun M4 S4 _ => eqk rfl ?_)
  refine b_setting (by decide) M4 _ S4 (fun M5 S5 _ => eqk rfl ?_)
  refine b_place1 I an2 M5 _ S5 (fun M6 S6 _ => eqk rfl ?_)
  refine b_place2 (p := 1) I (by omega) (by decide) M6 _ S6 (fun M7 S7 _ => eqk rfl ?_)
  refine b_room1 I an M7 _ S7 (fun M8 S8 _ => eqk rfl ⟨fun _ => l110 M8 S8, fun q => ?_⟩)
  have h0 : 0 < n := Nat.pos_of_ne_zero (fun e => q (by rw [e]; rfl))
  exact b_room2 (i := 0) I h0 (by decide) M8 _ S8 (fun M9 S9 _ => eqk rfl (l110 M9 S9))
