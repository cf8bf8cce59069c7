/-! from the start to the end -/
theorem row_start : cMd 3 = clr (c00 3) := by
  have e : (fun k => if k < 128 then (0 : Int32) else c00 3 k) = c00 3 := by
    funext k
    split <;> rfl
  unfold clr
  rw [e]
  rfl
theorem sim_start : Sim 0 M1 := by
  have R : RlM 0 cI (clr (c00 3)) := c3_beginAnew (c := c00) (P := fun c' => RlM 0 c' (clr (c00 3))) (c00 3) (fun c' h => h)
  have H : HR 0 cI (cMd 3) := by
    rw [row_start]
    exact ⟨0, R, clr_inv _⟩
  refine ⟨H, ⟨0, fun _ => cI, fun _ => cMd 3, ⟨rfl, by decide, fun k => k, fun k hk => ⟨hk, rfl⟩, fun k k' _ _ e => e, fun k hk => absurd hk (Nat.not_lt_zero k)⟩, ⟨rfl, by decide, fun k i hk => absurd hk (Nat.not_lt_zero k)⟩, fun k hk => absurd hk (Nat.not_lt_zero k)⟩, fun s hs => Or.inl ⟨rfl, rfl⟩, ⟨0, by decide, rfl, rfl, fun k hk => absurd hk (Nat.not_lt_zero k)⟩⟩
theorem i5 : (5 : Int32).toInt = 5 := rfl
theorem loop_ok {L : Nat} {xs : Nat → Int32} (hL : L ≤ 2560) : ∀ (N i : Nat) (M : Mem) (O : Nat → Int64), i + N = 512 → Sim (60 * i) M → wL_loop L xs (N + 1) (Int32.ofNat (5 * i)) M O := by
  intro N
  induction N with
  | zero =>
    intro i M O hi S h
    refine absurd ?_ h
    rw [Int32.lt_iff_toInt_lt, ti_sub (by rw [ti_nat (by omega), i5]; omega) (by rw [ti_nat (by omega), i5]; omega), ti_nat (by omega), ti_nat (by omega), i5]
    omega
  | succ N ih =>
    intro i M O hi S h
    rw [Int32.lt_iff_toInt_lt, ti_sub (by rw [ti_nat (by omega), i5]; omega) (by rw [ti_nat (by omega), i5]; omega), ti_nat (by omega), ti_nat (by omega), i5] at h
    have v0 : (Int32.ofNat (5 * i)).toInt = 5 * i := by
      rw [ti_nat (by omega)]
      omega
    have hK : ∀ M' O', Sim (60 * i + 60) M' → wL_loop L xs (N + 1) (Int32.ofNat (5 * i) + 5) M' O' := by
      intro M' O' S'
      rw [show Int32.ofNat (5 * i) + 5 = Int32.ofNat (5 * (i + 1)) from nn_a (5 * i) 5]
      exact ih (i + 1) M' O' (by omega) S'
    have hv : ∀ d : Int32, 0 ≤ d.toInt → d.toInt ≤ 4 → vp_in (Int32.ofNat (5 * i) + d) L := fun d d1 d2 => vin_of (by omega) (by omega) hL d1 d2
    have hT : 60 * i ≤ 100000 := by omega
    refine ⟨nn_in (by omega) (by omega), fun _ => hK M O (S.frame (by omega) (fun _ _ _ _ => rfl) (fun _ _ => rfl) (fun _ _ _ _ => rfl) rfl rfl), fun _ => road0 S hK hv, fun _ => road1 S hK hv, fun _ => road2 S hK, fun _ => road3 S hK, fun _ => road4 S hK hv, fun _ => road5 S hK hv, fun _ => road6 S hK hv, fun _ => road7 S hK hv, fun _ => road8 S hK hv, fun _ => road9 S hK hv, fun _ => road10 S hK hv, fun _ => road11 S hK hv, fun _ => road12 S hK hv, fun _ => road13 S hK hv, fun _ => road14 S hK hv, fun _ => road15 S hK hv hT, fun _ => road16 S hK hv, fun _ => road17 S hK hv hT, fun _ => road18 S hK hv hT, fun _ => road19 S hK hv, fun _ => road20 S hK hv, fun _ => road21 S hK hv hT, fun _ => road22 S hK hv hT, fun _ => road23 S hK hv hT, fun _ => road24 S hK hv hT, fun _ => road25 S hK hv hT, fun _ => road26 S hK hv, fun _ => road27 S hK hv⟩
theorem law_pure (L : Nat) (xs : Nat → Int32) (hL : L ≤ 2560) : wL_loop L xs 513 0 M1 (fun _ => 0) := loop_ok hL 512 0 M1 (fun _ => 0) rfl sim_start
