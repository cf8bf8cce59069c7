/-! minutes go by: the program -/
theorem sub_s (a b : Int32) : a - b + 1 = a + 1 - b := by
  rw [Int32.sub_eq_add_neg, Int32.sub_eq_add_neg]
  ac_rfl
theorem q3_last {n : Nat} {c : Reg} {m : Row} (hn : n ≤ 6) (R : RlM n c m) : RlM n (cu (cu c 0 0 ((c 0 0) + 1)) 0 3 (((cu c 0 0 ((c 0 0) + 1)) 0 3) + 1)) (upd m 1 (m 1 + 1)) := by
  unfold RlM
  rw [wy_cong (upd_n _ _ (by decide))]
  obtain ⟨r0, r1, r2, r3, r4, r5, r6, r7, r8, r9⟩ := R.1
  refine Rel.small R (fun r hr => by simp only [cu_e, va_un _ _ hr]) (fun i hi => upd_n _ _ (by omega)) ?_ hn
  simp [cu, va_up, upd, r0, r1, r2, r3, r4, r5, r6, r7, r8, r9, sub_s]
theorem q3_advance {n T k : Nat} {c : Reg} {m : Row} {P : Reg → Prop} (I : Inv n T m) (hT : T + k ≤ 1000000) (R : RlM n c m) (h : ∀ c' : Reg, RlM n c' (mns n m k) → P c') : wX3_advance (Int32.ofNat k) c P := by
  have hn := I.1.1
  have key : ∀ (r i : Nat) (c : Reg), i + r = k → RlM n c (mns n m i) → wX3_advance_L2 (Int32.ofNat k) P (r + 1) (Int32.ofNat i) c := by
    intro r
    induction r with
    | zero =>
      intro i c hi R
      have hi : i = k := hi
      subst hi
      exact ⟨fun _ => h c R, fun q => absurd (Int32.le_refl _) q⟩
    | succ r ih =>
      intro i c hi R
      have Ii := I.mns i (by omega)
      have em : mns n m (i + 1) = mnf n (mns n m i) := rfl
      have cont : ∀ c', RlM n c' (mnf n (mns n m i)) → wX3_advance_L2 (Int32.ofNat k) P (r + 1) (Int32.ofNat i + 1) c' := by
        intro c' R'
        rw [nn_s]
        exact ih (i + 1) c' (by omega) (by rw [em]; exact R')
      generalize mns n m i = m1 at R Ii cont
      obtain ⟨G1, S, W, B⟩ := Ii
      refine ⟨fun q => ?_, fun _ => ?_⟩
      · rw [nn_le (by omega) (by omega)] at q
        omega
      · refine q3_turnSeason G1 R S.2.1 S.2.2.1 (fun c1 R1 => ?_)
        refine q3_runBoiler G1.seas R1 S.seas.1 S.seas.2.1 (fun c2 R2 => ?_)
        have S2 := S.seas.boil
        refine q3_moveValve G1.seas.boil R2 S2.2.2.2.2.1 S2.2.1 S2.2.2.2.1 S2.2.2.2.2.2.1 (fun c3 R3 => ?_)
        refine q3_mix G1.seas.boil.valve R3 (fun c4 R4 => ?_)
        have GA : Gd n (mnA m1) := G1.A
        have G5 := iter_Gd (fun _ _ g hi => g.rad hi) GA n (Nat.le_refl n)
        have GB : Gd n (mnB n m1) := G1.B
        refine s3_heatRooms GA R4 (fun c5 R5 => s3_leakRooms G5 ?_ R5 (fun c6 R6 => s3_judgeRooms GB R6 (fun c7 R7 => cont _ ?_)))
        · intro q hq
          rw [iter_at (fun m i => radf_at (by omega) (by omega)), mnA_at (by omega) (by omega)]
          exact W.1 q hq
        · exact q3_last hn R7
  exact ⟨k + 1, key k 0 c (by omega) R⟩
