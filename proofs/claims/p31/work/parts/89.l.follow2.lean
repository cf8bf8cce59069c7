/-! follows: the first half -/
section
variable {n T : Nat} {m : Row} {h : Hy} {s1 : Sl} {tt : Tt} {P : Int32 → Mem → Prop} {a1 : Int32} {M : Mem}
/-- what the number told by the law needs of its numbers -/
def Nm (n K s2 i : Nat) (a1 : Int32) : Prop := 1 ≤ K ∧ K ≤ 60 ∧ 1 + (a1 - a1 / 30 * 30) = Int32.ofNat K ∧ (a1 / 30) - (a1 / 30) / 31 * 31 = Int32.ofNat s2 ∧ s2 ≤ 30 ∧ (0 < n → (a1 / 7) - (a1 / 7) / Int32.ofNat n * Int32.ofNat n = Int32.ofNat i ∧ i < n)
theorem fl_401 {K s2 i : Nat} {r : Row} (I : Inv n T m) (hT : T + 120 ≤ 100000) (N : Nm n K s2 i a1) (hs : s1 1 = some m) (H : Tp [m] h) (S : AR T M (r, h, s1, tt)) (hP : ∀ M', AR (T + 120) M' (m, h00, s1, tt) → P 1 M') : wL_follows_L401 a1 P (nowf n m) (Int32.ofNat n) (Int32.toInt64 (m 1)) M := by
  obtain ⟨n1, n2, n3, n4, n5, n6⟩ := N
  obtain ⟨b, g, c, H2, u⟩ := q_undoT (T := T) (A := (r, h, s1, tt)) H
  refine u M _ S (fun M2 S2 _ => ltn (by rw [t64 (by omega)]; show (0 : Int) ≤ _; omega) ?_)
  exact q_now (A := (m, g, s1, tt)) I M2 _ S2 (fun M3 S3 _ => eqk rfl (fl_424 I hT n1 n2 n3 n4 n5 n6 hs H2 S3 hP))
theorem fl_243 {K s2 i : Nat} (I : Inv n T m) (hT : T + 180 ≤ 100000) (N : Nm n K s2 i a1) (hs : s1 1 = some m) (H : Tp [] h) (S : AR T M (m, h, s1, tt)) (hP : ∀ M', AR (T + 180) M' (m, h00, s1, tt) → P 1 M') : wL_follows_L243 a1 P (nowf n m) (Int32.ofNat n) (Int32.toInt64 (m 1)) (whyf (boilg (seasf m))) (sharef (boilg (seasf m))) (Int32.toInt64 (m 5)) (Int32.toInt64 (m 14)) 1 M := by
  have hn := I.1.1
  generalize hg : boilg (seasf m) = g
  have Sg1 : Sg g := by rw [← hg]; exact I.2.1.seas.boil
  have Im : Inv n (T + 60) (mns n m 1) := (I.mns 1 (by omega)).mono (by omega)
  have H1 := Tp.push (x := m) H (Nat.le_of_ble_eq_true rfl)
  have eg : ∀ j, j < 18 → j ≠ 1 → mns n m 1 j = valvef g j := fun j h1 h2 => by
    show mnf n m j = _
    rw [mnf_lo h1 h2, ← hg]
    unfold mnA
    rw [mixg_lo h1]
  have c3 : mns n m 1 3 = g 3 := by rw [eg 3 (by decide) (by decide), valvef_o (by decide)]
  have c6 : mns n m 1 6 = g 6 := by rw [eg 6 (by decide) (by decide), valvef_o (by decide)]
  have c5 : mns n m 1 5 = valvef g 5 := eg 5 (by decide) (by decide)
  have g5 : g 5 = m 5 := by rw [← hg, boilg_lo (by decide), boil1_o (by decide) (by decide) (by decide), seasf_o (by decide) (by decide)]
  have g14 : g 14 = m 14 := by rw [← hg, boilg_lo (by decide), boil1_o (by decide) (by decide) (by decide), seasf_o (by decide) (by decide)]
  refine yes ?_
  refine q_pass (A := (m, h, s1, tt)) (k := 1) I (by omega) (by decide) (by decide) M _ S (fun M1 S1 _ => ltn ?_ ?_)
  · have gb := gns_b n m 1
    rw [t64 (by show gns n m 1 < _; omega)]
    show (0 : Int) ≤ _
    omega
  have I60 : Inv n (T + 60) m := I.mono (by omega)
  have fin : ∀ M', AR (T + 60) M' (mns n m 1, pushH h m, s1, tt) → wL_follows_L401 a1 P (nowf n m) (Int32.ofNat n) (Int32.toInt64 (m 1)) M' := fun M' S' => fl_401 I60 (by omega) N hs H1 S' hP
  have l362 : ∀ M', AR (T + 60) M' (mns n m 1, pushH h m, s1, tt) → wL_follows_L362 a1 P (nowf n m) (Int32.ofNat n) (Int32.toInt64 (m 1)) (Int32.toInt64 (m 5)) (Int32.toInt64 (m 14)) M' := by
    intro M' S'
    refine q_about (A := (mns n m 1, pushH h m, s1, tt)) (k := 6) Im (by decide) M' _ S' (fun M2 S2 _ => ⟨fun _ => fin M2 S2, fun q => ?_⟩)
    have q6 : ¬ g 6 = 1 := fun e => q (by
      rw [lg_cmp_eq]
      show Int32.toInt64 (mns n m 1 6) = 1
      rw [c6, e]
      rfl)
    have v5 : valvef g 5 = stepf (targf g) (g 5) (g 14) := by
      unfold valvef
      rw [if_neg q6, upd_s]
    have tb := targ_b g
    have d := stepf_d (t := targf g) (x := g 5) (v := g 14) tb.1 tb.2 Sg1.2.2.2.1.1 Sg1.2.2.2.1.2 Sg1.2.2.2.2.2.1.1 Sg1.2.2.2.2.2.1.2
    have sb := stepf_b (t := targf g) (x := g 5) (v := g 14) tb.1 tb.2 Sg1.2.2.2.1.1 Sg1.2.2.2.1.2 Sg1.2.2.2.2.2.1.1 Sg1.2.2.2.2.2.1.2
    have xb := Sg1.2.2.2.1
    rw [← v5] at d sb
    rw [g5] at d xb
    rw [g14] at d
    have e5 : (Int32.toInt64 (aboutf n (mns n m 1) 5)).toInt = (valvef g 5).toInt := by
      rw [i64]
      show (mns n m 1 5).toInt = _
      rw [c5]
    refine q_about (A := (mns n m 1, pushH h m, s1, tt)) (k := 5) Im (by decide) M2 _ S2 (fun M3 S3 _ => gtn ?_ ?_)
    · show (Int32.toInt64 (aboutf n (mns n m 1) 5) - Int32.toInt64 (m 5)).toInt ≤ _
      rw [tl_sub (by rw [e5, i64]; omega) (by rw [e5, i64]; omega), e5, i64, i64]
      exact d.1
    refine q_about (A := (mns n m 1, pushH h m, s1, tt)) (k := 5) Im (by decide) M3 _ S3 (fun M4 S4 _ => gtn ?_ (fin M4 S4))
    show (Int32.toInt64 (m 5) - Int32.toInt64 (aboutf n (mns n m 1) 5)).toInt ≤ _
    rw [tl_sub (by rw [e5, i64]; omega) (by rw [e5, i64]; omega), e5, i64, i64]
    exact d.2
  have l332 : ∀ (s0 : Int32) M', AR (T + 60) M' (mns n m 1, pushH h m, s1, tt) → wL_follows_L332 a1 P (nowf n m) (Int32.ofNat n) (Int32.toInt64 (m 1)) (sharef g) (Int32.toInt64 (m 5)) (Int32.toInt64 (m 14)) s0 s0 M' := by
    intro s0 M' S'
    refine ⟨fun q => absurd rfl q, fun _ => ⟨fun _ => l362 M' S', fun q => ?_⟩⟩
    have f1 : ¬ valvef g 5 = 100 ∧ g 6 = 1 := by
      unfold sharef at q
      by_cases a : valvef g 5 = 100
      · rw [if_pos a] at q
        exact absurd q (by decide)
      · rw [if_neg a] at q
        refine ⟨a, ?_⟩
        by_cases b : g 6 = 1
        · exact b
        · rw [if_neg b] at q
          split at q
          · exact absurd q (by decide)
          · split at q
            · exact absurd q (by decide)
            · split at q
              · exact absurd q (by decide)
              · exact absurd q (by decide)
    have f2 : valvef g 5 = 0 := by
      have a := f1.1
      unfold valvef at a ⊢
      rw [if_pos f1.2, upd_s] at a ⊢
      by_cases c : g 1 - g 1 / 30 * 30 = 0
      · rw [if_pos c] at a
        exact absurd rfl a
      · rw [if_neg c]
    refine q_about (A := (mns n m 1, pushH h m, s1, tt)) (k := 6) Im (by decide) M' _ S' (fun M2 S2 _ => eqk ?_ ?_)
    · show Int32.toInt64 (mns n m 1 6) = 1
      rw [c6, f1.2]
      rfl
    refine q_about (A := (mns n m 1, pushH h m, s1, tt)) (k := 5) Im (by decide) M2 _ S2 (fun M3 S3 _ => eqk ?_ (l362 M3 S3))
    show Int32.toInt64 (mns n m 1 5) = 0
    rw [c5, f2]
    rfl
  have l305 : ∀ M', AR (T + 60) M' (mns n m 1, pushH h m, s1, tt) → wL_follows_L305 a1 P (nowf n m) (Int32.ofNat n) (Int32.toInt64 (m 1)) (sharef g) (Int32.toInt64 (m 5)) (Int32.toInt64 (m 14)) M' := by
    intro M' S'
    have key : ∀ q : sharef g = 0 ↔ valvef g 5 = 100, wL_follows_L305 a1 P (nowf n m) (Int32.ofNat n) (Int32.toInt64 (m 1)) (sharef g) (Int32.toInt64 (m 5)) (Int32.toInt64 (m 14)) M' := by
      intro q
      have e5 : Int32.toInt64 (aboutf n (mns n m 1) 5) = 100 ↔ valvef g 5 = 100 := by
        show Int32.toInt64 (mns n m 1 5) = 100 ↔ _
        rw [c5]
        refine ⟨fun e => ?_, fun e => by rw [e]; rfl⟩
        have := congrArg Int64.toInt e
        rw [i64] at this
        exact Int32.toInt_inj.mp this
      refine ⟨fun a => ?_, fun a => ?_⟩
      · refine q_about (A := (mns n m 1, pushH h m, s1, tt)) (k := 5) Im (by decide) M' _ S' (fun M2 S2 _ => ⟨fun _ => l332 0 M2 S2, fun b => ?_⟩)
        exact absurd (q.mpr (e5.mp ((lg_cmp_eq _ _).mp b))) a
      · refine q_about (A := (mns n m 1, pushH h m, s1, tt)) (k := 5) Im (by decide) M' _ S' (fun M2 S2 _ => ⟨fun b => ?_, fun _ => l332 1 M2 S2⟩)
        exact absurd ((lg_cmp_eq _ _).mpr (e5.mpr (q.mp a))) b
    refine key ⟨fun q => ?_, fun q => if_pos q⟩
    unfold sharef at q
    by_cases a : valvef g 5 = 100
    · exact a
    · rw [if_neg a] at q
      split at q
      · exact absurd q (by decide)
      · split at q
        · exact absurd q (by decide)
        · split at q
          · exact absurd q (by decide)
          · split at q
            · exact absurd q (by decide)
            · exact absurd q (by decide)
  have l285 : ∀ (s0 : Int32) M', AR (T + 60) M' (mns n m 1, pushH h m, s1, tt) → wL_follows_L285 a1 P (nowf n m) (Int32.ofNat n) (Int32.toInt64 (m 1)) (whyf g) (sharef g) (Int32.toInt64 (m 5)) (Int32.toInt64 (m 14)) s0 s0 M' := by
    intro s0 M' S'
    refine ⟨fun q => absurd rfl q, fun _ => ⟨fun _ => l305 M' S', fun q => ?_⟩⟩
    have f1 : g 6 = 1 := by
      unfold whyf at q
      split at q
      · exact absurd q (by decide)
      · split at q
        · assumption
        · split at q
          · split at q
            · exact absurd q (by decide)
            · exact absurd q (by decide)
          · exact absurd q (by decide)
    refine q_about (A := (mns n m 1, pushH h m, s1, tt)) (k := 6) Im (by decide) M' _ S' (fun M2 S2 _ => eqk ?_ (l305 M2 S2))
    show Int32.toInt64 (mns n m 1 6) = 1
    rw [c6, f1]
    rfl
  have q0 : whyf g = 0 ↔ g 3 = 1 := by
    refine ⟨fun q => ?_, fun q => if_pos q⟩
    unfold whyf at q
    split at q
    · assumption
    · split at q
      · exact absurd q (by decide)
      · split at q
        · split at q
          · exact absurd q (by decide)
          · exact absurd q (by decide)
        · exact absurd q (by decide)
  have e3 : Int32.toInt64 (aboutf n (mns n m 1) 3) = 1 ↔ g 3 = 1 := by
    show Int32.toInt64 (mns n m 1 3) = 1 ↔ _
    rw [c3]
    refine ⟨fun e => ?_, fun e => by rw [e]; rfl⟩
    have := congrArg Int64.toInt e
    rw [i64] at this
    exact Int32.toInt_inj.mp this
  refine ⟨fun a => ?_, fun a => ?_⟩
  · refine q_about (A := (mns n m 1, pushH h m, s1, tt)) (k := 3) Im (by decide) M1 _ S1 (fun M2 S2 _ => ⟨fun _ => l285 0 M2 S2, fun b => ?_⟩)
    exact absurd (q0.mpr (e3.mp ((lg_cmp_eq _ _).mp b))) a
  · refine q_about (A := (mns n m 1, pushH h m, s1, tt)) (k := 3) Im (by decide) M1 _ S1 (fun M2 S2 _ => ⟨fun b => ?_, fun _ => l285 1 M2 S2⟩)
    exact absurd ((lg_cmp_eq _ _).mpr (e3.mpr (q0.mp a))) b
theorem fl_146 {K s2 i k p : Nat} (I : Inv n T m) (X : Ex n T m) (hT : T + 240 ≤ 100000) (N : Nm n K s2 i a1) (h1k : 1 ≤ k) (hk : k ≤ 60) (hp : p < 2 + n) (hs : s1 1 = some m) (S : AR T M (m, h, s1, tt)) (hP : ∀ M', AR (T + 240) M' (m, h00, s1, tt) → P 1 M') : wL_follows_L146 a1 P (nowf n m) (Int32.ofNat n) (Int32.ofNat k) (Int32.ofNat p) (Int32.toInt64 (m 1)) (Int32.toInt64 (degf (mns n m k) p)) (Int32.toInt64 (made (mns n m k) - made m)) (Int32.toInt64 (made m)) (whyf (boilg (seasf m))) (sharef (boilg (seasf m))) (Int32.toInt64 (m 5)) (Int32.toInt64 (m 14)) (Int32.toInt64 (sumc m n)) 1 M := by
  have hn := I.1.1
  have H : Tp [] h := ⟨S.h14, trivial⟩
  have H1 := Tp.push (x := m) H (Nat.le_of_ble_eq_true rfl)
  have Im : Inv n (T + 60) (mns n m k) := (I.mns k (by omega)).mono (by omega)
  have gb := gns_b n m k
  have gb2 : n * k ≤ 6 * 60 := Nat.mul_le_mul hn hk
  refine q_pass (A := (m, h, s1, tt)) (k := k) I (by omega) h1k hk M _ S (fun M1 S1 _ => yes ?_)
  refine q_place (A := (mns n m k, pushH h m, s1, tt)) (p := p) (k := 1) Im hp (by decide) M1 _ S1 (fun M2 S2 _ => eqk rfl ?_)
  refine q_moved (A := (mns n m k, pushH h m, s1, tt)) (f := 9) (t := 0) Im (by decide) (by decide) M2 _ S2 (fun M3 S3 _ => eqk (e64 ?_) ?_)
  · have mb := I.2.2.2.2
    have g := made_k I k (by omega)
    have d : (made (mns n m k) - made m).toInt = (made (mns n m k)).toInt - (made m).toInt := ti_sub (by omega) (by omega)
    show (Int32.toInt64 (made (mns n m k))).toInt = _
    rw [tl_add (by rw [i64, i64, d]; omega) (by rw [i64, i64, d]; omega), i64, i64, i64, d]
    omega
  refine q_about (A := (mns n m k, pushH h m, s1, tt)) (k := 12) Im (by decide) M3 _ S3 (fun M4 S4 _ => eqk (e64 ?_) ?_)
  · have sb := sumc_b (T := T) (m := m) I.2.2.2.1 hn (by omega) n (Nat.le_refl n)
    have sb2 : ((n : Int) * T) ≤ 6 * 100000 := Int.mul_le_mul (by omega) (by omega) (by omega) (by omega)
    show (Int32.toInt64 (sumc (mns n m k) n)).toInt = (Int32.toInt64 (sumc m n) + Int32.toInt64 (Int32.ofNat (gns n m k))).toInt
    rw [sum_mns hn, i64, tl_add (by rw [i64, t64 (by omega)]; omega) (by rw [i64, t64 (by omega)]; omega), i64, t64 (by omega), ti_add (by rw [ti_nat (by omega)]; omega) (by rw [ti_nat (by omega)]; omega), ti_nat (by omega)]
  refine q_about (A := (mns n m k, pushH h m, s1, tt)) (k := 1) Im (by decide) M4 _ S4 (fun M5 S5 _ => eqk (e64 ?_) ?_)
  · obtain ⟨z1, z2, z3, -⟩ := X.2
    show (Int32.toInt64 (mns n m k 1)).toInt = _
    rw [mns_1, i64, tl_add (by rw [i64, t64 (by omega)]; omega) (by rw [i64, t64 (by omega)]; omega), i64, t64 (by omega), ti_add (by rw [ti_nat (by omega)]; omega) (by rw [ti_nat (by omega)]; omega), ti_nat (by omega)]
  obtain ⟨b, g, c, H2, u⟩ := q_undoT (T := T + 60) (A := (mns n m k, pushH h m, s1, tt)) H1
  refine u M5 _ S5 (fun M6 S6 _ => ltn (by rw [t64 (by omega)]; show (0 : Int) ≤ _; omega) ?_)
  have I60 : Inv n (T + 60) m := I.mono (by omega)
  exact q_now (A := (m, g, s1, tt)) I60 M6 _ S6 (fun M7 S7 _ => eqk rfl (fl_243 I60 (by omega) N hs H2 S7 hP))
theorem q_follows {X : Nat} {s : Sl} (I : Inv n T m) (E : Ex n T m) (hT : T + 240 ≤ 100000) (hX : X < 2147483648) (S : AR T M (m, h, s, tt)) (hP : ∀ M', AR (T + 240) M' (m, h00, (fun i => if i = 1 then some m else s i), tt) → P 1 M') : wL_follows (Int32.ofNat X) M P := by
  have hn := I.1.1
  have eN : Int64.toInt32 (Int32.toInt64 (aboutf n m 0)) = Int32.ofNat n := by rw [b32]; exact I.1.2.1
  have one : ∀ a : Nat, 1 + Int32.ofNat a = Int32.ofNat (1 + a) := fun a => by rw [show (1 : Int32) = Int32.ofNat 1 from rfl, nn_a]
  have eK : 1 + (Int32.ofNat X - Int32.ofNat X / 60 * 60) = Int32.ofNat (1 + X % 60) := by
    rw [show (60 : Int32) = Int32.ofNat 60 from rfl, nn_rem2 hX (by decide) (by decide), one]
  have e30 : 1 + (Int32.ofNat X - Int32.ofNat X / 30 * 30) = Int32.ofNat (1 + X % 30) := by
    rw [show (30 : Int32) = Int32.ofNat 30 from rfl, nn_rem2 hX (by decide) (by decide), one]
  have e31 : (Int32.ofNat X / 30) - (Int32.ofNat X / 30) / 31 * 31 = Int32.ofNat (X / 30 % 31) := by
    rw [show (30 : Int32) = Int32.ofNat 30 from rfl, nn_div2 hX (by decide) (by decide), show (31 : Int32) = Int32.ofNat 31 from rfl, nn_rem2 (by omega) (by decide) (by decide)]
  have en2 : Int32.ofNat n + 2 = Int32.ofNat (2 + n) := by rw [show (2 : Int32) = Int32.ofNat 2 from rfl, nn_a, Nat.add_comm]
  have eP : (Int32.ofNat X / 60) - (Int32.ofNat X / 60) / (Int32.ofNat n + 2) * (Int32.ofNat n + 2) = Int32.ofNat (X / 60 % (2 + n)) := by
    rw [en2, show (60 : Int32) = Int32.ofNat 60 from rfl, nn_div2 hX (by decide) (by decide), nn_rem2 (by omega) (by omega) (by omega)]
  have N : Nm n (1 + X % 30) (X / 30 % 31) (X / 7 % n) (Int32.ofNat X) := by
    refine ⟨by omega, by omega, e30, e31, by omega, fun h0 => ⟨?_, Nat.mod_lt _ h0⟩⟩
    rw [show (7 : Int32) = Int32.ofNat 7 from rfl, nn_div2 hX (by decide) (by decide), nn_rem2 (by omega) h0 (by omega)]
  have hp : X / 60 % (2 + n) < 2 + n := Nat.mod_lt _ (by omega)
  unfold wL_follows
  refine q_now (A := (m, h, s, tt)) I M _ S (fun M1 S1 _ => ?_)
  refine q_about (A := (m, h, s, tt)) (k := 0) I (by decide) M1 _ S1 (fun M2 S2 _ => ?_)
  show ¬ (Int64.toInt32 (Int32.toInt64 (aboutf n m 0)) + 2) = 0 ∧ _
  rw [eN, eP, eK]
  refine ⟨fun q => ?_, ?_⟩
  · rw [en2] at q
    have := nn_inj (b := 0) q (by omega) (by omega)
    omega
  refine q_about (A := (m, h, s, tt)) (k := 1) I (by decide) M2 _ S2 (fun M3 S3 _ => ?_)
  refine q_ahead (A := (m, h, s, tt)) (p := X / 60 % (2 + n)) (k := 1 + X % 60) I (by omega) hp (by omega) M3 _ S3 (fun M4 S4 _ => ?_)
  refine q_heatFor (A := (m, h, s, tt)) (k := 1 + X % 60) I (by omega) (by omega) M4 _ S4 (fun M5 S5 _ => ?_)
  refine q_moved (A := (m, h, s, tt)) (f := 9) (t := 0) I (by decide) (by decide) M5 _ S5 (fun M6 S6 _ => ?_)
  refine ⟨fun q => absurd q z10, fun _ => ?_⟩
  refine q_whyOff (A := (m, h, s, tt)) I S6 (fun M7 S7 _ => ?_)
  refine ⟨fun _ => ?_, fun q => absurd rfl q⟩
  refine q_whyShare (A := (m, h, s, tt)) I S7 (fun M8 S8 _ => ?_)
  refine q_about (A := (m, h, s, tt)) (k := 5) I (by decide) M8 _ S8 (fun M9 S9 _ => ?_)
  refine q_setting (A := (m, h, s, tt)) (k := 5) I (by decide) M9 _ S9 (fun M10 S10 _ => ?_)
  refine q_about (A := (m, h, s, tt)) (k := 12) I (by decide) M10 _ S10 (fun M11 S11 _ => ?_)
  refine q_save (A := (m, h, s, tt)) (s := 1) I (by decide) M11 _ S11 (fun M12 S12 _ => eqk rfl ?_)
  have ex : (1000 + Int32.toInt64 (Int32.ofNat (1 + X % 60))).toInt = ((1000 + (1 + X % 60) : Nat) : Int) := by
    have c : (1000 : Int64).toInt = 1000 := rfl
    rw [tl_add (by rw [c, t64 (by omega)]; omega) (by rw [c, t64 (by omega)]; omega), c, t64 (by omega)]
    omega
  refine q_script (A := (m, h, (fun i => if i = 1 then some m else s i), tt)) (N := 1) (X := 1000 + (1 + X % 60)) I (by omega) (by decide) (by decide) ex (by show _ < 10000; omega) M12 _ S12 (fun M13 S13 _ => eqk ?_ ?_)
  · show Int32.toInt64 (rsf n (fun v => grp (1000 + (1 + X % 60)) (1 - 1 - v)) 1 0 m) = _
    rw [scr_1 (by omega) (by omega)]
    rfl
  refine q_now (A := (m, h, (fun i => if i = 1 then some m else s i), tt)) I M13 _ S13 (fun M14 S14 _ => eqk rfl ?_)
  exact fl_146 I E hT N (by omega) (by omega) hp rfl S14 hP
end
