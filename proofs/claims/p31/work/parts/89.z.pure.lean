/-! from the start to the end -/
def A0 : Ab := (row0, h00, (fun _ => none), (0, fun _ => 0))
theorem AR0 : AR 0 M0 A0 := by
  have R : RlM 0 cI (clr (fun _ => 0)) := c3_beginAnew (c := c00) (P := fun c' => RlM 0 c' (clr (fun _ => 0))) (fun _ => 0) (fun c' h => h)
  have e20 : M0 20 = cG := M0_gl
  refine ⟨⟨0, by rw [M0_st (by decide)]; exact R, clr_inv _⟩, ⟨fun _ => cI, ⟨by rw [e20]; rfl, Nat.zero_le _, fun k => k, fun k hk => ⟨hk, by rw [e20]; rfl⟩, fun k k' _ _ e => e, fun k hk => absurd hk (Nat.not_lt_zero k)⟩, fun k hk => absurd hk (Nat.not_lt_zero k)⟩, fun i hi => ?_, by rw [e20]; rfl, by decide, fun k hk => absurd hk (Nat.not_lt_zero k)⟩
  show M0 20 5 i = 0
  rw [e20]
  rfl
theorem GA0 : GA 0 A0 := ⟨⟨0, clr_inv _, Ex.r0⟩, fun k hk => absurd hk (Nat.not_lt_zero k), fun i r hi e => by cases e⟩
theorem q_draw {L a : Nat} {xs : Nat → Int32} {P : Int32 → Prop} (ha : a < 1000) (h : ∀ X : Nat, X < 2147483648 → P (Int32.ofNat X)) : wL_draw L xs (Int32.ofNat a) P := by
  have key : ∀ z : Int32, P (z &&& 2147483647) := fun z => by
    obtain ⟨w, w1, w2⟩ := and_nn z (k := 2147483647) (by decide)
    have w2 : z &&& 2147483647 = Int32.ofNat w := w2
    rw [w2]
    exact h w (by omega)
  refine ⟨fun _ => key _, fun q => ⟨?_, key _⟩⟩
  by_cases hL : L ≤ a
  · by_cases c : L < 2147483648
    · exact absurd (le_nn c (by omega) hL) q
    · omega
  · exact nn_in (by omega) (by omega)
section
variable {L : Nat} {xs : Nat → Int32} {P : Int32 → DM → Prop}
theorem lw_276 {A : Ab} {T : Nat} {D : DM} (g : GA T A) (hT : T ≤ 100000) (S : Bo T A D) (hP : ∀ D', P 1 D') : wL_law_L276 L xs P 1 D := by
  obtain ⟨n, I, E⟩ := g.1
  exact yes (q_alike (X := 83003) I hT (by decide) S (fun D' _ => yes (hP D')))
theorem lw_52 (hP : ∀ D', P 1 D') : ∀ (r k T : Nat) (A : Ab) (D : DM), k + r = 36 → T ≤ 300 * k → GA T A → Bo T A D → wL_law_L52 L xs P (r + 1) 1 (Int32.ofNat k) D := by
  intro r
  induction r with
  | zero =>
    intro k T A D hk hT g S
    have hk : k = 36 := hk
    subst hk
    exact ⟨fun _ => lw_276 g (by omega) S hP, fun q => absurd (by decide) q⟩
  | succ r ih =>
    intro k T A D hk hT g S
    have m18 : Int32.ofNat k - Int32.ofNat k / 18 * 18 = Int32.ofNat (k % 18) := nn_rem2 (b := 18) (by omega) (by decide) (by decide)
    have m4 : Int32.ofNat k - Int32.ofNat k / 4 * 4 = Int32.ofNat (k % 4) := nn_rem2 (b := 4) (by omega) (by decide) (by decide)
    have m6 : Int32.ofNat k - Int32.ofNat k / 6 * 6 = Int32.ofNat (k % 6) := nn_rem2 (b := 6) (by omega) (by decide) (by decide)
    have k2 : 2 * Int32.ofNat k = Int32.ofNat (2 * k) := nn_m 2 k
    refine ⟨fun q => absurd q (nge (b := 36) (by omega) (by decide)), fun _ => yes ?_⟩
    rw [k2, nn_s]
    refine q_draw (by omega) (fun X hX => q_draw (by omega) (fun Y hY => ⟨fun q => ?_, fun q => ?_⟩))
    · -- an act
      obtain ⟨v, A1, g1, sp⟩ := q_act g (by omega) hX hY
      refine sp D.1 _ S.1 (fun M1 S1 _ => sp D.2 _ S.2 (fun M2 S2 _ => eqk rfl ?_))
      have l242 : ∀ (T' : Nat) (A' : Ab) (D' : DM), T' ≤ 300 * (k + 1) → GA T' A' → Bo T' A' D' → wL_law_L242 L xs P (fun v3' v4' D' => wL_law_L52 L xs P (r + 1) v3' v4' D') 1 (Int32.ofNat k) (Int32.ofNat Y) D' := by
        intro T' A' D' hT' g' S'
        obtain ⟨n, I, E⟩ := g'.1
        refine yes ⟨fun _ => ?_, fun _ => q_alike I (by omega) hY S' (fun D2 S2 => yes ?_)⟩
        · rw [nn_s]
          exact ih (k + 1) T' A' D' (by omega) hT' g' S'
        · rw [nn_s]
          exact ih (k + 1) T' A' D2 (by omega) hT' g' S2
      have l193 : ∀ D' : DM, Bo (T + 60) A1 D' → wL_law_L193 L xs P (fun v3' v4' D' => wL_law_L52 L xs P (r + 1) v3' v4' D') 1 (Int32.ofNat k) (Int32.ofNat Y) D' := by
        intro D' S'
        refine ⟨fun _ => l242 (T + 60) A1 D' (by omega) g1 S', fun _ => yes ?_⟩
        have gg := g1.1
        obtain ⟨n, I, E⟩ := g1.1
        obtain ⟨m, h, s, tt⟩ := A1
        refine q_follows I E (by omega) hY S'.2 (fun M3 S3 => yes ?_)
        refine q_save (A := (m, h, s, tt)) (s := 1) I (by decide) D'.1 _ S'.1 (fun M4 S4 _ => ltn ?_ ?_)
        · rw [i64]
          show (0 : Int) ≤ (m 1).toInt
          have z1 : 0 ≤ (m 4).toInt := E.2.1
          have z2 : (m 4).toInt ≤ (m 1).toInt := E.2.2.1
          omega
        refine q_restore (A := (m, h, (fun i => if i = 1 then some m else s i), tt)) (s := 1) (r := m) (by decide) rfl M4 _ S4 (fun M5 S5 _ => ltn ?_ ?_)
        · rw [i64]
          show (0 : Int) ≤ (m 1).toInt
          have z1 : 0 ≤ (m 4).toInt := E.2.1
          have z2 : (m 4).toInt ≤ (m 1).toInt := E.2.2.1
          omega
        refine l242 (T + 60 + 240) (m, h00, (fun i => if i = 1 then some m else s i), tt) (M5, M3) (by omega) ⟨gg.mono (by omega), fun k hk => absurd hk (Nat.not_lt_zero k), fun i r hi e => ?_⟩ ⟨S5.mono (by omega), S3⟩
        have e : (if i = 1 then some m else s i) = some r := e
        by_cases c : i = 1
        · rw [if_pos c] at e
          rw [← Option.some.inj e]
          exact gg.mono (by omega)
        · rw [if_neg c] at e
          exact (g1.2.2 i r hi e).mono (by omega)
      refine ⟨fun _ => l193 (M1, M2) ⟨S1, S2⟩, fun _ => yes ?_⟩
      obtain ⟨n, I, E⟩ := g1.1
      refine q_errors I S2 (fun M3 S3 => yes ?_)
      exact q_kept I E (by omega) S3 (fun M4 S4 => yes (l193 (M1, M4) ⟨S1, S4⟩))
    · -- a told station
      obtain ⟨m, h, s, tt⟩ := A
      obtain ⟨l, row, n, e1, I, E, tl⟩ := q_tells (T := T) (m := m) (h := h) (s := s) (tt := tt) hX hY
      refine tl D.1 _ S.1 (fun M1 S1 => yes (tl D.2 _ S.2 (fun M2 S2 => yes ?_)))
      refine q_load (A := (m, h, s, txl l)) e1 M1 _ S1 (fun M3 S3 _ => q_load (A := (m, h, s, txl l)) e1 M2 _ S2 (fun M4 S4 _ => eqk rfl ?_))
      rw [nn_s]
      exact ih (k + 1) T (row, h00, (fun _ => none), txl l) (M3, M4) (by omega) (by omega) ⟨⟨n, I.mono (Nat.zero_le _), E.mono (Nat.zero_le _)⟩, fun k hk => absurd hk (Nat.not_lt_zero k), fun i r hi e => by cases e⟩ ⟨S3, S4⟩
end
theorem law_pure (L : Nat) (xs : Nat → Int32) (hL : L ≤ 260) : wL_law L xs (M0, M0) (fun _ _ => True) := by
  have I : Inv 0 0 A0.1 := clr_inv _
  have E : Ex 0 0 A0.1 := Ex.r0
  refine q_draw (a := 0) (by decide) (fun X hX => ?_)
  refine q_alike I (by decide) hX ⟨AR0, AR0⟩ (fun D S => yes ?_)
  refine q_errors I S.1 (fun M1 S1 => yes ?_)
  refine q_kept I E (by decide) S1 (fun M2 S2 => yes ?_)
  exact lw_52 (fun _ => trivial) 36 0 0 A0 (M2, D.2) (by omega) (by omega) GA0 ⟨S2, S.2⟩
