/-! a value that keeps all -/
def GR (T : Nat) (m : Row) : Prop := ∃ n, Inv n T m ∧ Ex n T m
theorem GR.mono {T T' : Nat} {m : Row} (h : GR T m) (hT : T ≤ T') : GR T' m := by
  obtain ⟨n, I, E⟩ := h
  exact ⟨n, I.mono hT, E.mono hT⟩
def GA (T : Nat) (A : Ab) : Prop := GR T A.1 ∧ (∀ k, k < A.2.1.1 → GR T (A.2.1.2 k)) ∧ ∀ i r, i < 2 → A.2.2.1 i = some r → GR T r
theorem GA.mono {T T' : Nat} {A : Ab} (h : GA T A) (hT : T ≤ T') : GA T' A := ⟨h.1.mono hT, fun k hk => (h.2.1 k hk).mono hT, fun i r hi e => (h.2.2 i r hi e).mono hT⟩
theorem GA.act {T T' : Nat} {A : Ab} {row' : Row} (h : GA T A) (hT : T ≤ T') (hr : GR T' row') : GA T' (row', pushH A.2.1 A.1, A.2.2.1, A.2.2.2) :=
  ⟨hr, fun k hk => (push_ok (Q := fun (_ : Row) b => GR T b) (f := A.2.1.2) (x := A.1) h.2.1 h.1 k hk).mono hT, fun i r hi e => (h.2.2 i r hi e).mono hT⟩
theorem Sp.mono {w : Mem → (Int64 → Mem → Prop) → Prop} {T T' T'' : Nat} {A A' : Ab} {v : Int64} (h : Sp w T A T' v A') (hT : T' ≤ T'') : Sp w T A T'' v A' := fun M P S hP => h M P S (fun M' S' e => hP M' (S'.mono hT) e)
/-- a call that keeps all -/
def Ca (w : Mem → (Int64 → Mem → Prop) → Prop) (T : Nat) (A : Ab) : Prop := ∃ v A', GA (T + 60) A' ∧ Sp w T A (T + 60) v A'
theorem Ca.of {w : Mem → (Int64 → Mem → Prop) → Prop} {T T' : Nat} {A A' : Ab} {v : Int64} (g : GA T' A') (h : Sp w T A T' v A') (hT : T' ≤ T + 60) : Ca w T A := ⟨v, A', g.mono hT, h.mono hT⟩
section
variable {T : Nat} {A : Ab}
theorem a_room (g : GA T A) (hT : T + 60 ≤ 100000) {t wa ra le : Nat} (ok : AddOk (Int32.ofNat t) (Int32.ofNat wa) (Int32.ofNat ra) (Int32.ofNat le)) : Ca (wL_addRoom (Int32.ofNat t) (Int32.ofNat wa) (Int32.ofNat ra) (Int32.ofNat le)) T A := by
  obtain ⟨n, I, E⟩ := g.1
  by_cases h6 : n < 6
  · exact Ca.of (g.act (Nat.le_refl _) ⟨n + 1, I.addr h6 ok.1, E.add I h6 ok (by omega)⟩) (q_addRoom I ok h6) (by omega)
  · have e : n = 6 := by have := I.1.1; omega
    subst e
    exact Ca.of g (b_addRoom2 I ok) (by omega)
theorem a_setRoom (g : GA T A) {i k : Nat} {x : Int32} (hk : k < 1000) (hi : i < 1000) : Ca (wL_setRoom (Int32.ofNat i) (Int32.ofNat k) x) T A := by
  obtain ⟨n, I, E⟩ := g.1
  by_cases h : i < n
  · by_cases ok : k < 3 ∧ RoomOk k x
    · exact Ca.of (g.act (Nat.le_refl _) ⟨n, I.cell h ok.1, E.cell h ok.1 ok.2⟩) (q_setRoom I h ok.1 ok.2) (by omega)
    · exact Ca.of g (b_setRoom2 I h (bad_r hk ok)) (by omega)
  · exact Ca.of g (b_setRoom1 I (by rw [ti_nat (by omega)]; omega)) (by omega)
theorem a_window (g : GA T A) {i : Nat} {b : Int32} (hi : i < 1000) (hb : b = 0 ∨ b = 1) : Ca (wL_window (Int32.ofNat i) b) T A := by
  obtain ⟨n, I, E⟩ := g.1
  by_cases h : i < n
  · exact Ca.of (g.act (Nat.le_refl _) ⟨n, I.win h hb, E.win h⟩) (q_window I h hb) (by omega)
  · exact Ca.of g (b_window I (by rw [ti_nat (by omega)]; omega)) (by omega)
theorem a_set (g : GA T A) {k : Nat} {x : Int32} (hk : k < 9) : Ca (wL_set (Int32.ofNat k) x) T A := by
  obtain ⟨n, I, E⟩ := g.1
  by_cases ok : SetOk k x
  · exact Ca.of (g.act (Nat.le_refl _) ⟨n, I.set hk ok, E.set hk ok⟩) (q_set I hk ok) (by omega)
  · exact Ca.of g (b_set (bad_s hk ok)) (by omega)
theorem a_out (g : GA T A) {d : Int32} (hd : -20 ≤ d.toInt ∧ d.toInt ≤ 40) : Ca (wL_outside d) T A := by
  obtain ⟨n, I, E⟩ := g.1
  exact Ca.of (g.act (Nat.le_refl _) ⟨n, I.out hd.1 hd.2, E.out hd.1 hd.2⟩) (q_outside I hd) (by omega)
theorem a_pass (g : GA T A) (hT : T + 60 ≤ 100000) {k : Nat} (h1 : 1 ≤ k) (hk : k ≤ 60) : Ca (wL_pass (Int32.ofNat k)) T A := by
  obtain ⟨n, I, E⟩ := g.1
  exact Ca.of (g.act (T' := T + 60) (by omega) ⟨n, (I.mns k (by omega)).mono (by omega), (E.mns I k (by omega)).mono (by omega)⟩) (q_pass I (by omega) h1 hk) (by omega)
theorem a_undo (g : GA T A) : Ca wL_undo T A := by
  cases e : A.2.1.1 with
  | zero => exact Ca.of g (b_undo e) (by omega)
  | succ b => exact Ca.of (A' := (A.2.1.2 b, (b, A.2.1.2), A.2.2.1, A.2.2.2)) ⟨g.2.1 b (by omega), fun k hk => g.2.1 k (by have hk : k < b := hk; omega), g.2.2⟩ (q_undo e) (by omega)
theorem a_save (g : GA T A) {s : Nat} (hs : s < 2) : Ca (wL_save (Int32.ofNat s)) T A := by
  have g1 := g.1
  obtain ⟨n, I, E⟩ := g.1
  refine Ca.of (A' := (A.1, A.2.1, (fun i => if i = s then some A.1 else A.2.2.1 i), A.2.2.2)) ⟨g1, g.2.1, fun i r hi e => ?_⟩ (q_save I hs) (by omega)
  have e : (if i = s then some A.1 else A.2.2.1 i) = some r := e
  by_cases c : i = s
  · rw [if_pos c] at e
    rw [← Option.some.inj e]
    exact g1
  · rw [if_neg c] at e
    exact g.2.2 i r hi e
theorem a_restore (g : GA T A) {s : Nat} (hs : s < 2) : Ca (wL_restore (Int32.ofNat s)) T A := by
  cases e : A.2.2.1 s with
  | none => exact Ca.of g (b_restore2 hs e) (by omega)
  | some r => exact Ca.of (A' := (r, h00, A.2.2.1, A.2.2.2)) ⟨g.2.2 s r hs e, fun k hk => absurd hk (Nat.not_lt_zero k), g.2.2⟩ (q_restore hs e) (by omega)
theorem q_act {X Y : Nat} (g : GA T A) (hT : T + 60 ≤ 100000) (hX : X < 2147483648) (hY : Y < 2147483648) : Ca (wL_act (Int32.ofNat X) (Int32.ofNat Y)) T A := by
  have one : ∀ a : Nat, 1 + Int32.ofNat a = Int32.ofNat (1 + a) := fun a => by rw [show (1 : Int32) = Int32.ofNat 1 from rfl, nn_a]
  have x17 : Int32.ofNat X - Int32.ofNat X / 17 * 17 = Int32.ofNat (X % 17) := nn_rem2 (b := 17) hX (by decide) (by decide)
  have r2 : ∀ Z : Nat, Z < 2147483648 → Int32.ofNat Z - Int32.ofNat Z / 2 * 2 = Int32.ofNat (Z % 2) := fun Z hZ => nn_rem2 (b := 2) hZ (by decide) (by decide)
  have y2 : Int32.ofNat Y / 2 = Int32.ofNat (Y / 2) := nn_div2 (b := 2) hY (by decide) (by decide)
  have y9 : Int32.ofNat Y - Int32.ofNat Y / 9 * 9 = Int32.ofNat (Y % 9) := nn_rem2 (b := 9) hY (by decide) (by decide)
  have d9 : Int32.ofNat Y / 9 = Int32.ofNat (Y / 9) := nn_div2 (b := 9) hY (by decide) (by decide)
  have d144 : Int32.ofNat Y / 144 = Int32.ofNat (Y / 144) := nn_div2 (b := 144) hY (by decide) (by decide)
  have d1296 : Int32.ofNat Y / 1296 = Int32.ofNat (Y / 1296) := nn_div2 (b := 1296) hY (by decide) (by decide)
  have y6 : Int32.ofNat Y - Int32.ofNat Y / 6 * 6 = Int32.ofNat (Y % 6) := nn_rem2 (b := 6) hY (by decide) (by decide)
  have d6 : Int32.ofNat Y / 6 = Int32.ofNat (Y / 6) := nn_div2 (b := 6) hY (by decide) (by decide)
  have y61 : Int32.ofNat Y - Int32.ofNat Y / 61 * 61 = Int32.ofNat (Y % 61) := nn_rem2 (b := 61) hY (by decide) (by decide)
  have y60 : Int32.ofNat Y - Int32.ofNat Y / 60 * 60 = Int32.ofNat (Y % 60) := nn_rem2 (b := 60) hY (by decide) (by decide)
  -- the calls
  have kA : Ca (wL_addRoom (1 + (Int32.ofNat Y - Int32.ofNat Y / 9 * 9)) (10 + (Int32.ofNat Y / 9 - Int32.ofNat Y / 9 / 16 * 16)) (1 + (Int32.ofNat Y / 144 - Int32.ofNat Y / 144 / 9 * 9)) (Int32.ofNat Y / 1296 - Int32.ofNat Y / 1296 / 10 * 10)) T A := by
    have a2 : Int32.ofNat (Y / 9) - Int32.ofNat (Y / 9) / 16 * 16 = Int32.ofNat (Y / 9 % 16) := nn_rem2 (b := 16) (by omega) (by decide) (by decide)
    have a3 : Int32.ofNat (Y / 144) - Int32.ofNat (Y / 144) / 9 * 9 = Int32.ofNat (Y / 144 % 9) := nn_rem2 (b := 9) (by omega) (by decide) (by decide)
    have a4 : Int32.ofNat (Y / 1296) - Int32.ofNat (Y / 1296) / 10 * 10 = Int32.ofNat (Y / 1296 % 10) := nn_rem2 (b := 10) (by omega) (by decide) (by decide)
    rw [y9, one, d9, a2, d144, a3, one, d1296, a4, show (10 : Int32) = Int32.ofNat 10 from rfl, nn_a]
    refine a_room g hT ?_
    unfold AddOk
    rw [ti_nat (by omega), ti_nat (by omega), ti_nat (by omega), ti_nat (by omega)]
    omega
  have kR : Ca (wL_setRoom (Int32.ofNat Y - Int32.ofNat Y / 6 * 6) (Int32.ofNat Y / 6 - Int32.ofNat Y / 6 / 3 * 3) (Int32.ofNat Y / 18 - Int32.ofNat Y / 18 / 26 * 26)) T A := by
    have a2 : Int32.ofNat (Y / 6) - Int32.ofNat (Y / 6) / 3 * 3 = Int32.ofNat (Y / 6 % 3) := nn_rem2 (b := 3) (by omega) (by decide) (by decide)
    rw [y6, d6, a2]
    exact a_setRoom g (by omega) (by omega)
  have kW : ∀ b : Int32, b = 0 ∨ b = 1 → Ca (wL_window (Int32.ofNat Y - Int32.ofNat Y / 6 * 6) b) T A := by
    intro b hb
    rw [y6]
    exact a_window g (by omega) hb
  have kS : Ca (wL_set (Int32.ofNat Y - Int32.ofNat Y / 9 * 9) (Int32.ofNat Y / 9 - Int32.ofNat Y / 9 / 81 * 81)) T A := by
    rw [y9]
    exact a_set g (by omega)
  have kO : Ca (wL_outside ((Int32.ofNat Y - Int32.ofNat Y / 61 * 61) - 20)) T A := by
    rw [y61]
    have e : (Int32.ofNat (Y % 61) - 20).toInt = ((Y % 61 : Nat) : Int) - 20 := by
      rw [ti_sub (by rw [ti_nat (by omega), i20]; omega) (by rw [ti_nat (by omega), i20]; omega), ti_nat (by omega), i20]
    refine a_out g ?_
    rw [e]
    omega
  have kP : Ca (wL_pass (1 + (Int32.ofNat Y - Int32.ofNat Y / 60 * 60))) T A := by
    rw [y60, one]
    exact a_pass g hT (by omega) (by omega)
  obtain ⟨s, s1, s2⟩ := and_nn (Int32.ofNat Y / 2) (k := 1) (by decide)
  have s2 : Int32.ofNat Y / 2 &&& 1 = Int32.ofNat s := s2
  have kV : Ca (wL_save (Int32.ofNat Y / 2 &&& 1)) T A := by
    rw [s2]
    exact a_save g (by omega)
  have kZ : Ca (wL_restore (Int32.ofNat Y / 2 &&& 1)) T A := by
    rw [s2]
    exact a_restore g (by omega)
  have hc : X % 17 < 17 := Nat.mod_lt _ (by decide)
  unfold Ca
  unfold wL_act
  rw [x17]
  generalize X % 17 = c at hc
  rcases (by omega : c = 0 ∨ c = 1 ∨ c = 2 ∨ c = 3 ∨ c = 4 ∨ c = 5 ∨ c = 6 ∨ c = 7 ∨ c = 8 ∨ c = 9 ∨ c = 10 ∨ c = 11 ∨ c = 12 ∨ c = 13 ∨ c = 14 ∨ c = 15 ∨ c = 16) with e | e | e | e | e | e | e | e | e | e | e | e | e | e | e | e | e <;> subst e
  · obtain ⟨v, A', g', sp⟩ := kA
    exact ⟨v, A', g', fun M P S hP => ⟨fun q => absurd q (by decide), fun _ => sp M P S hP, fun q => absurd q (by decide), fun q => absurd q (by decide), fun q => absurd q (by decide), fun q => absurd q (by decide), fun q => absurd q (by decide), fun q => absurd q (by decide), fun q => absurd q (by decide), fun q => absurd q (by decide), fun q => absurd q (by decide), fun q => absurd q (by decide), fun q => absurd q (by decide), fun q => absurd q (by decide), fun q => absurd q (by decide), fun q => absurd q (by decide), fun q => absurd q (by decide)⟩⟩
  · obtain ⟨v, A', g', sp⟩ := kA
    exact ⟨v, A', g', fun M P S hP => ⟨fun q => absurd q (by decide), fun q => absurd q (by decide), fun _ => sp M P S hP, fun q => absurd q (by decide), fun q => absurd q (by decide), fun q => absurd q (by decide), fun q => absurd q (by decide), fun q => absurd q (by decide), fun q => absurd q (by decide), fun q => absurd q (by decide), fun q => absurd q (by decide), fun q => absurd q (by decide), fun q => absurd q (by decide), fun q => absurd q (by decide), fun q => absurd q (by decide), fun q => absurd q (by decide), fun q => absurd q (by decide)⟩⟩
  · obtain ⟨v, A', g', sp⟩ := kR
    exact ⟨v, A', g', fun M P S hP => ⟨fun q => absurd q (by decide), fun q => absurd q (by decide), fun q => absurd q (by decide), fun _ => sp M P S hP, fun q => absurd q (by decide), fun q => absurd q (by decide), fun q => absurd q (by decide), fun q => absurd q (by decide), fun q => absurd q (by decide), fun q => absurd q (by decide), fun q => absurd q (by decide), fun q => absurd q (by decide), fun q => absurd q (by decide), fun q => absurd q (by decide), fun q => absurd q (by decide), fun q => absurd q (by decide), fun q => absurd q (by decide)⟩⟩
  · obtain ⟨v, A', g', sp⟩ := kR
    exact ⟨v, A', g', fun M P S hP => ⟨fun q => absurd q (by decide), fun q => absurd q (by decide), fun q => absurd q (by decide), fun q => absurd q (by decide), fun _ => sp M P S hP, fun q => absurd q (by decide), fun q => absurd q (by decide), fun q => absurd q (by decide), fun q => absurd q (by decide), fun q => absurd q (by decide), fun q => absurd q (by decide), fun q => absurd q (by decide), fun q => absurd q (by decide), fun q => absurd q (by decide), fun q => absurd q (by decide), fun q => absurd q (by decide), fun q => absurd q (by decide)⟩⟩
  · by_cases z : (Int32.ofNat Y / 6) - (Int32.ofNat Y / 6) / 2 * 2 = 0
    · obtain ⟨v, A', g', sp⟩ := kW 1 (Or.inr rfl)
      exact ⟨v, A', g', fun M P S hP => ⟨fun q => absurd q (by decide), fun q => absurd q (by decide), fun q => absurd q (by decide), fun q => absurd q (by decide), fun q => absurd q (by decide), fun _ => ⟨fun q => absurd z q, fun _ => sp M P S hP⟩, fun q => absurd q (by decide), fun q => absurd q (by decide), fun q => absurd q (by decide), fun q => absurd q (by decide), fun q => absurd q (by decide), fun q => absurd q (by decide), fun q => absurd q (by decide), fun q => absurd q (by decide), fun q => absurd q (by decide), fun q => absurd q (by decide), fun q => absurd q (by decide)⟩⟩
    · obtain ⟨v, A', g', sp⟩ := kW 0 (Or.inl rfl)
      exact ⟨v, A', g', fun M P S hP => ⟨fun q => absurd q (by decide), fun q => absurd q (by decide), fun q => absurd q (by decide), fun q => absurd q (by decide), fun q => absurd q (by decide), fun _ => ⟨fun _ => sp M P S hP, fun q => absurd q z⟩, fun q => absurd q (by decide), fun q => absurd q (by decide), fun q => absurd q (by decide), fun q => absurd q (by decide), fun q => absurd q (by decide), fun q => absurd q (by decide), fun q => absurd q (by decide), fun q => absurd q (by decide), fun q => absurd q (by decide), fun q => absurd q (by decide), fun q => absurd q (by decide)⟩⟩
  · by_cases z : (Int32.ofNat Y / 6) - (Int32.ofNat Y / 6) / 2 * 2 = 0
    · obtain ⟨v, A', g', sp⟩ := kW 1 (Or.inr rfl)
      exact ⟨v, A', g', fun M P S hP => ⟨fun q => absurd q (by decide), fun q => absurd q (by decide), fun q => absurd q (by decide), fun q => absurd q (by decide), fun q => absurd q (by decide), fun q => absurd q (by decide), fun _ => ⟨fun q => absurd z q, fun _ => sp M P S hP⟩, fun q => absurd q (by decide), fun q => absurd q (by decide), fun q => absurd q (by decide), fun q => absurd q (by decide), fun q => absurd q (by decide), fun q => absurd q (by decide), fun q => absurd q (by decide), fun q => absurd q (by decide), fun q => absurd q (by decide), fun q => absurd q (by decide)⟩⟩
    · obtain ⟨v, A', g', sp⟩ := kW 0 (Or.inl rfl)
      exact ⟨v, A', g', fun M P S hP => ⟨fun q => absurd q (by decide), fun q => absurd q (by decide), fun q => absurd q (by decide), fun q => absurd q (by decide), fun q => absurd q (by decide), fun q => absurd q (by decide), fun _ => ⟨fun _ => sp M P S hP, fun q => absurd q z⟩, fun q => absurd q (by decide), fun q => absurd q (by decide), fun q => absurd q (by decide), fun q => absurd q (by decide), fun q => absurd q (by decide), fun q => absurd q (by decide), fun q => absurd q (by decide), fun q => absurd q (by decide), fun q => absurd q (by decide), fun q => absurd q (by decide)⟩⟩
  · obtain ⟨v, A', g', sp⟩ := kS
    exact ⟨v, A', g', fun M P S hP => ⟨fun q => absurd q (by decide), fun q => absurd q (by decide), fun q => absurd q (by decide), fun q => absurd q (by decide), fun q => absurd q (by decide), fun q => absurd q (by decide), fun q => absurd q (by decide), fun _ => sp M P S hP, fun q => absurd q (by decide), fun q => absurd q (by decide), fun q => absurd q (by decide), fun q => absurd q (by decide), fun q => absurd q (by decide), fun q => absurd q (by decide), fun q => absurd q (by decide), fun q => absurd q (by decide), fun q => absurd q (by decide)⟩⟩
  · obtain ⟨v, A', g', sp⟩ := kS
    exact ⟨v, A', g', fun M P S hP => ⟨fun q => absurd q (by decide), fun q => absurd q (by decide), fun q => absurd q (by decide), fun q => absurd q (by decide), fun q => absurd q (by decide), fun q => absurd q (by decide), fun q => absurd q (by decide), fun q => absurd q (by decide), fun _ => sp M P S hP, fun q => absurd q (by decide), fun q => absurd q (by decide), fun q => absurd q (by decide), fun q => absurd q (by decide), fun q => absurd q (by decide), fun q => absurd q (by decide), fun q => absurd q (by decide), fun q => absurd q (by decide)⟩⟩
  · obtain ⟨v, A', g', sp⟩ := kO
    exact ⟨v, A', g', fun M P S hP => ⟨fun q => absurd q (by decide), fun q => absurd q (by decide), fun q => absurd q (by decide), fun q => absurd q (by decide), fun q => absurd q (by decide), fun q => absurd q (by decide), fun q => absurd q (by decide), fun q => absurd q (by decide), fun q => absurd q (by decide), fun _ => sp M P S hP, fun q => absurd q (by decide), fun q => absurd q (by decide), fun q => absurd q (by decide), fun q => absurd q (by decide), fun q => absurd q (by decide), fun q => absurd q (by decide), fun q => absurd q (by decide)⟩⟩
  · obtain ⟨v, A', g', sp⟩ := kO
    exact ⟨v, A', g', fun M P S hP => ⟨fun q => absurd q (by decide), fun q => absurd q (by decide), fun q => absurd q (by decide), fun q => absurd q (by decide), fun q => absurd q (by decide), fun q => absurd q (by decide), fun q => absurd q (by decide), fun q => absurd q (by decide), fun q => absurd q (by decide), fun q => absurd q (by decide), fun _ => sp M P S hP, fun q => absurd q (by decide), fun q => absurd q (by decide), fun q => absurd q (by decide), fun q => absurd q (by decide), fun q => absurd q (by decide), fun q => absurd q (by decide)⟩⟩
  · obtain ⟨v, A', g', sp⟩ := kP
    exact ⟨v, A', g', fun M P S hP => ⟨fun q => absurd q (by decide), fun q => absurd q (by decide), fun q => absurd q (by decide), fun q => absurd q (by decide), fun q => absurd q (by decide), fun q => absurd q (by decide), fun q => absurd q (by decide), fun q => absurd q (by decide), fun q => absurd q (by decide), fun q => absurd q (by decide), fun q => absurd q (by decide), fun _ => sp M P S hP, fun q => absurd q (by decide), fun q => absurd q (by decide), fun q => absurd q (by decide), fun q => absurd q (by decide), fun q => absurd q (by decide)⟩⟩
  · obtain ⟨v, A', g', sp⟩ := kP
    exact ⟨v, A', g', fun M P S hP => ⟨fun q => absurd q (by decide), fun q => absurd q (by decide), fun q => absurd q (by decide), fun q => absurd q (by decide), fun q => absurd q (by decide), fun q => absurd q (by decide), fun q => absurd q (by decide), fun q => absurd q (by decide), fun q => absurd q (by decide), fun q => absurd q (by decide), fun q => absurd q (by decide), fun q => absurd q (by decide), fun _ => sp M P S hP, fun q => absurd q (by decide), fun q => absurd q (by decide), fun q => absurd q (by decide), fun q => absurd q (by decide)⟩⟩
  · obtain ⟨v, A', g', sp⟩ := kP
    exact ⟨v, A', g', fun M P S hP => ⟨fun q => absurd q (by decide), fun q => absurd q (by decide), fun q => absurd q (by decide), fun q => absurd q (by decide), fun q => absurd q (by decide), fun q => absurd q (by decide), fun q => absurd q (by decide), fun q => absurd q (by decide), fun q => absurd q (by decide), fun q => absurd q (by decide), fun q => absurd q (by decide), fun q => absurd q (by decide), fun q => absurd q (by decide), fun _ => sp M P S hP, fun q => absurd q (by decide), fun q => absurd q (by decide), fun q => absurd q (by decide)⟩⟩
  · obtain ⟨v, A', g', sp⟩ := kP
    exact ⟨v, A', g', fun M P S hP => ⟨fun q => absurd q (by decide), fun q => absurd q (by decide), fun q => absurd q (by decide), fun q => absurd q (by decide), fun q => absurd q (by decide), fun q => absurd q (by decide), fun q => absurd q (by decide), fun q => absurd q (by decide), fun q => absurd q (by decide), fun q => absurd q (by decide), fun q => absurd q (by decide), fun q => absurd q (by decide), fun q => absurd q (by decide), fun q => absurd q (by decide), fun _ => sp M P S hP, fun q => absurd q (by decide), fun q => absurd q (by decide)⟩⟩
  · obtain ⟨v, A', g', sp⟩ := (a_undo g)
    exact ⟨v, A', g', fun M P S hP => ⟨fun q => absurd q (by decide), fun q => absurd q (by decide), fun q => absurd q (by decide), fun q => absurd q (by decide), fun q => absurd q (by decide), fun q => absurd q (by decide), fun q => absurd q (by decide), fun q => absurd q (by decide), fun q => absurd q (by decide), fun q => absurd q (by decide), fun q => absurd q (by decide), fun q => absurd q (by decide), fun q => absurd q (by decide), fun q => absurd q (by decide), fun q => absurd q (by decide), fun _ => sp M P S hP, fun q => absurd q (by decide)⟩⟩
  · obtain ⟨v, A', g', sp⟩ := (a_undo g)
    exact ⟨v, A', g', fun M P S hP => ⟨fun q => absurd q (by decide), fun q => absurd q (by decide), fun q => absurd q (by decide), fun q => absurd q (by decide), fun q => absurd q (by decide), fun q => absurd q (by decide), fun q => absurd q (by decide), fun q => absurd q (by decide), fun q => absurd q (by decide), fun q => absurd q (by decide), fun q => absurd q (by decide), fun q => absurd q (by decide), fun q => absurd q (by decide), fun q => absurd q (by decide), fun q => absurd q (by decide), fun q => absurd q (by decide), fun _ => sp M P S hP⟩⟩
  · by_cases z : Int32.ofNat Y - Int32.ofNat Y / 2 * 2 = 0
    · obtain ⟨v, A', g', sp⟩ := kV
      exact ⟨v, A', g', fun M P S hP => ⟨fun _ => ⟨fun q => absurd z q, fun _ => sp M P S hP⟩, fun q => absurd q (by decide), fun q => absurd q (by decide), fun q => absurd q (by decide), fun q => absurd q (by decide), fun q => absurd q (by decide), fun q => absurd q (by decide), fun q => absurd q (by decide), fun q => absurd q (by decide), fun q => absurd q (by decide), fun q => absurd q (by decide), fun q => absurd q (by decide), fun q => absurd q (by decide), fun q => absurd q (by decide), fun q => absurd q (by decide), fun q => absurd q (by decide), fun q => absurd q (by decide)⟩⟩
    · obtain ⟨v, A', g', sp⟩ := kZ
      exact ⟨v, A', g', fun M P S hP => ⟨fun _ => ⟨fun _ => sp M P S hP, fun q => absurd q z⟩, fun q => absurd q (by decide), fun q => absurd q (by decide), fun q => absurd q (by decide), fun q => absurd q (by decide), fun q => absurd q (by decide), fun q => absurd q (by decide), fun q => absurd q (by decide), fun q => absurd q (by decide), fun q => absurd q (by decide), fun q => absurd q (by decide), fun q => absurd q (by decide), fun q => absurd q (by decide), fun q => absurd q (by decide), fun q => absurd q (by decide), fun q => absurd q (by decide), fun q => absurd q (by decide)⟩⟩
end
