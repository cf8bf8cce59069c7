/-! sums -/
def sumh (m : Row) : Nat → Int32
  | 0 => 0
  | k + 1 => sumh m k + m (18 + k)
def sumq (m : Row) (q : Nat) : Nat → Int32
  | 0 => 0
  | k + 1 => sumq m q k + m (26 + 8 * k + q)
theorem sumc_q (m : Row) : ∀ k, sumq m 5 k = sumc m k := by
  intro k
  induction k with
  | zero => rfl
  | succ k ih =>
    show sumq m 5 k + m (26 + 8 * k + 5) = sumc m k + m (31 + 8 * k)
    rw [ih, show 26 + 8 * k + 5 = 31 + 8 * k by omega]
theorem c3_allHeat {n : Nat} {c : Reg} {m : Row} {P : Int32 → Reg → Prop} (R : RlM n c m) (hn : n ≤ 6) (h : P (sumh m (2 + n)) c) : wX3_allHeat c P := by
  have e8 := R.rooms
  have key : ∀ (r k : Nat), k + r = 2 + n → wX3_allHeat_L4 P (r + 1) (sumh m k) (Int32.ofNat k) c := by
    intro r
    induction r with
    | zero =>
      intro k hk
      have hk : k = 2 + n := hk
      subst hk
      exact ⟨fun _ => h, fun q => absurd (by rw [e8, ix_room]; exact Int32.le_refl _) q⟩
    | succ r ih =>
      intro k hk
      refine ⟨fun q => ?_, fun _ => ⟨fun q => ?_, fun _ => ⟨nn_in (by omega) (by omega), ?_⟩⟩⟩
      · rw [e8, ix_room, nn_le (by omega) (by omega)] at q
        omega
      · rw [show (8 : Int32) = Int32.ofNat 8 from rfl, nn_le (by omega) (by omega)] at q
        omega
      · rw [tn_nat (by omega), (R.2.2.1 k (by omega)).1, nn_s]
        exact ih (k + 1) (by omega)
  exact ⟨_, key (2 + n) 0 (by omega)⟩
theorem c3_allComfort {n : Nat} {c : Reg} {m : Row} {P : Int32 → Reg → Prop} (R : RlM n c m) (hn : n ≤ 6) (h : P (sumc m n) c) : wX3_allComfort c P := by
  have e8 := R.rooms
  have key : ∀ (r k : Nat), k + r = n → wX3_allComfort_L4 P (r + 1) (sumc m k) (Int32.ofNat k) c := by
    intro r
    induction r with
    | zero =>
      intro k hk
      have hk : k = n := hk
      subst hk
      exact ⟨fun _ => h, fun q => absurd (by rw [e8]; exact Int32.le_refl _) q⟩
    | succ r ih =>
      intro k hk
      have e4 := R.2.2.2.1 k 4 (by omega) (by decide)
      rw [show 27 + 8 * k + 4 = 31 + 8 * k by omega] at e4
      refine ⟨fun q => ?_, fun _ => ⟨fun q => ?_, fun _ => ⟨nn_in (by omega) (by omega), ?_⟩⟩⟩
      · rw [e8, nn_le (by omega) (by omega)] at q
        omega
      · rw [show (6 : Int32) = Int32.ofNat 6 from rfl, nn_le (by omega) (by omega)] at q
        omega
      · rw [tn_nat (by omega), e4, nn_s]
        exact ih (k + 1) (by omega)
  exact ⟨_, key n 0 (by omega)⟩
theorem c3_openWindows {n : Nat} {c : Reg} {m : Row} {P : Int32 → Reg → Prop} (R : RlM n c m) (hn : n ≤ 6) (W : ∀ i, i < n → m (30 + 8 * i) = 0 ∨ m (30 + 8 * i) = 1) (h : P (sumq m 4 n) c) : wX3_openWindows c P := by
  have e8 := R.rooms
  have key : ∀ (r k : Nat), k + r = n → wX3_openWindows_L4 P (r + 1) (sumq m 4 k) (Int32.ofNat k) c := by
    intro r
    induction r with
    | zero =>
      intro k hk
      have hk : k = n := hk
      subst hk
      exact ⟨fun _ => h, fun q => absurd (by rw [e8]; exact Int32.le_refl _) q⟩
    | succ r ih =>
      intro k hk
      have e3 := R.2.2.2.1 k 3 (by omega) (by decide)
      rw [show 27 + 8 * k + 3 = 30 + 8 * k by omega] at e3
      have hs := ih (k + 1) (by omega)
      have es : sumq m 4 (k + 1) = sumq m 4 k + m (30 + 8 * k) := by
        show sumq m 4 k + m (26 + 8 * k + 4) = _
        rw [show 26 + 8 * k + 4 = 30 + 8 * k by omega]
      rw [es, ← nn_s] at hs
      refine ⟨fun q => ?_, fun _ => ⟨fun q => ?_, fun _ => ⟨nn_in (by omega) (by omega), ?_⟩⟩⟩
      · rw [e8, nn_le (by omega) (by omega)] at q
        omega
      · rw [show (6 : Int32) = Int32.ofNat 6 from rfl, nn_le (by omega) (by omega)] at q
        omega
      · rw [tn_nat (by omega), e3]
        refine ⟨fun q => ?_, fun q => ?_⟩
        · rw [q] at hs; exact hs
        · rw [(W k (by omega)).resolve_left q] at hs; exact hs
  exact ⟨_, key n 0 (by omega)⟩
theorem s3_sumBetween {n f t : Nat} {c : Reg} {m : Row} {P : Int32 → Reg → Prop} (G1 : Gd n m) (R : RlM n c m) (hf : f ≤ 9) (ht : t ≤ 9) (h : P (amt m f t) c) : wX1_sumBetween (Int32.ofNat f) (Int32.ofNat t) c P := by
  have hw := G1.2.2.1
  have hd := G1.2.2.2.2.1
  obtain ⟨h1, h2, h3⟩ := R.2.2.2.2
  have key : ∀ (r k : Nat), k + r = wy m → (∀ k', k' < k → ¬ m (75 + 2 * k') = codeOf f t) → wX1_sumBetween_L2 (Int32.ofNat f) (Int32.ofNat t) P (r + 1) (Int32.ofNat k) c := by
    intro r
    induction r with
    | zero =>
      intro k hk hno
      have hk : k = wy m := hk
      have e : amt m f t = 0 := by unfold amt; rw [lasti_nil (by rw [← hk]; exact hno)]; rfl
      rw [e] at h
      exact ⟨fun _ => h, fun q => absurd (by rw [h1, hk]; exact Int32.le_refl _) q⟩
    | succ r ih =>
      intro k hk hno
      obtain ⟨f', t', g1, g2, g3, g4, g5, g6⟩ := h3 k (by omega)
      have hnext : ¬ (f' = f ∧ t' = t) → wX1_sumBetween_L2 (Int32.ofNat f) (Int32.ofNat t) P (r + 1) (Int32.ofNat k + 1) c := by
        intro hne
        rw [nn_s]
        refine ih (k + 1) (by omega) (fun k' hk' => ?_)
        rcases Nat.lt_succ_iff_lt_or_eq.mp hk' with q | q
        · exact hno k' q
        · subst q
          rw [g5]
          exact fun e => hne (codeOf_inj g1 g2 hf ht e)
      have ein : vp_in (Int32.ofNat k) 26 := nn_in (by omega) (by omega)
      refine ⟨fun q => ?_, fun _ => ⟨fun q => ?_, fun _ => ⟨ein, ?_⟩⟩⟩
      · rw [h1, nn_le (by omega) (by omega)] at q
        omega
      · rw [show (26 : Int32) = Int32.ofNat 26 from rfl, nn_le (by omega) (by omega)] at q
        omega
      · rw [tn_nat (by omega), g3, g4]
        refine ⟨fun q => hnext (fun e => q (by rw [e.1])), fun q => ⟨ein, fun q2 => hnext (fun e => q2 (by rw [e.2])), fun q2 => ⟨ein, ?_⟩⟩⟩
        have ef := (nn_eq (by omega) (by omega)).mp q
        have et := (nn_eq (by omega) (by omega)).mp q2
        subst ef
        subst et
        have hl := lasti_of hd (show k < wy m by omega) g5
        have e : amt m f' t' = m (76 + 2 * k) := by unfold amt; rw [hl]; rfl
        rw [e] at h
        rw [g6]
        exact h
  exact ⟨_, key (wy m) 0 (by omega) (fun k' hk' => by omega)⟩
/-! about -/
def aboutf (n : Nat) (m : Row) : Nat → Int32
  | 0 => m 0
  | 1 => m 1
  | 2 => m 2
  | 3 => m 3
  | 4 => m 1 - m 4
  | 5 => m 5
  | 6 => m 6
  | 7 => m 7
  | 8 => wishf m
  | 9 => m 8
  | 10 => sumh m (2 + n)
  | 11 => m 74
  | _ => sumc m n
theorem k5_about {n k : Nat} {M : Mem} {m : Row} {P : Int32 → Mem → Prop} {X : String → Mem → Prop} (R : RlM n (M 0) m) (G1 : Gd n m) (h3 : m 3 = 0 ∨ m 3 = 1) (h6 : m 6 = 0 ∨ m 6 = 1) (hk : k < 13) (h : P (aboutf n m k) M) : wX5_about (Int32.ofNat k) M P X := by
  obtain ⟨r0, r1, r2, r3, r4, r5, r6, r7, r8, r9⟩ := R.1
  rcases (by omega : k = 0 ∨ k = 1 ∨ k = 2 ∨ k = 3 ∨ k = 4 ∨ k = 5 ∨ k = 6 ∨ k = 7 ∨ k = 8 ∨ k = 9 ∨ k = 10 ∨ k = 11 ∨ k = 12) with e | e | e | e | e | e | e | e | e | e | e | e | e <;> subst e
  · refine ⟨fun q => absurd q (by decide), fun _ => ?_, fun q => absurd q (by decide), fun q => absurd q (by decide), fun q => absurd q (by decide), fun q => absurd q (by decide), fun q => absurd q (by decide), fun q => absurd q (by decide), fun q => absurd q (by decide), fun q => absurd q (by decide), fun q => absurd q (by decide), fun q => absurd q (by decide), fun q => absurd q (by decide), fun q => absurd q (by decide)⟩
    exact by rw [r8, ← r9]; exact h
  · refine ⟨fun q => absurd q (by decide), fun q => absurd q (by decide), fun _ => ?_, fun q => absurd q (by decide), fun q => absurd q (by decide), fun q => absurd q (by decide), fun q => absurd q (by decide), fun q => absurd q (by decide), fun q => absurd q (by decide), fun q => absurd q (by decide), fun q => absurd q (by decide), fun q => absurd q (by decide), fun q => absurd q (by decide), fun q => absurd q (by decide)⟩
    exact by rw [r0]; exact h
  · refine ⟨fun q => absurd q (by decide), fun q => absurd q (by decide), fun q => absurd q (by decide), fun _ => ?_, fun q => absurd q (by decide), fun q => absurd q (by decide), fun q => absurd q (by decide), fun q => absurd q (by decide), fun q => absurd q (by decide), fun q => absurd q (by decide), fun q => absurd q (by decide), fun q => absurd q (by decide), fun q => absurd q (by decide), fun q => absurd q (by decide)⟩
    exact by rw [r1]; exact h
  · refine ⟨fun q => absurd q (by decide), fun q => absurd q (by decide), fun q => absurd q (by decide), fun q => absurd q (by decide), fun _ => ?_, fun q => absurd q (by decide), fun q => absurd q (by decide), fun q => absurd q (by decide), fun q => absurd q (by decide), fun q => absurd q (by decide), fun q => absurd q (by decide), fun q => absurd q (by decide), fun q => absurd q (by decide), fun q => absurd q (by decide)⟩
    exact by
      rw [r2]
      refine ⟨fun q => ?_, fun q => ?_⟩
      · have e : aboutf n m 3 = 0 := q
        rw [e] at h; exact h
      · have e : aboutf n m 3 = 1 := h3.resolve_left q
        rw [e] at h; exact h
  · refine ⟨fun q => absurd q (by decide), fun q => absurd q (by decide), fun q => absurd q (by decide), fun q => absurd q (by decide), fun q => absurd q (by decide), fun _ => ?_, fun q => absurd q (by decide), fun q => absurd q (by decide), fun q => absurd q (by decide), fun q => absurd q (by decide), fun q => absurd q (by decide), fun q => absurd q (by decide), fun q => absurd q (by decide), fun q => absurd q (by decide)⟩
    exact by rw [r3]; exact h
  · refine ⟨fun q => absurd q (by decide), fun q => absurd q (by decide), fun q => absurd q (by decide), fun q => absurd q (by decide), fun q => absurd q (by decide), fun q => absurd q (by decide), fun _ => ?_, fun q => absurd q (by decide), fun q => absurd q (by decide), fun q => absurd q (by decide), fun q => absurd q (by decide), fun q => absurd q (by decide), fun q => absurd q (by decide), fun q => absurd q (by decide)⟩
    exact by rw [r5]; exact h
  · refine ⟨fun q => absurd q (by decide), fun q => absurd q (by decide), fun q => absurd q (by decide), fun q => absurd q (by decide), fun q => absurd q (by decide), fun q => absurd q (by decide), fun q => absurd q (by decide), fun _ => ?_, fun q => absurd q (by decide), fun q => absurd q (by decide), fun q => absurd q (by decide), fun q => absurd q (by decide), fun q => absurd q (by decide), fun q => absurd q (by decide)⟩
    exact by
      rw [r6]
      refine ⟨fun q => ?_, fun q => ?_⟩
      · have e : aboutf n m 6 = 0 := q
        rw [e] at h; exact h
      · have e : aboutf n m 6 = 1 := h6.resolve_left q
        rw [e] at h; exact h
  · refine ⟨fun q => absurd q (by decide), fun q => absurd q (by decide), fun q => absurd q (by decide), fun q => absurd q (by decide), fun q => absurd q (by decide), fun q => absurd q (by decide), fun q => absurd q (by decide), fun q => absurd q (by decide), fun _ => ?_, fun q => absurd q (by decide), fun q => absurd q (by decide), fun q => absurd q (by decide), fun q => absurd q (by decide), fun q => absurd q (by decide)⟩
    exact by rw [r7]; exact h
  · refine ⟨fun q => absurd q (by decide), fun q => absurd q (by decide), fun q => absurd q (by decide), fun q => absurd q (by decide), fun q => absurd q (by decide), fun q => absurd q (by decide), fun q => absurd q (by decide), fun q => absurd q (by decide), fun q => absurd q (by decide), fun _ => ?_, fun q => absurd q (by decide), fun q => absurd q (by decide), fun q => absurd q (by decide), fun q => absurd q (by decide)⟩
    exact s3_loopShouldHave R (by rw [va_ue]; exact h)
  · refine ⟨fun q => absurd q (by decide), fun q => absurd q (by decide), fun q => absurd q (by decide), fun q => absurd q (by decide), fun q => absurd q (by decide), fun q => absurd q (by decide), fun q => absurd q (by decide), fun q => absurd q (by decide), fun q => absurd q (by decide), fun q => absurd q (by decide), fun _ => ?_, fun q => absurd q (by decide), fun q => absurd q (by decide), fun q => absurd q (by decide)⟩
    exact by rw [r4]; exact h
  · refine ⟨fun q => absurd q (by decide), fun q => absurd q (by decide), fun q => absurd q (by decide), fun q => absurd q (by decide), fun q => absurd q (by decide), fun q => absurd q (by decide), fun q => absurd q (by decide), fun q => absurd q (by decide), fun q => absurd q (by decide), fun q => absurd q (by decide), fun q => absurd q (by decide), fun _ => ?_, fun q => absurd q (by decide), fun q => absurd q (by decide)⟩
    exact c3_allHeat R G1.1 (by rw [va_ue]; exact h)
  · refine ⟨fun q => absurd q (by decide), fun q => absurd q (by decide), fun q => absurd q (by decide), fun q => absurd q (by decide), fun q => absurd q (by decide), fun q => absurd q (by decide), fun q => absurd q (by decide), fun q => absurd q (by decide), fun q => absurd q (by decide), fun q => absurd q (by decide), fun q => absurd q (by decide), fun q => absurd q (by decide), fun _ => ?_, fun q => absurd q (by decide)⟩
    exact by rw [R.2.2.2.2.1, ← R.2.2.2.2.2.1]; exact h
  · refine ⟨fun q => absurd q (by decide), fun q => absurd q (by decide), fun q => absurd q (by decide), fun q => absurd q (by decide), fun q => absurd q (by decide), fun q => absurd q (by decide), fun q => absurd q (by decide), fun q => absurd q (by decide), fun q => absurd q (by decide), fun q => absurd q (by decide), fun q => absurd q (by decide), fun q => absurd q (by decide), fun q => absurd q (by decide), fun _ => ?_⟩
    exact c3_allComfort R G1.1 (by rw [va_ue]; exact h)
theorem x5_about {a : Int32} {M : Mem} {P : Int32 → Mem → Prop} {X : String → Mem → Prop} (ha : ¬ (0 ≤ a.toInt ∧ a.toInt < (13 : Nat))) (h : X eIAE M) : wX5_about a M P X :=
  ⟨fun _ => h, fun q => absurd (by rw [q]; decide) ha, fun q => absurd (by rw [q]; decide) ha, fun q => absurd (by rw [q]; decide) ha, fun q => absurd (by rw [q]; decide) ha, fun q => absurd (by rw [q]; decide) ha, fun q => absurd (by rw [q]; decide) ha, fun q => absurd (by rw [q]; decide) ha, fun q => absurd (by rw [q]; decide) ha, fun q => absurd (by rw [q]; decide) ha, fun q => absurd (by rw [q]; decide) ha, fun q => absurd (by rw [q]; decide) ha, fun q => absurd (by rw [q]; decide) ha, fun q => absurd (by rw [q]; decide) ha⟩
