theorem s5_low {k : Nat} {P : Int32 → Prop} (hk : k < 9) (h : P (sv1 k)) : wX5_lowestSetting (Int32.ofNat k) P := by
  refine ⟨fun q => absurd q (ng (by omega)), fun _ => ⟨fun q => absurd q (nge (b := 9) hk (by omega)), fun _ => ⟨nn_in (by omega) hk, ?_⟩⟩⟩
  rw [tn_nat (by omega)]
  exact h
theorem s5_high {k : Nat} {P : Int32 → Prop} (hk : k < 9) (h : P (sv2 k)) : wX5_highestSetting (Int32.ofNat k) P := by
  refine ⟨fun q => absurd q (ng (by omega)), fun _ => ⟨fun q => absurd q (nge (b := 9) hk (by omega)), fun _ => ⟨nn_in (by omega) hk, ?_⟩⟩⟩
  rw [tn_nat (by omega)]
  exact h
def SetOk (k : Nat) (v : Int32) : Prop := (sv1 k).toInt ≤ v.toInt ∧ v.toInt ≤ (sv2 k).toInt
theorem i9 : (9 : Int32).toInt = 9 := rfl
theorem c5_setting {a v : Int32} {P : Int32 → Prop} (h1 : ∀ k, k < 9 → a = Int32.ofNat k → SetOk k v → P 1) (h0 : (¬ ∃ k, k < 9 ∧ a = Int32.ofNat k ∧ SetOk k v) → P 0) : wX5_settingAllowed a v P := by
  by_cases ha : 0 ≤ a.toInt ∧ a.toInt < (9 : Nat)
  · obtain ⟨k, hk, e⟩ := nat_of ha
    subst e
    have un : (¬ SetOk k v) → P 0 := fun hno => h0 (fun ⟨k2, g1, g2, g3⟩ => hno (by
      have := (nn_eq (by omega) (by omega)).mp g2
      subst this
      exact g3))
    refine s5_low hk ⟨fun q => un (fun g => ?_), fun q => s5_high hk ⟨fun q2 => un (fun g => ?_), fun q2 => h1 k hk rfl ⟨?_, ?_⟩⟩⟩
    · rw [Int32.lt_iff_toInt_lt] at q
      have := g.1
      omega
    · rw [Int32.lt_iff_toInt_lt] at q2
      have := g.2
      omega
    · rw [Int32.lt_iff_toInt_lt] at q
      omega
    · rw [Int32.lt_iff_toInt_lt] at q2
      omega
  · have no : P 0 := h0 (fun ⟨k, g1, g2, g3⟩ => ha (by rw [g2]; exact ti_ok g1 (by omega)))
    refine ⟨fun _ => ⟨fun _ => no, fun q => ?_⟩, fun q => ⟨fun _ => ⟨fun _ => no, fun q => ?_⟩, fun q2 => ?_⟩⟩
    · refine ⟨fun _ => ⟨fun _ => no, fun q2 => ?_⟩, fun q2 => absurd (by assumption) q2⟩
      rw [Int32.lt_iff_toInt_lt, i1] at q
      rw [Int32.lt_iff_toInt_lt, i0] at q2
      omega
    · refine ⟨fun q2 => absurd q2 (by assumption), fun _ => ⟨fun _ => ⟨fun _ => no, fun q2 => ?_⟩, fun q2 => absurd (by assumption) q2⟩⟩
      rw [Int32.lt_iff_toInt_lt, i1] at q
      rw [Int32.lt_iff_toInt_lt, i0] at q2
      omega
    · rw [Int32.lt_iff_toInt_lt, i0] at q
      rw [Int32.le_iff_toInt_le, i9] at q2
      exact absurd ⟨by omega, by omega⟩ ha
theorem c3_change {k : Nat} {v : Int32} {c : Reg} {P : Reg → Prop} (hk : k < 9) (h : P (cu c 1 k v)) : wX3_changeSetting (Int32.ofNat k) v c P := by
  refine ⟨fun q => absurd q (ng (by omega)), fun _ => ⟨fun q => absurd q (nge (b := 9) hk (by omega)), fun _ => ⟨nn_in (by omega) hk, ?_⟩⟩⟩
  rw [tn_nat (by omega)]
  exact h
theorem RlM.set {n k : Nat} {c : Reg} {m : Row} {v : Int32} (hn : n ≤ 6) (hk : k < 9) (R : RlM n c m) : RlM n (cu c 1 k v) (upd m (9 + k) v) := by
  unfold RlM
  rw [wy_cong (upd_n _ _ (by omega))]
  obtain ⟨R1, R2, R3, R4, R5⟩ := R
  have o : ∀ r, r ≠ 1 → cu c 1 k v r = c r := fun r hr => by rw [cu_e, va_un _ _ hr]
  refine ⟨?_, fun i hi => ?_, fun p hp => ?_, fun i q hi hq => ?_, ?_⟩
  · rw [o 0 (by decide), upd_n _ _ (by omega), upd_n _ _ (by omega), upd_n _ _ (by omega), upd_n _ _ (by omega), upd_n _ _ (by omega), upd_n _ _ (by omega), upd_n _ _ (by omega), upd_n _ _ (by omega), upd_n _ _ (by omega)]
    exact R1
  · rw [cu_e, va_us]
    by_cases e : i = k
    · subst e
      rw [upd_s, upd_s]
    · rw [upd_n _ _ e, upd_n _ _ (by omega)]
      exact R2 i hi
  · rw [o 2 (by decide), o 3 (by decide), upd_n _ _ (by omega), capf_cong (fun i h1 _ => upd_n _ _ (by omega)) (by omega)]
    exact R3 p hp
  · rw [o _ (by omega), upd_n _ _ (by omega)]
    exact R4 i q hi hq
  · exact (R5.same (fun r h1 h2 => o r (by omega))).cong (fun i hi => upd_n _ _ (by omega))
theorem Inv.set {n T k : Nat} {m : Row} {v : Int32} (I : Inv n T m) (hk : k < 9) (h : SetOk k v) : Inv n T (upd m (9 + k) v) := by
  obtain ⟨G1, S, W, B1, B2⟩ := I
  have hn := G1.1
  obtain ⟨s3, s6, s7, s5, ⟨sa, sb, sc, sd⟩, s14, s9⟩ := S
  have e13 : 0 ≤ (upd m (9 + k) v 13).toInt ∧ (upd m (9 + k) v 13).toInt ≤ 30 := by
    by_cases e : k = 4
    · subst e
      rw [upd_s]
      exact h
    · rw [upd_n _ _ (by omega)]
      exact ⟨sc, sd⟩
  have e14 : 0 ≤ (upd m (9 + k) v 14).toInt ∧ (upd m (9 + k) v 14).toInt ≤ 50 := by
    by_cases e : k = 5
    · subst e
      rw [upd_s]
      have h1 : 1 ≤ v.toInt := h.1
      have h2 : v.toInt ≤ 50 := h.2
      omega
    · rw [upd_n _ _ (by omega)]
      exact s14
  have e9 : 0 ≤ (upd m (9 + k) v 9).toInt ∧ (upd m (9 + k) v 9).toInt ≤ 200 := by
    by_cases e : k = 0
    · subst e
      rw [upd_s]
      exact h
    · rw [upd_n _ _ (by omega)]
      exact s9
  refine ⟨G1.cong (upd_n _ _ (by omega)) (fun i hi => upd_n _ _ (by omega)) (fun i hi => upd_n _ _ (by omega)), ?_, W.same hn (fun i h1 h2 => upd_n _ _ (by omega)), fun i hi => by rw [upd_n _ _ (by omega)]; exact B1 i hi, ?_⟩
  · unfold Sg Mild
    rw [upd_n _ _ (by omega), upd_n _ _ (by omega), upd_n _ _ (by omega), upd_n _ _ (by omega), upd_n _ _ (by omega)]
    exact ⟨s3, s6, s7, s5, ⟨sa, sb, e13.1, e13.2⟩, e14, e9⟩
  · rw [made_cong G1.2.2.1 (fun i h1 h2 => upd_n _ _ (by omega))]
    exact B2
/-! numbers of a room -/
def rmL (k : Nat) : Int := if k = 0 then 10 else if k = 1 then 1 else 0
def rmH (k : Nat) : Int := if k = 0 then 25 else 9
def RoomOk (k : Nat) (v : Int32) : Prop := rmL k ≤ v.toInt ∧ v.toInt ≤ rmH k
theorem c5_rng {a lo hi : Int32} {P : Int32 → Prop} {l h : Int} (hl : lo.toInt = l) (hh : hi.toInt = h) (h1 : l ≤ a.toInt ∧ a.toInt ≤ h → P 1) (h0 : ¬ (l ≤ a.toInt ∧ a.toInt ≤ h) → P 0) : ((a < lo → P 0) ∧ (¬ a < lo → ((hi < a → P 0) ∧ (¬ hi < a → P 1)))) := by
  refine ⟨fun q => h0 ?_, fun q => ⟨fun q2 => h0 ?_, fun q2 => h1 ?_⟩⟩
  · rw [Int32.lt_iff_toInt_lt, hl] at q
    omega
  · rw [Int32.lt_iff_toInt_lt, hh] at q2
    omega
  · rw [Int32.lt_iff_toInt_lt, hl] at q
    rw [Int32.lt_iff_toInt_lt, hh] at q2
    omega
theorem c5_wanted {a : Int32} {P : Int32 → Prop} (h1 : 10 ≤ a.toInt ∧ a.toInt ≤ 25 → P 1) (h0 : ¬ (10 ≤ a.toInt ∧ a.toInt ≤ 25) → P 0) : wX5_wantedAllowed a P := c5_rng rfl rfl h1 h0
theorem c5_radiators {a : Int32} {P : Int32 → Prop} (h1 : 1 ≤ a.toInt ∧ a.toInt ≤ 9 → P 1) (h0 : ¬ (1 ≤ a.toInt ∧ a.toInt ≤ 9) → P 0) : wX5_radiatorsAllowed a P := c5_rng rfl rfl h1 h0
theorem c5_leak {a : Int32} {P : Int32 → Prop} (h1 : 0 ≤ a.toInt ∧ a.toInt ≤ 9 → P 1) (h0 : ¬ (0 ≤ a.toInt ∧ a.toInt ≤ 9) → P 0) : wX5_leakAllowed a P := c5_rng rfl rfl h1 h0
theorem c5_roomNumber {a v : Int32} {P : Int32 → Prop} (h1 : ∀ k, k < 3 → a = Int32.ofNat k → RoomOk k v → P 1) (h0 : (¬ ∃ k, k < 3 ∧ a = Int32.ofNat k ∧ RoomOk k v) → P 0) : wX5_roomNumberAllowed a v P := by
  have un : ∀ k, k < 3 → a = Int32.ofNat k → (¬ RoomOk k v) → P 0 := fun k hk e hno => h0 (fun ⟨k2, g1, g2, g3⟩ => hno (by
    have := (nn_eq (by omega) (by omega)).mp (e.symm.trans g2)
    subst this
    exact g3))
  refine ⟨fun q => h0 (fun ⟨k, g1, g2, g3⟩ => ?_), fun q => ?_, fun q => ?_, fun q => ?_⟩
  · rw [g2, ti_nat (by omega)] at q
    omega
  · exact c5_wanted (fun g => ⟨Or.inr rfl, h1 0 (by decide) q g⟩) (fun g => ⟨Or.inl rfl, un 0 (by decide) q g⟩)
  · exact c5_radiators (fun g => ⟨Or.inr rfl, h1 1 (by decide) q g⟩) (fun g => ⟨Or.inl rfl, un 1 (by decide) q g⟩)
  · exact c5_leak (fun g => ⟨Or.inr rfl, h1 2 (by decide) q g⟩) (fun g => ⟨Or.inl rfl, un 2 (by decide) q g⟩)
theorem Inv.cell {n T i q : Nat} {m : Row} {v : Int32} (I : Inv n T m) (hi : i < n) (hq : q < 3) : Inv n T (upd m (27 + 8 * i + q) v) := by
  obtain ⟨G1, S, W, B1, B2⟩ := I
  have hn := G1.1
  refine ⟨G1.cong (upd_n _ _ (by omega)) (fun i hi => upd_n _ _ (by omega)) (fun i hi => upd_n _ _ (by omega)), S.lo (fun i hi => upd_n _ _ (by omega)), W.cong hn (fun i hi => upd_n _ _ (by omega)) (fun i h1 h2 => ⟨upd_n _ _ (by omega), upd_n _ _ (by omega), upd_n _ _ (by omega), upd_n _ _ (by omega)⟩), fun k hk => by rw [upd_n _ _ (by omega)]; exact B1 k hk, ?_⟩
  rw [made_cong G1.2.2.1 (fun i h1 h2 => upd_n _ _ (by omega))]
  exact B2
theorem c2_change {i k : Nat} {v : Int32} {c : Reg} {P : Int32 → Reg → Prop} (hk : k < 3) (h : P (c (i + 9) k) (cu c (i + 9) k v)) : wX2_change i (Int32.ofNat k) v c P := by
  rcases (by omega : k = 0 ∨ k = 1 ∨ k = 2) with e | e | e <;> subst e
  · exact ⟨fun q => absurd rfl q, fun _ => h⟩
  · exact ⟨fun _ => ⟨fun q => absurd rfl q, fun _ => h⟩, fun q => absurd q (by decide)⟩
  · exact ⟨fun _ => ⟨fun _ => h, fun q => absurd q (by decide)⟩, fun q => absurd q (by decide)⟩
