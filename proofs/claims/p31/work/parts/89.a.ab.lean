/-! THE STATION AS A VALUE: its row, its remembered rows, its slots, its text -/
abbrev Hy : Type := Nat × (Nat → Row)
abbrev Sl : Type := Nat → Option Row
abbrev Tt : Type := Nat × (Nat → Int32)
abbrev Ab : Type := Row × Hy × Sl × Tt
def AHist (T : Nat) (M : Mem) (h : Hy) : Prop := ∃ f, HC M h.1 f ∧ ∀ k, k < h.1 → HR T (f k) (h.2 k)
def slotR (T : Nat) (M : Mem) (i : Nat) : Option Row → Prop
  | none => M 20 5 i = 0
  | some r => M 20 5 i = 1 ∧ HR T (M (i + 16)) r
def ASlot (T : Nat) (M : Mem) (s : Sl) : Prop := ∀ i, i < 2 → slotR T M i (s i)
def ATxt (M : Mem) (t : Tt) : Prop := M 20 0 1 = Int32.ofNat t.1 ∧ Tx M t.1 t.2
def AR (T : Nat) (M : Mem) (A : Ab) : Prop := HR T (M 0) A.1 ∧ AHist T M A.2.1 ∧ ASlot T M A.2.2.1 ∧ ATxt M A.2.2.2
theorem AHist.same {T T' : Nat} {M M' : Mem} {h : Hy} (H : AHist T M h) (hT : T ≤ T') (h1 : ∀ i, 2 ≤ i → i < 16 → M' i = M i) (h2 : M' 20 2 1 = M 20 2 1) (h3 : M' 20 3 = M 20 3) : AHist T' M' h := by
  obtain ⟨f, g1, g2⟩ := H
  exact ⟨f, g1.same h1 h2 h3, fun k hk => (g2 k hk).mono hT⟩
theorem ASlot.same {T T' : Nat} {M M' : Mem} {s : Sl} (H : ASlot T M s) (hT : T ≤ T') (h1 : M' 16 = M 16) (h2 : M' 17 = M 17) (h3 : M' 20 5 = M 20 5) : ASlot T' M' s := by
  intro i hi
  have e : M' (i + 16) = M (i + 16) := by
    rcases (by omega : i = 0 ∨ i = 1) with e | e <;> subst e
    · exact h1
    · exact h2
  have h := H i hi
  cases hs : s i with
  | none => rw [hs] at h; show M' 20 5 i = 0; rw [h3]; exact h
  | some r =>
    rw [hs] at h
    show M' 20 5 i = 1 ∧ HR T' (M' (i + 16)) r
    rw [h3, e]
    exact ⟨h.1, h.2.mono hT⟩
theorem ATxt.same {M M' : Mem} {t : Tt} (H : ATxt M t) (h1 : M' 20 0 1 = M 20 0 1) (h2 : M' 20 1 = M 20 1) : ATxt M' t := by
  refine ⟨by rw [h1]; exact H.1, H.2.1, fun k hk => ?_⟩
  rw [h2]
  exact H.2.2 k hk
theorem AR.frame {T T' : Nat} {M M' : Mem} {A : Ab} (S : AR T M A) (hT : T ≤ T') (h0 : ∀ i, i < 18 → i ≠ 1 → M' i = M i) (h20 : ∀ j, j ≠ 6 → M' 20 j = M 20 j) : AR T' M' A := by
  obtain ⟨S1, S2, S3, S4⟩ := S
  refine ⟨?_, S2.same hT (fun i h1 h2 => h0 i (by omega) (by omega)) ?_ (h20 3 (by decide)), S3.same hT (h0 16 (by decide) (by decide)) (h0 17 (by decide) (by decide)) (h20 5 (by decide)), S4.same ?_ (h20 1 (by decide))⟩
  · rw [h0 0 (by decide) (by decide)]
    exact S1.mono hT
  · rw [h20 2 (by decide)]
  · rw [h20 0 (by decide)]
theorem AR.mono {T T' : Nat} {M : Mem} {A : Ab} (S : AR T M A) (hT : T ≤ T') : AR T' M A := S.frame hT (fun _ _ _ => rfl) (fun _ _ => rfl)
theorem AR.look {T : Nat} {M M' : Mem} {A : Ab} (S : AR T M A) (h : ∀ j, j ≠ 1 → M' j = M j) : AR T M' A := S.frame (Nat.le_refl _) (fun i _ h1 => h i h1) (fun j _ => by rw [h 20 (by decide)])
/-- the rooms of a row -/
theorem Inv.at {n T T' : Nat} {c : Reg} {m : Row} (I : Inv n T m) (H : HR T' c m) : RlM n c m ∧ Inv n T' m := by
  obtain ⟨n', R, I'⟩ := H
  have e : n' = n := (nn_eq (by have := I'.1.1; omega) (by have := I.1.1; omega)).mp (I'.1.2.1.symm.trans I.1.2.1)
  subst e
  exact ⟨R, I'⟩
/-- a call: from the station's value A it answers v and leaves A' -/
def Sp (w : Mem → (Int64 → Mem → Prop) → Prop) (T : Nat) (A : Ab) (T' : Nat) (v : Int64) (A' : Ab) : Prop := ∀ (M : Mem) (P : Int64 → Mem → Prop), AR T M A → (∀ M', AR T' M' A' → M' 23 = M 23 → P v M') → w M P
def Ro (w : Mem → (Int64 → Mem → Prop) → Prop) (T : Nat) (A : Ab) (v : Int64) : Prop := Sp w T A T v A
def xIOB : Int64 := -9000000000000000001
def xIAE : Int64 := -9000000000000000002
def xISE : Int64 := -9000000000000000003
theorem q_about {n T k : Nat} {A : Ab} (I : Inv n T A.1) (hk : k < 13) : Ro (wL_about (Int32.ofNat k)) T A (Int32.toInt64 (aboutf n A.1 k)) := by
  intro M P S h
  obtain ⟨R, -⟩ := I.at S.1
  exact k5_about R I.1 I.2.1.1 I.2.1.2.1 hk (h M S rfl)
theorem b_about {T : Nat} {A : Ab} {a : Int32} (ha : ¬ (0 ≤ a.toInt ∧ a.toInt < (13 : Nat))) : Ro (wL_about a) T A xIAE := by
  intro M P S h
  exact x5_about ha ⟨rfl, h M S rfl⟩
theorem q_setting {n T k : Nat} {A : Ab} (I : Inv n T A.1) (hk : k < 9) : Ro (wL_setting (Int32.ofNat k)) T A (Int32.toInt64 (A.1 (9 + k))) := by
  intro M P S h
  obtain ⟨R, -⟩ := I.at S.1
  unfold wL_setting wX5_setting
  refine ⟨fun q => absurd q (ng (by omega)), fun _ => ⟨fun _ => s3_settingOf R hk ?_, fun q => absurd ((nn_lt (b := 9) (by omega) (by omega)).mpr hk) q⟩⟩
  rw [va_ue]
  exact h M S rfl
theorem b_setting {T : Nat} {A : Ab} {a : Int32} (ha : ¬ (0 ≤ a.toInt ∧ a.toInt < (9 : Nat))) : Ro (wL_setting a) T A xIAE := by
  intro M P S h
  unfold wL_setting wX5_setting
  have i9 : (9 : Int32).toInt = 9 := rfl
  refine ⟨fun _ => ⟨rfl, h M S rfl⟩, fun q => ⟨fun q2 => ?_, fun _ => ⟨rfl, h M S rfl⟩⟩⟩
  rw [Int32.lt_iff_toInt_lt, i0] at q
  rw [Int32.lt_iff_toInt_lt, i9] at q2
  omega
theorem q_place {n T p k : Nat} {A : Ab} (I : Inv n T A.1) (hp : p < 2 + n) (hk : k < 3) : Ro (wL_place (Int32.ofNat p) (Int32.ofNat k)) T A (Int32.toInt64 (placef A.1 p k)) := by
  intro M P S h
  obtain ⟨R, -⟩ := I.at S.1
  exact k5_place R I.1 hp hk (h M S rfl)
theorem b_place1 {n T : Nat} {A : Ab} {a b : Int32} (I : Inv n T A.1) (ha : ¬ (0 ≤ a.toInt ∧ a.toInt < (2 + n : Nat))) : Ro (wL_place a b) T A xIOB := by
  intro M P S h
  obtain ⟨R, -⟩ := I.at S.1
  have hn := I.1.1
  unfold wL_place wX5_place
  refine c3_hasPlace R.rooms hn (fun i hi e => absurd ⟨by rw [e, ti_nat (by omega)]; omega, by rw [e, ti_nat (by omega)]; omega⟩ ha) (fun _ => ⟨fun q => absurd rfl q, fun _ => Or.inl ⟨rfl, ?_⟩⟩)
  rw [va_ue]
  exact h M S rfl
theorem b_place2 {n T p : Nat} {A : Ab} {b : Int32} (I : Inv n T A.1) (hp : p < 2 + n) (hb : ¬ (0 ≤ b.toInt ∧ b.toInt < (3 : Nat))) : Ro (wL_place (Int32.ofNat p) b) T A xIAE := by
  intro M P S h
  obtain ⟨R, -⟩ := I.at S.1
  have hn := I.1.1
  unfold wL_place wX5_place
  refine c3_hasPlace R.rooms hn (fun _ _ _ => ⟨fun _ => ⟨fun _ => Or.inr ⟨rfl, ?_⟩, fun q => ?_, fun q => ?_, fun q => ?_⟩, fun q => absurd q z10⟩) (fun q => absurd (ti_ok hp (by omega)) q)
  · rw [va_ue]; exact h M S rfl
  all_goals exact absurd (by rw [q]; decide) hb
theorem q_room {n T i k : Nat} {A : Ab} (I : Inv n T A.1) (hi : i < n) (hk : k < 7) : Ro (wL_room (Int32.ofNat i) (Int32.ofNat k)) T A (Int32.toInt64 (A.1 (27 + 8 * i + k))) := by
  intro M P S h
  obtain ⟨R, -⟩ := I.at S.1
  exact k5_room R I.1.1 (I.2.2.1.1 i hi) hi hk (h M S rfl)
theorem b_room1 {n T : Nat} {A : Ab} {a b : Int32} (I : Inv n T A.1) (ha : ¬ (0 ≤ a.toInt ∧ a.toInt < n)) : Ro (wL_room a b) T A xIOB := by
  intro M P S h
  obtain ⟨R, -⟩ := I.at S.1
  have hn := I.1.1
  unfold wL_room wX5_room
  refine c3_hasRoom R.rooms hn (fun i hi e => absurd (by rw [e]; exact ti_ok hi (by omega)) ha) (fun _ => ⟨fun q => absurd rfl q, fun _ => Or.inl ⟨rfl, ?_⟩⟩)
  rw [va_ue]
  exact h M S rfl
theorem b_room2 {n T i : Nat} {A : Ab} {b : Int32} (I : Inv n T A.1) (hi : i < n) (hb : ¬ (0 ≤ b.toInt ∧ b.toInt < (7 : Nat))) : Ro (wL_room (Int32.ofNat i) b) T A xIAE := by
  intro M P S h
  obtain ⟨R, -⟩ := I.at S.1
  have hn := I.1.1
  unfold wL_room wX5_room
  refine c3_hasRoom R.rooms hn (fun _ _ _ => ⟨fun _ => ⟨nn_in (by omega) (by omega), fun _ => Or.inr ⟨rfl, ?_⟩, fun q => ?_, fun q => ?_, fun q => ?_, fun q => ?_, fun q => ?_, fun q => ?_, fun q => ?_⟩, fun q => absurd q z10⟩) (fun q => absurd (ti_ok hi (by omega)) q)
  · rw [va_ue]; exact h M S rfl
  all_goals exact absurd (by rw [q]; decide) hb
theorem q_moved {n T f t : Nat} {A : Ab} (I : Inv n T A.1) (hf : f < 10) (ht : t < 10) : Ro (wL_moved (Int32.ofNat f) (Int32.ofNat t)) T A (Int32.toInt64 (amt A.1 f t)) := by
  intro M P S h
  obtain ⟨R, -⟩ := I.at S.1
  unfold wL_moved wX5_moved
  refine ⟨fun q => absurd q (ng (by omega)), fun _ => ⟨fun q => absurd q (nge (b := 10) hf (by omega)), fun _ => ⟨fun q => absurd q (ng (by omega)), fun _ => ⟨fun _ => s3_sumBetween I.1 R (by omega) (by omega) ?_, fun q => absurd ((nn_lt (b := 10) (by omega) (by omega)).mpr ht) q⟩⟩⟩⟩
  rw [va_ue]
  exact h M S rfl
theorem b_moved {T f : Nat} {A : Ab} {b : Int32} (hf : f < 10) (hb : ¬ (0 ≤ b.toInt ∧ b.toInt < (10 : Nat))) : Ro (wL_moved (Int32.ofNat f) b) T A xIAE := by
  intro M P S h
  unfold wL_moved wX5_moved
  refine ⟨fun q => absurd q (ng (by omega)), fun _ => ⟨fun q => absurd q (nge (b := 10) hf (by omega)), fun _ => ⟨fun _ => ⟨rfl, h M S rfl⟩, fun q => ⟨fun q2 => ?_, fun _ => ⟨rfl, h M S rfl⟩⟩⟩⟩⟩
  rw [Int32.lt_iff_toInt_lt, i0] at q
  rw [Int32.lt_iff_toInt_lt, i10] at q2
  exact absurd ⟨by omega, by omega⟩ hb
/-- the code of a way, as a number -/
def cdn (m : Row) (k : Nat) : Nat := (m (75 + 2 * k)).toNatClampNeg
def wayv (m : Row) (k : Nat) : Nat → Int32
  | 0 => Int32.ofNat (cdn m k / 10)
  | 1 => Int32.ofNat (cdn m k % 10)
  | _ => m (76 + 2 * k)
theorem q_way {n T k j : Nat} {A : Ab} (I : Inv n T A.1) (hk : k < wy A.1) (hj : j < 3) : Ro (wL_way (Int32.ofNat k) (Int32.ofNat j)) T A (Int32.toInt64 (wayv A.1 k j)) := by
  intro M P S h
  obtain ⟨R, -⟩ := I.at S.1
  have hw := I.1.2.2.1
  obtain ⟨l1, l2, l3⟩ := R.2.2.2.2
  obtain ⟨f, t, g1, g2, g3, g4, g5, g6⟩ := l3 k hk
  have ec : cdn A.1 k = 10 * f + t := by unfold cdn; rw [g5]; exact tn_nat (by omega)
  have ef : cdn A.1 k / 10 = f := by omega
  have et : cdn A.1 k % 10 = t := by omega
  have ein : vp_in (Int32.ofNat k) 26 := nn_in (by omega) (by omega)
  unfold wL_way wX5_way wX1_hasWay
  refine ⟨fun q => absurd q (ng (by omega)), fun _ => ⟨fun q => ?_, fun _ => ⟨fun q => absurd q (nge (b := 26) (by omega) (by omega)), fun _ => ⟨fun _ => ?_, fun q => absurd q z10⟩⟩⟩⟩
  · rw [l1, nn_le (by omega) (by omega)] at q
    omega
  · rw [va_ue, tn_nat (by omega), g3, g4, g6]
    rcases (by omega : j = 0 ∨ j = 1 ∨ j = 2) with e2 | e2 | e2 <;> subst e2
    · refine ⟨fun q => absurd q (by decide), fun _ => ⟨ein, ?_⟩, fun q => absurd q (by decide), fun q => absurd q (by decide)⟩
      rw [← ef]; exact h M S rfl
    · refine ⟨fun q => absurd q (by decide), fun q => absurd q (by decide), fun _ => ⟨ein, ?_⟩, fun q => absurd q (by decide)⟩
      rw [← et]; exact h M S rfl
    · exact ⟨fun q => absurd q (by decide), fun q => absurd q (by decide), fun q => absurd q (by decide), fun _ => ⟨ein, h M S rfl⟩⟩
theorem b_way1 {n T : Nat} {A : Ab} {a b : Int32} (I : Inv n T A.1) (ha : ¬ (0 ≤ a.toInt ∧ a.toInt < wy A.1)) : Ro (wL_way a b) T A xIOB := by
  intro M P S h
  obtain ⟨R, -⟩ := I.at S.1
  have hw := I.1.2.2.1
  obtain ⟨l1, l2, l3⟩ := R.2.2.2.2
  have bad : ∀ P : Int32 → Reg → Prop, P 0 (M 0) → wX1_hasWay a (M 0) P := fun P h => by
    refine ⟨fun _ => h, fun q => ⟨fun _ => h, fun q2 => ?_⟩⟩
    rw [Int32.lt_iff_toInt_lt, i0] at q
    rw [l1, Int32.le_iff_toInt_le, ti_nat (by omega)] at q2
    exact absurd ⟨by omega, by omega⟩ ha
  unfold wL_way wX5_way
  refine bad _ ⟨fun q => absurd rfl q, fun _ => Or.inl ⟨rfl, ?_⟩⟩
  rw [va_ue]
  exact h M S rfl
theorem b_way2 {n T k : Nat} {A : Ab} {b : Int32} (I : Inv n T A.1) (hk : k < wy A.1) (hb : ¬ (0 ≤ b.toInt ∧ b.toInt < (3 : Nat))) : Ro (wL_way (Int32.ofNat k) b) T A xIAE := by
  intro M P S h
  obtain ⟨R, -⟩ := I.at S.1
  have hw := I.1.2.2.1
  obtain ⟨l1, l2, l3⟩ := R.2.2.2.2
  unfold wL_way wX5_way wX1_hasWay
  refine ⟨fun q => absurd q (ng (by omega)), fun _ => ⟨fun q => ?_, fun _ => ⟨fun q => absurd q (nge (b := 26) (by omega) (by omega)), fun _ => ⟨fun _ => ⟨fun _ => Or.inr ⟨rfl, ?_⟩, fun q => ?_, fun q => ?_, fun q => ?_⟩, fun q => absurd q z10⟩⟩⟩⟩
  · rw [l1, nn_le (by omega) (by omega)] at q
    omega
  · rw [va_ue]; exact h M S rfl
  all_goals exact absurd (by rw [q]; decide) hb
