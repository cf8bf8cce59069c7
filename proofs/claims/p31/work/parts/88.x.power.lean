/-! a bit for each room -/
def b6n (a0 a1 a2 a3 a4 a5 : Bool) : Int32 := Int32.ofNat (a0.toNat + 2 * a1.toNat + 4 * a2.toNat + 8 * a3.toNat + 16 * a4.toNat + 32 * a5.toNat)
def b6 (b : Nat → Bool) : Int32 := b6n (b 0) (b 1) (b 2) (b 3) (b 4) (b 5)
set_option maxRecDepth 100000 in
theorem b6n_or : ∀ a0 a1 a2 a3 a4 a5 b0 b1 b2 b3 b4 b5 : Bool, b6n a0 a1 a2 a3 a4 a5 ||| b6n b0 b1 b2 b3 b4 b5 = b6n (a0 || b0) (a1 || b1) (a2 || b2) (a3 || b3) (a4 || b4) (a5 || b5) := by decide +kernel
set_option maxRecDepth 100000 in
theorem b6n_inj : ∀ a0 a1 a2 a3 a4 a5 b0 b1 b2 b3 b4 b5 : Bool, b6n a0 a1 a2 a3 a4 a5 = b6n b0 b1 b2 b3 b4 b5 → a0 = b0 ∧ a1 = b1 ∧ a2 = b2 ∧ a3 = b3 ∧ a4 = b4 ∧ a5 = b5 := by decide +kernel
theorem b6n_id : ∀ a0 a1 a2 a3 a4 a5 : Bool, b6n a0 a1 a2 a3 a4 a5 &&& (-1) = b6n a0 a1 a2 a3 a4 a5 := by decide +kernel
theorem b6n_off : ∀ i, i < 6 → ∀ a0 a1 a2 a3 a4 a5 : Bool, b6n a0 a1 a2 a3 a4 a5 &&& (((1 : Int32) <<< (Int32.ofNat i &&& 31)) ^^^ (-1)) = b6n (a0 && !(0 == i)) (a1 && !(1 == i)) (a2 && !(2 == i)) (a3 && !(3 == i)) (a4 && !(4 == i)) (a5 && !(5 == i)) := by decide +kernel
theorem b6_or (a b : Nat → Bool) : b6 a ||| b6 b = b6 (fun i => a i || b i) := b6n_or _ _ _ _ _ _ _ _ _ _ _ _
theorem b6_id (a : Nat → Bool) : b6 a &&& (-1) = b6 a := b6n_id _ _ _ _ _ _
theorem b6_off (a : Nat → Bool) {i : Nat} (hi : i < 6) : b6 a &&& (((1 : Int32) <<< (Int32.ofNat i &&& 31)) ^^^ (-1)) = b6 (fun k => a k && !(k == i)) := b6n_off i hi _ _ _ _ _ _
theorem b6_bit : ∀ i, i < 6 → (1 : Int32) <<< (Int32.ofNat i &&& 31) = b6 (fun k => k == i) := by decide +kernel
theorem b6_all : ∀ n, n ≤ 6 → ((1 : Int32) <<< (Int32.ofNat n &&& 31)) - 1 = b6 (fun k => decide (k < n)) := by decide +kernel
theorem b6_inj {a b : Nat → Bool} (h : b6 a = b6 b) : ∀ i, i < 6 → a i = b i := by
  obtain ⟨h0, h1, h2, h3, h4, h5⟩ := b6n_inj _ _ _ _ _ _ _ _ _ _ _ _ h
  intro i hi
  rcases (by omega : i = 0 ∨ i = 1 ∨ i = 2 ∨ i = 3 ∨ i = 4 ∨ i = 5) with e | e | e | e | e | e <;> subst e <;> assumption
theorem b6_cong {a b : Nat → Bool} (h : ∀ i, i < 6 → a i = b i) : b6 a = b6 b := by
  unfold b6
  rw [h 0 (by decide), h 1 (by decide), h 2 (by decide), h 3 (by decide), h 4 (by decide), h 5 (by decide)]
theorem b6_0 : b6 (fun _ => false) = 0 := rfl
/-- whether a room is as warm as wanted -/
def wmw (m : Row) (i : Nat) : Bool := !decide (degf m (2 + i) < m (27 + 8 * i))
theorem wmw_t {m : Row} {i : Nat} (h : ¬ degf m (2 + i) < m (27 + 8 * i)) : wmw m i = true := by unfold wmw; rw [decide_eq_false h]; rfl
theorem wmw_f {m : Row} {i : Nat} (h : degf m (2 + i) < m (27 + 8 * i)) : wmw m i = false := by unfold wmw; rw [decide_eq_true h]; rfl
theorem upto_t {w : Nat → Bool} {k : Nat} (h : w k = true) (i : Nat) : (decide (i < k) && w i || i == k) = (decide (i < k + 1) && w i) := by
  by_cases e : i = k
  · subst e
    simp [h]
  · have e2 : (i < k + 1) ↔ (i < k) := by omega
    simp [e, e2]
theorem upto_f {w : Nat → Bool} {k : Nat} (h : w k = false) (i : Nat) : (decide (i < k) && w i) = (decide (i < k + 1) && w i) := by
  by_cases e : i = k
  · subst e
    simp [h]
  · have e2 : (i < k + 1) ↔ (i < k) := by omega
    simp [e2]
theorem c3_warmRooms {n : Nat} {c : Reg} {m : Row} {P : Int32 → Reg → Prop} (G1 : Gd n m) (R : RlM n c m) (h : P (b6 (fun i => decide (i < n) && wmw m i)) c) : wX3_warmRooms c P := by
  have hn := G1.1
  have e8 := R.rooms
  have key : ∀ (r k : Nat), k + r = n → wX3_warmRooms_L4 P (r + 1) (b6 (fun i => decide (i < k) && wmw m i)) (Int32.ofNat k) c := by
    intro r
    induction r with
    | zero =>
      intro k hk
      have hk : k = n := hk
      subst hk
      exact ⟨fun _ => h, fun q => absurd (by rw [e8]; exact Int32.le_refl _) q⟩
    | succ r ih =>
      intro k hk
      have hs := ih (k + 1) (by omega)
      refine ⟨fun q => ?_, fun _ => ⟨fun q => absurd q (nge (b := 6) (by omega) (by omega)), fun _ => c3_isWarm G1 R (by omega) ?_⟩⟩
      · rw [e8, nn_le (by omega) (by omega)] at q
        omega
      · rw [b6_bit k (by omega), b6_or, nn_s]
        by_cases g : degf m (2 + k) < m (27 + 8 * k)
        · rw [if_pos g]
          refine ⟨fun _ => ?_, fun q => absurd rfl q⟩
          rw [b6_cong (fun i _ => upto_f (wmw_f g) i)]
          exact hs
        · rw [if_neg g]
          refine ⟨fun q => absurd q z10, fun _ => ?_⟩
          rw [b6_cong (fun i _ => upto_t (wmw_t g) i)]
          exact hs
  have e0 : b6 (fun i => decide (i < 0) && wmw m i) = 0 := b6_cong (b := fun _ => false) (fun i _ => by simp)
  have hs := key n 0 (by omega)
  rw [e0] at hs
  exact ⟨_, hs⟩
/-- the rooms that were warm in one of the first v minutes -/
def acB (n : Nat) (m : Row) : Nat → Nat → Bool
  | 0, _ => false
  | v + 1, i => acB n m v i || (decide (i < n) && wmw (mns n m v) i)
def alB (n : Nat) (m : Row) (v : Nat) : Bool := decide (b6 (acB n m (v + 1)) = b6 (fun i => decide (i < n)))
def rcf (n : Nat) (m : Row) : Nat → Nat → Int32
  | 0, _ => 0
  | r + 1, v => if alB n m v = true then 1 else rcf n m r (v + 1)
theorem acB_lt {n : Nat} {m : Row} {i : Nat} : ∀ v, acB n m v i = true → i < n := by
  intro v
  induction v with
  | zero => intro h; cases h
  | succ v ih =>
    intro h
    unfold acB at h
    rw [Bool.or_eq_true, Bool.and_eq_true] at h
    rcases h with h | h
    · exact ih h
    · exact of_decide_eq_true h.1
theorem left_0 {n : Nat} {m : Row} {v : Nat} : b6 (fun i => decide (i < n) && !acB n m (v + 1) i) = 0 ↔ alB n m v = true := by
  unfold alB
  rw [decide_eq_true_eq]
  constructor
  · intro h
    refine b6_cong (fun i hi => ?_)
    have h1 := b6_inj (a := fun i => decide (i < n) && !acB n m (v + 1) i) (b := fun _ => false) h i hi
    by_cases g : i < n
    · rw [decide_eq_true g] at h1 ⊢
      simpa using h1
    · rw [decide_eq_false g]
      cases e : acB n m (v + 1) i with
      | false => rfl
      | true => exact absurd (acB_lt _ e) g
  · intro h
    refine (b6_cong (b := fun _ => false) (fun i hi => ?_)).trans b6_0
    have h1 : acB n m (v + 1) i = decide (i < n) := b6_inj h i hi
    rw [h1]
    cases decide (i < n) <;> rfl
theorem k5_all {n T k : Nat} {M2 : Mem} {m : Row} {P : Int32 → Mem → Prop} (I : Inv n T m) (R : RlM n (M2 1) m) (hT : T + k ≤ 1000000) (h : ∀ M3 : Mem, (∀ j, j ≠ 1 → M3 j = M2 j) → P (rcf n m (k + 1) 0) M3) : wX5_allRoomsGetWarm (Int32.ofNat k) M2 P := by
  have hn := I.1.1
  refine c3_warmRooms I.1 R ?_
  rw [va_ue, R.rooms, b6_all n hn]
  have ew : b6 (fun i => decide (i < n) && wmw m i) = b6 (acB n m 1) := b6_cong (fun i _ => by unfold acB acB; simp [mns])
  rw [ew]
  have key : ∀ (r v : Nat) (M3 : Mem), v + r = k → (∀ j, j ≠ 1 → M3 j = M2 j) → RlM n (M3 1) (mns n m v) → rcf n m (k + 1) 0 = rcf n m (r + 1) v → wX5_allRoomsGetWarm_L17 (Int32.ofNat k) P (r + 1) (b6 (fun i => decide (i < n))) (b6 (acB n m (v + 1))) (Int32.ofNat v) M3 := by
    intro r
    induction r with
    | zero =>
      intro v M3 hv h1 R3 ht
      have hv : v = k := hv
      subst hv
      have h2 := h M3 h1
      rw [ht] at h2
      unfold rcf alB at h2
      refine ⟨fun _ => ⟨fun q => ?_, fun q => ?_⟩, fun q => absurd (Int32.le_refl _) q⟩
      · rw [if_neg (fun e => q (of_decide_eq_true e))] at h2; exact h2
      · rw [if_pos (decide_eq_true q)] at h2; exact h2
    | succ r ih =>
      intro v M3 hv h1 R3 ht
      have Iv := I.mns v (by omega)
      rw [show rcf n m (r + 1 + 1) v = if alB n m v = true then 1 else rcf n m (r + 1) (v + 1) from rfl] at ht
      refine ⟨fun q => ?_, fun _ => ⟨fun q => ?_, fun q => ?_⟩⟩
      · rw [nn_le (by omega) (by omega)] at q
        omega
      · have h2 := h M3 h1
        rw [ht, if_pos (show alB n m v = true from decide_eq_true q)] at h2
        exact ⟨fun q2 => absurd q q2, fun _ => h2⟩
      · rw [if_neg (show ¬ alB n m v = true from fun e => q (of_decide_eq_true e))] at ht
        have Iv1 := I.mns (v + 1) (by omega)
        refine q3_advance (k := 1) Iv (by omega) R3 (fun c4 R4 => c3_warmRooms (m := mns n m (v + 1)) Iv1.1 R4 ?_)
        rw [b6_or, nn_s, va_ue]
        exact ih (v + 1) _ (by omega) (fun j hj => by rw [va_un _ _ hj]; exact h1 j hj) R4 ht
  exact ⟨_, key k 0 M2 (by omega) (fun _ _ => rfl) R rfl⟩
/-! leastPower -/
def lpf (n k : Nat) (m : Row) : Nat → Nat → Int32
  | 0, _ => -99999
  | r + 1, q => if rcf n (upd m 9 (Int32.ofNat (10 * q))) (k + 1) 0 = 0 then lpf n k m r (q + 1) else Int32.ofNat (10 * q)
theorem setok0 {p : Nat} (hs : p ≤ 200) : SetOk 0 (Int32.ofNat p) := by
  unfold SetOk
  rw [ti_nat (by omega), show (sv1 0).toInt = 0 from rfl, show (sv2 0).toInt = 200 from rfl]
  omega
theorem ten_s (q : Nat) : Int32.ofNat (10 * q) + 10 = Int32.ofNat (10 * (q + 1)) := by
  rw [show (10 : Int32) = Int32.ofNat 10 from rfl, nn_a]
  rfl
theorem k5_leastPower {n T k : Nat} {M : Mem} {m m4 : Row} {P : Int32 → Mem → Prop} {X : String → Mem → Prop} (I : Inv n T m) (R : RlM n (M 0) m) (I4 : Inv n T m4) (e4 : ∀ i, i < 128 → m4 i = m i) (hT : T ≤ 100000) (hk : k ≤ 240) (h : ∀ M2 : Mem, (∀ j, j ≠ 1 → M2 j = M j) → P (lpf n k m4 21 0) M2) : ∀ (r q : Nat) (M2 : Mem), q + r = 21 → (∀ j, j ≠ 1 → M2 j = M j) → lpf n k m4 21 0 = lpf n k m4 r q → wX5_leastPower_L27 (Int32.ofNat k) P X (r + 1) (Int32.ofNat (10 * q)) M2 := by
  have hn := I.1.1
  intro r
  induction r with
  | zero =>
    intro q M2 hq h1 ht
    have hq : q = 21 := hq
    subst hq
    have h2 := h M2 h1
    rw [ht] at h2
    exact s5_high (k := 0) (by decide) ⟨fun _ => h2, fun g => absurd (by decide) g⟩
  | succ r ih =>
    intro q M2 hq h1 ht
    rw [show lpf n k m4 (r + 1) q = if rcf n (upd m4 9 (Int32.ofNat (10 * q))) (k + 1) 0 = 0 then lpf n k m4 r (q + 1) else Int32.ofNat (10 * q) from rfl] at ht
    refine s5_high (k := 0) (by decide) ⟨fun g => absurd g (fun g => ?_), fun _ => ?_⟩
    · have := (nn_lt (a := 200) (by omega) (by omega)).mp g
      omega
    refine s3_copyFrom I.1 I.2.1 I.2.2.1 (by rw [h1 0 (by decide)]; exact R) (fun c6 R6 => c3_change (k := 0) (by decide) ?_)
    have I8 : Inv n T (upd m4 9 (Int32.ofNat (10 * q))) := I4.set (k := 0) (by decide) (setok0 (by omega))
    have R8 : RlM n (cu c6 1 0 (Int32.ofNat (10 * q))) (upd m4 9 (Int32.ofNat (10 * q))) := (R6.cong2 I.1 e4).set hn (k := 0) (by decide)
    refine k5_all I8 R8 (by omega) (fun M3 h3 => ?_)
    have h31 : ∀ j, j ≠ 1 → M3 j = M j := fun j hj => by rw [h3 j hj]; simp only [va_un _ _ hj]; exact h1 j hj
    rw [ten_s]
    refine ⟨fun g => ?_, fun g => ?_⟩
    · rw [if_pos g] at ht
      exact ih (q + 1) M3 (by omega) h31 ht
    · rw [if_neg g] at ht
      have h2 := h M3 h31
      rw [ht] at h2
      exact h2
