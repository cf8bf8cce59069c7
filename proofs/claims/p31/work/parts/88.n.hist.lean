/-! remembered states -/
def HC (M : Mem) (a : Nat) (f : Nat → Reg) : Prop := M 20 2 1 = Int32.ofNat a ∧ a ≤ 14 ∧ ∃ p : Nat → Nat, (∀ k, k < 14 → p k < 14 ∧ M 20 3 k = Int32.ofNat (p k)) ∧ (∀ k k', k < 14 → k' < 14 → p k = p k' → k = k') ∧ ∀ k, k < a → M (p k + 2) = f k
theorem HC.same {M M' : Mem} {a : Nat} {f : Nat → Reg} (H : HC M a f) (h1 : ∀ i, 2 ≤ i → i < 16 → M' i = M i) (h2 : M' 20 2 1 = M 20 2 1) (h3 : M' 20 3 = M 20 3) : HC M' a f := by
  obtain ⟨e1, e2, p, p1, p2, p3⟩ := H
  refine ⟨by rw [h2]; exact e1, e2, p, fun k hk => by rw [h3]; exact p1 k hk, p2, fun k hk => ?_⟩
  have := (p1 k (by omega)).1
  rw [h1 _ (by omega) (by omega)]
  exact p3 k hk
/-- what is kept besides the remembered states -/
def Keep (M M1 : Mem) : Prop := M1 0 = M 0 ∧ M1 1 = M 1 ∧ (∀ i, 16 ≤ i → i ≠ 20 → M1 i = M i) ∧ ∀ j, j ≠ 2 → j ≠ 3 → M1 20 j = M 20 j
theorem s0_L13 {M : Mem} {a T : Nat} {f : Nat → Reg} {m : Row} {P : Mem → Prop} (H : HC M a f) (ha : a < 14) (R : HR T (M 0) m) (h : ∀ (M1 : Mem) (c1 : Reg), Keep M M1 → HR T c1 m → HC M1 (a + 1) (fun k => if k = a then c1 else f k) → P M1) : wX0_remember_L13 P M := by
  obtain ⟨e1, e2, p, p1, p2, p3⟩ := H
  have pa := p1 a ha
  unfold wX0_remember_L13
  rw [e1, tn_nat (by omega), pa.2, tn_nat (by omega)]
  refine ⟨fun q => ?_, fun _ => ⟨fun q => ?_, fun _ => ⟨nn_in (by omega) ha, pa.1, h3_copyFrom R (fun c1 R1 => h _ c1 ⟨?_, ?_, fun i h1 h2 => ?_, fun j h1 h2 => ?_⟩ R1 ⟨?_, by omega, p, fun k hk => ?_, p2, fun k hk => ?_⟩)⟩⟩⟩
  · rw [show (0 : Int32) = Int32.ofNat 0 from rfl, nn_lt (by omega) (by omega)] at q
    omega
  · rw [show (14 : Int32) = Int32.ofNat 14 from rfl, nn_le (by omega) (by omega)] at q
    omega
  · rw [va_un _ _ (by omega), va_un _ _ (by omega)]
  · rw [va_un _ _ (by omega), va_un _ _ (by omega)]
  · rw [va_un _ _ h2, va_un _ _ (by omega)]
  · rw [va_us, cu_e, va_un _ _ h1, va_un _ _ (by omega)]
  · rw [va_us, cu_e, va_us, upd_s, va_un _ _ (by omega), e1, nn_s]
  · rw [va_us, cu_e, va_un _ _ (by decide), va_un _ _ (by omega)]
    exact p1 k hk
  · dsimp only
    by_cases e : k = a
    · subst e
      rw [if_pos rfl, va_un _ _ (by omega), va_us]
    · rw [if_neg e]
      have hp := (p1 k (by omega)).1
      have hne : p k ≠ p a := fun q => e (p2 k a (by omega) ha q)
      rw [va_un _ _ (by omega), va_un _ _ (by omega)]
      exact p3 k (by omega)
theorem s0_forgetOldest {M : Mem} {f : Nat → Reg} {P : Mem → Prop} (H : HC M 14 f) (h : ∀ M1 : Mem, Keep M M1 → HC M1 13 (fun k => f (k + 1)) → P M1) : wX0_forgetOldest M P := by
  obtain ⟨e1, e2, p, p1, p2, p3⟩ := H
  have p0 := p1 0 (by decide)
  refine ⟨by rw [p0.2, tn_nat (by omega)]; exact p0.1, ?_⟩
  have key : ∀ (r k : Nat) (M1 : Mem), k + r = 14 → 1 ≤ k → (∀ i, i ≠ 20 → M1 i = M i) → (∀ j, j ≠ 3 → M1 20 j = M 20 j) → (∀ i, i < 14 → M1 20 3 i = if i + 1 < k then Int32.ofNat (p (i + 1)) else Int32.ofNat (p i)) → wX0_forgetOldest_L9 P (r + 1) (M 20 3 0) (Int32.ofNat k) M1 := by
    intro r
    induction r with
    | zero =>
      intro k M1 hk hk1 h1 h2 h3
      have hk : k = 14 := hk
      subst hk
      refine ⟨by rw [p0.2, tn_nat (by omega)]; exact p0.1, fun _ => h _ ⟨?_, ?_, fun i g1 g2 => ?_, fun j g1 g2 => ?_⟩ ⟨?_, by omega, fun i => if i = 13 then p 0 else p (i + 1), fun k hk => ?_, fun k k' hk hk' he => ?_, fun k hk => ?_⟩, fun q => absurd (by decide) q⟩
      · rw [va_un _ _ (by omega), va_un _ _ (by omega)]; exact h1 0 (by omega)
      · rw [va_un _ _ (by omega), va_un _ _ (by omega)]; exact h1 1 (by omega)
      · rw [va_un _ _ g2, va_un _ _ g2]; exact h1 i g2
      · rw [va_us, cu_e, va_un _ _ g1, va_us, cu_e, va_un _ _ g2]; exact h2 j g2
      · rw [va_us, cu_e, va_us, upd_s]; rfl
      · rw [va_us, cu_e, va_un _ _ (by decide), va_us, cu_e, va_us]
        dsimp only
        by_cases e : k = 13
        · subst e
          rw [if_pos rfl, upd_s]
          exact p0
        · rw [if_neg e, upd_n _ _ e, h3 k hk, if_pos (by omega)]
          exact ⟨(p1 (k + 1) (by omega)).1, rfl⟩
      · dsimp only at he
        by_cases a1 : k = 13
        · by_cases a2 : k' = 13
          · omega
          · rw [if_pos a1, if_neg a2] at he
            have := p2 0 (k' + 1) (by omega) (by omega) he
            omega
        · by_cases a2 : k' = 13
          · rw [if_neg a1, if_pos a2] at he
            have := p2 (k + 1) 0 (by omega) (by omega) he
            omega
          · rw [if_neg a1, if_neg a2] at he
            have := p2 (k + 1) (k' + 1) (by omega) (by omega) he
            omega
      · have hp := (p1 (k + 1) (by omega)).1
        dsimp only
        rw [if_neg (by omega), va_un _ _ (by omega), va_un _ _ (by omega), h1 _ (by omega)]
        exact p3 (k + 1) (by omega)
    | succ r ih =>
      intro k M1 hk hk1 h1 h2 h3
      have ek : Int32.ofNat k - 1 = Int32.ofNat (k - 1) := by
        rw [show k = (k - 1) + 1 by omega, ← nn_s, show (k - 1 + 1 - 1) = k - 1 by omega]
        exact Int32.add_sub_cancel _ _
      have e3 : M1 20 3 k = Int32.ofNat (p k) := by rw [h3 k (by omega), if_neg (by omega)]
      refine ⟨by rw [p0.2, tn_nat (by omega)]; exact p0.1, fun q => ?_, fun _ => ?_⟩
      · rw [show (14 : Int32) = Int32.ofNat 14 from rfl, nn_le (by omega) (by omega)] at q
        omega
      · rw [ek, tn_nat (by omega), tn_nat (by omega), e3, tn_nat (by have := (p1 k (by omega)).1; omega), nn_s]
        refine ⟨nn_in (by omega) (by omega), (p1 k (by omega)).1, nn_in (by omega) (by omega), ih (k + 1) _ (by omega) (by omega) (fun i hi => ?_) (fun j hj => ?_) (fun i hi => ?_)⟩
        · rw [va_un _ _ hi]; exact h1 i hi
        · rw [va_us, cu_e, va_un _ _ hj]; exact h2 j hj
        · rw [va_us, cu_e, va_us]
          by_cases e : i = k - 1
          · subst e
            rw [upd_s, if_pos (by omega), show k - 1 + 1 = k by omega]
          · rw [upd_n _ _ e, h3 i hi]
            by_cases g : i + 1 < k
            · rw [if_pos g, if_pos (by omega)]
            · rw [if_neg g, if_neg (by omega)]
  exact ⟨14, key 13 1 M (by omega) (by omega) (fun _ _ => rfl) (fun _ _ => rfl) (fun i hi => by rw [if_neg (by omega)]; exact (p1 i hi).2)⟩
def acts1 (a : Nat) : Nat := if a = 14 then 14 else a + 1
def push {α : Type} (a : Nat) (f : Nat → α) (x : α) : Nat → α := fun k => if a = 14 then (if k = 13 then x else f (k + 1)) else (if k = a then x else f k)
theorem push_ok {α β : Type} {Q : α → β → Prop} {a : Nat} {f : Nat → α} {g : Nat → β} {x : α} {y : β} (h : ∀ k, k < a → Q (f k) (g k)) (hx : Q x y) : ∀ k, k < acts1 a → Q (push a f x k) (push a g y k) := by
  intro k hk
  unfold acts1 at hk
  unfold push
  by_cases e : a = 14
  · rw [if_pos e] at hk
    rw [if_pos e, if_pos e]
    by_cases e2 : k = 13
    · rw [if_pos e2, if_pos e2]; exact hx
    · rw [if_neg e2, if_neg e2]; exact h _ (by omega)
  · rw [if_neg e] at hk
    rw [if_neg e, if_neg e]
    by_cases e2 : k = a
    · rw [if_pos e2, if_pos e2]; exact hx
    · rw [if_neg e2, if_neg e2]; exact h _ (by omega)
theorem Keep.trans {M M1 M2 : Mem} (h1 : Keep M M1) (h2 : Keep M1 M2) : Keep M M2 := by
  obtain ⟨a1, a2, a3, a4⟩ := h1
  obtain ⟨b1, b2, b3, b4⟩ := h2
  exact ⟨b1.trans a1, b2.trans a2, fun i g1 g2 => (b3 i g1 g2).trans (a3 i g1 g2), fun j g1 g2 => (b4 j g1 g2).trans (a4 j g1 g2)⟩
theorem s0_remember {M : Mem} {a T : Nat} {f : Nat → Reg} {m : Row} {P : Mem → Prop} (H : HC M a f) (R : HR T (M 0) m) (h : ∀ (M1 : Mem) (c1 : Reg), Keep M M1 → HR T c1 m → HC M1 (acts1 a) (push a f c1) → P M1) : wX0_remember M P := by
  have e1 := H.1
  have e2 := H.2.1
  refine ⟨fun q => ?_, fun q => ?_⟩
  · rw [e1, show (14 : Int32) = Int32.ofNat 14 from rfl, nn_lt (by omega) (by omega)] at q
    refine s0_L13 H q R (fun M1 c1 k1 r1 h1 => h M1 c1 k1 r1 ?_)
    have ea : acts1 a = a + 1 := by unfold acts1; rw [if_neg (by omega)]
    have ep : push a f c1 = fun k => if k = a then c1 else f k := by funext k; unfold push; rw [if_neg (by omega)]
    rw [ea, ep]
    exact h1
  · rw [e1, show (14 : Int32) = Int32.ofNat 14 from rfl, nn_lt (by omega) (by omega)] at q
    have ea14 : a = 14 := by omega
    subst ea14
    refine s0_forgetOldest H (fun M1 k1 h1 => s0_L13 h1 (by omega) (m := m) (T := T) (by rw [k1.1]; exact R) (fun M2 c2 k2 r2 h2 => h M2 c2 (k1.trans k2) r2 ?_))
    exact h2
theorem s0_takeBack {M : Mem} {a T : Nat} {f : Nat → Reg} {m : Row} {P : Mem → Prop} (H : HC M (a + 1) f) (R : HR T (f a) m) (h : ∀ c1 : Reg, HR T c1 m → P (va_up (va_up M 0 c1) 20 (cu (M 20) 2 1 (Int32.ofNat a)))) : wX0_takeBackInto M P := by
  obtain ⟨e1, e2, p, p1, p2, p3⟩ := H
  have ek : M 20 2 1 - 1 = Int32.ofNat a := by
    rw [e1, ← nn_s]
    exact Int32.add_sub_cancel _ _
  have pa := p1 a (by omega)
  unfold wX0_takeBackInto
  rw [ek, tn_nat (by omega), pa.2, tn_nat (by omega), p3 a (by omega)]
  refine ⟨fun q => ?_, fun _ => ⟨fun q => ?_, fun _ => ⟨nn_in (by omega) (by omega), pa.1, h3_copyFrom R (fun c1 R1 => ?_)⟩⟩⟩
  · rw [show (0 : Int32) = Int32.ofNat 0 from rfl, nn_lt (by omega) (by omega)] at q
    omega
  · rw [show (14 : Int32) = Int32.ofNat 14 from rfl, nn_le (by omega) (by omega)] at q
    omega
  · rw [va_un _ _ (by decide : (20 : Nat) ≠ 0)]
    exact h c1 R1
