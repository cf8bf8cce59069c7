/-! remembered states -/
def HC (M : Mem) (a : Nat) (f : Nat → Reg) : Prop := M 20 2 1 = Int32.ofNat a ∧ a ≤ 14 ∧ ∃ p : Nat → Nat, (∀ k, k < 14 → p k < 14 ∧ M 20 3 k = Int32.ofNat (p k)) ∧ (∀ k k', k < 14 → k' < 14 → p k = p k' → k = k') ∧ ∀ k, k < a → M (p k + 2) = f k
def HM (c : Reg) (a : Nat) (g : Nat → Row) : Prop := c 0 9 = Int32.ofNat a ∧ a ≤ 14 ∧ ∀ k i, k < a → i < 128 → c 5 (128 * k + i) = g k i
theorem HC.same {M M' : Mem} {a : Nat} {f : Nat → Reg} (H : HC M a f) (h1 : ∀ i, 2 ≤ i → i < 16 → M' i = M i) (h2 : M' 20 2 1 = M 20 2 1) (h3 : M' 20 3 = M 20 3) : HC M' a f := by
  obtain ⟨e1, e2, p, p1, p2, p3⟩ := H
  refine ⟨by rw [h2]; exact e1, e2, p, fun k hk => by rw [h3]; exact p1 k hk, p2, fun k hk => ?_⟩
  have := (p1 k (by omega)).1
  rw [h1 _ (by omega) (by omega)]
  exact p3 k hk
theorem HM.same {c c' : Reg} {a : Nat} {g : Nat → Row} (H : HM c a g) (h1 : c' 0 9 = c 0 9) (h2 : c' 5 = c 5) : HM c' a g := by
  unfold HM
  rw [h1, h2]
  exact H
/-- what is kept besides the remembered states -/
def Keep (M M1 : Mem) : Prop := M1 0 = M 0 ∧ M1 1 = M 1 ∧ (∀ i, 16 ≤ i → i ≠ 20 → M1 i = M i) ∧ ∀ j, j ≠ 2 → j ≠ 3 → M1 20 j = M 20 j
theorem s0_L13 {M : Mem} {a T : Nat} {f : Nat → Reg} {m : Row} {P : Mem → Prop} (H : HC M a f) (ha : a < 14) (R : HR T (M 0) m) (h : ∀ (M1 : Mem) (c1 : Reg), Keep M M1 → HR T c1 m → HC M1 (a + 1) (fun k => if k = a then c1 else f k) → P M1) : wX0_remember_L13 P M := by
  obtain ⟨e1, e2, p, p1, p2, p3⟩ := H
  have pa := p1 a ha
  unfold wX0_remember_L13
  rw [e1, tn_nat (by omega), pa.2, tn_nat (by omega)]
  refine ⟨fun q => ?_, fun _ => ⟨fun q => ?_, fun _ => ⟨nn_in (by omega) ha, pa.1, h3_copyFrom R (fun c1 R1 => h _ c1 ⟨?_, ?_, fun i h1 h2 => ?_, fun j h1 h2 => ?_⟩ R1 ⟨?_, by omega, p, fun k hk => ?_, p2, fun k hk => ?_⟩)⟩⟩⟩
  · rw [show (0 : Int32) = Int32.ofNat 0 from rfl, nn_lt (by omega) (by omega)] at q
    omega
  · rw [show (14 : Int32) = Int32.ofNat 14 from rfl, nn_le (by omega) (by omega)] at q
    omega
  · rw [va_un _ _ (by omega), va_un _ _ (by omega)]
  · rw [va_un _ _ (by omega), va_un _ _ (by omega)]
  · rw [va_un _ _ h2, va_un _ _ (by omega)]
  · rw [va_us, cu_e, va_un _ _ h1, va_un _ _ (by omega)]
  · rw [va_us, cu_e, va_us, upd_s, va_un _ _ (by omega), e1, nn_s]
  · rw [va_us, cu_e, va_un _ _ (by decide), va_un _ _ (by omega)]
    exact p1 k hk
  · dsimp only
    by_cases e : k = a
    · subst e
      rw [if_pos rfl, va_un _ _ (by omega), va_us]
    · rw [if_neg e]
      have hp := (p1 k (by omega)).1
      have hne : p k ≠ p a := fun q => e (p2 k a (by omega) ha q)
      rw [va_un _ _ (by omega), va_un _ _ (by omega)]
      exact p3 k (by omega)
theorem s0_forgetOldest {M : Mem} {f : Nat → Reg} {P : Mem → Prop} (H : HC M 14 f) (h : ∀ M1 : Mem, Keep M M1 → HC M1 13 (fun k => f (k + 1)) → P M1) : wX0_forgetOldest M P := by
  obtain ⟨e1, e2, p, p1, p2, p3⟩ := H
  have p0 := p1 0 (by decide)
  refine ⟨by rw [p0.2, tn_nat (by omega)]; exact p0.1, ?_⟩
  have key : ∀ (r k : Nat) (M1 : Mem), k + r = 14 → 1 ≤ k → (∀ i, i ≠ 20 → M1 i = M i) → (∀ j, j ≠ 3 → M1 20 j = M 20 j) → (∀ i, i < 14 → M1 20 3 i = if i + 1 < k then Int32.ofNat (p (i + 1)) else Int32.ofNat (p i)) → wX0_forgetOldest_L9 P (r + 1) (M 20 3 0) (Int32.ofNat k) M1 := by
    intro r
    induction r with
    | zero =>
      intro k M1 hk hk1 h1 h2 h3
      have hk : k = 14 := hk
      subst hk
      refine ⟨by rw [p0.2, tn_nat (by omega)]; exact p0.1, fun _ => h _ ⟨?_, ?_, fun i g1 g2 => ?_, fun j g1 g2 => ?_⟩ ⟨?_, by omega, fun i => if i = 13 then p 0 else p (i + 1), fun k hk => ?_, fun k k' hk hk' he => ?_, fun k hk => ?_⟩, fun q => absurd (by decide) q⟩
      · rw [va_un _ _ (by omega), va_un _ _ (by omega)]; exact h1 0 (by omega)
      · rw [va_un _ _ (by omega), va_un _ _ (by omega)]; exact h1 1 (by omega)
      · rw [va_un _ _ g2, va_un _ _ g2]; exact h1 i g2
      · rw [va_us, cu_e, va_un _ _ g1, va_us, cu_e, va_un _ _ g2]; exact h2 j g2
      · rw [va_us, cu_e, va_us, upd_s]; rfl
      · rw [va_us, cu_e, va_un _ _ (by decide), va_us, cu_e, va_us]
        dsimp only
        by_cases e : k = 13
        · subst e
          rw [if_pos rfl, upd_s]
          exact p0
        · rw [if_neg e, upd_n _ _ e, h3 k hk, if_pos (by omega)]
          exact ⟨(p1 (k + 1) (by omega)).1, rfl⟩
      · dsimp only at he
        by_cases a1 : k = 13
        · by_cases a2 : k' = 13
          · omega
          · rw [if_pos a1, if_neg a2] at he
            have := p2 0 (k' + 1) (by omega) (by omega) he
            omega
        · by_cases a2 : k' = 13
          · rw [if_neg a1, if_pos a2] at he
            have := p2 (k + 1) 0 (by omega) (by omega) he
            omega
          · rw [if_neg a1, if_neg a2] at he
            have := p2 (k + 1) (k' + 1) (by omega) (by omega) he
            omega
      · have hp := (p1 (k + 1) (by omega)).1
        dsimp only
        rw [if_neg (by omega), va_un _ _ (by omega), va_un _ _ (by omega), h1 _ (by omega)]
        exact p3 (k + 1) (by omega)
    | succ r ih =>
      intro k M1 hk hk1 h1 h2 h3
      have ek : Int32.ofNat k - 1 = Int32.ofNat (k - 1) := by
        rw [show k = (k - 1) + 1 by omega, ← nn_s, show (k - 1 + 1 - 1) = k - 1 by omega]
        exact Int32.add_sub_cancel _ _
      have e3 : M1 20 3 k = Int32.ofNat (p k) := by rw [h3 k (by omega), if_neg (by omega)]
      refine ⟨by rw [p0.2, tn_nat (by omega)]; exact p0.1, fun q => ?_, fun _ => ?_⟩
      · rw [show (14 : Int32) = Int32.ofNat 14 from rfl, nn_le (by omega) (by omega)] at q
        omega
      · rw [ek, tn_nat (by omega), tn_nat (by omega), e3, tn_nat (by have := (p1 k (by omega)).1; omega), nn_s]
        refine ⟨nn_in (by omega) (by omega), (p1 k (by omega)).1, nn_in (by omega) (by omega), ih (k + 1) _ (by omega) (by omega) (fun i hi => ?_) (fun j hj => ?_) (fun i hi => ?_)⟩
        · rw [va_un _ _ hi]; exact h1 i hi
        · rw [va_us, cu_e, va_un _ _ hj]; exact h2 j hj
        · rw [va_us, cu_e, va_us]
          by_cases e : i = k - 1
          · subst e
            rw [upd_s, if_pos (by omega), show k - 1 + 1 = k by omega]
          · rw [upd_n _ _ e, h3 i hi]
            by_cases g : i + 1 < k
            · rw [if_pos g, if_pos (by omega)]
            · rw [if_neg g, if_neg (by omega)]
  exact ⟨14, key 13 1 M (by omega) (by omega) (fun _ _ => rfl) (fun _ _ => rfl) (fun i hi => by rw [if_neg (by omega)]; exact (p1 i hi).2)⟩
def acts1 (a : Nat) : Nat := if a = 14 then 14 else a + 1
def push {α : Type} (a : Nat) (f : Nat → α) (x : α) : Nat → α := fun k => if a = 14 then (if k = 13 then x else f (k + 1)) else (if k = a then x else f k)
theorem push_ok {α β : Type} {Q : α → β → Prop} {a : Nat} {f : Nat → α} {g : Nat → β} {x : α} {y : β} (h : ∀ k, k < a → Q (f k) (g k)) (hx : Q x y) : ∀ k, k < acts1 a → Q (push a f x k) (push a g y k) := by
  intro k hk
  unfold acts1 at hk
  unfold push
  by_cases e : a = 14
  · rw [if_pos e] at hk
    rw [if_pos e, if_pos e]
    by_cases e2 : k = 13
    · rw [if_pos e2, if_pos e2]; exact hx
    · rw [if_neg e2, if_neg e2]; exact h _ (by omega)
  · rw [if_neg e] at hk
    rw [if_neg e, if_neg e]
    by_cases e2 : k = a
    · rw [if_pos e2, if_pos e2]; exact hx
    · rw [if_neg e2, if_neg e2]; exact h _ (by omega)
theorem Keep.trans {M M1 M2 : Mem} (h1 : Keep M M1) (h2 : Keep M1 M2) : Keep M M2 := by
  obtain ⟨a1, a2, a3, a4⟩ := h1
  obtain ⟨b1, b2, b3, b4⟩ := h2
  exact ⟨b1.trans a1, b2.trans a2, fun i g1 g2 => (b3 i g1 g2).trans (a3 i g1 g2), fun j g1 g2 => (b4 j g1 g2).trans (a4 j g1 g2)⟩
theorem s0_remember {M : Mem} {a T : Nat} {f : Nat → Reg} {m : Row} {P : Mem → Prop} (H : HC M a f) (R : HR T (M 0) m) (h : ∀ (M1 : Mem) (c1 : Reg), Keep M M1 → HR T c1 m → HC M1 (acts1 a) (push a f c1) → P M1) : wX0_remember M P := by
  have e1 := H.1
  have e2 := H.2.1
  refine ⟨fun q => ?_, fun q => ?_⟩
  · rw [e1, show (14 : Int32) = Int32.ofNat 14 from rfl, nn_lt (by omega) (by omega)] at q
    refine s0_L13 H q R (fun M1 c1 k1 r1 h1 => h M1 c1 k1 r1 ?_)
    have ea : acts1 a = a + 1 := by unfold acts1; rw [if_neg (by omega)]
    have ep : push a f c1 = fun k => if k = a then c1 else f k := by funext k; unfold push; rw [if_neg (by omega)]
    rw [ea, ep]
    exact h1
  · rw [e1, show (14 : Int32) = Int32.ofNat 14 from rfl, nn_lt (by omega) (by omega)] at q
    have ea14 : a = 14 := by omega
    subst ea14
    refine s0_forgetOldest H (fun M1 k1 h1 => s0_L13 h1 (by omega) (m := m) (T := T) (by rw [k1.1]; exact R) (fun M2 c2 k2 r2 h2 => h M2 c2 (k1.trans k2) r2 ?_))
    exact h2
theorem s0_takeBack {M : Mem} {a T : Nat} {f : Nat → Reg} {m : Row} {P : Mem → Prop} (H : HC M (a + 1) f) (R : HR T (f a) m) (h : ∀ c1 : Reg, HR T c1 m → P (va_up (va_up M 0 c1) 20 (cu (M 20) 2 1 (Int32.ofNat a)))) : wX0_takeBackInto M P := by
  obtain ⟨e1, e2, p, p1, p2, p3⟩ := H
  have ek : M 20 2 1 - 1 = Int32.ofNat a := by
    rw [e1, ← nn_s]
    exact Int32.add_sub_cancel _ _
  have pa := p1 a (by omega)
  unfold wX0_takeBackInto
  rw [ek, tn_nat (by omega), pa.2, tn_nat (by omega), p3 a (by omega)]
  refine ⟨fun q => ?_, fun _ => ⟨fun q => ?_, fun _ => ⟨nn_in (by omega) (by omega), pa.1, h3_copyFrom R (fun c1 R1 => ?_)⟩⟩⟩
  · rw [show (0 : Int32) = Int32.ofNat 0 from rfl, nn_lt (by omega) (by omega)] at q
    omega
  · rw [show (14 : Int32) = Int32.ofNat 14 from rfl, nn_le (by omega) (by omega)] at q
    omega
  · rw [va_un _ _ (by decide : (20 : Nat) ≠ 0)]
    exact h c1 R1
/-! the model's diary -/
theorem mdl_v : mdl 1 = 80 ∧ mdl 2 = 128 ∧ mdl 3 = 128 ∧ mdl 4 = 128 ∧ mdl 5 = 1792 ∧ mdl 6 = 256 := by decide
theorem s6_note37 {c : Reg} {a : Nat} {g : Nat → Row} {P : Reg → Prop} (H : HM c a g) (ha : a < 14) (h : ∀ c1 : Reg, (∀ j, j ≠ 0 → j ≠ 5 → c1 j = c j) → (∀ i, i ≠ 9 → c1 0 i = c 0 i) → HM c1 (a + 1) (fun k => if k = a then c 3 else g k) → P c1) : wX6_note_L37 P c := by
  obtain ⟨e1, e2, e3⟩ := H
  unfold wX6_note_L37
  rw [e1, show (128 : Int32) * Int32.ofNat a = Int32.ofNat (128 * a) from nn_m 128 a]
  refine s6_copy (j1 := 3) (j2 := 5) (s := 0) (d := 128 * a) (n := 128) (by decide) (by rw [mdl_v.2.2.2.2.1]; omega) (by decide) (by decide) (Or.inl (by decide)) (h _ (fun j h0 h5 => ?_) (fun i hi => ?_) ⟨?_, by omega, fun k i hk hi => ?_⟩)
  · rw [cu_e, va_un _ _ h0, va_un _ _ h5]
  · rw [cu_e, va_us, upd_n _ _ hi, va_un _ _ (by decide)]
  · rw [cu_e, va_us, upd_s, va_un _ _ (by decide), e1, nn_s]
  · rw [cu_e, va_un _ _ (by decide), va_us]
    unfold va_cpy
    dsimp only
    by_cases e : k = a
    · subst e
      rw [if_pos (by omega), if_pos rfl]
      exact congrArg _ (by omega)
    · rw [if_neg (by omega), if_neg e]
      exact e3 k i (by omega) hi
theorem s6_note {c : Reg} {a : Nat} {g : Nat → Row} {P : Reg → Prop} (H : HM c a g) (h : ∀ c1 : Reg, (∀ j, j ≠ 0 → j ≠ 5 → c1 j = c j) → (∀ i, i ≠ 9 → c1 0 i = c 0 i) → HM c1 (acts1 a) (push a g (c 3)) → P c1) : wX6_note c P := by
  obtain ⟨e1, e2, e3⟩ := H
  have e14 : c 0 9 = 14 ↔ a = 14 := by rw [e1]; exact nn_eq (b := 14) (by omega) (by omega)
  refine ⟨fun q => ?_, fun q => ?_⟩
  · have q1 : a ≠ 14 := fun e => q (e14.mpr e)
    refine s6_note37 ⟨e1, e2, e3⟩ (by omega) (fun c1 h1 h2 h3 => h c1 h1 h2 ?_)
    have ea : acts1 a = a + 1 := by unfold acts1; rw [if_neg q1]
    have ep : push a g (c 3) = fun k => if k = a then c 3 else g k := by funext k; unfold push; rw [if_neg q1]
    rw [ea, ep]
    exact h3
  · have q1 := e14.mp q
    subst q1
    refine s6_copy (j1 := 5) (j2 := 5) (s := 128) (d := 0) (n := 1664) (by decide) (by decide) (by decide) (by decide) (Or.inr (by decide)) ?_
    generalize hc : va_up c 5 (va_cpy (c 5) (c 5) 128 0 1664) = c1
    have o : ∀ j, j ≠ 5 → c1 j = c j := fun j hj => by rw [← hc, va_un _ _ hj]
    refine s6_note37 (a := 13) (g := fun k => g (k + 1)) ⟨?_, by omega, fun k i hk hi => ?_⟩ (by omega) (fun c2 h1 h2 h3 => h c2 (fun j h0 h5 => ?_) (fun i hi => ?_) ?_)
    · rw [cu_e, va_us, upd_s, o 0 (by decide), e1]
      rfl
    · rw [cu_e, va_un _ _ (by decide), ← hc, va_us]
      unfold va_cpy
      dsimp only
      rw [if_pos (by omega), ← e3 (k + 1) i (by omega) hi]
      exact congrArg _ (by omega)
    · rw [h1 j h0 h5, cu_e, va_un _ _ h0, o j h5]
    · rw [h2 i hi, cu_e, va_us, upd_n _ _ hi, o 0 (by decide)]
    · have e3' : cu c1 0 9 (c1 0 9 - 1) 3 = c 3 := by rw [cu_e, va_un _ _ (by decide), o 3 (by decide)]
      rw [e3'] at h3
      exact h3
