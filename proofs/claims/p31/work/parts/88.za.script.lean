/-! long division -/
theorem tl_div {a b : Int64} (ha : 0 ≤ a.toInt) (hb : 0 < b.toInt) : (a / b).toInt = a.toInt / b.toInt := by
  have h1 := Int64.toInt_lt a
  have h2 : a.toInt / b.toInt ≤ a.toInt := Int.ediv_le_self b.toInt ha
  have h3 : 0 ≤ a.toInt / b.toInt := Int.ediv_nonneg ha (Int.le_of_lt hb)
  rw [Int64.toInt_div, Int.tdiv_eq_ediv_of_nonneg ha, bm64 (by omega) (by omega)]
def gdf (x : Int64) : Nat → Int64
  | 0 => x
  | e + 1 => gdf x e / 10000
theorem gdf_e {x : Int64} {A : Nat} (h : x.toInt = A) : ∀ e, (gdf x e).toInt = (A / 10000 ^ e : Nat) := by
  intro e
  induction e with
  | zero =>
    show x.toInt = _
    rw [h, Nat.pow_zero, Nat.div_one]
  | succ e ih =>
    show (gdf x e / 10000).toInt = _
    rw [tl_div (by rw [ih]; exact Int.natCast_nonneg _) (by decide), ih, Nat.pow_succ, ← Nat.div_div_eq_div_mul]
    rfl
def ttf : Nat → Int64
  | 0 => 1
  | k + 1 => ttf k * 10
def lsf : Nat → Int64
  | 0 => 1
  | k + 1 => lsf k * 10000
theorem ttf_lsf : ∀ N, N < 5 → ttf (4 * N) = lsf N ∧ (ttf (4 * N)).toInt = (10000 ^ N : Nat) ∧ (lsf N - 1).toInt = (10000 ^ N : Nat) - 1 ∧ (ttf (4 * N) - 1).toInt = (10000 ^ N : Nat) - 1 := by decide
theorem c5_longest {k : Nat} {P : Int64 → Prop} (hk : k < 1000) (h : P (lsf k - 1)) : wX5_longestScript (Int32.ofNat k) P := by
  have key : ∀ (r i : Nat), i + r = k → wX5_longestScript_L4 (Int32.ofNat k) P (r + 1) (lsf i) (Int32.ofNat i) := by
    intro r
    induction r with
    | zero =>
      intro i hi
      have hi : i = k := hi
      subst hi
      exact ⟨fun _ => h, fun q => absurd (Int32.le_refl _) q⟩
    | succ r ih =>
      intro i hi
      refine ⟨fun q => ?_, fun _ => ?_⟩
      · rw [nn_le (by omega) (by omega)] at q
        omega
      · rw [nn_s]
        exact ih (i + 1) (by omega)
  exact ⟨_, key k 0 (by omega)⟩
/-- the group of a number -/
def grp (A e : Nat) : Nat := A / 10000 ^ e % 10000
theorem grp_lt (A e : Nat) : grp A e < 10000 := Nat.mod_lt _ (by decide)
theorem grp_e {q : Int64} {Q : Nat} (h : q.toInt = Q) : Int64.toInt32 (q - q / 10000 * 10000) = Int32.ofNat (Q % 10000) := by
  have h1 := Int64.toInt_lt q
  have i4 : (10000 : Int64).toInt = 10000 := by decide
  have h2 : (q / 10000).toInt = (Q / 10000 : Nat) := by
    rw [tl_div (by omega) (by decide), h, i4]
    rfl
  have h3 : (q / 10000 * 10000).toInt = (Q / 10000 : Nat) * 10000 := by
    rw [tl_mul (by rw [h2, i4]; omega) (by rw [h2, i4]; omega), h2, i4]
  have h4 : (q - q / 10000 * 10000).toInt = (Q % 10000 : Nat) := by
    rw [tl_sub (by rw [h3]; omega) (by rw [h3]; omega), h3, h]
    omega
  refine Int32.toInt_inj.mp ?_
  rw [Int64.toInt_toInt32, h4, bm32 (by omega) (by omega), ti_nat (by omega)]
theorem c5_groupAt {N v A : Nat} {a : Int64} {P : Int32 → Prop} (ha : a.toInt = A) (hN : N < 1000) (hv : v < N) (h : P (Int32.ofNat (grp A (N - 1 - v)))) : wX5_groupAt (Int32.ofNat N) a (Int32.ofNat v) P := by
  unfold wX5_groupAt
  rw [nn_s]
  have key : ∀ (r i : Nat), i + r = N → v + 1 ≤ i → wX5_groupAt_L8 (Int32.ofNat N) a (Int32.ofNat v) P (r + 1) (gdf a (i - (v + 1))) (Int32.ofNat i) := by
    intro r
    induction r with
    | zero =>
      intro i hi hvi
      have hi : i = N := hi
      subst hi
      refine ⟨fun _ => ?_, fun q => absurd (Int32.le_refl _) q⟩
      rw [grp_e (gdf_e ha _), show i - (v + 1) = i - 1 - v by omega]
      exact h
    | succ r ih =>
      intro i hi hvi
      refine ⟨fun q => ?_, fun _ => ?_⟩
      · rw [nn_le (by omega) (by omega)] at q
        omega
      · rw [nn_s, show gdf a (i - (v + 1)) / 10000 = gdf a (i + 1 - (v + 1)) from (by rw [show i + 1 - (v + 1) = (i - (v + 1)) + 1 by omega]; rfl)]
        exact ih (i + 1) (by omega) (by omega)
  have hs := key (N - (v + 1)) (v + 1) (by omega) (Nat.le_refl _)
  rw [show v + 1 - (v + 1) = 0 by omega] at hs
  exact ⟨_, hs⟩
/-! scripts -/
noncomputable def rsf (n : Nat) (gr : Nat → Nat) : Nat → Nat → Row → Int32
  | 0, _, _ => -99999
  | r + 1, v, m => @ite Int32 (cOk n m (gr v / 1000) (gr v / 100 % 10) (gr v % 100)) (Classical.propDecidable _) (rsf n gr r (v + 1) (cRow n m (gr v / 1000) (gr v / 100 % 10) (gr v % 100))) (Int32.ofNat v)
theorem rsf_t {n : Nat} {gr : Nat → Nat} {r v : Nat} {m : Row} (h : cOk n m (gr v / 1000) (gr v / 100 % 10) (gr v % 100)) : rsf n gr (r + 1) v m = rsf n gr r (v + 1) (cRow n m (gr v / 1000) (gr v / 100 % 10) (gr v % 100)) := by
  show @ite Int32 _ (Classical.propDecidable _) _ _ = _
  rw [if_pos h]
theorem rsf_f {n : Nat} {gr : Nat → Nat} {r v : Nat} {m : Row} (h : ¬ cOk n m (gr v / 1000) (gr v / 100 % 10) (gr v % 100)) : rsf n gr (r + 1) v m = Int32.ofNat v := by
  show @ite Int32 _ (Classical.propDecidable _) _ _ = _
  rw [if_neg h]
theorem k5_script {n N A : Nat} {a : Int64} {M : Mem} {res : Int32} {P : Int32 → Mem → Prop} {X : String → Mem → Prop} (ha : a.toInt = A) (hN : N < 5) (h : ∀ M2 : Mem, (∀ j, j ≠ 1 → M2 j = M j) → P res M2) : ∀ (r v T : Nat) (m : Row) (M2 : Mem), v + r = N → Inv n T m → T + 60 * r ≤ 200000 → (∀ j, j ≠ 1 → M2 j = M j) → RlM n (M2 1) m → res = rsf n (fun v => grp A (N - 1 - v)) r v m → wX5_runScript_L61 (Int32.ofNat N) a P X (r + 1) (Int32.ofNat v) M2 := by
  intro r
  induction r with
  | zero =>
    intro v T m M2 hv I hT h1 R ht
    have hv : v = N := hv
    subst hv
    have h2 := h M2 h1
    rw [ht] at h2
    exact ⟨fun _ => h2, fun q => absurd (Int32.le_refl _) q⟩
  | succ r ih =>
    intro v T m M2 hv I hT h1 R ht
    refine ⟨fun q => ?_, fun _ => c5_groupAt ha (by omega) (by omega) (k5_cmd I R (by omega) (grp_lt _ _) (fun ok M3 h3 R3 => ⟨fun _ => ?_, fun q => absurd q z10⟩) (fun no M3 h3 => ⟨fun q => absurd rfl q, fun _ => ?_⟩))⟩
    · rw [nn_le (by omega) (by omega)] at q
      omega
    · rw [nn_s]
      exact ih (v + 1) (T + 60) _ M3 (by omega) (I.cmd (by omega) (by omega) (by omega) ok) (by omega) (fun j hj => by rw [h3 j hj]; exact h1 j hj) R3 (ht.trans (rsf_t (gr := fun v => grp A (N - 1 - v)) ok))
    · have h2 := h M3 (fun j hj => by rw [h3 j hj]; exact h1 j hj)
      rw [ht, rsf_f (gr := fun v => grp A (N - 1 - v)) no] at h2
      exact h2
theorem l0 : (0 : Int64).toInt = 0 := by decide
