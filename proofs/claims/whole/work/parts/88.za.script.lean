/-! long division -/
theorem tl_div {a b : Int64} (ha : 0 ≤ a.toInt) (hb : 0 < b.toInt) : (a / b).toInt = a.toInt / b.toInt := by
  have h1 := Int64.toInt_lt a
  have h2 : a.toInt / b.toInt ≤ a.toInt := Int.ediv_le_self b.toInt ha
  have h3 : 0 ≤ a.toInt / b.toInt := Int.ediv_nonneg ha (Int.le_of_lt hb)
  rw [Int64.toInt_div, Int.tdiv_eq_ediv_of_nonneg ha, bm64 (by omega) (by omega)]
def gdf (x : Int64) : Nat → Int64
  | 0 => x
  | e + 1 => gdf x e / 10000
theorem gdf_e {x : Int64} {A : Nat} (h : x.toInt = A) : ∀ e, (gdf x e).toInt = (A / 10000 ^ e : Nat) := by
  intro e
  induction e with
  | zero =>
    show x.toInt = _
    rw [h, Nat.pow_zero, Nat.div_one]
  | succ e ih =>
    show (gdf x e / 10000).toInt = _
    rw [tl_div (by rw [ih]; exact Int.natCast_nonneg _) (by decide), ih, Nat.pow_succ, ← Nat.div_div_eq_div_mul]
    rfl
def ttf : Nat → Int64
  | 0 => 1
  | k + 1 => ttf k * 10
def lsf : Nat → Int64
  | 0 => 1
  | k + 1 => lsf k * 10000
theorem ttf_lsf : ∀ N, N < 5 → ttf (4 * N) = lsf N ∧ (ttf (4 * N)).toInt = (10000 ^ N : Nat) ∧ (lsf N - 1).toInt = (10000 ^ N : Nat) - 1 ∧ (ttf (4 * N) - 1).toInt = (10000 ^ N : Nat) - 1 := by decide
theorem c6_tenTo {k : Nat} {P : Int64 → Prop} (hk : k < 1000) (h : P (ttf k)) : wX6_tenTo (Int32.ofNat k) P := by
  have key : ∀ (r i : Nat), i + r = k → wX6_tenTo_L4 (Int32.ofNat k) P (r + 1) (ttf i) (Int32.ofNat i) := by
    intro r
    induction r with
    | zero =>
      intro i hi
      have hi : i = k := hi
      subst hi
      exact ⟨fun _ => h, fun q => absurd (Int32.le_refl _) q⟩
    | succ r ih =>
      intro i hi
      refine ⟨fun q => ?_, fun _ => ?_⟩
      · rw [nn_le (by omega) (by omega)] at q
        omega
      · rw [nn_s]
        exact ih (i + 1) (by omega)
  exact ⟨_, key k 0 (by omega)⟩
theorem c5_longest {k : Nat} {P : Int64 → Prop} (hk : k < 1000) (h : P (lsf k - 1)) : wX5_longestScript (Int32.ofNat k) P := by
  have key : ∀ (r i : Nat), i + r = k → wX5_longestScript_L4 (Int32.ofNat k) P (r + 1) (lsf i) (Int32.ofNat i) := by
    intro r
    induction r with
    | zero =>
      intro i hi
      have hi : i = k := hi
      subst hi
      exact ⟨fun _ => h, fun q => absurd (Int32.le_refl _) q⟩
    | succ r ih =>
      intro i hi
      refine ⟨fun q => ?_, fun _ => ?_⟩
      · rw [nn_le (by omega) (by omega)] at q
        omega
      · rw [nn_s]
        exact ih (i + 1) (by omega)
  exact ⟨_, key k 0 (by omega)⟩
/-- the group of a number -/
def grp (A e : Nat) : Nat := A / 10000 ^ e % 10000
theorem grp_lt (A e : Nat) : grp A e < 10000 := Nat.mod_lt _ (by decide)
theorem grp_e {q : Int64} {Q : Nat} (h : q.toInt = Q) : Int64.toInt32 (q - q / 10000 * 10000) = Int32.ofNat (Q % 10000) := by
  have h1 := Int64.toInt_lt q
  have i4 : (10000 : Int64).toInt = 10000 := by decide
  have h2 : (q / 10000).toInt = (Q / 10000 : Nat) := by
    rw [tl_div (by omega) (by decide), h, i4]
    rfl
  have h3 : (q / 10000 * 10000).toInt = (Q / 10000 : Nat) * 10000 := by
    rw [tl_mul (by rw [h2, i4]; omega) (by rw [h2, i4]; omega), h2, i4]
  have h4 : (q - q / 10000 * 10000).toInt = (Q % 10000 : Nat) := by
    rw [tl_sub (by rw [h3]; omega) (by rw [h3]; omega), h3, h]
    omega
  refine Int32.toInt_inj.mp ?_
  rw [Int64.toInt_toInt32, h4, bm32 (by omega) (by omega), ti_nat (by omega)]
theorem c5_groupAt {N v A : Nat} {a : Int64} {P : Int32 → Prop} (ha : a.toInt = A) (hN : N < 1000) (hv : v < N) (h : P (Int32.ofNat (grp A (N - 1 - v)))) : wX5_groupAt (Int32.ofNat N) a (Int32.ofNat v) P := by
  unfold wX5_groupAt
  rw [nn_s]
  have key : ∀ (r i : Nat), i + r = N → v + 1 ≤ i → wX5_groupAt_L8 (Int32.ofNat N) a (Int32.ofNat v) P (r + 1) (gdf a (i - (v + 1))) (Int32.ofNat i) := by
    intro r
    induction r with
    | zero =>
      intro i hi hvi
      have hi : i = N := hi
      subst hi
      refine ⟨fun _ => ?_, fun q => absurd (Int32.le_refl _) q⟩
      rw [grp_e (gdf_e ha _), show i - (v + 1) = i - 1 - v by omega]
      exact h
    | succ r ih =>
      intro i hi hvi
      refine ⟨fun q => ?_, fun _ => ?_⟩
      · rw [nn_le (by omega) (by omega)] at q
        omega
      · rw [nn_s, show gdf a (i - (v + 1)) / 10000 = gdf a (i + 1 - (v + 1)) from (by rw [show i + 1 - (v + 1) = (i - (v + 1)) + 1 by omega]; rfl)]
        exact ih (i + 1) (by omega) (by omega)
  have hs := key (N - (v + 1)) (v + 1) (by omega) (Nat.le_refl _)
  rw [show v + 1 - (v + 1) = 0 by omega] at hs
  exact ⟨_, hs⟩
/-! scripts -/
noncomputable def rsf (n : Nat) (gr : Nat → Nat) : Nat → Nat → Row → Int32
  | 0, _, _ => -99999
  | r + 1, v, m => @ite Int32 (cOk n m (gr v / 1000) (gr v / 100 % 10) (gr v % 100)) (Classical.propDecidable _) (rsf n gr r (v + 1) (cRow n m (gr v / 1000) (gr v / 100 % 10) (gr v % 100))) (Int32.ofNat v)
theorem rsf_t {n : Nat} {gr : Nat → Nat} {r v : Nat} {m : Row} (h : cOk n m (gr v / 1000) (gr v / 100 % 10) (gr v % 100)) : rsf n gr (r + 1) v m = rsf n gr r (v + 1) (cRow n m (gr v / 1000) (gr v / 100 % 10) (gr v % 100)) := by
  show @ite Int32 _ (Classical.propDecidable _) _ _ = _
  rw [if_pos h]
theorem rsf_f {n : Nat} {gr : Nat → Nat} {r v : Nat} {m : Row} (h : ¬ cOk n m (gr v / 1000) (gr v / 100 % 10) (gr v % 100)) : rsf n gr (r + 1) v m = Int32.ofNat v := by
  show @ite Int32 _ (Classical.propDecidable _) _ _ = _
  rw [if_neg h]
theorem k5_script {n N A : Nat} {a : Int64} {M : Mem} {res : Int32} {P : Int32 → Mem → Prop} {X : String → Mem → Prop} (ha : a.toInt = A) (hN : N < 5) (h : ∀ M2 : Mem, (∀ j, j ≠ 1 → M2 j = M j) → P res M2) : ∀ (r v T : Nat) (m : Row) (M2 : Mem), v + r = N → Inv n T m → T + 60 * r ≤ 200000 → (∀ j, j ≠ 1 → M2 j = M j) → RlM n (M2 1) m → res = rsf n (fun v => grp A (N - 1 - v)) r v m → wX5_runScript_L61 (Int32.ofNat N) a P X (r + 1) (Int32.ofNat v) M2 := by
  intro r
  induction r with
  | zero =>
    intro v T m M2 hv I hT h1 R ht
    have hv : v = N := hv
    subst hv
    have h2 := h M2 h1
    rw [ht] at h2
    exact ⟨fun _ => h2, fun q => absurd (Int32.le_refl _) q⟩
  | succ r ih =>
    intro v T m M2 hv I hT h1 R ht
    refine ⟨fun q => ?_, fun _ => c5_groupAt ha (by omega) (by omega) (k5_cmd I R (by omega) (grp_lt _ _) (fun ok M3 h3 R3 => ⟨fun _ => ?_, fun q => absurd q z10⟩) (fun no M3 h3 => ⟨fun q => absurd rfl q, fun _ => ?_⟩))⟩
    · rw [nn_le (by omega) (by omega)] at q
      omega
    · rw [nn_s]
      exact ih (v + 1) (T + 60) _ M3 (by omega) (I.cmd (by omega) (by omega) (by omega) ok) (by omega) (fun j hj => by rw [h3 j hj]; exact h1 j hj) R3 (ht.trans (rsf_t (gr := fun v => grp A (N - 1 - v)) ok))
    · have h2 := h M3 (fun j hj => by rw [h3 j hj]; exact h1 j hj)
      rw [ht, rsf_f (gr := fun v => grp A (N - 1 - v)) no] at h2
      exact h2
theorem k6_script {n N A : Nat} {a : Int64} {c : Reg} {res : Int32} {P : Int32 → Reg → Prop} (ha : a.toInt = A) (hc : c 3 0 = Int32.ofNat n) (hN : N < 5) (h : ∀ row : Row, P res (va_up c 4 row)) : ∀ (r v T : Nat) (m : Row), v + r = N → Inv n T m → T + 60 * r ≤ 200000 → res = rsf n (fun v => grp A (N - 1 - v)) r v m → wX6_runScript_L62 (Int32.ofNat N) a P (r + 1) (Int32.ofNat v) (va_up c 4 m) := by
  intro r
  induction r with
  | zero =>
    intro v T m hv I hT ht
    have hv : v = N := hv
    subst hv
    have h2 := h m
    rw [ht] at h2
    exact ⟨fun _ => h2, fun q => absurd (Int32.le_refl _) q⟩
  | succ r ih =>
    intro v T m hv I hT ht
    have e4 : (4 : Int32) * ((Int32.ofNat N - 1) - Int32.ofNat v) = Int32.ofNat (4 * (N - 1 - v)) := by
      have s1 : Int32.ofNat N - 1 - Int32.ofNat v = Int32.ofNat (N - 1 - v) := by
        refine Int32.toInt_inj.mp ?_
        have t1 : (Int32.ofNat N - 1).toInt = (N : Int) - 1 := by rw [ti_sub (by rw [ti_nat (by omega), i1]; omega) (by rw [ti_nat (by omega), i1]; omega), ti_nat (by omega), i1]
        rw [ti_sub (by rw [t1, ti_nat (by omega)]; omega) (by rw [t1, ti_nat (by omega)]; omega), t1, ti_nat (by omega), ti_nat (by omega)]
        omega
      rw [s1, show (4 : Int32) = Int32.ofNat 4 from rfl, nn_m]
    have tt := (ttf_lsf (N - 1 - v) (by omega)).2.1
    have tp : 0 < 10000 ^ (N - 1 - v) := Nat.pow_pos (by decide)
    have eg : Int64.toInt32 ((a / ttf (4 * (N - 1 - v))) - (a / ttf (4 * (N - 1 - v))) / 10000 * 10000) = Int32.ofNat (grp A (N - 1 - v)) := by
      refine grp_e ?_
      rw [tl_div (by omega) (by rw [tt]; omega), ha, tt]
      exact (Int.natCast_ediv _ _).symm
    refine ⟨fun q => ?_, fun _ => ?_⟩
    · rw [nn_le (by omega) (by omega)] at q
      omega
    rw [e4]
    refine c6_tenTo (by omega) ⟨fun q => ?_, ?_⟩
    · rw [q] at tt
      have : (0 : Int64).toInt = 0 := by decide
      omega
    rw [eg]
    refine k6_cmd I hc (by omega) (grp_lt _ _) (fun ok => ⟨fun _ => ?_, fun q => absurd q z10⟩) (fun no => ⟨fun q => absurd rfl q, fun _ => ?_⟩)
    · rw [nn_s]
      exact ih (v + 1) (T + 60) _ (by omega) (I.cmd (by omega) (by omega) (by omega) ok) (by omega) (ht.trans (rsf_t (gr := fun v => grp A (N - 1 - v)) ok))
    · have h2 := h m
      rw [ht, rsf_f (gr := fun v => grp A (N - 1 - v)) no] at h2
      exact h2
theorem c6_inL {x b d : Int64} {P : Int32 → Prop} (h1 : b.toInt ≤ x.toInt ∧ x.toInt ≤ d.toInt → P 1) (h0 : ¬ (b.toInt ≤ x.toInt ∧ x.toInt ≤ d.toInt) → P 0) : wX6_in x b d P := by
  refine ⟨fun q => h0 ?_, fun q => ⟨fun q2 => h0 ?_, fun q2 => h1 ?_⟩⟩
  · rw [lg_cmp_lt, Int64.lt_iff_toInt_lt] at q
    omega
  · rw [lg_cmp_gt, Int64.lt_iff_toInt_lt] at q2
    omega
  · rw [lg_cmp_lt, Int64.lt_iff_toInt_lt] at q
    rw [lg_cmp_gt, Int64.lt_iff_toInt_lt] at q2
    omega
theorem l0 : (0 : Int64).toInt = 0 := by decide
theorem road24 {L T : Nat} {xs : Nat → Int32} {v4 : Int32} {K : Mem → (Nat → Int64) → Prop} {M : Mem} {O : Nat → Int64} (S : Sim T M) (hK : ∀ M' O', Sim (T + 60) M' → K M' O') (hv : ∀ d : Int32, 0 ≤ d.toInt → d.toInt ≤ 4 → vp_in (v4 + d) L) (hT : T ≤ 100000) : wL_law_C24 L xs v4 K M O := by
  have v1 := hv 1 (by decide) (by decide)
  have v2 := hv 2 (by decide) (by decide)
  have v3 := hv 3 (by decide) (by decide)
  obtain ⟨n, R, I⟩ := S.1
  have hn := I.1.1
  have I4 : Inv n T (tri M) := I.cong2 (tri_e M)
  refine ⟨v1, v2, v3, ?_⟩
  generalize xs (Int32.toNatClampNeg (v4 + 1)) = d
  generalize (((Int32.toInt64 (xs (Int32.toNatClampNeg (v4 + 2)))) <<< (Int32.toInt64 32 &&& 63)) ||| ((Int32.toInt64 (xs (Int32.toNatClampNeg (v4 + 3)))) &&& 4294967295)) = x
  have i4 : (4 : Int32).toInt = 4 := rfl
  have bad46 : ∀ P : Int32 → Reg → Prop, P 0 (cu (M 21) 0 0 1) → wX6_runScript_L46 d x P (M 21) := fun P h => by
    unfold wX6_runScript_L46 wX6_runScript_L47
    exact c6_refused1 ⟨fun q => absurd q z10, fun _ => h⟩
  have fin := chk_ok (K := K) (r1 := 1) (M2 := M) (O3 := O) (r4 := 0) (c5 := cu (M 21) 0 0 1) rfl (fun q => absurd q z10) (hK _ _ (S.ref (by omega)))
  unfold wL_runScript wX5_runScript
  by_cases hd : 1 ≤ d.toInt ∧ d.toInt ≤ 4
  · obtain ⟨N, hN, e⟩ := nat_of (a := d) (n := 5) ⟨by omega, by omega⟩
    subst e
    obtain ⟨t1, t2, t3, t4⟩ := ttf_lsf N hN
    have e4 : (4 : Int32) * Int32.ofNat N = Int32.ofNat (4 * N) := nn_m 4 N
    have ten : ∀ P : Int32 → Reg → Prop, (0 ≤ x.toInt ∧ x.toInt ≤ (lsf N - 1).toInt → wX6_runScript_L47 (Int32.ofNat N) x P 0 (M 21)) → (¬ (0 ≤ x.toInt ∧ x.toInt ≤ (lsf N - 1).toInt) → wX6_runScript_L46 (Int32.ofNat N) x P (M 21)) → wX6_runScript (Int32.ofNat N) x (M 21) P := by
      intro P g1 g0
      refine c6_in (lo := 1) (hi := 4) rfl rfl (fun _ => ⟨fun q => absurd q z10, fun _ => ⟨fun q => absurd q z10, fun _ => ?_⟩⟩) (fun q => absurd hd q)
      rw [e4]
      refine c6_tenTo (by omega) (c6_inL (fun g => ⟨fun q => absurd q z10, fun _ => g1 ?_⟩) (fun g => ⟨fun _ => g0 ?_, fun q => absurd rfl q⟩))
      · rw [l0, t4] at g
        rw [t3]
        exact g
      · rw [l0, t4] at g
        rw [t3]
        exact g
    refine ⟨fun q => ?_, fun _ => ⟨fun _ => ⟨fun q => ⟨rfl, v1, v2, v3, ten _ (fun g => ?_) (fun _ => bad46 _ fin)⟩, fun q => c5_longest (by omega) ⟨fun q2 => ?_, fun q2 => ⟨rfl, v1, v2, v3, ten _ (fun g => absurd ?_ q2) (fun _ => bad46 _ fin)⟩⟩⟩, fun q => absurd (le_nn (b := 4) (by omega) (by omega) (by omega)) q⟩⟩
    · rw [Int32.lt_iff_toInt_lt, i1] at q
      omega
    · rw [lg_cmp_lt, Int64.lt_iff_toInt_lt, l0] at q
      omega
    · rw [lg_cmp_lt, Int64.lt_iff_toInt_lt, l0] at q
      rw [lg_cmp_le, Int64.le_iff_toInt_le] at q2
      obtain ⟨A, hA⟩ : ∃ A : Nat, x.toInt = A := ⟨x.toInt.toNat, by omega⟩
      refine s3_copyFrom I.1 I.2.1 I.2.2.1 R (fun c3 R3 => ⟨N + 1, ?_⟩)
      refine k5_script (n := n) (N := N) (A := A) (M := M) (res := rsf n (fun v => grp A (N - 1 - v)) N 0 (tri M)) hA hN (fun M2 h1 => ⟨v1, v2, v3, ?_⟩) N 0 T (tri M) _ (by omega) I4 (by omega) (fun j hj => va_un _ _ hj) (R3.cong2 I.1 (tri_e M)) rfl
      rw [h1 21 (by decide)]
      refine ten _ (fun _ => ?_) (fun g => absurd ⟨by omega, q2⟩ g)
      refine c6_refused0 ⟨fun _ => s6_begin ⟨N + 1, ?_⟩, fun q => absurd rfl q⟩
      refine k6_script (n := n) (N := N) (A := A) (c := cu (M 21) 0 0 0) (res := rsf n (fun v => grp A (N - 1 - v)) N 0 (tri M)) hA I.1.2.1 hN (fun row => ?_) N 0 T (tri M) (by omega) I4 (by omega) rfl
      refine chk_ok rfl (fun _ => upL _ _) (hK _ _ (S.look (by omega) h1 (fun j h0 h4 => ?_) rfl rfl))
      rw [va_un _ _ h4, e_row _ _ h0]
    · rw [lg_cmp_le, Int64.le_iff_toInt_le]
      exact g.2
  · have md : vp_in (v4 + 1) L ∧ vp_in (v4 + 2) L ∧ vp_in (v4 + 3) L ∧ wX6_runScript d x (M 21) (fun r4 c5 => wX6_thrown ((va_up M 21 c5) 21) (fun r6 c7 => ((r6 = 1 → ((¬ (1 : Int32) = 0 → K (va_up (va_up M 21 c5) 21 c7) O) ∧ ((1 : Int32) = 0 → (((lg_cmp (O 0) (Int32.toInt64 r4)) = 0 → K (va_up (va_up M 21 c5) 21 c7) O) ∧ (¬ (lg_cmp (O 0) (Int32.toInt64 r4)) = 0 → False))))) ∧ (¬ r6 = 1 → False)))) := ⟨v1, v2, v3, c6_in (lo := 1) (hi := 4) rfl rfl (fun q => absurd q hd) (fun _ => ⟨fun _ => bad46 _ fin, fun q => absurd rfl q⟩)⟩
    refine ⟨fun _ => ⟨rfl, md⟩, fun q => ⟨fun q2 => ?_, fun _ => ⟨rfl, md⟩⟩⟩
    rw [Int32.lt_iff_toInt_lt, i1] at q
    rw [Int32.le_iff_toInt_le, i4] at q2
    exact absurd ⟨by omega, by omega⟩ hd
