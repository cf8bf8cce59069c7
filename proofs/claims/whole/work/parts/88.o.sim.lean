/-! class and model side by side -/
def Hist (T : Nat) (M : Mem) : Prop := ∃ a f g, HC M a f ∧ HM (M 21) a g ∧ ∀ k, k < a → HR T (f k) (g k)
def Slot (T : Nat) (M : Mem) : Prop := ∀ s, s < 2 → (M 20 5 s = 0 ∧ M 21 7 s = 0) ∨ (M 20 5 s = 1 ∧ M 21 7 s = 1 ∧ HR T (M (s + 16)) (fun i => M 21 6 (128 * s + i)))
def Txt (M : Mem) : Prop := ∃ t, t ≤ 80 ∧ M 20 0 1 = Int32.ofNat t ∧ M 21 0 2 = Int32.ofNat t ∧ ∀ k, k < t → M 20 1 k = M 21 1 k ∧ 0 ≤ (M 21 1 k).toInt ∧ (M 21 1 k).toInt ≤ 255
def Sim (T : Nat) (M : Mem) : Prop := HR T (M 0) (M 21 3) ∧ Hist T M ∧ Slot T M ∧ Txt M
theorem Hist.same {T T' : Nat} {M M' : Mem} (H : Hist T M) (hT : T ≤ T') (h1 : ∀ i, 2 ≤ i → i < 16 → M' i = M i) (h2 : M' 20 2 1 = M 20 2 1) (h3 : M' 20 3 = M 20 3) (h4 : M' 21 0 9 = M 21 0 9) (h5 : M' 21 5 = M 21 5) : Hist T' M' := by
  obtain ⟨a, f, g, g1, g2, g3⟩ := H
  exact ⟨a, f, g, g1.same h1 h2 h3, g2.same h4 h5, fun k hk => (g3 k hk).mono hT⟩
theorem Slot.same {T T' : Nat} {M M' : Mem} (H : Slot T M) (hT : T ≤ T') (h1 : M' 16 = M 16) (h2 : M' 17 = M 17) (h3 : M' 20 5 = M 20 5) (h4 : M' 21 6 = M 21 6) (h5 : M' 21 7 = M 21 7) : Slot T' M' := by
  intro s hs
  have e : M' (s + 16) = M (s + 16) := by
    rcases (by omega : s = 0 ∨ s = 1) with e | e <;> subst e
    · exact h1
    · exact h2
  rw [h3, h4, h5, e]
  rcases H s hs with q | q
  · exact Or.inl q
  · exact Or.inr ⟨q.1, q.2.1, q.2.2.mono hT⟩
theorem Txt.same {M M' : Mem} (H : Txt M) (h1 : M' 20 0 1 = M 20 0 1) (h2 : M' 20 1 = M 20 1) (h3 : M' 21 0 2 = M 21 0 2) (h4 : M' 21 1 = M 21 1) : Txt M' := by
  unfold Txt
  rw [h1, h2, h3, h4]
  exact H
theorem Sim.frame {T T' : Nat} {M M' : Mem} (S : Sim T M) (hT : T ≤ T') (h0 : ∀ i, i ≠ 1 → i ≠ 20 → i ≠ 21 → M' i = M i) (h20 : ∀ j, j ≠ 6 → M' 20 j = M 20 j) (h21 : ∀ j, j ≠ 0 → j ≠ 2 → j ≠ 4 → M' 21 j = M 21 j) (e2 : M' 21 0 2 = M 21 0 2) (e9 : M' 21 0 9 = M 21 0 9) : Sim T' M' := by
  obtain ⟨S1, S2, S3, S4⟩ := S
  refine ⟨?_, S2.same hT (fun i h1 h2 => h0 i (by omega) (by omega) (by omega)) ?_ (h20 3 (by decide)) e9 (h21 5 (by decide) (by decide) (by decide)), S3.same hT (h0 16 (by decide) (by decide) (by decide)) (h0 17 (by decide) (by decide) (by decide)) (h20 5 (by decide)) (h21 6 (by decide) (by decide) (by decide)) (h21 7 (by decide) (by decide) (by decide)), S4.same ?_ (h20 1 (by decide)) e2 (h21 1 (by decide) (by decide) (by decide))⟩
  · rw [h0 0 (by decide) (by decide) (by decide), h21 3 (by decide) (by decide) (by decide)]
    exact S1.mono hT
  · rw [h20 2 (by decide)]
  · rw [h20 0 (by decide)]
/-- the law's look at both answers -/
theorem chk_ok {K : Mem → (Nat → Int64) → Prop} {r1 : Int32} {M2 : Mem} {O3 : Nat → Int64} {r4 : Int32} {c5 : Reg} (h0 : c5 0 0 = r1) (h1 : r1 = 0 → O3 0 = Int32.toInt64 r4) (hK : K (va_up M2 21 c5) O3) : wX6_thrown ((va_up M2 21 c5) 21) (fun r6 c7 => ((r6 = r1 → ((¬ r1 = 0 → K (va_up (va_up M2 21 c5) 21 c7) O3) ∧ (r1 = 0 → (((lg_cmp (O3 0) (Int32.toInt64 r4)) = 0 → K (va_up (va_up M2 21 c5) 21 c7) O3) ∧ (¬ (lg_cmp (O3 0) (Int32.toInt64 r4)) = 0 → False))))) ∧ (¬ r6 = r1 → False))) := by
  unfold wX6_thrown
  simp only [va_us, va_uu]
  exact ⟨fun _ => ⟨fun _ => hK, fun q => ⟨fun _ => hK, fun q2 => q2 ((lg_cmp_eq _ _).mpr (h1 q))⟩⟩, fun q => q h0⟩
theorem chk_okL {K : Mem → (Nat → Int64) → Prop} {r1 : Int32} {M2 : Mem} {O3 : Nat → Int64} {r4 : Int64} {c5 : Reg} (h0 : c5 0 0 = r1) (h1 : r1 = 0 → O3 0 = r4) (hK : K (va_up M2 21 c5) O3) : wX6_thrown ((va_up M2 21 c5) 21) (fun r6 c7 => ((r6 = r1 → ((¬ r1 = 0 → K (va_up (va_up M2 21 c5) 21 c7) O3) ∧ (r1 = 0 → (((lg_cmp (O3 0) r4) = 0 → K (va_up (va_up M2 21 c5) 21 c7) O3) ∧ (¬ (lg_cmp (O3 0) r4) = 0 → False))))) ∧ (¬ r6 = r1 → False))) := by
  unfold wX6_thrown
  simp only [va_us, va_uu]
  exact ⟨fun _ => ⟨fun _ => hK, fun q => ⟨fun _ => hK, fun q2 => q2 ((lg_cmp_eq _ _).mpr (h1 q))⟩⟩, fun q => q h0⟩
/-- only the model's refusal changes -/
theorem Sim.ref {T T' : Nat} {M : Mem} {v : Int32} (S : Sim T M) (hT : T ≤ T') : Sim T' (va_up M 21 (cu (M 21) 0 0 v)) := by
  refine S.frame hT (fun i h1 h2 h3 => va_un _ _ h3) (fun j hj => rfl) (fun j h0 h2 h4 => ?_) rfl rfl
  rw [va_us, cu_e, va_un _ _ h0]
theorem upL (O : Nat → Int64) (x : Int64) : vp_updL O 0 x 0 = x := by simp [vp_updL]
theorem nat_of {a : Int32} {n : Nat} (h : 0 ≤ a.toInt ∧ a.toInt < n) : ∃ i, i < n ∧ a = Int32.ofNat i := by
  refine ⟨a.toInt.toNat, by omega, Int32.toInt_inj.mp ?_⟩
  have := ti_hi a
  rw [ti_nat (by omega)]
  omega
theorem i64 (x : Int32) : (Int32.toInt64 x).toInt = x.toInt := Int32.toInt_toInt64 x
theorem c6_in {x : Int32} {b d : Int64} {lo hi : Int} {P : Int32 → Prop} (hb : b.toInt = lo) (hd : d.toInt = hi) (h1 : lo ≤ x.toInt ∧ x.toInt ≤ hi → P 1) (h0 : ¬ (lo ≤ x.toInt ∧ x.toInt ≤ hi) → P 0) : wX6_in (Int32.toInt64 x) b d P := by
  refine ⟨fun q => h0 ?_, fun q => ⟨fun q2 => h0 ?_, fun q2 => h1 ?_⟩⟩
  · rw [lg_cmp_lt, Int64.lt_iff_toInt_lt, i64, hb] at q
    omega
  · rw [lg_cmp_gt, Int64.lt_iff_toInt_lt, i64, hd] at q2
    omega
  · rw [lg_cmp_lt, Int64.lt_iff_toInt_lt, i64, hb] at q
    rw [lg_cmp_gt, Int64.lt_iff_toInt_lt, i64, hd] at q2
    omega
theorem RlM.rooms {n : Nat} {c : Reg} {m : Row} (R : RlM n c m) : c 0 8 = Int32.ofNat n := R.1.2.2.2.2.2.2.2.2.1
theorem c3_hasRoom {n : Nat} {a : Int32} {c : Reg} {P : Int32 → Reg → Prop} (h8 : c 0 8 = Int32.ofNat n) (hn : n ≤ 6) (h1 : ∀ i, i < n → a = Int32.ofNat i → P 1 c) (h0 : ¬ (0 ≤ a.toInt ∧ a.toInt < n) → P 0 c) : wX3_hasRoom a c P := by
  have hi : (6 : Int32).toInt = 6 := rfl
  refine ⟨fun q => h0 ?_, fun q => ⟨fun q2 => h0 ?_, fun q2 => ⟨fun q3 => h0 ?_, fun q3 => ?_⟩⟩⟩
  · rw [Int32.lt_iff_toInt_lt, i0] at q
    omega
  · rw [h8, Int32.le_iff_toInt_le, ti_nat (by omega)] at q2
    omega
  · rw [Int32.le_iff_toInt_le, hi] at q3
    omega
  · rw [Int32.lt_iff_toInt_lt, i0] at q
    rw [h8, Int32.le_iff_toInt_le, ti_nat (by omega)] at q2
    obtain ⟨i, g1, g2⟩ := nat_of (a := a) (n := n) ⟨by omega, by omega⟩
    exact h1 i g1 g2
theorem c3_hasPlace {n : Nat} {a : Int32} {c : Reg} {P : Int32 → Reg → Prop} (h8 : c 0 8 = Int32.ofNat n) (hn : n ≤ 6) (h1 : ∀ p, p < 2 + n → a = Int32.ofNat p → P 1 c) (h0 : ¬ (0 ≤ a.toInt ∧ a.toInt < (2 + n : Nat)) → P 0 c) : wX3_hasPlace a c P := by
  have hi2 : (2 : Int32).toInt = 2 := rfl
  have g1 := ti_lo a
  have g2 := ti_hi a
  refine ⟨fun q => h1 0 (by omega) q, fun q => ⟨fun q2 => h1 1 (by omega) q2, fun q2 => c3_hasRoom h8 hn (fun i hi e => ⟨fun q3 => absurd q3 (by decide), fun _ => h1 (i + 2) (by omega) ?_⟩) (fun q3 => ⟨fun _ => h0 ?_, fun q4 => absurd rfl q4⟩)⟩⟩
  · rw [← nn_a, ← e]
    exact (Int32.sub_add_cancel a 2).symm
  · intro q4
    have n0 : ¬ a.toInt = 0 := fun e => q (Int32.toInt_inj.mp e)
    have n1 : ¬ a.toInt = 1 := fun e => q2 (Int32.toInt_inj.mp e)
    rw [ti_sub (by rw [hi2]; omega) (by rw [hi2]; omega), hi2] at q3
    omega
theorem c6_isRoom {n : Nat} {a : Int32} {c : Reg} {P : Int32 → Reg → Prop} (h0c : c 3 0 = Int32.ofNat n) (hn : n ≤ 6) (h1 : ∀ i, i < n → a = Int32.ofNat i → P 1 c) (h0 : ¬ (0 ≤ a.toInt ∧ a.toInt < n) → P 0 c) : wX6_isRoom a c P := by
  refine c6_in (lo := 0) (hi := n - 1) rfl ?_ (fun q => ⟨Or.inr rfl, ?_⟩) (fun q => ⟨Or.inl rfl, h0 (by omega)⟩)
  · rw [i64, h0c, ti_sub (by rw [ti_nat (by omega), i1]; omega) (by rw [ti_nat (by omega), i1]; omega), ti_nat (by omega), i1]
  · obtain ⟨i, g1, g2⟩ := nat_of (a := a) (n := n) ⟨by omega, by omega⟩
    exact h1 i g1 g2
theorem c6_isWarmPlace {n : Nat} {a : Int32} {c : Reg} {P : Int32 → Reg → Prop} (h0c : c 3 0 = Int32.ofNat n) (hn : n ≤ 6) (h1 : ∀ p, p < 2 + n → a = Int32.ofNat p → P 1 c) (h0 : ¬ (0 ≤ a.toInt ∧ a.toInt < (2 + n : Nat)) → P 0 c) : wX6_isWarmPlace a c P := by
  refine c6_in (lo := 0) (hi := n + 1) rfl ?_ (fun q => ⟨Or.inr rfl, ?_⟩) (fun q => ⟨Or.inl rfl, h0 (by omega)⟩)
  · rw [i64, h0c, ti_add (by rw [ti_nat (by omega), i1]; omega) (by rw [ti_nat (by omega), i1]; omega), ti_nat (by omega), i1]
  · obtain ⟨i, g1, g2⟩ := nat_of (a := a) (n := 2 + n) ⟨by omega, by omega⟩
    exact h1 i g1 g2
theorem c6_refused0 {c : Reg} {P : Int32 → Reg → Prop} (h : P 0 (cu c 0 0 0)) : wX6_refused 0 c P := ⟨fun _ => h, fun q => absurd (Int32.le_refl _) q⟩
theorem c6_refused1 {c : Reg} {P : Int32 → Reg → Prop} (h : P 1 (cu c 0 0 1)) : wX6_refused 1 c P := ⟨fun q => absurd q (by decide), fun _ => h⟩
theorem c6_refused2 {c : Reg} {P : Int32 → Reg → Prop} (h : P 1 (cu c 0 0 2)) : wX6_refused 2 c P := ⟨fun q => absurd q (by decide), fun _ => h⟩
theorem z10 : ¬ (1 : Int32) = 0 := by decide
theorem vin_of {L : Nat} {v : Int32} (h1 : 0 ≤ v.toInt) (h2 : v.toInt + 5 ≤ L) (hL : L ≤ 2560) {d : Int32} (d1 : 0 ≤ d.toInt) (d2 : d.toInt ≤ 4) : vp_in (v + d) L := by
  rw [vpi, ti_add (by omega) (by omega)]
  omega
