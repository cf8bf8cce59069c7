/-! place -/
theorem ng {k : Nat} (h : k < 2147483648) : ¬ Int32.ofNat k < 0 := by
  rw [show (0 : Int32) = Int32.ofNat 0 from rfl, nn_lt h (by omega)]
  omega
theorem nge {k b : Nat} (h : k < b) (hb : b < 2147483648) : ¬ Int32.ofNat b ≤ Int32.ofNat k := by
  rw [nn_le hb (by omega)]
  omega
theorem c3_heatOf {n p : Nat} {c : Reg} {m : Row} {P : Int32 → Reg → Prop} (R : RlM n c m) (hn : n ≤ 6) (hp : p < 2 + n) (h : P (m (18 + p)) c) : wX3_heatOf (Int32.ofNat p) c P := by
  refine ⟨fun q => absurd q (ng (by omega)), fun _ => ⟨fun q => absurd q (nge (b := 8) (by omega) (by omega)), fun _ => ⟨nn_in (by omega) (by omega), ?_⟩⟩⟩
  rw [tn_nat (by omega), (R.2.2.1 p hp).1]
  exact h
theorem c3_capacityOf {n p : Nat} {c : Reg} {m : Row} {P : Int32 → Reg → Prop} (R : RlM n c m) (hn : n ≤ 6) (hp : p < 2 + n) (h : P (capf m p) c) : wX3_capacityOf (Int32.ofNat p) c P := by
  refine ⟨fun q => absurd q (ng (by omega)), fun _ => ⟨fun q => absurd q (nge (b := 8) (by omega) (by omega)), fun _ => ⟨nn_in (by omega) (by omega), ?_⟩⟩⟩
  rw [tn_nat (by omega), (R.2.2.1 p hp).2]
  exact h
def placef (m : Row) (p : Nat) : Nat → Int32
  | 0 => m (18 + p)
  | 1 => degf m p
  | _ => capf m p
theorem k5_place {n p k : Nat} {M : Mem} {m : Row} {P : Int32 → Mem → Prop} {X : String → Mem → Prop} (R : RlM n (M 0) m) (G1 : Gd n m) (hp : p < 2 + n) (hk : k < 3) (h : P (placef m p k) M) : wX5_place (Int32.ofNat p) (Int32.ofNat k) M P X := by
  have hn := G1.1
  refine c3_hasPlace R.rooms hn (fun _ _ _ => ⟨fun _ => ?_, fun q => absurd q z10⟩) (fun q => absurd ⟨by rw [ti_nat (by omega)]; omega, by rw [ti_nat (by omega)]; omega⟩ q)
  rw [va_ue]
  rcases (by omega : k = 0 ∨ k = 1 ∨ k = 2) with e | e | e <;> subst e
  · refine ⟨fun q => absurd q (by decide), fun _ => ?_, fun q => absurd q (by decide), fun q => absurd q (by decide)⟩
    exact c3_heatOf R hn hp (by rw [va_ue]; exact h)
  · refine ⟨fun q => absurd q (by decide), fun q => absurd q (by decide), fun _ => ?_, fun q => absurd q (by decide)⟩
    exact q3_degrees G1 R hp (by rw [va_ue]; exact h)
  · refine ⟨fun q => absurd q (by decide), fun q => absurd q (by decide), fun q => absurd q (by decide), fun _ => ?_⟩
    exact c3_capacityOf R hn hp (by rw [va_ue]; exact h)
theorem e_row (c : Reg) (v : Int32) {j : Nat} (hj : j ≠ 0) : cu c 0 0 v j = c j := by rw [cu_e, va_un _ _ hj]
/-! room -/
theorem ti_ok {k b : Nat} (h : k < b) (hb : b < 2147483648) : 0 ≤ (Int32.ofNat k).toInt ∧ (Int32.ofNat k).toInt < b := by
  rw [ti_nat (by omega)]
  omega
theorem k5_room {n i k : Nat} {M : Mem} {m : Row} {P : Int32 → Mem → Prop} {X : String → Mem → Prop} (R : RlM n (M 0) m) (hn : n ≤ 6) (W : m (30 + 8 * i) = 0 ∨ m (30 + 8 * i) = 1) (hi : i < n) (hk : k < 7) (h : P (m (27 + 8 * i + k)) M) : wX5_room (Int32.ofNat i) (Int32.ofNat k) M P X := by
  have e := R.2.2.2.1 i k hi hk
  refine c3_hasRoom R.rooms hn (fun _ _ _ => ⟨fun _ => ⟨nn_in (by omega) (by omega), ?_⟩, fun q => absurd q z10⟩) (fun q => absurd (ti_ok hi (by omega)) q)
  rw [va_ue, tn_nat (by omega)]
  rcases (by omega : k = 0 ∨ k = 1 ∨ k = 2 ∨ k = 3 ∨ k = 4 ∨ k = 5 ∨ k = 6) with e2 | e2 | e2 | e2 | e2 | e2 | e2 <;> subst e2
  · refine ⟨fun q => absurd q (by decide), fun _ => ?_, fun q => absurd q (by decide), fun q => absurd q (by decide), fun q => absurd q (by decide), fun q => absurd q (by decide), fun q => absurd q (by decide), fun q => absurd q (by decide)⟩
    rw [e]; exact h
  · refine ⟨fun q => absurd q (by decide), fun q => absurd q (by decide), fun _ => ?_, fun q => absurd q (by decide), fun q => absurd q (by decide), fun q => absurd q (by decide), fun q => absurd q (by decide), fun q => absurd q (by decide)⟩
    rw [e]; exact h
  · refine ⟨fun q => absurd q (by decide), fun q => absurd q (by decide), fun q => absurd q (by decide), fun _ => ?_, fun q => absurd q (by decide), fun q => absurd q (by decide), fun q => absurd q (by decide), fun q => absurd q (by decide)⟩
    rw [e]; exact h
  · refine ⟨fun q => absurd q (by decide), fun q => absurd q (by decide), fun q => absurd q (by decide), fun q => absurd q (by decide), fun _ => ?_, fun q => absurd q (by decide), fun q => absurd q (by decide), fun q => absurd q (by decide)⟩
    rw [e]
    rw [show 27 + 8 * i + 3 = 30 + 8 * i by omega] at h ⊢
    refine ⟨fun q => ?_, fun q => ?_⟩
    · rw [q] at h; exact h
    · rw [W.resolve_left q] at h; exact h
  · refine ⟨fun q => absurd q (by decide), fun q => absurd q (by decide), fun q => absurd q (by decide), fun q => absurd q (by decide), fun q => absurd q (by decide), fun _ => ?_, fun q => absurd q (by decide), fun q => absurd q (by decide)⟩
    rw [e]; exact h
  · refine ⟨fun q => absurd q (by decide), fun q => absurd q (by decide), fun q => absurd q (by decide), fun q => absurd q (by decide), fun q => absurd q (by decide), fun q => absurd q (by decide), fun _ => ?_, fun q => absurd q (by decide)⟩
    rw [e]; exact h
  · refine ⟨fun q => absurd q (by decide), fun q => absurd q (by decide), fun q => absurd q (by decide), fun q => absurd q (by decide), fun q => absurd q (by decide), fun q => absurd q (by decide), fun q => absurd q (by decide), fun _ => ?_⟩
    rw [e]; exact h
/-! way -/
theorem code_div {f t : Nat} (hf : f ≤ 9) (ht : t ≤ 9) : codeOf f t / 10 = Int32.ofNat f ∧ codeOf f t - codeOf f t / 10 * 10 = Int32.ofNat t := by
  have e0 : (codeOf f t).toInt = 10 * f + t := by
    unfold codeOf
    rw [ti_nat (by omega)]
    omega
  have e1 : (codeOf f t / 10).toInt = f := by
    rw [ti_div (by decide), e0, i10, Int.tdiv_eq_ediv_of_nonneg (by omega)]
    omega
  have e2 : (codeOf f t - codeOf f t / 10 * 10).toInt = t := by
    rw [ti_rem (by decide), e0, i10, Int.tmod_eq_emod_of_nonneg (by omega)]
    omega
  exact ⟨ofNat_of e1, ofNat_of e2⟩
