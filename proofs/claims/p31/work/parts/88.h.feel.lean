/-! judging -/
theorem RlM.cell {n i q : Nat} {v : Int32} {c : Reg} {m : Row} (R : RlM n c m) (hn : n ≤ 6) (hi : i < n) (hq : q < 7) : RlM n (cu c (i + 9) q v) (upd m (27 + 8 * i + q) v) := by
  have ew : wy (upd m (27 + 8 * i + q) v) = wy m := wy_cong (upd_n _ _ (by omega))
  unfold RlM
  rw [ew]
  obtain ⟨R1, R2, R3, R4, R5⟩ := R
  have o : ∀ r, r ≠ i + 9 → cu c (i + 9) q v r = c r := fun r hr => by rw [cu_e, va_un _ _ hr]
  have u0 : ∀ k, k < 27 → upd m (27 + 8 * i + q) v k = m k := fun k hk => upd_n _ _ (by omega)
  refine ⟨?_, fun k hk => ?_, fun p hp => ⟨?_, ?_⟩, fun i' q' hi' hq' => ?_, ?_⟩
  · rw [o 0 (by omega), u0 0 (by omega), u0 1 (by omega), u0 2 (by omega), u0 3 (by omega), u0 4 (by omega), u0 5 (by omega), u0 6 (by omega), u0 7 (by omega), u0 8 (by omega)]
    exact R1
  · rw [o 1 (by omega), u0 _ (by omega)]
    exact R2 k hk
  · rw [o 2 (by omega), u0 _ (by omega)]
    exact (R3 p hp).1
  · rw [o 3 (by omega), (R3 p hp).2]
    unfold capf
    rw [upd_n _ _ (by omega)]
  · by_cases e : i' = i
    · subst e
      rw [cu_e, va_us]
      by_cases e2 : q' = q
      · subst e2
        rw [upd_s, upd_s]
      · rw [upd_n _ _ e2, upd_n _ _ (by omega)]
        exact R4 i' q' hi' hq'
    · rw [o _ (by omega), upd_n _ _ (by omega)]
      exact R4 i' q' hi' hq'
  · exact (R5.same (fun r h1 h2 => o r (by omega))).cong (fun k hk => upd_n _ _ (by omega))
def whatf (m : Row) (i : Nat) : Nat := if m (27 + 8 * i) - 1 ≤ degf m (2 + i) then (if degf m (2 + i) ≤ m (27 + 8 * i) + 2 then 5 else 7) else 6
def feelf (m : Row) (i : Nat) : Row := upd m (26 + 8 * i + whatf m i) (m (26 + 8 * i + whatf m i) + 1)
theorem what_b (m : Row) (i : Nat) : 5 ≤ whatf m i ∧ whatf m i ≤ 7 := by
  unfold whatf
  split
  · split <;> decide
  · decide
theorem s2_judge {n i : Nat} {c : Reg} {m : Row} {P : Reg → Prop} (hn : n ≤ 6) (R : RlM n c m) (hi : i < n) (h : ∀ c' : Reg, RlM n c' (feelf m i) → P c') : wX2_judge i (degf m (2 + i)) c P := by
  have w0 : c (i + 9) 0 = m (27 + 8 * i) := R.2.2.2.1 i 0 hi (by decide)
  have fin : ∀ q, q < 7 → 26 + 8 * i + whatf m i = 27 + 8 * i + q → P (cu c (i + 9) q (c (i + 9) q + 1)) := by
    intro q hq e
    refine h _ ?_
    unfold feelf
    rw [e, R.2.2.2.1 i q hi hq]
    exact R.cell hn hi hq
  unfold wX2_judge
  rw [w0]
  refine ⟨fun q => ⟨fun q2 => fin 4 (by decide) ?_, fun q2 => fin 6 (by decide) ?_⟩, fun q => fin 5 (by decide) ?_⟩
  · unfold whatf; rw [if_pos q, if_pos q2]; omega
  · unfold whatf; rw [if_pos q, if_neg q2]; omega
  · unfold whatf; rw [if_neg q]; omega
