/-! the program's State against a row -/
def Rel (n w : Nat) (c : Reg) (m : Row) : Prop :=
  (c 0 0 = m 1 ∧ c 0 1 = m 2 ∧ c 0 2 = m 3 ∧ c 0 3 = m 1 - m 4 ∧ c 0 4 = m 8 ∧ c 0 5 = m 5 ∧ c 0 6 = m 6 ∧ c 0 7 = m 7 ∧ c 0 8 = Int32.ofNat n ∧ m 0 = Int32.ofNat n) ∧
  (∀ k, k < 9 → c 1 k = m (9 + k)) ∧ (∀ p, p < 2 + n → c 2 p = m (18 + p) ∧ c 3 p = capf m p) ∧ (∀ i q, i < n → q < 7 → c (i + 9) q = m (27 + 8 * i + q)) ∧ Led w c m
theorem nodup_len : ∀ (l L : List Nat), l.Nodup → (∀ x ∈ l, x ∈ L) → l.length ≤ L.length
  | [], L, _, _ => Nat.zero_le _
  | a :: l, L, hn, hs => by
    have ha : a ∈ L := hs a List.mem_cons_self
    have h1 := List.nodup_cons.mp hn
    have h2 := nodup_len l (L.erase a) h1.2 (fun x hx => (List.mem_erase_of_ne (fun e : x = a => h1.1 (by rw [← e]; exact hx))).mpr (hs x (List.mem_cons_of_mem _ hx)))
    rw [List.length_erase_of_mem ha] at h2
    have h3 : 0 < L.length := List.length_pos_of_mem ha
    simp only [List.length_cons]
    omega
/-- the codes of the ways along which heat can go -/
def wl26 : List Nat := [90, 1, 92, 93, 94, 95, 96, 97, 12, 13, 14, 15, 16, 17, 28, 38, 48, 58, 68, 78, 82, 83, 84, 85, 86, 87]
def WOk (w : Nat) (m : Row) : Prop := ∀ k, k < w → ∃ a ∈ wl26, m (75 + 2 * k) = Int32.ofNat a
theorem wl26_lt : ∀ a ∈ wl26, a < 100 := by decide
/-- a way that is not there yet finds room -/
theorem pigeon {m : Row} {w a : Nat} (hd : Dist w m) (hk : WOk w m) (ha : a ∈ wl26) (hno : lasti m (Int32.ofNat a) w = none) : w < 26 := by
  have hg : ∀ k : Nat, ∃ b : Nat, k < w → b ∈ wl26 ∧ m (75 + 2 * k) = Int32.ofNat b := by
    intro k
    by_cases h : k < w
    · obtain ⟨b, h1, h2⟩ := hk k h
      exact ⟨b, fun _ => ⟨h1, h2⟩⟩
    · exact ⟨0, fun q => absurd q h⟩
  obtain ⟨g, hg⟩ := Classical.axiomOfChoice hg
  have hne : ∀ k, k < w → g k ≠ a := fun k hkw e => lasti_no hno hkw (by rw [(hg k hkw).2, e])
  have h1 := nodup_len ((List.range w).map g) (wl26.erase a) ?_ ?_
  · rw [List.length_map, List.length_range, List.length_erase_of_mem ha] at h1
    have : wl26.length = 26 := rfl
    omega
  · refine List.pairwise_map.mpr (List.Pairwise.imp_of_mem ?_ List.nodup_range)
    intro x y hx hy hxy e
    have hx := List.mem_range.mp hx
    have hy := List.mem_range.mp hy
    exact hxy (hd x y hx hy (by rw [(hg x hx).2, (hg y hy).2, e]))
  · intro x hx
    obtain ⟨k, hk2, rfl⟩ := List.mem_map.mp hx
    have hk2 := List.mem_range.mp hk2
    exact (List.mem_erase_of_ne (hne k hk2)).mpr (hg k hk2).1
theorem Led.cong {w : Nat} {c : Reg} {m m' : Row} (h : Led w c m) (e : ∀ i, 74 ≤ i → m' i = m i) : Led w c m' := by
  obtain ⟨h1, h2, h3⟩ := h
  refine ⟨h1, by rw [e 74 (by omega)]; exact h2, fun k hk => ?_⟩
  obtain ⟨f, t, a1, a2, a3, a4, a5, a6⟩ := h3 k hk
  exact ⟨f, t, a1, a2, a3, a4, by rw [e _ (by omega)]; exact a5, by rw [e _ (by omega)]; exact a6⟩
theorem Led.same {w : Nat} {c c' : Reg} {m : Row} (h : Led w c m) (e : ∀ r, 5 ≤ r → r ≤ 8 → c' r = c r) : Led w c' m := by
  obtain ⟨h1, h2, h3⟩ := h
  refine ⟨by rw [e 5 (by decide) (by decide)]; exact h1, h2, fun k hk => ?_⟩
  rw [e 6 (by decide) (by decide), e 7 (by decide) (by decide), e 8 (by decide) (by decide)]
  exact h3 k hk
theorem wayf_at {m : Row} {f t w : Nat} {u : Int32} {i : Nat} (hi : i < 74) : wayf m f t u w i = m i := by
  unfold wayf
  cases lasti m (codeOf f t) w with
  | some k => exact upd_n _ _ (by omega)
  | none =>
    show (upd (upd (upd (upd m (75 + 2 * w) (codeOf f t)) (76 + 2 * w) 0) 74 (m 74 + 1)) (76 + 2 * w) (0 + u)) i = m i
    rw [upd_n _ _ (by omega), upd_n _ _ (by omega), upd_n _ _ (by omega), upd_n _ _ (by omega)]
theorem addh_at {m : Row} {p i : Nat} {u : Int32} (h : i < 18 ∨ 26 ≤ i) : addh m p u i = m i := by
  unfold addh
  split
  · exact upd_n _ _ (by omega)
  · rfl
theorem subh_at {m : Row} {p i : Nat} {u : Int32} (h : i < 18 ∨ 26 ≤ i) : subh m p u i = m i := by
  unfold subh
  split
  · exact upd_n _ _ (by omega)
  · rfl
theorem gof_at {m : Row} {f t w : Nat} {u : Int32} {i : Nat} (h : i < 18 ∨ 26 ≤ i) (h2 : i < 74) : gof m f t u w i = m i := by
  unfold gof
  split
  · rfl
  · rw [addh_at h, subh_at h, wayf_at h2]
theorem capf_cong {m m' : Row} {p : Nat} (e : ∀ i, 26 ≤ i → i < 74 → m' i = m i) (hp : p < 8) : capf m' p = capf m p := by
  unfold capf
  rw [e _ (by omega) (by omega)]
theorem s3_settingOf {n w k : Nat} {c : Reg} {m : Row} {P : Int32 → Reg → Prop} (R : Rel n w c m) (hk : k < 9) (h : P (m (9 + k)) c) : wX3_settingOf (Int32.ofNat k) c P := by
  have e := R.2.1 k hk
  refine ⟨fun q => ?_, fun _ => ⟨fun q => ?_, fun _ => ⟨nn_in (by omega) hk, ?_⟩⟩⟩
  · rw [show (0 : Int32) = Int32.ofNat 0 from rfl, nn_lt (by omega) (by omega)] at q
    omega
  · rw [show (9 : Int32) = Int32.ofNat 9 from rfl, nn_le (by omega) (by omega)] at q
    omega
  · rw [tn_nat (by omega), e]
    exact h
theorem s3_degrees {n w p : Nat} {c : Reg} {m : Row} {P : Int32 → Reg → Prop} (R : Rel n w c m) (hn : n ≤ 6) (hp : p < 2 + n) (hc : 0 < (capf m p).toInt) (h : P (degf m p) c) : wX3_degrees (Int32.ofNat p) c P := by
  obtain ⟨e1, e2⟩ := R.2.2.1 p hp
  have ein : vp_in (Int32.ofNat p) 8 := nn_in (by omega) (by omega)
  refine ⟨fun q => ?_, fun _ => ⟨fun q => ?_, fun _ => ⟨ein, ?_⟩⟩⟩
  · rw [show (0 : Int32) = Int32.ofNat 0 from rfl, nn_lt (by omega) (by omega)] at q
    omega
  · rw [show (8 : Int32) = Int32.ofNat 8 from rfl, nn_le (by omega) (by omega)] at q
    omega
  · rw [tn_nat (by omega), e1, e2]
    refine ⟨fun _ => ⟨ein, ein, s_floorDiv hc h⟩, fun q => absurd ?_ q⟩
    rw [Int32.lt_iff_toInt_lt]
    exact hc
theorem s3_addHeat {p : Nat} {u : Int32} {c : Reg} {P : Reg → Prop} (hp : p ≤ 9) (h : P (if p < 8 then cu c 2 p (c 2 p + u) else c)) : wX3_addHeat (Int32.ofNat p) u c P := by
  refine ⟨fun q => ?_, fun _ => ⟨fun q => ?_, fun q => ?_⟩⟩
  · rw [show (0 : Int32) = Int32.ofNat 0 from rfl, nn_lt (by omega) (by omega)] at q
    omega
  · have := (n8 hp).mp q
    rw [if_neg (by omega)] at h
    exact h
  · have q1 : p < 8 := Nat.lt_of_not_le (fun e => q ((n8 hp).mpr e))
    rw [if_pos q1] at h
    rw [tn_nat (by omega)]
    exact ⟨nn_in (by omega) q1, nn_in (by omega) q1, h⟩
def waysGo (m : Row) (f t w : Nat) (u : Int32) : Nat := if u ≤ 0 then w else waysAfter m f t w
theorem s3_move {n w f t : Nat} {u : Int32} {c : Reg} {m : Row} {P : Reg → Prop} (R : Rel n w c m) (hn : n ≤ 6) (hw : w ≤ 26) (hd : Dist w m) (hk : WOk w m) (hf : f < 2 + n ∨ f = 8 ∨ f = 9) (ht : t < 2 + n ∨ t = 8 ∨ t = 9) (ha : 10 * f + t ∈ wl26)
    (h : ∀ c' : Reg, Rel n (waysGo m f t w u) c' (gof m f t u w) → P c') : wX3_move (Int32.ofNat f) (Int32.ofNat t) u c P := by
  have hz : ∀ x : Int32, 0 < x ↔ ¬ x ≤ 0 := fun x => by rw [Int32.lt_iff_toInt_lt, Int32.le_iff_toInt_le]; omega
  refine ⟨fun q => ?_, fun q => ?_⟩
  · have q1 := (hz u).mp q
    refine s3_addHeat (by omega) (s3_addHeat (by omega) ?_)
    obtain ⟨R1, R2, R3, R4, R5⟩ := R
    generalize hc1 : (if f < 8 then cu c 2 f (c 2 f + -u) else c) = c1
    generalize hc2 : (if t < 8 then cu c1 2 t (c1 2 t + u) else c1) = c2
    have o1 : ∀ r, r ≠ 2 → c1 r = c r := by
      intro r hr
      rw [← hc1]
      split
      · rw [cu_e, va_un _ _ hr]
      · rfl
    have o2 : ∀ r, r ≠ 2 → c2 r = c r := by
      intro r hr
      rw [← hc2]
      split
      · rw [cu_e, va_un _ _ hr, o1 r hr]
      · exact o1 r hr
    have hv : ∀ p, p < 2 + n → c2 2 p = addh (subh (wayf m f t u w) f u) t u (18 + p) := by
      intro p hp
      have v1 : c1 2 p = subh (wayf m f t u w) f u (18 + p) := by
        rw [← hc1]
        unfold subh
        by_cases g : f < 8
        · rw [if_pos g, if_pos g, cu_e, va_us]
          by_cases gp : p = f
          · subst gp
            rw [upd_s, upd_s, wayf_at (by omega), (R3 p hp).1, Int32.sub_eq_add_neg]
          · rw [upd_n _ _ gp, upd_n _ _ (by omega), wayf_at (by omega), (R3 p hp).1]
        · rw [if_neg g, if_neg g, wayf_at (by omega), (R3 p hp).1]
      rw [← hc2]
      unfold addh
      by_cases g : t < 8
      · rw [if_pos g, if_pos g, cu_e, va_us]
        by_cases gp : p = t
        · subst gp
          rw [upd_s, upd_s, v1]
        · rw [upd_n _ _ gp, upd_n _ _ (by omega), v1]
      · rw [if_neg g, if_neg g, v1]
    refine s1_note (R5.same (fun r h1 h2 => o2 r (by omega))) hw hd (by omega) (by omega) (fun hl => pigeon hd hk ha hl) (fun c' hc' hL => h c' ?_)
    have eg : gof m f t u w = addh (subh (wayf m f t u w) f u) t u := by unfold gof; rw [if_neg q1]
    have ew : waysGo m f t w u = waysAfter m f t w := by unfold waysGo; rw [if_neg q1]
    have g0 : ∀ i, i < 18 ∨ 26 ≤ i → i < 74 → gof m f t u w i = m i := fun i h1 h2 => gof_at h1 h2
    refine ⟨?_, fun k hk9 => ?_, fun p hp => ⟨?_, ?_⟩, fun i q hi hq => ?_, ?_⟩
    · rw [hc' 0 (by omega), o2 0 (by decide), g0 1 (by omega) (by omega), g0 2 (by omega) (by omega), g0 3 (by omega) (by omega), g0 4 (by omega) (by omega), g0 5 (by omega) (by omega), g0 6 (by omega) (by omega), g0 7 (by omega) (by omega), g0 8 (by omega) (by omega), g0 0 (by omega) (by omega)]
      exact R1
    · rw [hc' 1 (by omega), o2 1 (by decide), g0 _ (by omega) (by omega)]
      exact R2 k hk9
    · rw [hc' 2 (by omega), hv p hp, eg]
    · rw [hc' 3 (by omega), o2 3 (by decide), (R3 p hp).2]
      exact (capf_cong (fun i h1 h2 => g0 i (Or.inr h1) h2) (by omega)).symm
    · rw [hc' (i + 9) (by omega), o2 (i + 9) (by omega), g0 _ (by omega) (by omega)]
      exact R4 i q hi hq
    · rw [ew, eg]
      exact hL.cong (fun i hi => by rw [addh_at (by omega), subh_at (by omega)])
  · have q1 : u ≤ 0 := Decidable.of_not_not (fun e => q ((hz u).mpr e))
    have eg : gof m f t u w = m := by unfold gof; rw [if_pos q1]
    have ew : waysGo m f t w u = w := by unfold waysGo; rw [if_pos q1]
    exact h c (by rw [eg, ew]; exact R)
