/-! amounts of the ledger -/
theorem lasti_cong {m m' : Row} {a : Int32} : ∀ n : Nat, (∀ k, k < n → m' (75 + 2 * k) = m (75 + 2 * k)) → lasti m' a n = lasti m a n := by
  intro n
  induction n with
  | zero => intro _; rfl
  | succ n ih =>
    intro e
    unfold lasti
    rw [e n (Nat.lt_succ_self n), ih (fun k hk => e k (Nat.lt_succ_of_lt hk))]
theorem lasti_s (m : Row) (a : Int32) (n : Nat) : lasti m a (n + 1) = if m (75 + 2 * n) = a then some n else lasti m a n := rfl
/-- what went along a way -/
def amt (m : Row) (f t : Nat) : Int32 := (lasti m (codeOf f t) (wy m)).elim 0 (fun k => m (76 + 2 * k))
def made (m : Row) : Int32 := amt m 9 0
theorem amt_cong {m m' : Row} {f t : Nat} (hw : wy m ≤ 26) (e : ∀ i, 74 ≤ i → i < 128 → m' i = m i) : amt m' f t = amt m f t := by
  unfold amt
  rw [wy_cong (e 74 (by omega) (by omega)), lasti_cong (m := m) (m' := m') (wy m) (fun k hk => e _ (by omega) (by omega))]
  cases hl : lasti m (codeOf f t) (wy m) with
  | none => rfl
  | some k =>
    have := (lasti_lt hl).1
    exact e _ (by omega) (by omega)
theorem amt_go {n f t f' t' : Nat} {m : Row} {u : Int32} (G1 : Gd n m) (ha : 10 * f + t ∈ wl26) : amt (go1 m f t u) f' t' = if ¬ u ≤ 0 ∧ codeOf f t = codeOf f' t' then amt m f' t' + u else amt m f' t' := by
  by_cases hu : u ≤ 0
  · have e : go1 m f t u = m := by unfold go1 gof; rw [if_pos hu]
    rw [e, if_neg (fun q => q.1 hu)]
  · have hwy := go1_wy (u := u) G1 ha
    have hd := G1.2.2.2.2.1
    have e74 : ∀ i, 74 ≤ i → go1 m f t u i = wayf m f t u (wy m) i := fun i hi => by
      unfold go1 gof
      rw [if_neg hu, addh_at (by omega), subh_at (by omega)]
    unfold waysGo at hwy
    rw [if_neg hu] at hwy
    unfold amt
    rw [hwy, lasti_cong (m := wayf m f t u (wy m)) (m' := go1 m f t u) _ (fun k hk => e74 _ (by omega))]
    cases hl : lasti m (codeOf f t) (wy m) with
    | some k =>
      have ew : waysAfter m f t (wy m) = wy m := by unfold waysAfter; rw [hl]; rfl
      have em : wayf m f t u (wy m) = upd m (76 + 2 * k) (m (76 + 2 * k) + u) := by unfold wayf; rw [hl]
      rw [ew, em, lasti_cong (m := m) _ (fun k hk => upd_n _ _ (by omega))]
      by_cases hc : codeOf f t = codeOf f' t'
      · rw [← hc, hl, if_pos ⟨hu, rfl⟩]
        show go1 m f t u (76 + 2 * k) = m (76 + 2 * k) + u
        rw [e74 _ (by omega), em, upd_s]
      · rw [if_neg (fun q => hc q.2)]
        cases hl2 : lasti m (codeOf f' t') (wy m) with
        | none => rfl
        | some k2 =>
          show go1 m f t u (76 + 2 * k2) = m (76 + 2 * k2)
          have hne : k2 ≠ k := by
            intro e
            subst e
            exact hc ((lasti_lt hl).2.symm.trans (lasti_lt hl2).2)
          rw [e74 _ (by omega), em, upd_n _ _ (by omega)]
    | none =>
      have ew : waysAfter m f t (wy m) = wy m + 1 := by unfold waysAfter; rw [if_pos hl]
      have em : wayf m f t u (wy m) = upd (upd (upd (upd m (75 + 2 * wy m) (codeOf f t)) (76 + 2 * wy m) 0) 74 (m 74 + 1)) (76 + 2 * wy m) (0 + u) := by unfold wayf; rw [hl]
      have ec : ∀ k, k ≠ wy m → wayf m f t u (wy m) (75 + 2 * k) = m (75 + 2 * k) := fun k hk => by rw [em, upd_n _ _ (by omega), upd_n _ _ (by omega), upd_n _ _ (by omega), upd_n _ _ (by omega)]
      have ecw : wayf m f t u (wy m) (75 + 2 * wy m) = codeOf f t := by rw [em, upd_n _ _ (by omega), upd_n _ _ (by omega), upd_n _ _ (by omega), upd_s]
      rw [ew, lasti_s, ecw]
      by_cases hc : codeOf f t = codeOf f' t'
      · rw [if_pos hc, if_pos ⟨hu, hc⟩, ← hc, hl]
        show go1 m f t u (76 + 2 * wy m) = 0 + u
        rw [e74 _ (by omega), em, upd_s]
      · rw [if_neg hc, if_neg (fun q => hc q.2), lasti_cong (m := m) _ (fun k hk => ec k (by omega))]
        cases hl2 : lasti m (codeOf f' t') (wy m) with
        | none => rfl
        | some k2 =>
          show go1 m f t u (76 + 2 * k2) = m (76 + 2 * k2)
          have := (lasti_lt hl2).1
          rw [e74 _ (by omega), em, upd_n _ _ (by omega), upd_n _ _ (by omega), upd_n _ _ (by omega), upd_n _ _ (by omega)]
theorem made_cong {m m' : Row} (hw : wy m ≤ 26) (e : ∀ i, 74 ≤ i → i < 128 → m' i = m i) : made m' = made m := amt_cong hw e
theorem made_go {n f t : Nat} {m : Row} {u : Int32} (G1 : Gd n m) (ha : 10 * f + t ∈ wl26) (hc : ¬ codeOf f t = codeOf 9 0) : made (go1 m f t u) = made m := by
  unfold made
  rw [amt_go G1 ha, if_neg (fun q => hc q.2)]
theorem code_ne {f t f' t' : Nat} (h1 : 10 * f + t < 1000) (h2 : 10 * f' + t' < 1000) (h : 10 * f + t ≠ 10 * f' + t') : ¬ codeOf f t = codeOf f' t' := fun e => h ((nn_eq (by omega) (by omega)).mp e)
theorem made_seas {n : Nat} {m : Row} (G1 : Gd n m) : made (seasf m) = made m := made_cong G1.2.2.1 (fun i h1 h2 => seasf_o (by omega) (by omega))
theorem made_boil {n : Nat} {m : Row} (G1 : Gd n m) (S : Sg m) : (made m).toInt ≤ 1000000000 → 0 ≤ (made m).toInt → (made m).toInt ≤ (made (boilg m)).toInt ∧ (made (boilg m)).toInt ≤ (made m).toInt + 200 := by
  intro hb hb0
  have e1 : made (boil1 m) = made m := made_cong G1.2.2.1 (fun i h1 h2 => boil1_o (by omega) (by omega) (by omega))
  have hp := S.bo1.2.2.2.2.2.2
  rw [boilg_e]
  split
  · unfold made at *
    rw [amt_go G1.boil1 (by decide)]
    split
    · rename_i q
      rw [e1, ti_add (by omega) (by omega)]
      omega
    · rw [e1]; omega
  · rw [e1]; omega
theorem made_valve {n : Nat} {m : Row} (G1 : Gd n m) : made (valvef m) = made m := made_cong G1.2.2.1 (fun i h1 h2 => valvef_o (by omega))
theorem made_mix {n : Nat} {m : Row} (G1 : Gd n m) : made (mixg m) = made m := by
  rw [mixg_e]
  split
  · rfl
  · exact made_go G1 (by decide) (code_ne (by decide) (by decide) (by decide))
theorem made_rad {n i : Nat} {m : Row} (G1 : Gd n m) (hi : i < n) : made (radf m i) = made m := by
  have hn := G1.1
  unfold radf
  split
  · rfl
  · split
    · rfl
    · exact made_go G1 (wl_rad i (by omega)) (code_ne (by omega) (by decide) (by omega))
theorem made_leak {n i : Nat} {m : Row} (G1 : Gd n m) (hi : i < n) : made (leakf m i) = made m := by
  have hn := G1.1
  have hw := wl_out i (by omega)
  unfold leakf
  rw [made_go (G1.go hw.1) hw.2 (code_ne (by omega) (by decide) (by omega)), made_go G1 hw.1 (code_ne (by omega) (by decide) (by omega))]
theorem made_feel {n i : Nat} {m : Row} (G1 : Gd n m) (hi : i < n) : made (feelf m i) = made m := by
  have hn := G1.1
  have hb := what_b m i
  unfold feelf
  exact made_cong G1.2.2.1 (fun k h1 h2 => upd_n _ _ (by omega))
theorem iter_made {n : Nat} {f : Row → Nat → Row} {m : Row} (hg : ∀ (m : Row) (i : Nat), Gd n m → i < n → Gd n (f m i)) (hf : ∀ (m : Row) (i : Nat), Gd n m → i < n → made (f m i) = made m) (G1 : Gd n m) : ∀ k, k ≤ n → made (iter f m k) = made m := by
  intro k
  induction k with
  | zero => intro _; rfl
  | succ k ih => intro hk; exact (hf _ k (iter_Gd hg G1 k (by omega)) (by omega)).trans (ih (by omega))
theorem made_mn {n : Nat} {m : Row} (G1 : Gd n m) (S : Sg m) (hb0 : 0 ≤ (made m).toInt) (hb : (made m).toInt ≤ 1000000000) : (made m).toInt ≤ (made (mnf n m)).toInt ∧ (made (mnf n m)).toInt ≤ (made m).toInt + 200 := by
  have g1 := iter_Gd (fun _ _ g hi => g.rad hi) G1.A n (Nat.le_refl n)
  have e1 : made (mnf n m) = made (mnC n m) := made_cong G1.C.2.2.1 (fun i h1 h2 => upd_n _ _ (by omega))
  have e2 : made (mnC n m) = made (mnB n m) := iter_made (fun _ _ g hi => g.feel hi) (fun _ _ g hi => made_feel g hi) G1.B n (Nat.le_refl n)
  have e3 : made (mnB n m) = made (iter radf (mnA m) n) := iter_made (fun _ _ g hi => g.leak hi) (fun _ _ g hi => made_leak g hi) g1 n (Nat.le_refl n)
  have e4 : made (iter radf (mnA m) n) = made (mnA m) := iter_made (fun _ _ g hi => g.rad hi) (fun _ _ g hi => made_rad g hi) G1.A n (Nat.le_refl n)
  have e5 : made (mnA m) = made (boilg (seasf m)) := by
    unfold mnA
    rw [made_mix G1.seas.boil.valve, made_valve G1.seas.boil]
  have e6 := made_seas G1
  have b := made_boil G1.seas S.seas (by rw [e6]; exact hb) (by rw [e6]; exact hb0)
  rw [e6] at b
  rw [e1, e2, e3, e4, e5]
  exact b
/-! minutes of comfort -/
theorem feelf_c {m : Row} {i k : Nat} : feelf m i (31 + 8 * k) = if k = i ∧ whatf m i = 5 then m (31 + 8 * k) + 1 else m (31 + 8 * k) := by
  have hb := what_b m i
  unfold feelf
  by_cases q : k = i ∧ whatf m i = 5
  · rw [if_pos q, q.1, q.2, show 26 + 8 * i + 5 = 31 + 8 * i by omega, upd_s]
  · rw [if_neg q]
    refine upd_n _ _ (fun e => q ?_)
    omega
theorem iter_c {m : Row} {i : Nat} : ∀ k, iter feelf m k (31 + 8 * i) = if i < k ∧ whatf (iter feelf m i) i = 5 then m (31 + 8 * i) + 1 else m (31 + 8 * i) := by
  intro k
  induction k with
  | zero => rw [if_neg (fun q => by omega)]; rfl
  | succ k ih =>
    show feelf (iter feelf m k) k (31 + 8 * i) = _
    rw [feelf_c, ih]
    by_cases e : i = k
    · subst e
      rw [if_neg (fun q : i < i ∧ _ => by omega)]
      by_cases w : whatf (iter feelf m i) i = 5
      · rw [if_pos ⟨rfl, w⟩, if_pos ⟨by omega, w⟩]
      · rw [if_neg (fun q => w q.2), if_neg (fun q => w q.2)]
    · rw [if_neg (fun q => e q.1)]
      by_cases w : i < k ∧ whatf (iter feelf m i) i = 5
      · rw [if_pos w, if_pos ⟨by omega, w.2⟩]
      · rw [if_neg w, if_neg (fun q => w ⟨by omega, q.2⟩)]
/-- all comfort of the first k rooms -/
def sumc (m : Row) : Nat → Int32
  | 0 => 0
  | k + 1 => sumc m k + m (31 + 8 * k)
theorem sumc_cong {m m' : Row} : ∀ n : Nat, (∀ k, k < n → m' (31 + 8 * k) = m (31 + 8 * k)) → sumc m' n = sumc m n := by
  intro n
  induction n with
  | zero => intro _; rfl
  | succ n ih =>
    intro e
    unfold sumc
    rw [e n (Nat.lt_succ_self n), ih (fun k hk => e k (Nat.lt_succ_of_lt hk))]
theorem gai_b (m : Row) : ∀ k, gai m k ≤ k := by
  intro k
  induction k with
  | zero => exact Nat.le_refl 0
  | succ k ih =>
    unfold gai
    split <;> omega
theorem sum_iter {m : Row} {n : Nat} : ∀ k, k ≤ n → sumc (iter feelf m n) k = sumc m k + Int32.ofNat (gai m k) := by
  intro k
  induction k with
  | zero => intro _; rfl
  | succ k ih =>
    intro hk
    unfold sumc gai
    rw [ih (by omega), iter_c]
    by_cases w : whatf (iter feelf m k) k = 5
    · rw [if_pos ⟨by omega, w⟩, if_pos w, ← nn_s]
      ac_rfl
    · rw [if_neg (fun q => w q.2), if_neg w, Nat.add_zero]
      ac_rfl
theorem mnA_at {m : Row} {i : Nat} (h : 26 ≤ i) (h2 : i < 74) : mnA m i = m i := by
  unfold mnA
  have e1 : boilg (seasf m) i = m i := by
    rw [boilg_e]
    have e0 : boil1 (seasf m) i = m i := by rw [boil1_o (by omega) (by omega) (by omega), seasf_o (by omega) (by omega)]
    split
    · rw [go1_at (Or.inr h) h2, e0]
    · exact e0
  rw [mixg_e]
  split
  · rw [valvef_o (by omega), e1]
  · rw [go1_at (Or.inr h) h2, valvef_o (by omega), e1]
theorem mnB_at {n : Nat} {m : Row} {i : Nat} (h : 26 ≤ i) (h2 : i < 74) : mnB n m i = m i := by
  unfold mnB
  rw [iter_at (fun m i => leakf_at (Or.inr h) h2), iter_at (fun m i => radf_at (Or.inr h) h2), mnA_at h h2]
theorem mnf_c {n i : Nat} {m : Row} (hi : i < n) (hn : n ≤ 6) : mnf n m (31 + 8 * i) = m (31 + 8 * i) ∨ mnf n m (31 + 8 * i) = m (31 + 8 * i) + 1 := by
  unfold mnf
  rw [upd_n _ _ (by omega)]
  unfold mnC
  rw [iter_c, mnB_at (by omega) (by omega)]
  split
  · exact Or.inr rfl
  · exact Or.inl rfl
theorem sum_mn {n : Nat} {m : Row} (hn : n ≤ 6) : sumc (mnf n m) n = sumc m n + Int32.ofNat (gaf n m) := by
  have e1 : sumc (mnf n m) n = sumc (mnC n m) n := sumc_cong n (fun k hk => upd_n _ _ (by omega))
  have e2 : sumc (mnC n m) n = sumc (mnB n m) n + Int32.ofNat (gaf n m) := sum_iter n (Nat.le_refl n)
  rw [e1, e2, sumc_cong n (fun k hk => mnB_at (by omega) (by omega))]
def Bd (n T : Nat) (m : Row) : Prop := (∀ i, i < n → 0 ≤ (m (31 + 8 * i)).toInt ∧ (m (31 + 8 * i)).toInt ≤ T) ∧ 0 ≤ (made m).toInt ∧ (made m).toInt ≤ 200 * T
theorem Bd.mono {n T T' : Nat} {m : Row} (h : Bd n T m) (hT : T ≤ T') : Bd n T' m :=
  ⟨fun i hi => ⟨(h.1 i hi).1, by have := (h.1 i hi).2; omega⟩, h.2.1, by have := h.2.2; omega⟩
/-- all that stays true of a row -/
def Inv (n T : Nat) (m : Row) : Prop := Gd n m ∧ Sg m ∧ Rw n m ∧ Bd n T m
theorem Inv.mono {n T T' : Nat} {m : Row} (h : Inv n T m) (hT : T ≤ T') : Inv n T' m := ⟨h.1, h.2.1, h.2.2.1, h.2.2.2.mono hT⟩
theorem Inv.mn {n T : Nat} {m : Row} (h : Inv n T m) (hT : T < 1000000) : Inv n (T + 1) (mnf n m) := by
  obtain ⟨G1, S, W, B1, B2, B3⟩ := h
  have hn := G1.1
  have b := made_mn (n := n) G1 S B2 (by omega)
  refine ⟨G1.mn, S.mn, W.mn hn, fun i hi => ?_, by omega, by omega⟩
  have b1 := B1 i hi
  rcases mnf_c (m := m) hi hn with e | e
  · rw [e]; omega
  · rw [e, ti_add (by rw [i1]; omega) (by rw [i1]; omega), i1]; omega
/-! many minutes -/
def mns (n : Nat) (m : Row) : Nat → Row
  | 0 => m
  | k + 1 => mnf n (mns n m k)
def gns (n : Nat) (m : Row) : Nat → Nat
  | 0 => 0
  | k + 1 => gns n m k + gaf n (mns n m k)
theorem Inv.mns {n T : Nat} {m : Row} (h : Inv n T m) : ∀ k, T + k ≤ 1000000 → Inv n (T + k) (mns n m k) := by
  intro k
  induction k with
  | zero => intro _; exact h
  | succ k ih => intro hk; exact (ih (by omega)).mn (by omega)
theorem gns_b (n : Nat) (m : Row) : ∀ k, gns n m k ≤ n * k := by
  intro k
  induction k with
  | zero => exact Nat.le_refl 0
  | succ k ih =>
    have := gai_b (mnB n (mns n m k)) n
    unfold gns
    rw [Nat.mul_succ]
    show gns n m k + gai (mnB n (mns n m k)) n ≤ _
    omega
theorem sum_mns {n : Nat} {m : Row} (hn : n ≤ 6) : ∀ k, sumc (mns n m k) n = sumc m n + Int32.ofNat (gns n m k) := by
  intro k
  induction k with
  | zero => exact (Int32.add_zero _).symm
  | succ k ih =>
    show sumc (mnf n (mns n m k)) n = sumc m n + Int32.ofNat (gns n m k + gaf n (mns n m k))
    rw [sum_mn hn, ih, ← nn_a]
    ac_rfl
theorem mns_add {n : Nat} {m : Row} (a : Nat) : ∀ k, mns n m (a + k) = mns n (mns n m a) k := by
  intro k
  induction k with
  | zero => rfl
  | succ k ih =>
    show mnf n (mns n m (a + k)) = mnf n (mns n (mns n m a) k)
    rw [ih]
