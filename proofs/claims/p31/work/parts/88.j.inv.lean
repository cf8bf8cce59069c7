/-! small cells in their ranges -/
def Sg (m : Row) : Prop := (m 3 = 0 ∨ m 3 = 1) ∧ (m 6 = 0 ∨ m 6 = 1) ∧ (0 ≤ (m 7).toInt ∧ (m 7).toInt < 60) ∧ (0 ≤ (m 5).toInt ∧ (m 5).toInt ≤ 100) ∧ Mild m ∧ (0 ≤ (m 14).toInt ∧ (m 14).toInt ≤ 50) ∧ (0 ≤ (m 9).toInt ∧ (m 9).toInt ≤ 200)
theorem Sg.cong {m m' : Row} (S : Sg m) (e2 : m' 2 = m 2) (e3 : m' 3 = m 3) (e5 : m' 5 = m 5) (e6 : m' 6 = m 6) (e7 : m' 7 = m 7) (e9 : m' 9 = m 9) (e13 : m' 13 = m 13) (e14 : m' 14 = m 14) : Sg m' := by
  unfold Sg Mild at *
  rw [e2, e3, e5, e6, e7, e9, e13, e14]
  exact S
theorem Sg.lo {m m' : Row} (S : Sg m) (e : ∀ i, i < 18 → m' i = m i) : Sg m' :=
  S.cong (e 2 (by omega)) (e 3 (by omega)) (e 5 (by omega)) (e 6 (by omega)) (e 7 (by omega)) (e 9 (by omega)) (e 13 (by omega)) (e 14 (by omega))
theorem ctrf_b {m : Row} (h : 0 ≤ (m 7).toInt ∧ (m 7).toInt < 60) : 0 ≤ (ctrf m).toInt ∧ (ctrf m).toInt ≤ 60 := by
  unfold ctrf
  by_cases g : (if m 6 = 0 then (1 : Int32) else 0) = hotI m
  · have e : (m 7 + 1).toInt = (m 7).toInt + 1 := ti_add (by rw [i1]; omega) (by rw [i1]; omega)
    rw [if_pos g]; omega
  · rw [if_neg g, i0]; omega
theorem Sg.seas {m : Row} (S : Sg m) : Sg (seasf m) := by
  obtain ⟨s3, s6, s7, s5, ⟨sa, sb, sc, sd⟩, s14, s9⟩ := S
  have hc := ctrf_b s7
  have o : ∀ i, i ≠ 6 → i ≠ 7 → seasf m i = m i := fun i h6 h7 => seasf_o h6 h7
  have e6 : seasf m 6 = 0 ∨ seasf m 6 = 1 := by
    unfold seasf
    split
    · rw [upd_n _ _ (by decide), upd_s]
      rcases s6 with g | g <;> rw [g]
      · exact Or.inr (by decide)
      · exact Or.inl (by decide)
    · rw [upd_n _ _ (by decide)]
      exact s6
  have e7 : 0 ≤ (seasf m 7).toInt ∧ (seasf m 7).toInt < 60 := by
    unfold seasf
    split
    · rw [upd_s, i0]; omega
    · rename_i h
      rw [upd_s]
      have : ¬ (ctrf m).toInt = 60 := fun e => h (Int32.toInt_inj.mp (by rw [e]; rfl))
      omega
  unfold Sg Mild
  rw [o 2 (by decide) (by decide), o 3 (by decide) (by decide), o 5 (by decide) (by decide), o 9 (by decide) (by decide), o 13 (by decide) (by decide), o 14 (by decide) (by decide)]
  exact ⟨s3, e6, e7, s5, ⟨sa, sb, sc, sd⟩, s14, s9⟩
theorem boil1_3 {m : Row} (h : m 3 = 0 ∨ m 3 = 1) : boil1 m 3 = 0 ∨ boil1 m 3 = 1 := by
  unfold boil1
  split
  · split
    · exact Or.inl (turnf_3 m 0)
    · exact h
  · split
    · exact Or.inr (turnf_3 m 1)
    · exact h
theorem Sg.bo1 {m : Row} (S : Sg m) : Sg (boil1 m) := by
  obtain ⟨s3, s6, s7, s5, ⟨sa, sb, sc, sd⟩, s14, s9⟩ := S
  have o : ∀ i, i ≠ 3 → i ≠ 4 → i ≠ 8 → boil1 m i = m i := fun i h3 h4 h8 => boil1_o h3 h4 h8
  have e3 := boil1_3 s3
  unfold Sg Mild
  rw [o 2 (by decide) (by decide) (by decide), o 5 (by decide) (by decide) (by decide), o 6 (by decide) (by decide) (by decide), o 7 (by decide) (by decide) (by decide), o 9 (by decide) (by decide) (by decide), o 13 (by decide) (by decide) (by decide), o 14 (by decide) (by decide) (by decide)]
  exact ⟨e3, s6, s7, s5, ⟨sa, sb, sc, sd⟩, s14, s9⟩
theorem Sg.go {m : Row} {f t : Nat} {u : Int32} (S : Sg m) : Sg (go1 m f t u) := S.lo (fun i hi => go1_at (Or.inl hi) (by omega))
theorem Sg.boil {m : Row} (S : Sg m) : Sg (boilg m) := by
  rw [boilg_e]
  split
  · exact S.bo1.go
  · exact S.bo1
theorem stepf_b {t x v : Int32} (h1 : 0 ≤ t.toInt) (h2 : t.toInt ≤ 100) (h3 : 0 ≤ x.toInt) (h4 : x.toInt ≤ 100) (h5 : 0 ≤ v.toInt) (h6 : v.toInt ≤ 50) : 0 ≤ (stepf t x v).toInt ∧ (stepf t x v).toInt ≤ 100 := by
  have e2 : (x - v).toInt = x.toInt - v.toInt := ti_sub (by omega) (by omega)
  have e3 : (x + v).toInt = x.toInt + v.toInt := ti_add (by omega) (by omega)
  rw [← step_e h1 h2 h3 h4 h5 h6]
  simp only [Int32.le_iff_toInt_le, Int32.lt_iff_toInt_lt, e2, e3]
  split
  · split <;> omega
  · split <;> omega
theorem targ_b (m : Row) : 0 ≤ (targf m).toInt ∧ (targf m).toInt ≤ 100 := by
  have := free_b m
  unfold targf
  split
  · rw [i20]; omega
  · exact this
theorem Sg.valve {m : Row} (S : Sg m) : Sg (valvef m) := by
  obtain ⟨s3, s6, s7, s5, ⟨sa, sb, sc, sd⟩, s14, s9⟩ := S
  have o : ∀ i, i ≠ 5 → valvef m i = m i := fun i h5 => valvef_o h5
  have e5 : 0 ≤ (valvef m 5).toInt ∧ (valvef m 5).toInt ≤ 100 := by
    unfold valvef
    split
    · rw [upd_s]
      split
      · rw [i100]; omega
      · rw [i0]; omega
    · rw [upd_s]
      exact stepf_b (targ_b m).1 (targ_b m).2 s5.1 s5.2 s14.1 s14.2
  unfold Sg Mild
  rw [o 2 (by decide), o 3 (by decide), o 6 (by decide), o 7 (by decide), o 9 (by decide), o 13 (by decide), o 14 (by decide)]
  exact ⟨s3, s6, s7, e5, ⟨sa, sb, sc, sd⟩, s14, s9⟩
theorem Sg.mix {m : Row} (S : Sg m) : Sg (mixg m) := by
  rw [mixg_e]
  split
  · exact S
  · exact S.go
theorem Sg.A {m : Row} (S : Sg m) : Sg (mnA m) := S.seas.boil.valve.mix
theorem Sg.mn {n : Nat} {m : Row} (S : Sg m) : Sg (mnf n m) := by
  refine S.A.cong ?_ ?_ ?_ ?_ ?_ ?_ ?_ ?_ <;>
  · unfold mnf
    rw [upd_n _ _ (by decide)]
    unfold mnC
    rw [iter_at (fun m i => (by have := what_b m i; unfold feelf; exact upd_n _ _ (by omega)))]
    unfold mnB
    rw [iter_at (fun m i => leakf_at (by omega) (by omega)), iter_at (fun m i => radf_at (by omega) (by omega))]
/-! rooms: windows, and those not yet there -/
def Rw (n : Nat) (m : Row) : Prop := (∀ i, i < n → m (30 + 8 * i) = 0 ∨ m (30 + 8 * i) = 1) ∧ ∀ i, n ≤ i → i < 6 → m (20 + i) = 0 ∧ m (30 + 8 * i) = 0 ∧ m (31 + 8 * i) = 0 ∧ m (32 + 8 * i) = 0 ∧ m (33 + 8 * i) = 0
theorem Rw.cong {n : Nat} {m m' : Row} (hn : n ≤ 6) (h : Rw n m) (e1 : ∀ i, i < 6 → m' (30 + 8 * i) = m (30 + 8 * i)) (e2 : ∀ i, n ≤ i → i < 6 → m' (20 + i) = m (20 + i) ∧ m' (31 + 8 * i) = m (31 + 8 * i) ∧ m' (32 + 8 * i) = m (32 + 8 * i) ∧ m' (33 + 8 * i) = m (33 + 8 * i)) : Rw n m' := by
  obtain ⟨h1, h2⟩ := h
  refine ⟨fun i hi => by rw [e1 i (by omega)]; exact h1 i hi, fun i hi hi2 => ?_⟩
  obtain ⟨a1, a2, a3, a4⟩ := e2 i hi hi2
  rw [e1 i hi2, a1, a2, a3, a4]
  exact h2 i hi hi2
theorem go1_heat {m : Row} {f t p : Nat} {u : Int32} (hf : p ≠ f) (ht : p ≠ t) (hp : p < 8) : go1 m f t u (18 + p) = m (18 + p) := by
  unfold go1 gof
  split
  · rfl
  · have a1 : addh (subh (wayf m f t u (wy m)) f u) t u (18 + p) = subh (wayf m f t u (wy m)) f u (18 + p) := by
      unfold addh
      split
      · exact upd_n _ _ (by omega)
      · rfl
    have a2 : subh (wayf m f t u (wy m)) f u (18 + p) = wayf m f t u (wy m) (18 + p) := by
      unfold subh
      split
      · exact upd_n _ _ (by omega)
      · rfl
    rw [a1, a2, wayf_at (by omega)]
theorem Rw.go {n f t : Nat} {m : Row} {u : Int32} (hn : n ≤ 6) (h : Rw n m) (hf : f < 2 + n ∨ 8 ≤ f) (ht : t < 2 + n ∨ 8 ≤ t) : Rw n (go1 m f t u) := by
  refine h.cong hn (fun i hi => go1_at (by omega) (by omega)) (fun i hi hi2 => ⟨?_, go1_at (by omega) (by omega), go1_at (by omega) (by omega), go1_at (by omega) (by omega)⟩)
  have := go1_heat (m := m) (f := f) (t := t) (p := 2 + i) (u := u) (by omega) (by omega) (by omega)
  rw [show 20 + i = 18 + (2 + i) by omega]
  exact this
theorem Rw.same {n : Nat} {m m' : Row} (hn : n ≤ 6) (h : Rw n m) (e : ∀ i, 20 ≤ i → i < 74 → m' i = m i) : Rw n m' :=
  h.cong hn (fun i hi => e _ (by omega) (by omega)) (fun i hi hi2 => ⟨e _ (by omega) (by omega), e _ (by omega) (by omega), e _ (by omega) (by omega), e _ (by omega) (by omega)⟩)
theorem Rw.A {n : Nat} {m : Row} (hn : n ≤ 6) (h : Rw n m) : Rw n (mnA m) := by
  have h1 : Rw n (seasf m) := h.same hn (fun i h1 h2 => seasf_o (by omega) (by omega))
  have h2 : Rw n (boil1 (seasf m)) := h1.same hn (fun i h1 h2 => boil1_o (by omega) (by omega) (by omega))
  have h3 : Rw n (boilg (seasf m)) := by
    rw [boilg_e]
    split
    · exact h2.go hn (Or.inr (by omega)) (Or.inl (by omega))
    · exact h2
  have h4 : Rw n (valvef (boilg (seasf m))) := h3.same hn (fun i h1 h2 => valvef_o (by omega))
  unfold mnA
  rw [mixg_e]
  split
  · exact h4
  · exact h4.go hn (Or.inl (by omega)) (Or.inl (by omega))
theorem Rw.rad {n i : Nat} {m : Row} (hn : n ≤ 6) (h : Rw n m) (hi : i < n) : Rw n (radf m i) := by
  unfold radf
  split
  · exact h
  · split
    · exact h
    · exact h.go hn (Or.inl (by omega)) (Or.inl (by omega))
theorem Rw.leak {n i : Nat} {m : Row} (hn : n ≤ 6) (h : Rw n m) (hi : i < n) : Rw n (leakf m i) :=
  (h.go hn (Or.inl (by omega)) (Or.inr (by omega))).go hn (Or.inr (by omega)) (Or.inl (by omega))
theorem Rw.feel {n i : Nat} {m : Row} (hn : n ≤ 6) (h : Rw n m) (hi : i < n) : Rw n (feelf m i) := by
  have hb := what_b m i
  unfold feelf
  exact h.cong hn (fun k hk => upd_n _ _ (by omega)) (fun k hk hk2 => ⟨upd_n _ _ (by omega), upd_n _ _ (by omega), upd_n _ _ (by omega), upd_n _ _ (by omega)⟩)
theorem iter_Rw {n : Nat} {f : Row → Nat → Row} {m : Row} (hf : ∀ (m : Row) (i : Nat), Rw n m → i < n → Rw n (f m i)) (h : Rw n m) : ∀ k, k ≤ n → Rw n (iter f m k) := by
  intro k
  induction k with
  | zero => intro _; exact h
  | succ k ih => intro hk; exact hf _ k (ih (by omega)) (by omega)
theorem Rw.mn {n : Nat} {m : Row} (hn : n ≤ 6) (h : Rw n m) : Rw n (mnf n m) := by
  have h1 := iter_Rw (fun _ _ g hi => g.rad hn hi) (h.A hn) n (Nat.le_refl n)
  have h2 : Rw n (mnB n m) := iter_Rw (fun _ _ g hi => g.leak hn hi) h1 n (Nat.le_refl n)
  have h3 : Rw n (mnC n m) := iter_Rw (fun _ _ g hi => g.feel hn hi) h2 n (Nat.le_refl n)
  exact h3.same hn (fun i h1 h2 => upd_n _ _ (by omega))
