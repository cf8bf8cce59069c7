/-! MINUTES, and rows that keep all -/
def Mi (n T : Nat) (m : Row) : Prop := 0 ≤ (m 4).toInt ∧ (m 4).toInt ≤ (m 1).toInt ∧ (m 1).toInt ≤ T ∧ ∀ i, i < n → 0 ≤ (m (31 + 8 * i)).toInt ∧ 0 ≤ (m (32 + 8 * i)).toInt ∧ 0 ≤ (m (33 + 8 * i)).toInt ∧ (m (31 + 8 * i)).toInt + (m (32 + 8 * i)).toInt + (m (33 + 8 * i)).toInt ≤ (m 1).toInt
def Ex (n T : Nat) (m : Row) : Prop := Jn n (10400 * (T : Int) + 1350 * (n : Int)) m ∧ Mi n T m
theorem Mi.mono {n T T' : Nat} {m : Row} (h : Mi n T m) (hT : T ≤ T') : Mi n T' m := ⟨h.1, h.2.1, by have := h.2.2.1; omega, h.2.2.2⟩
theorem Ex.mono {n T T' : Nat} {m : Row} (h : Ex n T m) (hT : T ≤ T') : Ex n T' m := ⟨h.1.mono (by omega), h.2.mono hT⟩
theorem feelf_q {m : Row} {i k q : Nat} (hq : q < 3) : feelf m i (31 + q + 8 * k) = if k = i ∧ whatf m i = 5 + q then m (31 + q + 8 * k) + 1 else m (31 + q + 8 * k) := by
  have wb := what_b m i
  unfold feelf
  by_cases h : k = i ∧ whatf m i = 5 + q
  · rw [if_pos h, h.1, h.2, show 26 + 8 * i + (5 + q) = 31 + q + 8 * i by omega, upd_s]
  · rw [if_neg h, upd_n _ _ (by omega)]
theorem iter_q {m : Row} {i q : Nat} (hq : q < 3) : ∀ k, iter feelf m k (31 + q + 8 * i) = if i < k ∧ whatf (iter feelf m i) i = 5 + q then m (31 + q + 8 * i) + 1 else m (31 + q + 8 * i) := by
  intro k
  induction k with
  | zero =>
    rw [if_neg (fun h => Nat.not_lt_zero _ h.1)]
    rfl
  | succ k ih =>
    show feelf (iter feelf m k) k (31 + q + 8 * i) = _
    rw [feelf_q hq, ih]
    by_cases e : i = k
    · subst e
      rw [if_neg (fun h => Nat.lt_irrefl _ h.1 : ¬ (i < i ∧ whatf (iter feelf m i) i = 5 + q))]
      by_cases w : whatf (iter feelf m i) i = 5 + q
      · rw [if_pos ⟨rfl, w⟩, if_pos ⟨Nat.lt_succ_self _, w⟩]
      · rw [if_neg (fun h => w h.2), if_neg (fun h => w h.2)]
    · rw [if_neg (fun h => e h.1)]
      by_cases c : i < k ∧ whatf (iter feelf m i) i = 5 + q
      · rw [if_pos c, if_pos ⟨by omega, c.2⟩]
      · rw [if_neg c, if_neg (fun h => c ⟨by omega, h.2⟩)]
theorem mnf_r {n i : Nat} {m : Row} (hi : i < n) (hn : n ≤ 6) : ∃ w, 5 ≤ w ∧ w ≤ 7 ∧ ∀ q, q < 3 → mnf n m (31 + q + 8 * i) = if w = 5 + q then m (31 + q + 8 * i) + 1 else m (31 + q + 8 * i) := by
  refine ⟨whatf (iter feelf (mnB n m) i) i, (what_b _ _).1, (what_b _ _).2, fun q hq => ?_⟩
  have e : mnf n m (31 + q + 8 * i) = iter feelf (mnB n m) n (31 + q + 8 * i) := upd_n _ _ (by omega)
  rw [e, iter_q hq, mnB_at (by omega) (by omega)]
  by_cases w : whatf (iter feelf (mnB n m) i) i = 5 + q
  · rw [if_pos ⟨hi, w⟩, if_pos w]
  · rw [if_neg (fun h => w h.2), if_neg w]
theorem mixg_lo {m : Row} {i : Nat} (h : i < 18) : mixg m i = m i := by
  rw [mixg_e]
  split
  · rfl
  · exact go1_at (Or.inl h) (by omega)
theorem boilg_lo {m : Row} {i : Nat} (h : i < 18) : boilg m i = boil1 m i := by
  rw [boilg_e]
  split
  · exact go1_at (Or.inl h) (by omega)
  · rfl
theorem mnB_lo {n i : Nat} {m : Row} (h : i < 18) : mnB n m i = mnA m i := by
  unfold mnB
  rw [iter_at (fun m j => leakf_at (Or.inl h) (by omega)), iter_at (fun m j => radf_at (Or.inl h) (by omega))]
theorem mnC_lo {n i : Nat} {m : Row} (h : i < 18) : mnC n m i = mnA m i := by
  unfold mnC
  rw [iter_at (f := feelf) (fun m j => upd_n (k := 26 + 8 * j + whatf m j) _ _ (by have := what_b m j; omega)), mnB_lo h]
theorem mnA_lo {i : Nat} {m : Row} (h : i < 18) (h5 : i ≠ 5) : mnA m i = boil1 (seasf m) i := by
  unfold mnA
  rw [mixg_lo h, valvef_o h5, boilg_lo h]
theorem mnf_1 {n : Nat} {m : Row} : mnf n m 1 = m 1 + 1 := by
  show upd (mnC n m) 1 (mnC n m 1 + 1) 1 = _
  rw [upd_s, mnC_lo (by omega), mnA_lo (by omega) (by omega), boil1_o (by omega) (by omega) (by omega), seasf_o (by omega) (by omega)]
theorem mnf_lo {n i : Nat} {m : Row} (h : i < 18) (h1 : i ≠ 1) : mnf n m i = mnA m i := by
  show upd (mnC n m) 1 (mnC n m 1 + 1) i = _
  rw [upd_n _ _ h1, mnC_lo h]
theorem boil1_4 (m : Row) : boil1 m 4 = m 4 ∨ boil1 m 4 = m 1 := by
  have t : ∀ a, turnf m a 4 = m 1 := fun a => by
    unfold turnf
    rw [upd_n _ _ (by omega), upd_s]
  unfold boil1
  split
  · split
    · exact Or.inr (t _)
    · exact Or.inl rfl
  · split
    · exact Or.inr (t _)
    · exact Or.inl rfl
theorem mnf_4 {n : Nat} {m : Row} : mnf n m 4 = m 4 ∨ mnf n m 4 = m 1 := by
  rw [mnf_lo (by omega) (by omega), mnA_lo (by omega) (by omega)]
  rcases boil1_4 (seasf m) with e | e
  · exact Or.inl (by rw [e, seasf_o (by omega) (by omega)])
  · exact Or.inr (by rw [e, seasf_o (by omega) (by omega)])
theorem Mi.mn {n T : Nat} {m : Row} (h : Mi n T m) (hn : n ≤ 6) (hT : T < 1000000) : Mi n (T + 1) (mnf n m) := by
  obtain ⟨h1, h2, h3, h4⟩ := h
  have e1 : (mnf n m 1).toInt = (m 1).toInt + 1 := by
    rw [mnf_1, ti_add (by rw [i1]; omega) (by rw [i1]; omega), i1]
  refine ⟨?_, ?_, by omega, fun i hi => ?_⟩
  · rcases mnf_4 (n := n) (m := m) with e | e <;> rw [e] <;> omega
  · rw [e1]
    rcases mnf_4 (n := n) (m := m) with e | e <;> rw [e] <;> omega
  · obtain ⟨w, w1, w2, hw⟩ := mnf_r (m := m) hi hn
    have g := h4 i hi
    have a0 := hw 0 (by omega)
    have a1 := hw 1 (by omega)
    have a2 := hw 2 (by omega)
    simp only [Nat.add_zero, show 31 + 1 = 32 from rfl, show 31 + 2 = 33 from rfl, show 5 + 1 = 6 from rfl, show 5 + 2 = 7 from rfl] at a0 a1 a2
    have p : ∀ x : Int32, 0 ≤ x.toInt → x.toInt ≤ 1000000 → (x + 1).toInt = x.toInt + 1 := fun x g1 g2 => by
      rw [ti_add (by rw [i1]; omega) (by rw [i1]; omega), i1]
    have p0 := p _ g.1 (by omega)
    have p1 := p _ g.2.1 (by omega)
    have p2 := p _ g.2.2.1 (by omega)
    rw [e1, a0, a1, a2]
    rcases (by omega : w = 5 ∨ w = 6 ∨ w = 7) with e | e | e <;> subst e <;> simp only [if_true, if_false, Nat.reduceEqDiff] <;> omega
theorem Ex.mn {n T : Nat} {m : Row} (h : Ex n T m) (S : Sg m) (hT : T ≤ 190000) : Ex n (T + 1) (mnf n m) := by
  have hn := h.1.1.1
  exact ⟨(h.1.mn S (by omega) (by omega)).mono (by omega), h.2.mn hn (by omega)⟩
theorem Ex.mns {n T : Nat} {m : Row} (I : Inv n T m) (h : Ex n T m) : ∀ k, T + k ≤ 190000 → Ex n (T + k) (mns n m k) := by
  intro k
  induction k with
  | zero => intro _; exact h
  | succ k ih =>
    intro hk
    exact (ih (by omega)).mn (I.mns k (by omega)).2.1 (by omega)
theorem Jn.fx {n : Nat} {B : Int} {m m' : Row} (J : Jn n B m) (X : Fx n m') (e0 : m' 0 = m 0) (e18 : ∀ i, 18 ≤ i → i < 26 → m' i = m i) (er0 : ∀ i, i < n → m' (26 + 8 * i) = m (26 + 8 * i)) (e74 : ∀ i, 74 ≤ i → m' i = m i) : Jn n B m' := by
  obtain ⟨G1, -, Hh, C, Wq⟩ := J
  have hn := G1.1
  have ew : wy m' = wy m := wy_cong (e74 74 (by omega))
  have ec : ∀ p, p < 2 + n → capf m' p = capf m p := by
    intro p hp
    unfold capf
    by_cases h0 : p = 0
    · rw [if_pos h0, if_pos h0]
    · rw [if_neg h0, if_neg h0]
      by_cases h1 : p = 1
      · rw [if_pos h1, if_pos h1]
      · rw [if_neg h1, if_neg h1, er0 (p - 2) (by omega)]
  refine ⟨G1.cong e0 e74 er0, X, fun p hp => ?_, fun p hp => ?_, fun k hk => ?_⟩
  · rw [ec p hp, e18 _ (by omega) (by omega)]
    exact Hh p hp
  · rw [e18 _ (by omega) (by omega), C p hp, ew]
    exact (hasZ_cong (wy m) (fun k hk => ⟨e74 _ (by omega), e74 _ (by omega)⟩)).symm
  · rw [ew] at hk
    obtain ⟨a, a1, a2, a3, a4, a5, a6⟩ := Wq k hk
    refine ⟨a, a1, by rw [e74 _ (by omega)]; exact a2, a3, by rw [e74 _ (by omega)]; exact a4, by rw [e74 _ (by omega)]; exact a5, fun i hi e => ?_⟩
    rw [e74 _ (by omega), er0 i (a3 i hi (Or.inl e))]
    exact a6 i hi e
theorem Mi.cong {n T : Nat} {m m' : Row} (h : Mi n T m) (e1 : m' 1 = m 1) (e4 : m' 4 = m 4) (er : ∀ i q, i < n → q < 3 → m' (31 + q + 8 * i) = m (31 + q + 8 * i)) : Mi n T m' := by
  unfold Mi at *
  refine ⟨by rw [e4]; exact h.1, by rw [e4, e1]; exact h.2.1, by rw [e1]; exact h.2.2.1, fun i hi => ?_⟩
  have a0 := er i 0 hi (by omega)
  have a1 := er i 1 hi (by omega)
  have a2 := er i 2 hi (by omega)
  simp only [Nat.add_zero, show 31 + 1 = 32 from rfl, show 31 + 2 = 33 from rfl] at a0 a1 a2
  rw [e1, a0, a1, a2]
  exact h.2.2.2 i hi
theorem set_x : (sv2 1).toInt = 80 ∧ (sv1 6).toInt = 1 ∧ (sv2 6).toInt = 20 := by decide
theorem Ex.set {n T k : Nat} {m : Row} {v : Int32} (h : Ex n T m) (hk : k < 9) (ok : SetOk k v) : Ex n T (upd m (9 + k) v) := by
  have hn := h.1.1.1
  have X := h.1.2.1
  have sx := set_x
  refine ⟨h.1.fx ⟨?_, ?_, ?_, fun i hi => ?_⟩ (upd_n _ _ (by omega)) (fun i h1 h2 => upd_n _ _ (by omega)) (fun i hi => upd_n _ _ (by omega)) (fun i hi => upd_n _ _ (by omega)), h.2.cong (upd_n _ _ (by omega)) (upd_n _ _ (by omega)) (fun i q hi hq => upd_n _ _ (by omega))⟩
  · rw [upd_n _ _ (by omega)]; exact X.1
  · by_cases e : k = 1
    · subst e
      rw [upd_s]
      have := ok.2
      omega
    · rw [upd_n _ _ (by omega)]; exact X.2.1
  · by_cases e : k = 6
    · subst e
      rw [upd_s]
      have := ok.2
      have := ok.1
      omega
    · rw [upd_n _ _ (by omega)]; exact X.2.2.1
  · rw [upd_n _ _ (by omega), upd_n _ _ (by omega), upd_n _ _ (by omega)]
    exact X.2.2.2 i hi
theorem Ex.out {n T : Nat} {m : Row} {v : Int32} (h : Ex n T m) (h1 : -20 ≤ v.toInt) (h2 : v.toInt ≤ 40) : Ex n T (upd m 2 v) := by
  have hn := h.1.1.1
  have X := h.1.2.1
  refine ⟨h.1.fx ⟨by rw [upd_s]; exact ⟨h1, h2⟩, by rw [upd_n _ _ (by omega)]; exact X.2.1, by rw [upd_n _ _ (by omega)]; exact X.2.2.1, fun i hi => ?_⟩ (upd_n _ _ (by omega)) (fun i h1 h2 => upd_n _ _ (by omega)) (fun i hi => upd_n _ _ (by omega)) (fun i hi => upd_n _ _ (by omega)), h.2.cong (upd_n _ _ (by omega)) (upd_n _ _ (by omega)) (fun i q hi hq => upd_n _ _ (by omega))⟩
  rw [upd_n _ _ (by omega), upd_n _ _ (by omega), upd_n _ _ (by omega)]
  exact X.2.2.2 i hi
theorem Ex.cell {n T i q : Nat} {m : Row} {v : Int32} (h : Ex n T m) (hi : i < n) (hq : q < 3) (ok : RoomOk q v) : Ex n T (upd m (27 + 8 * i + q) v) := by
  have hn := h.1.1.1
  have X := h.1.2.1
  refine ⟨h.1.fx ⟨by rw [upd_n _ _ (by omega)]; exact X.1, by rw [upd_n _ _ (by omega)]; exact X.2.1, by rw [upd_n _ _ (by omega)]; exact X.2.2.1, fun j hj => ?_⟩ (upd_n _ _ (by omega)) (fun i h1 h2 => upd_n _ _ (by omega)) (fun i hi => upd_n _ _ (by omega)) (fun i hi => upd_n _ _ (by omega)), h.2.cong (upd_n _ _ (by omega)) (upd_n _ _ (by omega)) (fun j p hj hp => upd_n _ _ (by omega))⟩
  have x := X.2.2.2 j hj
  by_cases e : j = i
  · subst e
    rcases (by omega : q = 0 ∨ q = 1 ∨ q = 2) with e | e | e <;> subst e
    · rw [show 27 + 8 * j + 0 = 27 + 8 * j from rfl, upd_s, upd_n _ _ (by omega), upd_n _ _ (by omega)]
      have := ok.2
      exact ⟨this, x.2⟩
    · rw [upd_n _ _ (by omega), show 28 + 8 * j = 27 + 8 * j + 1 by omega, upd_s, upd_n _ _ (by omega)]
      have z2 : v.toInt ≤ 9 := ok.2
      have z1 : 1 ≤ v.toInt := ok.1
      exact ⟨x.1, by omega, x.2.2⟩
    · rw [upd_n _ _ (by omega), upd_n _ _ (by omega), show 29 + 8 * j = 27 + 8 * j + 2 by omega, upd_s]
      have z2 : v.toInt ≤ 9 := ok.2
      have z1 : 0 ≤ v.toInt := ok.1
      exact ⟨x.1, x.2.1, by omega⟩
  · rw [upd_n _ _ (by omega), upd_n _ _ (by omega), upd_n _ _ (by omega)]
    exact x
theorem Ex.win {n T i : Nat} {m : Row} {v : Int32} (h : Ex n T m) (hi : i < n) : Ex n T (upd m (30 + 8 * i) v) := by
  have hn := h.1.1.1
  have X := h.1.2.1
  refine ⟨h.1.fx ⟨by rw [upd_n _ _ (by omega)]; exact X.1, by rw [upd_n _ _ (by omega)]; exact X.2.1, by rw [upd_n _ _ (by omega)]; exact X.2.2.1, fun j hj => ?_⟩ (upd_n _ _ (by omega)) (fun i h1 h2 => upd_n _ _ (by omega)) (fun i hi => upd_n _ _ (by omega)) (fun i hi => upd_n _ _ (by omega)), h.2.cong (upd_n _ _ (by omega)) (upd_n _ _ (by omega)) (fun j p hj hp => upd_n _ _ (by omega))⟩
  rw [upd_n _ _ (by omega), upd_n _ _ (by omega), upd_n _ _ (by omega)]
  exact X.2.2.2 j hj
theorem wl26_in : ∀ a ∈ wl26, ∀ i, i < 6 → (a / 10 = 2 + i ∨ a % 10 = 2 + i) → (a = 92 + i ∨ a = 12 + i ∨ a = 28 + 10 * i ∨ a = 82 + i) := by decide
theorem hasZ_free {m : Row} {p : Nat} (hp : 2 ≤ p) : ∀ K, (∀ k, k < K → cdn m k / 10 ≠ p ∧ cdn m k % 10 ≠ p) → hasZ m p K = 0 := by
  intro K
  induction K with
  | zero =>
    intro _
    show (if p = 0 then (800 : Int) else if p = 1 then 1200 else 0) = 0
    rw [if_neg (by omega), if_neg (by omega)]
  | succ K ih =>
    intro h
    have g := h K (by omega)
    show hasZ m p K - _ + _ = 0
    rw [ih (fun k hk => h k (by omega)), if_neg g.1, if_neg g.2]
    rfl
theorem Jn.newr {n : Nat} {B : Int} {m : Row} {t wa ra le : Int32} (J : Jn n B m) (W : Rw n m) (hn : n < 6) (ok : AddOk t wa ra le) : Jn (n + 1) B (adr m n t wa ra le) := by
  obtain ⟨G1, X, Hh, C, Wq⟩ := J
  have z20 : m (20 + n) = 0 := (W.2 n (Nat.le_refl n) hn).1
  have o74 : ∀ i, 74 ≤ i → adr m n t wa ra le i = m i := fun i h => adr_o (by omega) (by omega)
  have ew : wy (adr m n t wa ra le) = wy m := wy_cong (o74 74 (by omega))
  have G2 := G1.addr (wa := wa) (ra := ra) (le := le) hn ok.1
  have hc := capZ G2 (Nat.lt_succ_self n)
  rw [adr_t] at hc
  have ec : ∀ p, p < 2 + n → capf (adr m n t wa ra le) p = capf m p := by
    intro p hp
    unfold capf
    by_cases h0 : p = 0
    · rw [if_pos h0, if_pos h0]
    · rw [if_neg h0, if_neg h0]
      by_cases h1 : p = 1
      · rw [if_pos h1, if_pos h1]
      · rw [if_neg h1, if_neg h1, adr_o (by omega) (by omega)]
  have e27 : adr m n t wa ra le (27 + 8 * n) = wa := by
    unfold adr
    rw [upd_n _ _ (by omega), upd_n _ _ (by omega), upd_n _ _ (by omega), upd_s]
  have e28 : adr m n t wa ra le (28 + 8 * n) = ra := by
    unfold adr
    rw [upd_n _ _ (by omega), upd_n _ _ (by omega), upd_s]
  have e29 : adr m n t wa ra le (29 + 8 * n) = le := by
    unfold adr
    rw [upd_n _ _ (by omega), upd_s]
  refine ⟨G2, ⟨by rw [adr_o (by omega) (by omega)]; exact X.1, by rw [adr_o (by omega) (by omega)]; exact X.2.1, by rw [adr_o (by omega) (by omega)]; exact X.2.2.1, fun i hi => ?_⟩, fun p hp => ?_, fun p hp => ?_, fun k hk => ?_⟩
  · by_cases e : i = n
    · subst e
      rw [e27, e28, e29]
      exact ⟨ok.2.1.2, ⟨by have := ok.2.2.1.1; omega, ok.2.2.1.2⟩, ok.2.2.2⟩
    · rw [adr_o (by omega) (by omega), adr_o (by omega) (by omega), adr_o (by omega) (by omega)]
      exact X.2.2.2 i (by omega)
  · rw [adr_o (by omega) (by omega)]
    by_cases e : p = 2 + n
    · subst e
      rw [hc.1, show 18 + (2 + n) = 20 + n by omega, z20, i0]
      omega
    · rw [ec p (by omega)]
      exact Hh p (by omega)
  · rw [adr_o (by omega) (by omega), ew, hasZ_cong (wy m) (fun k hk => ⟨o74 _ (by omega), o74 _ (by omega)⟩)]
    by_cases e : p = 2 + n
    · subst e
      rw [show 18 + (2 + n) = 20 + n by omega, z20, i0, hasZ_free (by omega)]
      intro k hk
      obtain ⟨a, a1, a2, a3, a4, a5, a6⟩ := Wq k hk
      rw [cdn_of a2 (by have := wl26_lt a a1; omega)]
      refine ⟨fun q => ?_, fun q => ?_⟩
      · exact absurd (a3 n hn (wl26_in a a1 n hn (Or.inl q))) (Nat.lt_irrefl n)
      · exact absurd (a3 n hn (wl26_in a a1 n hn (Or.inr q))) (Nat.lt_irrefl n)
    · exact C p (by omega)
  · rw [ew] at hk
    obtain ⟨a, a1, a2, a3, a4, a5, a6⟩ := Wq k hk
    refine ⟨a, a1, by rw [o74 _ (by omega)]; exact a2, fun i hi e => Nat.lt_succ_of_lt (a3 i hi e), by rw [o74 _ (by omega)]; exact a4, by rw [o74 _ (by omega)]; exact a5, fun i hi e => ?_⟩
    have hin := a3 i hi (Or.inl e)
    rw [o74 _ (by omega), adr_o (by omega) (by omega)]
    exact a6 i hi e
theorem Jn.add {n : Nat} {B : Int} {m : Row} {t wa ra le : Int32} (J : Jn n B m) (W : Rw n m) (hn : n < 6) (ok : AddOk t wa ra le) (hB0 : 0 ≤ B) (hB : B + 1350 < 2147483648) : Jn (n + 1) (B + 1350) (addf m n t wa ra le) := by
  have J2 := J.newr W hn ok
  have hc := capZ J2.1 (Nat.lt_succ_self n)
  rw [adr_t] at hc
  have z20 : m (20 + n) = 0 := (W.2 n (Nat.le_refl n) hn).1
  have i150 : (150 : Int32).toInt = 150 := rfl
  have eu : (150 * t).toInt = 150 * t.toInt := by
    rw [ti_mul (by rw [i150]; omega) (by rw [i150]; omega), i150]
  have ew : wy (adr m n t wa ra le) = wy m := wy_cong (adr_o (by omega) (by omega))
  have e20 : adr m n t wa ra le (18 + (2 + n)) = 0 := by
    rw [adr_o (by omega) (by omega), show 18 + (2 + n) = 20 + n by omega, z20]
  unfold addf
  refine J2.go0 (U := 1350) (wl_add n hn) (Or.inr (by omega)) (Or.inl (by omega)) (by omega) (by omega) (fun i hi e => ?_) (by rw [eu]; omega) (by decide) hB0 hB (fun _ q => by omega) (fun _ _ => ?_)
  · have ei : i = n := by omega
    subst ei
    refine ⟨?_, by rw [eu, adr_t]⟩
    cases hl : lasti (adr m i t wa ra le) (codeOf 9 (2 + i)) (wy (adr m i t wa ra le)) with
    | none => rfl
    | some k =>
      have l := lasti_lt hl
      rw [ew, adr_o (by omega) (by omega)] at l
      obtain ⟨a, a1, a2, a3, a4, a5, a6⟩ := J.2.2.2.2 k l.1
      have ea : 10 * 9 + (2 + i) = a := nn_inj (l.2.symm.trans a2) (by omega) (by have := wl26_lt a a1; omega)
      exact absurd (a3 i hn (Or.inl (by omega))) (Nat.lt_irrefl i)
  · rw [hc.1, e20, i0, eu]
    omega
theorem Ex.add {n T : Nat} {m : Row} {t wa ra le : Int32} (I : Inv n T m) (h : Ex n T m) (hn : n < 6) (ok : AddOk t wa ra le) (hT : T ≤ 190000) : Ex (n + 1) T (addf m n t wa ra le) := by
  have W := I.2.2.1
  have h0 := h.2.2.1
  refine ⟨(h.1.add W hn ok (by omega) (by omega)).mono (by omega), ?_⟩
  have o : ∀ i, i ≠ 0 → i < 18 ∨ 30 + 8 * n ≤ i ∨ (30 ≤ i ∧ i < 26 + 8 * n) → i < 74 → addf m n t wa ra le i = m i := fun i h1 h2 h3 => by
    unfold addf
    rw [go1_at (by omega) h3, adr_o h1 (by omega)]
  have z := W.2 n (Nat.le_refl n) hn
  obtain ⟨g1, g2, g3, g4⟩ := h.2
  refine ⟨by rw [o 4 (by omega) (by omega) (by omega)]; exact g1, by rw [o 4 (by omega) (by omega) (by omega), o 1 (by omega) (by omega) (by omega)]; exact g2, by rw [o 1 (by omega) (by omega) (by omega)]; exact g3, fun i hi => ?_⟩
  rw [o (31 + 8 * i) (by omega) (by omega) (by omega), o (32 + 8 * i) (by omega) (by omega) (by omega), o (33 + 8 * i) (by omega) (by omega) (by omega), o 1 (by omega) (by omega) (by omega)]
  by_cases e : i = n
  · subst e
    rw [z.2.2.1, z.2.2.2.1, z.2.2.2.2, i0]
    omega
  · exact g4 i (by omega)
theorem Ex.r0 : Ex 0 0 row0 := by
  have ew : wy row0 = 0 := rfl
  refine ⟨⟨(clr_inv _).1, ⟨by decide, by decide, by decide, fun i hi => absurd hi (Nat.not_lt_zero i)⟩, fun p hp => ?_, fun p hp => ?_, fun k hk => ?_⟩, by decide, by decide, by decide, fun i hi => absurd hi (Nat.not_lt_zero i)⟩
  · rcases (by omega : p = 0 ∨ p = 1) with e | e <;> subst e <;> decide
  · rcases (by omega : p = 0 ∨ p = 1) with e | e <;> subst e <;> decide
  · rw [ew] at hk
    exact absurd hk (Nat.not_lt_zero k)
