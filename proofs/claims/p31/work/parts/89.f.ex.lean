/-! WHAT THE LAW LOOKS FOR: heat is kept, ways are as told, temperatures stay in bounds -/
def Hb (n : Nat) (m : Row) : Prop := ∀ p, p < 2 + n → -20 * (capf m p).toInt ≤ (m (18 + p)).toInt ∧ (m (18 + p)).toInt < 95 * (capf m p).toInt
def Fx (n : Nat) (m : Row) : Prop := (-20 ≤ (m 2).toInt ∧ (m 2).toInt ≤ 40) ∧ (m 10).toInt ≤ 80 ∧ (0 ≤ (m 15).toInt ∧ (m 15).toInt ≤ 20) ∧ ∀ i, i < n → (m (27 + 8 * i)).toInt ≤ 25 ∧ (0 ≤ (m (28 + 8 * i)).toInt ∧ (m (28 + 8 * i)).toInt ≤ 9) ∧ (0 ≤ (m (29 + 8 * i)).toInt ∧ (m (29 + 8 * i)).toInt ≤ 9)
def hasZ (m : Row) (p : Nat) : Nat → Int
  | 0 => if p = 0 then 800 else if p = 1 then 1200 else 0
  | k + 1 => hasZ m p k - (if cdn m k / 10 = p then (m (76 + 2 * k)).toInt else 0) + (if cdn m k % 10 = p then (m (76 + 2 * k)).toInt else 0)
def Cons (n : Nat) (m : Row) : Prop := ∀ p, p < 2 + n → (m (18 + p)).toInt = hasZ m p (wy m)
/-- the rooms of a way are there -/
def rq (n a : Nat) : Prop := ∀ i, i < 6 → (a = 92 + i ∨ a = 12 + i ∨ a = 28 + 10 * i ∨ a = 82 + i) → i < n
def Wg (n : Nat) (B : Int) (m : Row) : Prop := ∀ k, k < wy m → ∃ a, a ∈ wl26 ∧ m (75 + 2 * k) = Int32.ofNat a ∧ rq n a ∧ 0 < (m (76 + 2 * k)).toInt ∧ (m (76 + 2 * k)).toInt ≤ B ∧ ∀ i, i < 6 → a = 92 + i → (m (76 + 2 * k)).toInt = 150 * (m (26 + 8 * i)).toInt
def Jn (n : Nat) (B : Int) (m : Row) : Prop := Gd n m ∧ Fx n m ∧ Hb n m ∧ Cons n m ∧ Wg n B m
theorem Jn.mono {n : Nat} {B B' : Int} {m : Row} (J : Jn n B m) (h : B ≤ B') : Jn n B' m :=
  ⟨J.1, J.2.1, J.2.2.1, J.2.2.2.1, fun k hk => by
    obtain ⟨a, h1, h2, h3, h4, h5, h6⟩ := J.2.2.2.2 k hk
    exact ⟨a, h1, h2, h3, h4, by omega, h6⟩⟩
theorem cdn_of {m : Row} {k a : Nat} (h : m (75 + 2 * k) = Int32.ofNat a) (ha : a < 1000) : cdn m k = a := by
  unfold cdn
  rw [h]
  exact tn_nat (by omega)
theorem hasZ_cong {m m' : Row} {p : Nat} : ∀ K, (∀ k, k < K → m' (75 + 2 * k) = m (75 + 2 * k) ∧ m' (76 + 2 * k) = m (76 + 2 * k)) → hasZ m' p K = hasZ m p K := by
  intro K
  induction K with
  | zero => intro _; rfl
  | succ K ih =>
    intro h
    have h1 := ih (fun k hk => h k (by omega))
    have h2 := h K (by omega)
    show hasZ m' p K - _ + _ = hasZ m p K - _ + _
    unfold cdn
    rw [h1, h2.1, h2.2]
theorem hasZ_inc {m m' : Row} {p k0 : Nat} {d : Int} : ∀ K, (∀ k, k < K → m' (75 + 2 * k) = m (75 + 2 * k)) → (∀ k, k < K → k ≠ k0 → m' (76 + 2 * k) = m (76 + 2 * k)) → (k0 < K → (m' (76 + 2 * k0)).toInt = (m (76 + 2 * k0)).toInt + d) → hasZ m' p K = hasZ m p K + (if k0 < K then ((if cdn m k0 % 10 = p then d else 0) - (if cdn m k0 / 10 = p then d else 0)) else 0) := by
  intro K
  induction K with
  | zero =>
    intro _ _ _
    rw [if_neg (Nat.not_lt_zero k0), Int.add_zero]
    rfl
  | succ K ih =>
    intro h1 h2 h3
    have g := ih (fun k hk => h1 k (by omega)) (fun k hk => h2 k (by omega)) (fun hk => h3 (by omega))
    have ec : cdn m' K = cdn m K := by unfold cdn; rw [h1 K (by omega)]
    show hasZ m' p K - _ + _ = hasZ m p K - _ + _ + _
    rw [ec, g]
    by_cases e : K = k0
    · subst e
      rw [h3 (by omega), if_neg (Nat.lt_irrefl K), if_pos (Nat.lt_succ_self K)]
      by_cases c1 : cdn m K / 10 = p <;> by_cases c2 : cdn m K % 10 = p <;> simp only [c1, c2, if_true, if_false] <;> omega
    · rw [h2 K (by omega) e]
      by_cases c : k0 < K
      · rw [if_pos c, if_pos (show k0 < K + 1 by omega)]
        omega
      · rw [if_neg c, if_neg (show ¬ k0 < K + 1 by omega)]
        omega
/-! a move, read off -/
theorem go1_some {n f t k0 : Nat} {m : Row} {u : Int32} (G1 : Gd n m) (ha : 10 * f + t ∈ wl26) (hu : 0 < u.toInt) (hl : lasti m (codeOf f t) (wy m) = some k0) : wy (go1 m f t u) = wy m ∧ (∀ k, k < wy m → go1 m f t u (75 + 2 * k) = m (75 + 2 * k)) ∧ (∀ k, k < wy m → k ≠ k0 → go1 m f t u (76 + 2 * k) = m (76 + 2 * k)) ∧ go1 m f t u (76 + 2 * k0) = m (76 + 2 * k0) + u ∧ k0 < wy m ∧ m (75 + 2 * k0) = codeOf f t := by
  have hn : ¬ u ≤ 0 := fun q => by rw [Int32.le_iff_toInt_le, i0] at q; omega
  have l := lasti_lt hl
  have hi : ∀ i, 26 ≤ i → go1 m f t u i = upd m (76 + 2 * k0) (m (76 + 2 * k0) + u) i := by
    intro i h
    unfold go1 gof
    rw [if_neg hn, addh_at (Or.inr h), subh_at (Or.inr h)]
    unfold wayf
    rw [hl]
  refine ⟨?_, fun k hk => ?_, fun k hk e => ?_, ?_, l.1, l.2⟩
  · rw [go1_wy G1 ha]
    unfold waysGo waysAfter
    rw [if_neg hn, if_neg (by rw [hl]; exact fun q => by cases q)]
  · rw [hi _ (by omega), upd_n _ _ (by omega)]
  · rw [hi _ (by omega), upd_n _ _ (by omega)]
  · rw [hi _ (by omega), upd_s]
theorem go1_none {n f t : Nat} {m : Row} {u : Int32} (G1 : Gd n m) (ha : 10 * f + t ∈ wl26) (hu : 0 < u.toInt) (hl : lasti m (codeOf f t) (wy m) = none) : wy (go1 m f t u) = wy m + 1 ∧ (∀ k, k < wy m → go1 m f t u (75 + 2 * k) = m (75 + 2 * k)) ∧ (∀ k, k < wy m → go1 m f t u (76 + 2 * k) = m (76 + 2 * k)) ∧ go1 m f t u (75 + 2 * wy m) = codeOf f t ∧ go1 m f t u (76 + 2 * wy m) = u := by
  have hn : ¬ u ≤ 0 := fun q => by rw [Int32.le_iff_toInt_le, i0] at q; omega
  have hi : ∀ i, 26 ≤ i → go1 m f t u i = upd (upd (upd (upd m (75 + 2 * wy m) (codeOf f t)) (76 + 2 * wy m) 0) 74 (m 74 + 1)) (76 + 2 * wy m) (0 + u) i := by
    intro i h
    unfold go1 gof
    rw [if_neg hn, addh_at (Or.inr h), subh_at (Or.inr h)]
    unfold wayf
    rw [hl]
  refine ⟨?_, fun k hk => ?_, fun k hk => ?_, ?_, ?_⟩
  · rw [go1_wy G1 ha]
    unfold waysGo waysAfter
    rw [if_neg hn, if_pos hl]
  · rw [hi _ (by omega), upd_n _ _ (by omega), upd_n _ _ (by omega), upd_n _ _ (by omega), upd_n _ _ (by omega)]
  · rw [hi _ (by omega), upd_n _ _ (by omega), upd_n _ _ (by omega), upd_n _ _ (by omega), upd_n _ _ (by omega)]
  · rw [hi _ (by omega), upd_n _ _ (by omega), upd_n _ _ (by omega), upd_n _ _ (by omega), upd_s]
  · rw [hi _ (by omega), upd_s]
    exact Int32.zero_add u
theorem go1_ht {f t p : Nat} {m : Row} {u : Int32} (hu : 0 < u.toInt) (hft : f ≠ t) (hp : p < 8) : go1 m f t u (18 + p) = if p = t then m (18 + p) + u else if p = f then m (18 + p) - u else m (18 + p) := by
  have hn : ¬ u ≤ 0 := fun q => by rw [Int32.le_iff_toInt_le, i0] at q; omega
  unfold go1 gof
  rw [if_neg hn]
  have ew : wayf m f t u (wy m) (18 + p) = m (18 + p) := wayf_at (by omega)
  by_cases e1 : p = t
  · subst e1
    rw [if_pos rfl]
    unfold addh
    rw [if_pos hp, upd_s]
    unfold subh
    by_cases e2 : f < 8
    · rw [if_pos e2, upd_n _ _ (by omega), ew]
    · rw [if_neg e2, ew]
  · rw [if_neg e1]
    have ea : ∀ m' : Row, addh m' t u (18 + p) = m' (18 + p) := by
      intro m'
      unfold addh
      by_cases e2 : t < 8
      · rw [if_pos e2, upd_n _ _ (by omega)]
      · rw [if_neg e2]
    rw [ea]
    by_cases e2 : p = f
    · subst e2
      rw [if_pos rfl]
      unfold subh
      rw [if_pos hp, upd_s, ew]
    · rw [if_neg e2]
      unfold subh
      by_cases e3 : f < 8
      · rw [if_pos e3, upd_n _ _ (by omega), ew]
      · rw [if_neg e3, ew]
theorem go1_le {f t : Nat} {m : Row} {u : Int32} (h : ¬ 0 < u.toInt) : go1 m f t u = m := by
  unfold go1 gof
  rw [if_pos]
  rw [Int32.le_iff_toInt_le, i0]
  omega
theorem wl26_ft : ∀ a ∈ wl26, a / 10 ≠ a % 10 ∧ a % 10 ≠ 9 ∧ (a / 10 = 9 → a % 10 = 0 ∨ (1 < a % 10 ∧ a % 10 < 8)) ∧ a < 100 := by decide
theorem Jn.go0 {n f t : Nat} {B U : Int} {m : Row} {u : Int32} (J : Jn n B m) (ha : 10 * f + t ∈ wl26) (hf : f < 2 + n ∨ 8 ≤ f) (ht : t < 2 + n ∨ 8 ≤ t) (hf9 : f ≤ 9) (ht9 : t ≤ 9) (h9 : ∀ i, i < 6 → 10 * f + t = 92 + i → lasti m (codeOf f t) (wy m) = none ∧ u.toInt = 150 * (m (26 + 8 * i)).toInt) (hU : u.toInt ≤ U) (hU0 : 0 ≤ U) (hB0 : 0 ≤ B) (hB : B + U < 2147483648)
    (hlo : 0 < u.toInt → f < 2 + n → -20 * (capf m f).toInt ≤ (m (18 + f)).toInt - u.toInt) (hhi : 0 < u.toInt → t < 2 + n → (m (18 + t)).toInt + u.toInt < 95 * (capf m t).toInt) : Jn n (B + U) (go1 m f t u) := by
  by_cases hu : 0 < u.toInt
  · obtain ⟨G1, X, Hh, C, Wq⟩ := J
    have hn := G1.1
    have hlo := hlo hu
    have hhi := hhi hu
    have wf := wl26_ft _ ha
    have hft : f ≠ t := by have := wf.1; omega
    have ecap : ∀ p, p < 8 → capf (go1 m f t u) p = capf m p := fun p hp => capf_cong (fun i h1 h2 => go1_at (Or.inr h1) h2) hp
    have rqn : rq n (10 * f + t) := by
      intro i hi e
      omega
    -- heats
    have hz : ∀ p, p < 2 + n → (go1 m f t u (18 + p)).toInt = (m (18 + p)).toInt + ((if t = p then u.toInt else 0) - (if f = p then u.toInt else 0)) := by
      intro p hp
      have hb := Hh p hp
      have cp := G1.cap hp
      rw [go1_ht hu hft (by omega)]
      by_cases e1 : p = t
      · subst e1
        have g := hhi hp
        rw [if_pos rfl, if_pos rfl, if_neg hft, ti_add (by omega) (by omega)]
        omega
      · rw [if_neg e1, if_neg (Ne.symm e1)]
        by_cases e2 : p = f
        · subst e2
          have g := hlo hp
          rw [if_pos rfl, if_pos rfl, ti_sub (by omega) (by omega)]
          omega
        · rw [if_neg e2, if_neg (Ne.symm e2)]
          omega
    refine ⟨G1.go ha, ?_, ?_, ?_, ?_⟩
    · have e : ∀ i, i < 18 ∨ 26 ≤ i → i < 74 → go1 m f t u i = m i := fun i h1 h2 => go1_at h1 h2
      refine ⟨by rw [e 2 (by omega) (by omega)]; exact X.1, by rw [e 10 (by omega) (by omega)]; exact X.2.1, by rw [e 15 (by omega) (by omega)]; exact X.2.2.1, fun i hi => ?_⟩
      rw [e (27 + 8 * i) (by omega) (by omega), e (28 + 8 * i) (by omega) (by omega), e (29 + 8 * i) (by omega) (by omega)]
      exact X.2.2.2 i hi
    · intro p hp
      have hb := Hh p hp
      rw [ecap p (by omega), hz p hp]
      by_cases e1 : t = p
      · subst e1
        have g := hhi hp
        rw [if_pos rfl, if_neg hft]
        omega
      · rw [if_neg e1]
        by_cases e2 : f = p
        · subst e2
          have g := hlo hp
          rw [if_pos rfl]
          omega
        · rw [if_neg e2]
          omega
    · intro p hp
      rw [hz p hp, C p hp]
      cases hl : lasti m (codeOf f t) (wy m) with
      | some k0 =>
        obtain ⟨g1, g2, g3, g4, g5, g6⟩ := go1_some G1 ha hu hl
        obtain ⟨a, a1, a2, a3, a4, a5, a6⟩ := Wq k0 g5
        have ec : cdn m k0 = 10 * f + t := cdn_of g6 (by omega)
        have e1 : cdn m k0 / 10 = f := by omega
        have e2 : cdn m k0 % 10 = t := by omega
        rw [g1, hasZ_inc (d := u.toInt) (k0 := k0) (wy m) g2 g3 (fun _ => by rw [g4, ti_add (by omega) (by omega)]), if_pos g5, e1, e2]
      | none =>
        obtain ⟨g1, g2, g3, g4, g5⟩ := go1_none G1 ha hu hl
        have ec : cdn (go1 m f t u) (wy m) = 10 * f + t := cdn_of g4 (by omega)
        rw [g1]
        show _ = hasZ (go1 m f t u) p (wy m) - _ + _
        rw [hasZ_cong (wy m) (fun k hk => ⟨g2 k hk, g3 k hk⟩), ec, g5, show (10 * f + t) / 10 = f by omega, show (10 * f + t) % 10 = t by omega]
        omega
    · have c26 : ∀ i, i < 6 → go1 m f t u (26 + 8 * i) = m (26 + 8 * i) := fun i hi => go1_at (by omega) (by omega)
      intro k hk
      cases hl : lasti m (codeOf f t) (wy m) with
      | some k0 =>
        obtain ⟨g1, g2, g3, g4, g5, g6⟩ := go1_some G1 ha hu hl
        rw [g1] at hk
        obtain ⟨a, a1, a2, a3, a4, a5, a6⟩ := Wq k hk
        by_cases e : k = k0
        · subst e
          have ea : 10 * f + t = a := nn_inj (g6.symm.trans a2) (by omega) (by have := wl26_lt a a1; omega)
          refine ⟨a, a1, by rw [g2 k hk]; exact a2, a3, ?_, ?_, fun i hi e => ?_⟩
          · rw [g4, ti_add (by omega) (by omega)]; omega
          · rw [g4, ti_add (by omega) (by omega)]; omega
          · have z := (h9 i hi (by omega)).1
            rw [hl] at z
            cases z
        · refine ⟨a, a1, by rw [g2 k hk]; exact a2, a3, ?_, ?_, fun i hi e9 => ?_⟩
          · rw [g3 k hk e]; exact a4
          · rw [g3 k hk e]; omega
          · rw [g3 k hk e, c26 i hi]; exact a6 i hi e9
      | none =>
        obtain ⟨g1, g2, g3, g4, g5⟩ := go1_none G1 ha hu hl
        rw [g1] at hk
        by_cases e : k = wy m
        · subst e
          refine ⟨10 * f + t, ha, g4, rqn, by rw [g5]; exact hu, ?_, fun i hi e => by rw [g5, c26 i hi]; exact (h9 i hi e).2⟩
          rw [g5]
          omega
        · obtain ⟨a, a1, a2, a3, a4, a5, a6⟩ := Wq k (by omega)
          refine ⟨a, a1, by rw [g2 k (by omega)]; exact a2, a3, ?_, ?_, fun i hi e9 => ?_⟩
          · rw [g3 k (by omega)]; exact a4
          · rw [g3 k (by omega)]; omega
          · rw [g3 k (by omega), c26 i hi]; exact a6 i hi e9
  · rw [go1_le hu]
    exact J.mono (by omega)
theorem Jn.go {n f t : Nat} {B U : Int} {m : Row} {u : Int32} (J : Jn n B m) (ha : 10 * f + t ∈ wl26) (hf : f < 2 + n ∨ 8 ≤ f) (ht : t < 2 + n ∨ 8 ≤ t) (hf9 : f ≤ 9) (ht9 : t ≤ 9) (h9 : f = 9 → t = 0) (hU : u.toInt ≤ U) (hU0 : 0 ≤ U) (hB0 : 0 ≤ B) (hB : B + U < 2147483648)
    (hlo : 0 < u.toInt → f < 2 + n → -20 * (capf m f).toInt ≤ (m (18 + f)).toInt - u.toInt) (hhi : 0 < u.toInt → t < 2 + n → (m (18 + t)).toInt + u.toInt < 95 * (capf m t).toInt) : Jn n (B + U) (go1 m f t u) :=
  J.go0 ha hf ht hf9 ht9 (fun i hi e => by omega) hU hU0 hB0 hB hlo hhi
