/-! histories: their top -/
def Tq : List Row → Hy → Prop
  | [], _ => True
  | x :: l, h => ∃ b, h.1 = b + 1 ∧ h.2 b = x ∧ Tq l (b, h.2)
def Tp (l : List Row) (h : Hy) : Prop := h.1 ≤ 14 ∧ Tq l h
theorem Tq_cong : ∀ (l : List Row) (a : Nat) (f g : Nat → Row), (∀ k, k < a → g k = f k) → Tq l (a, f) → Tq l (a, g)
  | [], _, _, _, _, _ => trivial
  | x :: l, a, f, g, h, ⟨b, h1, h2, h3⟩ => by
    have h1 : a = b + 1 := h1
    have h2 : f b = x := h2
    exact ⟨b, h1, by show g b = x; rw [h b (by omega)]; exact h2, Tq_cong l b f g (fun k hk => h k (by omega)) h3⟩
theorem Tq_shift : ∀ (l : List Row) (b : Nat) (f g : Nat → Row), (∀ k, k < b → g k = f (k + 1)) → l.length ≤ b → Tq l (b + 1, f) → Tq l (b, g)
  | [], _, _, _, _, _, _ => trivial
  | x :: l, b, f, g, h, hl, ⟨c, h1, h2, h3⟩ => by
    have h1 : b + 1 = c + 1 := h1
    have h2 : f c = x := h2
    have hl : l.length + 1 ≤ b := hl
    obtain ⟨d, rfl⟩ : ∃ d, b = d + 1 := ⟨b - 1, by omega⟩
    have e : c = d + 1 := by omega
    subst e
    exact ⟨d, rfl, by show g d = x; rw [h d (by omega)]; exact h2, Tq_shift l d f g (fun k hk => h k (by omega)) (by omega) h3⟩
theorem Tp.push {h : Hy} {l : List Row} {x : Row} (H : Tp l h) (hl : l.length ≤ 13) : Tp (x :: l) (pushH h x) := by
  obtain ⟨a, f⟩ := h
  obtain ⟨h1, h2⟩ := H
  have h1 : a ≤ 14 := h1
  by_cases e : a = 14
  · subst e
    exact ⟨Nat.le_refl 14, 13, rfl, rfl, Tq_shift l 13 f _ (fun k hk => by show (if k = 13 then x else f (k + 1)) = f (k + 1); rw [if_neg (by omega)]) hl h2⟩
  · have ea : acts1 a = a + 1 := by unfold acts1; rw [if_neg e]
    refine ⟨by show acts1 a ≤ 14; rw [ea]; omega, a, ea, ?_, Tq_cong l a f _ (fun k hk => ?_) h2⟩
    · show Jvm.Pilot.CMixerStationLaw_law_r1845_d89bc4.push a f x a = x
      simp [Jvm.Pilot.CMixerStationLaw_law_r1845_d89bc4.push, e]
    · show Jvm.Pilot.CMixerStationLaw_law_r1845_d89bc4.push a f x k = f k
      have : k ≠ a := by omega
      simp [Jvm.Pilot.CMixerStationLaw_law_r1845_d89bc4.push, e, this]
theorem AR.h14 {T : Nat} {M : Mem} {A : Ab} (S : AR T M A) : A.2.1.1 ≤ 14 := by
  obtain ⟨f, hf, -⟩ := S.2.1
  exact hf.2.1
theorem q_undoT {T : Nat} {A : Ab} {x : Row} {l : List Row} (H : Tp (x :: l) A.2.1) : ∃ b h', b ≤ 14 ∧ Tp l h' ∧ Sp wL_undo T A T (Int32.toInt64 (Int32.ofNat b)) (x, h', A.2.2.1, A.2.2.2) := by
  obtain ⟨h1, b, e1, e2, h3⟩ := H
  refine ⟨b, (b, A.2.1.2), by omega, ⟨by show b ≤ 14; omega, h3⟩, ?_⟩
  rw [← e2]
  exact q_undo e1
/-! minutes, as values -/
theorem mns_1 {n : Nat} {m : Row} : ∀ k, mns n m k 1 = m 1 + Int32.ofNat k := by
  intro k
  induction k with
  | zero => exact (Int32.add_zero _).symm
  | succ k ih =>
    show mnf n (mns n m k) 1 = _
    rw [mnf_1, ih, Int32.add_assoc, nn_s]
theorem mnf_want {n i : Nat} {m : Row} (hi : i < 6) : mnf n m (27 + 8 * i) = m (27 + 8 * i) := by
  have e : mnf n m (27 + 8 * i) = iter feelf (mnB n m) n (27 + 8 * i) := upd_n _ _ (by omega)
  rw [e, iter_at (f := feelf) (fun m j => upd_n (k := 26 + 8 * j + whatf m j) _ _ (by have := what_b m j; omega)), mnB_at (by omega) (by omega)]
theorem mns_want {n i : Nat} {m : Row} (hi : i < 6) : ∀ k, mns n m k (27 + 8 * i) = m (27 + 8 * i) := by
  intro k
  induction k with
  | zero => rfl
  | succ k ih =>
    show mnf n (mns n m k) (27 + 8 * i) = _
    rw [mnf_want hi, ih]
theorem made_k {n T : Nat} {m : Row} (I : Inv n T m) : ∀ k, T + k ≤ 1000000 → (made m).toInt ≤ (made (mns n m k)).toInt ∧ (made (mns n m k)).toInt ≤ (made m).toInt + 200 * k := by
  intro k
  induction k with
  | zero =>
    intro _
    show (made m).toInt ≤ (made m).toInt ∧ (made m).toInt ≤ (made m).toInt + 200 * ((0 : Nat) : Int)
    omega
  | succ k ih =>
    intro hk
    have h := ih (by omega)
    have Ik := I.mns k (by omega)
    have b := Ik.2.2.2.2
    have g := made_mn (n := n) Ik.1 Ik.2.1 b.1 (by omega)
    have e : mns n m (k + 1) = mnf n (mns n m k) := rfl
    rw [e]
    omega
theorem stepf_d {t x v : Int32} (h1 : 0 ≤ t.toInt) (h2 : t.toInt ≤ 100) (h3 : 0 ≤ x.toInt) (h4 : x.toInt ≤ 100) (h5 : 0 ≤ v.toInt) (h6 : v.toInt ≤ 50) : (stepf t x v).toInt - x.toInt ≤ v.toInt ∧ x.toInt - (stepf t x v).toInt ≤ v.toInt := by
  have d : (t - x).toInt = t.toInt - x.toInt := ti_sub (by omega) (by omega)
  have nv : (-v).toInt = -v.toInt := ti_neg (by omega)
  unfold stepf
  by_cases c1 : t - x ≤ v
  · rw [if_pos c1]
    rw [Int32.le_iff_toInt_le, d] at c1
    by_cases c2 : -v ≤ t - x
    · rw [if_pos c2]
      rw [Int32.le_iff_toInt_le, d, nv] at c2
      rw [ti_add (by rw [d]; omega) (by rw [d]; omega), d]
      omega
    · rw [if_neg c2, ti_add (by rw [nv]; omega) (by rw [nv]; omega), nv]
      omega
  · rw [if_neg c1, ti_add (by omega) (by omega)]
    omega
theorem tof_min {n i : Nat} {m : Row} : ∀ r v, (∀ u, u < v → degf (mns n m u) (2 + i) < mns n m u (27 + 8 * i)) → tof n m i r v = -99999 ∨ ∃ w, w < v + r ∧ tof n m i r v = Int32.ofNat w ∧ ¬ degf (mns n m w) (2 + i) < mns n m w (27 + 8 * i) ∧ ∀ u, u < w → degf (mns n m u) (2 + i) < mns n m u (27 + 8 * i) := by
  intro r
  induction r with
  | zero => intro v _; exact Or.inl rfl
  | succ r ih =>
    intro v h
    by_cases c : degf (mns n m v) (2 + i) < mns n m v (27 + 8 * i)
    · have e : tof n m i (r + 1) v = tof n m i r (v + 1) := if_pos c
      rw [e]
      rcases ih (v + 1) (fun u hu => by
        by_cases q : u = v
        · rw [q]; exact c
        · exact h u (by omega)) with g | ⟨w, w1, w2⟩
      · exact Or.inl g
      · exact Or.inr ⟨w, by omega, w2⟩
    · have e : tof n m i (r + 1) v = Int32.ofNat v := if_neg c
      exact Or.inr ⟨v, by omega, e, c, h⟩
theorem bst_max {n k : Nat} {m : Row} : ∀ s s', s' ≤ s → gsf n k m s' ≤ gsf n k m (bst n k m s) := by
  intro s
  induction s with
  | zero =>
    intro s' h
    have e : s' = 0 := by omega
    subst e
    exact Nat.le_refl _
  | succ s ih =>
    intro s' h
    show _ ≤ gsf n k m (if gsf n k m (s + 1) ≤ gsf n k m (bst n k m s) then bst n k m s else s + 1)
    by_cases c : gsf n k m (s + 1) ≤ gsf n k m (bst n k m s)
    · rw [if_pos c]
      by_cases e : s' = s + 1
      · rw [e]; exact c
      · exact ih s' (by omega)
    · rw [if_neg c]
      by_cases e : s' = s + 1
      · rw [e]; exact Nat.le_refl _
      · have := ih s' (by omega)
        omega
theorem rcf_mono {n : Nat} {m : Row} : ∀ r v, rcf n m r v ≠ 0 → rcf n m (r + 1) v ≠ 0 := by
  intro r
  induction r with
  | zero => intro v h; exact absurd rfl h
  | succ r ih =>
    intro v h
    have e1 : rcf n m (r + 1) v = if alB n m v = true then 1 else rcf n m r (v + 1) := rfl
    have e2 : rcf n m (r + 1 + 1) v = if alB n m v = true then 1 else rcf n m (r + 1) (v + 1) := rfl
    rw [e1] at h
    rw [e2]
    by_cases c : alB n m v = true
    · rw [if_pos c]; exact z10
    · rw [if_neg c] at h
      rw [if_neg c]
      exact ih (v + 1) h
theorem lpf_s {n k : Nat} {m : Row} : ∀ r q, lpf n k m r q = -99999 ∨ ∃ w, q ≤ w ∧ w < q + r ∧ lpf n k m r q = Int32.ofNat (10 * w) ∧ rcf n (upd m 9 (Int32.ofNat (10 * w))) (k + 1) 0 ≠ 0 := by
  intro r
  induction r with
  | zero => intro q; exact Or.inl rfl
  | succ r ih =>
    intro q
    by_cases c : rcf n (upd m 9 (Int32.ofNat (10 * q))) (k + 1) 0 = 0
    · have e : lpf n k m (r + 1) q = lpf n k m r (q + 1) := if_pos c
      rw [e]
      rcases ih (q + 1) with g | ⟨w, w1, w2, w3⟩
      · exact Or.inl g
      · exact Or.inr ⟨w, by omega, by omega, w3⟩
    · have e : lpf n k m (r + 1) q = Int32.ofNat (10 * q) := if_neg c
      exact Or.inr ⟨q, Nat.le_refl _, by omega, e, c⟩
theorem lpf_le {n k : Nat} {m : Row} {w : Nat} (hw : rcf n (upd m 9 (Int32.ofNat (10 * w))) (k + 1) 0 ≠ 0) : ∀ r q, q ≤ w → w < q + r → ∃ w', w' ≤ w ∧ lpf n k m r q = Int32.ofNat (10 * w') := by
  intro r
  induction r with
  | zero => intro q h1 h2; omega
  | succ r ih =>
    intro q h1 h2
    by_cases c : rcf n (upd m 9 (Int32.ofNat (10 * q))) (k + 1) 0 = 0
    · have e : lpf n k m (r + 1) q = lpf n k m r (q + 1) := if_pos c
      have hne : q ≠ w := fun g => by rw [g] at c; exact hw c
      obtain ⟨w', w1, w2⟩ := ih (q + 1) (by omega) (by omega)
      exact ⟨w', w1, e.trans w2⟩
    · exact ⟨q, h1, if_neg c⟩
theorem sim_le {n T : Nat} {m : Row} {x : Int64} (I : Inv n T m) (hT : T ≤ 100000) : (smf n x m 1 / 1000000).toInt ≤ 10 * (n : Int) := by
  have hn := I.1.1
  have hr := rr_nn (sx x 1)
  have I1 : Inv n T (sst n (rr (sx x 1)) m) := I.stt hr
  have g := made_k I1 10 (by omega)
  have es : made (sst n (rr (sx x 1)) m) = made m := made_cong I.1.2.2.1 (fun i h1 h2 => by
    have hi : n = 0 ∨ idv (rr (sx x 1)) n < n := by
      by_cases e : n = 0
      · exact Or.inl e
      · exact Or.inr (idv_b hr (by omega) hn).1
    unfold sst
    split
    · exact upd_n _ _ (by omega)
    · rename_i h0
      rw [upd_n _ _ (by omega), upd_n _ _ (by omega)])
  have e1 : sm n x m 1 = mns n (sst n (rr (sx x 1)) m) 10 := rfl
  have b := gns_b n (sst n (rr (sx x 1)) m) 10
  have e2 : sgn n x m 1 = gns n (sst n (rr (sx x 1)) m) 10 := Nat.zero_add _
  rw [es] at g
  have mb := I.2.2.2.2
  have d : (made (sm n x m 1) - made m).toInt = (made (sm n x m 1)).toInt - (made m).toInt := by
    rw [e1]
    exact ti_sub (by omega) (by omega)
  have c6 : (1000000 : Int64).toInt = 1000000 := rfl
  have s1 : (Int32.toInt64 (Int32.ofNat (sgn n x m 1))).toInt = sgn n x m 1 := t64 (by omega)
  have t1 : (1000000 * Int32.toInt64 (Int32.ofNat (sgn n x m 1))).toInt = 1000000 * (sgn n x m 1 : Int) := by
    rw [tl_mul (by rw [c6, s1]; omega) (by rw [c6, s1]; omega), c6, s1]
  have v : (smf n x m 1).toInt = 1000000 * (sgn n x m 1 : Int) + ((made (sm n x m 1)).toInt - (made m).toInt) := by
    unfold smf
    rw [tl_add (by rw [t1, i64, d, e1]; omega) (by rw [t1, i64, d, e1]; omega), t1, i64, d]
  rw [tl_div (by rw [v, e1]; omega) (by decide), v, c6, e1]
  omega
theorem scr_1 {n k : Nat} {m : Row} (h1 : 1 ≤ k) (h2 : k ≤ 60) : rsf n (fun v => grp (1000 + k) (1 - 1 - v)) 1 0 m = -99999 := by
  have hg : grp (1000 + k) (1 - 1 - 0) = 1000 + k := by
    unfold grp
    rw [show 10000 ^ (1 - 1 - 0) = 1 from rfl, Nat.div_one]
    omega
  have ok : cOk n m (grp (1000 + k) (1 - 1 - 0) / 1000) (grp (1000 + k) (1 - 1 - 0) / 100 % 10) (grp (1000 + k) (1 - 1 - 0) % 100) := by
    rw [hg, show (1000 + k) / 1000 = 1 by omega, show (1000 + k) / 100 % 10 = 0 by omega]
    exact ⟨rfl, by omega, by omega⟩
  rw [rsf_t (gr := fun v => grp (1000 + k) (1 - 1 - v)) (r := 0) (v := 0) ok]
  rfl
theorem upd_upd (m : Row) (k : Nat) (a b : Int32) : upd (upd m k a) k b = upd m k b := by
  funext i
  by_cases h : i = k
  · rw [h, upd_s, upd_s]
  · rw [upd_n _ _ h, upd_n _ _ h, upd_n _ _ h]
