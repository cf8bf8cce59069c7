/-! follows -/
theorem noeq {a b : Int64} {F G : Prop} (e : a.toInt ≠ b.toInt) (h : G) : (lg_cmp a b = 0 → F) ∧ (¬ lg_cmp a b = 0 → G) := ⟨fun q => absurd (congrArg Int64.toInt ((lg_cmp_eq _ _).mp q)) e, fun _ => h⟩
theorem iseq {a b : Int64} {F G : Prop} (e : a = b) (h : G) : (lg_cmp a b = 0 → G) ∧ (¬ lg_cmp a b = 0 → F) := ⟨fun _ => h, fun q => absurd ((lg_cmp_eq _ _).mpr e) q⟩
theorem nn_p {w : Nat} (h : 1 ≤ w) : Int32.ofNat w - 1 = Int32.ofNat (w - 1) := by
  obtain ⟨v, rfl⟩ : ∃ v, w = v + 1 := ⟨w - 1, by omega⟩
  rw [← nn_s, Int32.add_sub_cancel, Nat.add_sub_cancel]
section
variable {n T : Nat} {m : Row} {h : Hy} {s1 : Sl} {tt : Tt} {P : Int32 → Mem → Prop} {a1 : Int32} {M : Mem}
theorem fl_856 (I : Inv n T m) (hs : s1 1 = some m) (S : AR T M (m, h, s1, tt)) (hP : ∀ M', AR T M' (m, h00, s1, tt) → P 1 M') : wL_follows_L856 a1 P (nowf n m) (Int32.toInt64 (m 1)) 1 M := by
  refine yes ?_
  refine q_restore (A := (m, h, s1, tt)) (s := 1) (by decide) hs M _ S (fun M1 S1 _ => eqk rfl ?_)
  refine q_now (A := (m, h00, s1, tt)) I M1 _ S1 (fun M2 S2 _ => eqk rfl ?_)
  exact b_undo (A := (m, h00, s1, tt)) rfl M2 _ S2 (fun M3 S3 _ => eqk rfl (hP M3 S3))
theorem fl_797 (I : Inv n T m) (hT : T ≤ 100000) (hs : s1 1 = some m) (S : AR T M (m, h, s1, tt)) (hP : ∀ M', AR T M' (m, h00, s1, tt) → P 1 M') : wL_follows_L797 a1 P (nowf n m) (Int32.ofNat n) (Int32.toInt64 (m 1)) 1 M := by
  have hn := I.1.1
  refine yes ?_
  refine q_simulate (A := (m, h, s1, tt)) (x := Int32.toInt64 a1) (k := 2) I hT (by decide) (by decide) M _ S (fun M1 S1 _ => ?_)
  refine q_simulate (A := (m, h, s1, tt)) (x := Int32.toInt64 a1) (k := 2) I hT (by decide) (by decide) M1 _ S1 (fun M2 S2 _ => eqk rfl ?_)
  refine q_simulate (A := (m, h, s1, tt)) (x := Int32.toInt64 a1) (k := 1) I hT (by decide) (by decide) M2 _ S2 (fun M3 S3 _ => gtn ?_ ?_)
  · have c : (10 : Int64).toInt = 10 := rfl
    rw [tl_mul (by rw [c, t64 (by omega)]; omega) (by rw [c, t64 (by omega)]; omega), c, t64 (by omega)]
    exact sim_le (x := Int32.toInt64 a1) I hT
  exact q_now (A := (m, h, s1, tt)) I M3 _ S3 (fun M4 S4 _ => eqk rfl (fl_856 I hs S4 hP))
theorem fl_716 {K : Nat} (I : Inv n T m) (hT : T ≤ 100000) (hK : K ≤ 60) (hs : s1 1 = some m) (S : AR T M (m, h, s1, tt)) (hP : ∀ M', AR T M' (m, h00, s1, tt) → P 1 M') : wL_follows_L716 a1 P (nowf n m) (Int32.ofNat n) (Int32.toInt64 (m 1)) (Int32.ofNat K) 1 M := by
  refine q_leastPower (A := (m, h, s1, tt)) (k := K) I hT (by omega) M _ S (fun M1 S1 _ => yes ?_)
  have g := lpf_s (n := n) (k := K) (m := m) 21 0
  rcases g with g | ⟨w, w1, w2, w3, w4⟩
  · exact iseq (by show Int32.toInt64 (lpf n K m 21 0) = _; rw [g]; rfl) (fl_797 I hT hs S1 hP)
  · have c10 : (10 : Int64).toInt = 10 := rfl
    have cn : (-99999 : Int64).toInt = -99999 := rfl
    have ew : (Int32.toInt64 (lpf n K m 21 0)).toInt = 10 * (w : Int) := by rw [w3, t64 (by omega)]; omega
    generalize hr : Int32.toInt64 (lpf n K m 21 0) = r at ew
    refine noeq (by rw [ew, cn]; omega) (eqk (e64 ?_) ?_)
    · have d1 : (r / 10).toInt = w := by
        rw [tl_div (by rw [ew]; omega) (by decide), ew, c10]
        omega
      have d2 : (r / 10 * 10).toInt = 10 * (w : Int) := by
        rw [tl_mul (by rw [d1, c10]; omega) (by rw [d1, c10]; omega), d1, c10]
        omega
      rw [tl_sub (by rw [d2, ew]; omega) (by rw [d2, ew]; omega), d2, ew]
      show _ = (0 : Int)
      omega
    refine kin (by rw [ew]; show (0 : Int) ≤ _; omega) (by rw [ew]; show _ ≤ (200 : Int); omega) (yes ?_)
    rw [nn_s]
    obtain ⟨w', l1, l2⟩ := lpf_le (n := n) (k := K + 1) (m := m) (w := w) (rcf_mono _ _ w4) 21 0 (by omega) (by omega)
    refine q_leastPower (A := (m, h, s1, tt)) (k := K + 1) I hT (by omega) M1 _ S1 (fun M2 S2 _ => gtn ?_ ?_)
    · show (Int32.toInt64 (lpf n (K + 1) m 21 0)).toInt ≤ _
      rw [l2, t64 (by omega), ew]
      omega
    refine q_leastPower (A := (m, h, s1, tt)) (k := K + 1) I hT (by omega) M2 _ S2 (fun M3 S3 _ => ltn ?_ (fl_797 I hT hs S3 hP))
    show (0 : Int) ≤ (Int32.toInt64 (lpf n (K + 1) m 21 0)).toInt
    rw [l2, t64 (by omega)]
    omega
theorem set_4 {s : Nat} (h : s ≤ 30) : SetOk 4 (Int32.ofNat s) := setok4 h
theorem fl_611 {K b s2 : Nat} (I : Inv n T m) (hT : T + 120 ≤ 100000) (h1K : 1 ≤ K) (hK : K ≤ 60) (hb : b = bst n K m 30) (e31 : (a1 / 30) - (a1 / 30) / 31 * 31 = Int32.ofNat s2) (hs2 : s2 ≤ 30) (hs : s1 1 = some m) (H : Tp [upd m 13 (Int32.ofNat b), m] h) (S : AR (T + 60) M (mns n (upd m 13 (Int32.ofNat b)) K, h, s1, tt)) (hP : ∀ M', AR (T + 120) M' (m, h00, s1, tt) → P 1 M') : wL_follows_L611 a1 P (nowf n m) (Int32.ofNat n) (Int32.toInt64 (m 1)) (Int32.ofNat K) 1 M := by
  have hn := I.1.1
  have hb30 : b ≤ 30 := by rw [hb]; exact bst_le n K m 30
  have Ib : Inv n T (upd m 13 (Int32.ofNat b)) := I.set (k := 4) (by decide) (set_4 hb30)
  have I2 : Inv n T (upd m 13 (Int32.ofNat s2)) := I.set (k := 4) (by decide) (set_4 hs2)
  have Ibk : Inv n (T + 60) (mns n (upd m 13 (Int32.ofNat b)) K) := (Ib.mns K (by omega)).mono (by omega)
  have I2k : Inv n (T + 120) (mns n (upd m 13 (Int32.ofNat s2)) K) := (I2.mns K (by omega)).mono (by omega)
  unfold wL_follows_L611
  rw [e31]
  refine q_about (A := (mns n (upd m 13 (Int32.ofNat b)) K, h, s1, tt)) (k := 12) Ibk (by decide) M _ S (fun M1 S1 _ => yes ?_)
  obtain ⟨b1, g1, c1, H1, u1⟩ := q_undoT (T := T + 60) (A := (mns n (upd m 13 (Int32.ofNat b)) K, h, s1, tt)) H
  refine u1 M1 _ S1 (fun M2 S2 _ => ltn (by rw [t64 (by omega)]; show (0 : Int) ≤ _; omega) ?_)
  refine q_set (A := (upd m 13 (Int32.ofNat b), g1, s1, tt)) (k := 4) (x := Int32.ofNat s2) (Ib.mono (by omega) : Inv n (T + 60) _) (by decide) (set_4 hs2) M2 _ S2 (fun M3 S3 _ => ltn ?_ ?_)
  · show (0 : Int) ≤ (Int32.toInt64 (upd m 13 (Int32.ofNat b) 13)).toInt
    rw [upd_s, t64 (by omega)]
    omega
  have S3 : AR (T + 60) M3 (upd m 13 (Int32.ofNat s2), pushH g1 (upd m 13 (Int32.ofNat b)), s1, tt) := by
    have e := upd_upd m 13 (Int32.ofNat b) (Int32.ofNat s2)
    rw [← e]
    exact S3
  have H3 := Tp.push (x := upd m 13 (Int32.ofNat b)) H1 (Nat.le_of_ble_eq_true rfl)
  refine q_pass (A := (upd m 13 (Int32.ofNat s2), pushH g1 (upd m 13 (Int32.ofNat b)), s1, tt)) (k := K) (I2.mono (by omega) : Inv n (T + 60) _) (by omega) h1K hK M3 _ S3 (fun M4 S4 _ => ltn ?_ ?_)
  · have gb := gns_b n (upd m 13 (Int32.ofNat s2)) K
    have : n * K ≤ 6 * 60 := Nat.mul_le_mul hn hK
    rw [t64 (by show gns n (upd m 13 (Int32.ofNat s2)) K < _; omega)]
    show (0 : Int) ≤ _
    omega
  have H4 := Tp.push (x := upd m 13 (Int32.ofNat s2)) H3 (Nat.le_of_ble_eq_true rfl)
  refine q_about (A := (mns n (upd m 13 (Int32.ofNat s2)) K, _, s1, tt)) (k := 12) I2k (by decide) M4 _ S4 (fun M5 S5 _ => gtn ?_ ?_)
  · show (Int32.toInt64 (sumc (mns n (upd m 13 (Int32.ofNat s2)) K) n)).toInt ≤ (Int32.toInt64 (sumc (mns n (upd m 13 (Int32.ofNat b)) K) n)).toInt
    have sc : ∀ s : Nat, sumc (mns n (upd m 13 (Int32.ofNat s)) K) n = sumc m n + Int32.ofNat (gsf n K m s) := fun s => by
      rw [sum_mns hn, sumc_cong (m := m) n (fun k hk => upd_n _ _ (by omega))]
      rfl
    rw [sc, sc, i64, i64]
    have sb := sumc_b (T := T) (m := m) I.2.2.2.1 hn (by omega) n (Nat.le_refl n)
    have sb2 : ((n : Int) * T) ≤ 6 * 100000 := Int.mul_le_mul (by omega) (by omega) (by omega) (by omega)
    have ga := gsf_b n K m s2 hn (by omega)
    have gb := gsf_b n K m b hn (by omega)
    have mx := bst_max (n := n) (k := K) (m := m) 30 s2 hs2
    rw [← hb] at mx
    have := (sum_le (S := sumc m n) sb.1 (by omega) ga gb).mpr mx
    rw [Int32.le_iff_toInt_le] at this
    exact this
  obtain ⟨b5, g5, c5, H5, u5⟩ := q_undoT (T := T + 60 + 60) (A := (mns n (upd m 13 (Int32.ofNat s2)) K, pushH (pushH g1 (upd m 13 (Int32.ofNat b))) (upd m 13 (Int32.ofNat s2)), s1, tt)) H4
  refine u5 M5 _ S5 (fun M6 S6 _ => ltn (by rw [t64 (by omega)]; show (0 : Int) ≤ _; omega) ?_)
  obtain ⟨b6, g6, c6, H6, u6⟩ := q_undoT (T := T + 60 + 60) (A := (upd m 13 (Int32.ofNat s2), g5, s1, tt)) H5
  refine u6 M6 _ S6 (fun M7 S7 _ => ltn (by rw [t64 (by omega)]; show (0 : Int) ≤ _; omega) ?_)
  obtain ⟨b7, g7, c7, H7, u7⟩ := q_undoT (T := T + 60 + 60) (A := (upd m 13 (Int32.ofNat b), g6, s1, tt)) H6
  refine u7 M7 _ S7 (fun M8 S8 _ => ltn (by rw [t64 (by omega)]; show (0 : Int) ≤ _; omega) ?_)
  have Im : Inv n (T + 60 + 60) m := I.mono (by omega)
  exact q_now (A := (m, g7, s1, tt)) Im M8 _ S8 (fun M9 S9 _ => eqk rfl (fl_716 Im (by omega) hK hs S9 hP))
theorem fl_547 {K s2 : Nat} (I : Inv n T m) (hT : T + 120 ≤ 100000) (h0 : 0 < n) (h1K : 1 ≤ K) (hK : K ≤ 60) (e30 : 1 + (a1 - a1 / 30 * 30) = Int32.ofNat K) (e31 : (a1 / 30) - (a1 / 30) / 31 * 31 = Int32.ofNat s2) (hs2 : s2 ≤ 30) (hs : s1 1 = some m) (H : Tp [] h) (S : AR T M (m, h, s1, tt)) (hP : ∀ M', AR (T + 120) M' (m, h00, s1, tt) → P 1 M') : wL_follows_L542 a1 P (nowf n m) (Int32.ofNat n) (Int32.toInt64 (m 1)) M := by
  have hn := I.1.1
  have hb30 := bst_le n K m 30
  unfold wL_follows_L542 wL_follows_L547
  rw [e30]
  refine q_bestSlope (A := (m, h, s1, tt)) (k := K) I (by omega) h1K (by omega) M _ S (fun M1 S1 _ => yes ?_)
  have eb : bsf n K m = Int32.ofNat (bst n K m 30) := if_neg (by omega)
  have eb' : bsf n K (m, h, s1, tt).1 = Int32.ofNat (bst n K m 30) := eb
  rw [eb']
  refine kin (by rw [t64 (by omega)]; show (0 : Int) ≤ _; omega) (by rw [t64 (by omega)]; show _ ≤ (30 : Int); omega) (yes ?_)
  rw [b32]
  refine q_set (A := (m, h, s1, tt)) (k := 4) (x := Int32.ofNat (bst n K m 30)) I (by decide) (set_4 hb30) M1 _ S1 (fun M2 S2 _ => ltn ?_ ?_)
  · rw [i64]
    exact I.2.1.2.2.2.2.1.2.2.1
  have Ib : Inv n T (upd m 13 (Int32.ofNat (bst n K m 30))) := I.set (k := 4) (by decide) (set_4 hb30)
  have H2 := Tp.push (x := m) H (Nat.le_of_ble_eq_true rfl)
  refine q_pass (A := (upd m 13 (Int32.ofNat (bst n K m 30)), pushH h m, s1, tt)) (k := K) Ib (by omega) h1K hK M2 _ S2 (fun M3 S3 _ => ltn ?_ ?_)
  · have gb := gns_b n (upd m 13 (Int32.ofNat (bst n K m 30))) K
    have : n * K ≤ 6 * 60 := Nat.mul_le_mul hn hK
    rw [t64 (by show gns n (upd m 13 (Int32.ofNat (bst n K m 30))) K < _; omega)]
    show (0 : Int) ≤ _
    omega
  have H3 := Tp.push (x := upd m 13 (Int32.ofNat (bst n K m 30))) H2 (Nat.le_of_ble_eq_true rfl)
  exact fl_611 I hT h1K hK rfl e31 hs2 hs H3 S3 hP
theorem fl_424 {K s2 i : Nat} (I : Inv n T m) (hT : T + 120 ≤ 100000) (h1K : 1 ≤ K) (hK : K ≤ 60) (e30 : 1 + (a1 - a1 / 30 * 30) = Int32.ofNat K) (e31 : (a1 / 30) - (a1 / 30) / 31 * 31 = Int32.ofNat s2) (hs2 : s2 ≤ 30) (e7 : 0 < n → (a1 / 7) - (a1 / 7) / Int32.ofNat n * Int32.ofNat n = Int32.ofNat i ∧ i < n) (hs : s1 1 = some m) (H : Tp [] h) (S : AR T M (m, h, s1, tt)) (hP : ∀ M', AR (T + 120) M' (m, h00, s1, tt) → P 1 M') : wL_follows_L424 a1 P (nowf n m) (Int32.ofNat n) (Int32.toInt64 (m 1)) 1 M := by
  have hn := I.1.1
  refine ⟨fun q => fl_797 (I.mono (by omega) : Inv n (T + 120) m) (by omega) hs (S.mono (by omega)) hP, fun q => yes ?_⟩
  have h0 : 0 < n := Nat.pos_of_ne_zero (fun e => q (by rw [e]; decide))
  obtain ⟨e7, hi⟩ := e7 h0
  refine ⟨fun q2 => ?_, ?_⟩
  · have := nn_inj (b := 0) q2 (by omega) (by omega)
    omega
  rw [e7, ix_room]
  have fin : ∀ M', AR T M' (m, h, s1, tt) → wL_follows_L542 a1 P (nowf n m) (Int32.ofNat n) (Int32.toInt64 (m 1)) M' := fun M' S' => fl_547 I hT h0 h1K hK e30 e31 hs2 hs H S' hP
  refine q_minutesTo (A := (m, h, s1, tt)) (i := i) I (by omega) hi M _ S (fun M1 S1 _ => ?_)
  have cn : (-99999 : Int64).toInt = -99999 := rfl
  have et : tof n (m, h, s1, tt).1 i 241 0 = tof n m i 241 0 := rfl
  rw [et]
  rcases tof_min (n := n) (i := i) (m := m) 241 0 (fun u hu => absurd hu (Nat.not_lt_zero u)) with g | ⟨w, w1, w2, w3, w4⟩
  · rw [g]
    exact iseq rfl (fin M1 S1)
  · rw [w2]
    refine noeq (by rw [t64 (by omega), cn]; omega) ⟨fun q3 => ?_, fun q3 => ?_⟩
    · have hw : w = 0 := by
        rw [lg_cmp_le, Int64.le_iff_toInt_le, t64 (by omega)] at q3
        have : (w : Int) ≤ 0 := q3
        omega
      subst hw
      refine eqk rfl ?_
      rw [ix_room]
      refine q_place (A := (m, h, s1, tt)) (p := 2 + i) (k := 1) I (by omega) (by decide) M1 _ S1 (fun M2 S2 _ => ?_)
      refine q_room (A := (m, h, s1, tt)) (i := i) (k := 0) I hi (by decide) M2 _ S2 (fun M3 S3 _ => ltn ?_ (fin M3 S3))
      rw [Int32.lt_iff_toInt_lt] at w3
      rw [i64, i64]
      exact Int.not_lt.mp w3
    · have hw : 1 ≤ w := by
        rw [lg_cmp_le, Int64.le_iff_toInt_le, t64 (by omega)] at q3
        have : ¬ (w : Int) ≤ 0 := q3
        omega
      rw [b32, nn_p hw]
      have wa : ∀ u, mns n m u (27 + 8 * i) = m (27 + 8 * i) := mns_want (by omega)
      refine q_ahead (A := (m, h, s1, tt)) (p := 2 + i) (k := w - 1) I (by omega) (by omega) (by omega) M1 _ S1 (fun M2 S2 _ => ?_)
      refine q_room (A := (m, h, s1, tt)) (i := i) (k := 0) I hi (by decide) M2 _ S2 (fun M3 S3 _ => gen ?_ ?_)
      · have g := w4 (w - 1) (by omega)
        rw [wa, Int32.lt_iff_toInt_lt] at g
        rw [i64, i64]
        exact g
      refine q_ahead (A := (m, h, s1, tt)) (p := 2 + i) (k := w) I (by omega) (by omega) (by omega) M3 _ S3 (fun M4 S4 _ => ?_)
      refine q_room (A := (m, h, s1, tt)) (i := i) (k := 0) I hi (by decide) M4 _ S4 (fun M5 S5 _ => ⟨fun _ => fin M5 S5, fun q4 => absurd ?_ q4⟩)
      rw [wa, Int32.lt_iff_toInt_lt] at w3
      rw [lg_cmp_ge, Int64.le_iff_toInt_le, i64, i64]
      exact Int.not_lt.mp w3
end
