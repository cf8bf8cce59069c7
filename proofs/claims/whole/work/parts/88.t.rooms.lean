/-! windows -/
theorem RlM.win {n i : Nat} {v : Int32} {c : Reg} {m : Row} (R : RlM n c m) (hn : n ≤ 6) (hi : i < n) : RlM n (cu c (i + 9) 3 v) (upd m (30 + 8 * i) v) := by
  have h := R.cell (v := v) hn hi (q := 3) (by decide)
  rw [show 27 + 8 * i + 3 = 30 + 8 * i by omega] at h
  exact h
theorem Inv.win {n T i : Nat} {m : Row} {v : Int32} (I : Inv n T m) (hi : i < n) (hb : v = 0 ∨ v = 1) : Inv n T (upd m (30 + 8 * i) v) := by
  obtain ⟨G1, S, ⟨W1, W2⟩, B1, B2⟩ := I
  have hn := G1.1
  refine ⟨G1.cong (upd_n _ _ (by omega)) (fun i hi => upd_n _ _ (by omega)) (fun i hi => upd_n _ _ (by omega)), S.lo (fun i hi => upd_n _ _ (by omega)), ⟨fun k hk => ?_, fun k h1 h2 => ?_⟩, fun k hk => by rw [upd_n _ _ (by omega)]; exact B1 k hk, ?_⟩
  · by_cases e : k = i
    · subst e
      rw [upd_s]
      exact hb
    · rw [upd_n _ _ (by omega)]
      exact W1 k hk
  · rw [upd_n _ _ (by omega), upd_n _ _ (by omega), upd_n _ _ (by omega), upd_n _ _ (by omega), upd_n _ _ (by omega)]
    exact W2 k h1 h2
  · rw [made_cong G1.2.2.1 (fun i h1 h2 => upd_n _ _ (by omega))]
    exact B2
theorem win_h {T : Nat} {M : Mem} {O : Nat → Int64} {r bv : Int32} {Q : Int32 → Mem → (Nat → Int64) → Prop} (S : Sim T M) (hb : bv = 0 ∨ bv = 1) (hQ : ∀ (r1 : Int32) (M2 : Mem) (O3 : Nat → Int64), (∀ Z : Int32 → Reg → Prop, (∀ (r4 : Int32) (c5 : Reg), c5 0 0 = r1 → (r1 = 0 → O3 0 = Int32.toInt64 r4) → Sim (T + 60) (va_up M2 21 c5) → Z r4 c5) → wX6_window r bv (M2 21) Z) → Q r1 M2 O3) : wL_window r bv M O Q := by
  obtain ⟨n, R, I⟩ := S.1
  have hn := I.1.1
  obtain ⟨a, f, g, hf, hg, hfg⟩ := S.2.1
  unfold wL_window wX5_window
  refine c3_hasRoom R.rooms hn (fun i hi er => ⟨fun _ => ?_, fun q => absurd q z10⟩) (fun hr => ⟨fun q => absurd rfl q, fun _ => ⟨rfl, hQ _ _ _ (fun Z hZ => ?_)⟩⟩)
  · subst er
    rw [va_ue]
    refine s0_remember hf S.1 (fun M1 c1 kp rc hc => ⟨nn_in (by omega) (by omega), hb, ?_⟩)
    rw [tn_nat (by omega)]
    have R1 : RlM n (cu (M1 0) (i + 9) 3 bv) (upd (M 21 3) (30 + 8 * i) bv) := by rw [kp.1]; exact R.win hn hi
    have I1 := I.win hi hb
    refine c3_openWindows R1 hn I1.2.2.1.1 ?_
    rw [va_ue]
    refine hQ _ _ _ (fun Z hZ => ?_)
    refine c6_isRoom (n := n) ?_ hn (fun _ _ _ => ⟨fun q => absurd q z10, fun _ => ?_⟩) (fun q => absurd (ti_ok hi (by omega)) q)
    · rw [va_un _ _ (by decide), kp.2.2.1 21 (by decide) (by decide)]
      exact I.1.2.1
    · refine c6_refused0 ⟨fun _ => s6_noteR (kp.2.2.1 21 (by decide) (by decide)) hg (fun c2 h1 h2 h3 h4 => ?_), fun q => absurd rfl q⟩
      refine s6_cell (q := 4) (k := 30 + 8 * i) (by omega) ?_
      rw [tn_nat (by omega)]
      have e3 : cu c2 3 (30 + 8 * i) bv 3 = upd (M 21 3) (30 + 8 * i) bv := by rw [cu_sv, h1 3 (by decide) (by decide)]
      have fin : vp_in (Int32.ofNat (30 + 8 * i)) 128 ∧ wX6_allOf 3 4 (cu c2 3 (30 + 8 * i) bv) (fun r c => Z r c) := by
        refine ⟨nn_in (by omega) (by omega), c6_allOf (q := 4) (n := n) (by decide) (by rw [e3]; exact I1.1.2.1) hn (hZ _ _ h2 (fun _ => ?_) (S.act hfg kp rc hc (fun i hi => va_un _ _ hi) (h4.same rfl rfl) (fun j h0 h3' h5 => ?_) h3 ⟨n, ?_, ?_⟩))⟩
        · rw [upL, e3]
        · rw [cu_e, va_un _ _ h3', h1 j h0 h5]
        · rw [va_us, e3]
          exact R1
        · rw [e3]
          exact I1.mono (by omega)
      refine ⟨fun q => ?_, fun q => ?_⟩
      · rw [q] at fin; exact fin
      · rw [hb.resolve_left q] at fin; exact fin
  · rw [va_ue] at hZ ⊢
    exact c6_isRoom I.1.2.1 hn (fun i hi e => absurd (by rw [e]; exact ti_ok hi (by omega)) hr) (fun _ => ⟨fun _ => c6_refused1 ⟨fun q => absurd q z10, fun _ => hZ _ _ rfl (fun q => absurd q z10) (S.ref (by omega))⟩, fun q => absurd rfl q⟩)
theorem road12 {L T : Nat} {xs : Nat → Int32} {v4 : Int32} {K : Mem → (Nat → Int64) → Prop} {M : Mem} {O : Nat → Int64} (S : Sim T M) (hK : ∀ M' O', Sim (T + 60) M' → K M' O') (hv : ∀ d : Int32, 0 ≤ d.toInt → d.toInt ≤ 4 → vp_in (v4 + d) L) : wL_law_C12 L xs v4 K M O := by
  have v1 := hv 1 (by decide) (by decide)
  have v2 := hv 2 (by decide) (by decide)
  refine ⟨v1, v2, fun e => ?_, fun e => ?_⟩
  · exact win_h S (Or.inl rfl) (fun r1 M2 O3 h => ⟨v1, v2, fun _ => h _ (fun r4 c5 h0 h1 hs => chk_ok h0 h1 (hK _ _ hs)), fun q => absurd e q⟩)
  · exact win_h S (Or.inr rfl) (fun r1 M2 O3 h => ⟨v1, v2, fun q => absurd q e, fun _ => h _ (fun r4 c5 h0 h1 hs => chk_ok h0 h1 (hK _ _ hs))⟩)
/-! a new room -/
def adr (m : Row) (n : Nat) (t wa ra le : Int32) : Row := upd (upd (upd (upd (upd m (26 + 8 * n) t) (27 + 8 * n) wa) (28 + 8 * n) ra) (29 + 8 * n) le) 0 (m 0 + 1)
def addf (m : Row) (n : Nat) (t wa ra le : Int32) : Row := go1 (adr m n t wa ra le) 9 (2 + n) (150 * t)
theorem adr_o {m : Row} {n i : Nat} {t wa ra le : Int32} (h0 : i ≠ 0) (h : i < 26 + 8 * n ∨ 30 + 8 * n ≤ i) : adr m n t wa ra le i = m i := by
  unfold adr
  rw [upd_n _ _ h0, upd_n _ _ (by omega), upd_n _ _ (by omega), upd_n _ _ (by omega), upd_n _ _ (by omega)]
theorem adr_0 {m : Row} {n : Nat} {t wa ra le : Int32} : adr m n t wa ra le 0 = m 0 + 1 := by
  unfold adr
  rw [upd_s]
theorem adr_t {m : Row} {n : Nat} {t wa ra le : Int32} : adr m n t wa ra le (26 + 8 * n) = t := by
  unfold adr
  rw [upd_n _ _ (by omega), upd_n _ _ (by omega), upd_n _ _ (by omega), upd_n _ _ (by omega), upd_s]
theorem Gd.addr {n : Nat} {m : Row} {t wa ra le : Int32} (G1 : Gd n m) (hn : n < 6) (ht : 1 ≤ t.toInt ∧ t.toInt ≤ 9) : Gd (n + 1) (adr m n t wa ra le) := by
  obtain ⟨h1, h2, h3, h4, h5, h6, h7⟩ := G1
  have e1 : ∀ i, 74 ≤ i → adr m n t wa ra le i = m i := fun i hi => adr_o (by omega) (by omega)
  have ew := wy_cong (e1 74 (by omega))
  refine ⟨by omega, by rw [adr_0, h2, nn_s], by rw [ew]; exact h3, by rw [ew, e1 74 (by omega)]; exact h4, by rw [ew]; exact h5.cong e1, by rw [ew]; exact h6.cong e1, fun i hi => ?_⟩
  by_cases e : i = n
  · subst e
    rw [adr_t]
    exact ht
  · rw [adr_o (by omega) (by omega)]
    exact h7 i (by omega)
theorem wl_add : ∀ i, i < 6 → 10 * 9 + (2 + i) ∈ wl26 := by decide
theorem s6_addTo {n j : Nat} {t wa ra le : Int32} {c : Reg} {P : Reg → Prop} (G1 : Gd n (c j)) (hn : n < 6) (ht : 1 ≤ t.toInt ∧ t.toInt ≤ 9) (h : P (va_up c j (addf (c j) n t wa ra le))) : wX6_addTo j t wa ra le c P := by
  have e0 := G1.2.1
  unfold wX6_addTo
  rw [e0]
  refine s6_cell (q := 0) (k := 26 + 8 * n) (by omega) ⟨nn_in (by omega) (by omega), s6_cell (q := 1) (k := 27 + 8 * n) (by omega) ⟨nn_in (by omega) (by omega), s6_cell (q := 2) (k := 28 + 8 * n) (by omega) ⟨nn_in (by omega) (by omega), s6_cell (q := 3) (k := 29 + 8 * n) (by omega) ⟨nn_in (by omega) (by omega), ?_⟩⟩⟩⟩
  rw [tn_nat (by omega), tn_nat (by omega), tn_nat (by omega), tn_nat (by omega), ix_room]
  generalize hX : cu (cu (cu (cu (cu c j (26 + 8 * n) t) j (27 + 8 * n) wa) j (28 + 8 * n) ra) j (29 + 8 * n) le) j 0 _ = X
  have eX : X = va_up c j (adr (c j) n t wa ra le) := by
    rw [← hX]
    simp only [cu_e, va_us, va_uu]
    unfold adr
    rw [upd_n _ _ (by omega : (0 : Nat) ≠ 29 + 8 * n), upd_n _ _ (by omega : (0 : Nat) ≠ 28 + 8 * n), upd_n _ _ (by omega : (0 : Nat) ≠ 27 + 8 * n), upd_n _ _ (by omega : (0 : Nat) ≠ 26 + 8 * n)]
  rw [eX]
  exact q6_go (n := n + 1) (f := 9) (by rw [va_us]; exact G1.addr hn ht) (by decide) (by omega) (wl_add n hn) (by rw [va_us, va_uu]; exact h)
theorem s3_buildRoom {n : Nat} {t wa ra le : Int32} {c : Reg} {m : Row} {P : Reg → Prop} (G1 : Gd n m) (W : Rw n m) (R : RlM n c m) (hn : n < 6) (ht : 1 ≤ t.toInt ∧ t.toInt ≤ 9) (h : ∀ c' : Reg, RlM (n + 1) c' (addf m n t wa ra le) → P c') : wX3_buildRoom t wa ra le c P := by
  have e8 := R.rooms
  have G2 : Gd (n + 1) (adr m n t wa ra le) := G1.addr hn ht
  unfold wX3_buildRoom
  rw [e8]
  refine ⟨fun q => absurd q (ng (by omega)), fun _ => ⟨fun _ => ⟨nn_in (by omega) hn, ?_⟩, fun q => absurd ((nn_lt (b := 6) (by omega) (by omega)).mpr hn) q⟩⟩
  unfold wX2_begin
  rw [tn_nat (by omega), ix_room, tn_nat (by omega)]
  refine ⟨nn_in (by omega) (by omega), nn_in (by omega) (by omega), nn_in (by omega) (by omega), ?_⟩
  generalize hX : cu (cu (cu _ 3 (2 + n) (10 * t)) 2 (2 + n) 0) 0 8 _ = X
  have x3 : ∀ p, X 3 p = if p = 2 + n then 10 * t else c 3 p := by
    intro p
    rw [← hX]
    have : ¬ 3 = n + 9 := by omega
    simp [cu, va_up, upd, this]
  have x2 : ∀ p, X 2 p = if p = 2 + n then 0 else c 2 p := by
    intro p
    rw [← hX]
    have : ¬ 2 = n + 9 := by omega
    simp [cu, va_up, upd, this]
  have x08 : X 0 8 = Int32.ofNat (n + 1) := by
    rw [← hX, ← nn_s, ← e8]
    have : ¬ 0 = n + 9 := by omega
    simp [cu, va_up, upd, this]
  have x0 : ∀ k, k < 8 → X 0 k = c 0 k := by
    intro k hk
    rw [← hX]
    have : ¬ 0 = n + 9 := by omega
    have h8 : ¬ k = 8 := by omega
    simp [cu, va_up, upd, this, h8]
  have xo : ∀ r, r ≠ 0 → r ≠ 2 → r ≠ 3 → r ≠ n + 9 → X r = c r := by
    intro r h0 h2 h3 h9
    rw [← hX]
    simp [cu, va_up, h0, h2, h3, h9]
  have x9 : ∀ q, q < 7 → X (n + 9) q = if q = 0 then wa else if q = 1 then ra else if q = 2 then le else 0 := by
    intro q hq
    rw [← hX]
    rcases (by omega : q = 0 ∨ q = 1 ∨ q = 2 ∨ q = 3 ∨ q = 4 ∨ q = 5 ∨ q = 6) with e | e | e | e | e | e | e <;> subst e <;> simp [cu, va_up, upd]
  have ew : wy (adr m n t wa ra le) = wy m := wy_cong (adr_o (by omega) (by omega))
  have RX : RlM (n + 1) X (adr m n t wa ra le) := by
    unfold RlM
    rw [ew]
    obtain ⟨⟨r0, r1, r2, r3, r4, r5, r6, r7, r8, r9⟩, R2, R3, R4, R5⟩ := R
    have lo : ∀ i, i ≠ 0 → i < 26 → adr m n t wa ra le i = m i := fun i h0 hi => adr_o h0 (by omega)
    refine ⟨⟨?_, ?_, ?_, ?_, ?_, ?_, ?_, ?_, x08, G2.2.1⟩, fun k hk => ?_, fun p hp => ⟨?_, ?_⟩, fun i q hi hq => ?_, ?_⟩
    · rw [x0 0 (by decide), lo 1 (by decide) (by decide)]; exact r0
    · rw [x0 1 (by decide), lo 2 (by decide) (by decide)]; exact r1
    · rw [x0 2 (by decide), lo 3 (by decide) (by decide)]; exact r2
    · rw [x0 3 (by decide), lo 1 (by decide) (by decide), lo 4 (by decide) (by decide)]; exact r3
    · rw [x0 4 (by decide), lo 8 (by decide) (by decide)]; exact r4
    · rw [x0 5 (by decide), lo 5 (by decide) (by decide)]; exact r5
    · rw [x0 6 (by decide), lo 6 (by decide) (by decide)]; exact r6
    · rw [x0 7 (by decide), lo 7 (by decide) (by decide)]; exact r7
    · rw [xo 1 (by decide) (by decide) (by decide) (by omega), lo _ (by omega) (by omega)]; exact R2 k hk
    · rw [x2, lo _ (by omega) (by omega)]
      by_cases e : p = 2 + n
      · rw [if_pos e, e, show 18 + (2 + n) = 20 + n by omega]
        exact (W.2 n (Nat.le_refl n) hn).1.symm
      · rw [if_neg e]
        exact (R3 p (by omega)).1
    · rw [x3]
      by_cases e : p = 2 + n
      · rw [if_pos e, e]
        unfold capf
        rw [if_neg (by omega), if_neg (by omega), show 26 + 8 * (2 + n - 2) = 26 + 8 * n by omega, adr_t]
      · rw [if_neg e, (R3 p (by omega)).2]
        unfold capf
        by_cases p0 : p = 0
        · rw [if_pos p0, if_pos p0]
        · rw [if_neg p0, if_neg p0]
          by_cases p1 : p = 1
          · rw [if_pos p1, if_pos p1]
          · rw [if_neg p1, if_neg p1, adr_o (by omega) (by omega)]
    · by_cases e : i = n
      · subst e
        rw [x9 q hq]
        have z := W.2 i (Nat.le_refl i) hn
        rcases (by omega : q = 0 ∨ q = 1 ∨ q = 2 ∨ q = 3 ∨ q = 4 ∨ q = 5 ∨ q = 6) with e | e | e | e | e | e | e <;> subst e
        · unfold adr
          rw [upd_n _ _ (by omega), upd_n _ _ (by omega), upd_n _ _ (by omega)]
          exact (upd_s _ _ _).symm
        · unfold adr
          rw [upd_n _ _ (by omega), upd_n _ _ (by omega), show 27 + 8 * i + 1 = 28 + 8 * i by omega]
          exact (upd_s _ _ _).symm
        · unfold adr
          rw [upd_n _ _ (by omega), show 27 + 8 * i + 2 = 29 + 8 * i by omega]
          exact (upd_s _ _ _).symm
        · rw [adr_o (by omega) (by omega), show 27 + 8 * i + 3 = 30 + 8 * i by omega]
          exact z.2.1.symm
        · rw [adr_o (by omega) (by omega), show 27 + 8 * i + 4 = 31 + 8 * i by omega]
          exact z.2.2.1.symm
        · rw [adr_o (by omega) (by omega), show 27 + 8 * i + 5 = 32 + 8 * i by omega]
          exact z.2.2.2.1.symm
        · rw [adr_o (by omega) (by omega), show 27 + 8 * i + 6 = 33 + 8 * i by omega]
          exact z.2.2.2.2.symm
      · rw [xo _ (by omega) (by omega) (by omega) (by omega), adr_o (by omega) (by omega)]
        exact R4 i q (by omega) hq
    · exact (R5.same (fun r h1 h2 => xo r (by omega) (by omega) (by omega) (by omega))).cong (fun i hi => adr_o (by omega) (by omega))
  have ea : (15 : Int32) * X 3 (2 + n) = 150 * t := by
    rw [x3, if_pos rfl, ← Int32.mul_assoc]
    rfl
  rw [ea]
  exact q3_move (n := n + 1) (f := 9) (t := 2 + n) G2 RX (Or.inr (Or.inr rfl)) (Or.inl (by omega)) (wl_add n hn) h
theorem Inv.addr {n T : Nat} {t wa ra le : Int32} {m : Row} (I : Inv n T m) (hn : n < 6) (ht : 1 ≤ t.toInt ∧ t.toInt ≤ 9) : Inv (n + 1) T (addf m n t wa ra le) := by
  obtain ⟨G1, S, W, B1, B2⟩ := I
  have G2 : Gd (n + 1) (adr m n t wa ra le) := G1.addr hn ht
  have W2 : Rw (n + 1) (adr m n t wa ra le) := by
    refine ⟨fun i hi => ?_, fun i h1 h2 => ?_⟩
    · rw [adr_o (by omega) (by omega)]
      by_cases e : i = n
      · subst e
        exact Or.inl (W.2 i (Nat.le_refl i) hn).2.1
      · exact W.1 i (by omega)
    · rw [adr_o (by omega) (by omega), adr_o (by omega) (by omega), adr_o (by omega) (by omega), adr_o (by omega) (by omega), adr_o (by omega) (by omega)]
      exact W.2 i (by omega) h2
  have S2 : Sg (adr m n t wa ra le) := S.cong (adr_o (by omega) (by omega)) (adr_o (by omega) (by omega)) (adr_o (by omega) (by omega)) (adr_o (by omega) (by omega)) (adr_o (by omega) (by omega)) (adr_o (by omega) (by omega)) (adr_o (by omega) (by omega)) (adr_o (by omega) (by omega))
  refine ⟨G2.go (wl_add n hn), S2.go, W2.go (by omega) (Or.inr (by omega)) (Or.inl (by omega)), fun i hi => ?_, ?_⟩
  · show 0 ≤ (go1 (adr m n t wa ra le) 9 (2 + n) (150 * t) (31 + 8 * i)).toInt ∧ (go1 (adr m n t wa ra le) 9 (2 + n) (150 * t) (31 + 8 * i)).toInt ≤ T
    rw [go1_at (by omega) (by omega), adr_o (by omega) (by omega)]
    by_cases e : i = n
    · subst e
      rw [(W.2 i (Nat.le_refl i) hn).2.2.1, i0]
      omega
    · exact B1 i (by omega)
  · have e : made (addf m n t wa ra le) = made m := by
      unfold addf
      rw [made_go G2 (wl_add n hn) (code_ne (by omega) (by decide) (by omega)), made_cong G1.2.2.1 (fun i h1 h2 => adr_o (by omega) (by omega))]
    rw [e]
    exact B2

theorem i6 : (6 : Int32).toInt = 6 := rfl
def AddOk (t wa ra le : Int32) : Prop := (1 ≤ t.toInt ∧ t.toInt ≤ 9) ∧ (10 ≤ wa.toInt ∧ wa.toInt ≤ 25) ∧ (1 ≤ ra.toInt ∧ ra.toInt ≤ 9) ∧ (0 ≤ le.toInt ∧ le.toInt ≤ 9)
theorem c6_addRoom {t wa ra le : Int32} {c : Reg} {P : Int32 → Reg → Prop} (h1 : AddOk t wa ra le → wX6_addRoom_L56 t wa ra le P 1 c) (h0 : ¬ AddOk t wa ra le → wX6_addRoom_L56 t wa ra le P 0 c) : wX6_addRoom t wa ra le c P :=
  c6_in (lo := 1) (hi := 9) rfl rfl (fun g1 => ⟨fun q => absurd q z10, fun _ => c6_in (lo := 10) (hi := 25) rfl rfl (fun g2 => ⟨fun q => absurd q z10, fun _ => c6_in (lo := 1) (hi := 9) rfl rfl (fun g3 => ⟨fun q => absurd q z10, fun _ => c6_in (lo := 0) (hi := 9) rfl rfl (fun g4 => ⟨fun q => absurd q z10, fun _ => h1 ⟨g1, g2, g3, g4⟩⟩) (fun g4 => ⟨fun _ => h0 (fun q => g4 q.2.2.2), fun q => absurd rfl q⟩)⟩) (fun g3 => ⟨fun _ => h0 (fun q => g3 q.2.2.1), fun q => absurd rfl q⟩)⟩) (fun g2 => ⟨fun _ => h0 (fun q => g2 q.2.1), fun q => absurd rfl q⟩)⟩) (fun g1 => ⟨fun _ => h0 (fun q => g1 q.1), fun q => absurd rfl q⟩)
theorem c5_addRoom {t wa ra le : Int32} {M : Mem} {P : Int32 → Mem → Prop} {X : String → Mem → Prop} (h1 : AddOk t wa ra le → wX3_isFull (M 0) (fun r4 c5 => ((r4 = 0 → wX0_remember (va_up M 0 c5) (fun M6 => wX3_buildRoom t wa ra le (M6 0) (fun c7 => P (((va_up M6 0 c7) 0 0 8) - 1) (va_up M6 0 c7)))) ∧ (¬ r4 = 0 → X eISE (va_up M 0 c5))))) (h0 : ¬ AddOk t wa ra le → X eIAE M) : wX5_addRoom t wa ra le M P X := by
  refine ⟨fun q => h0 (fun g => ?_), fun q1 => ⟨fun q => h0 (fun g => ?_), fun q2 => c5_wanted (fun g2 => ⟨fun q => absurd q z10, fun _ => c5_radiators (fun g3 => ⟨fun q => absurd q z10, fun _ => c5_leak (fun g4 => ⟨fun _ => h1 ⟨⟨?_, ?_⟩, g2, g3, g4⟩, fun q => absurd q z10⟩) (fun g4 => ⟨fun q => absurd rfl q, fun _ => h0 (fun q => g4 q.2.2.2)⟩)⟩) (fun g3 => ⟨fun _ => h0 (fun q => g3 q.2.2.1), fun q => absurd rfl q⟩)⟩) (fun g2 => ⟨fun _ => h0 (fun q => g2 q.2.1), fun q => absurd rfl q⟩)⟩⟩
  · rw [Int32.lt_iff_toInt_lt, i1] at q
    have := g.1.1
    omega
  · rw [Int32.lt_iff_toInt_lt, i9] at q
    have := g.1.2
    omega
  · rw [Int32.lt_iff_toInt_lt, i1] at q1
    omega
  · rw [Int32.lt_iff_toInt_lt, i9] at q2
    omega
theorem road10 {L T : Nat} {xs : Nat → Int32} {v4 : Int32} {K : Mem → (Nat → Int64) → Prop} {M : Mem} {O : Nat → Int64} (S : Sim T M) (hK : ∀ M' O', Sim (T + 60) M' → K M' O') (hv : ∀ d : Int32, 0 ≤ d.toInt → d.toInt ≤ 4 → vp_in (v4 + d) L) : wL_law_C10 L xs v4 K M O := by
  have v1 := hv 1 (by decide) (by decide)
  have v2 := hv 2 (by decide) (by decide)
  have v3 := hv 3 (by decide) (by decide)
  have v4' := hv 4 (by decide) (by decide)
  obtain ⟨n, R, I⟩ := S.1
  have hn := I.1.1
  obtain ⟨a, f, g, hf, hg, hfg⟩ := S.2.1
  refine ⟨v1, v2, v3, v4', ?_⟩
  generalize xs (Int32.toNatClampNeg (v4 + 1)) = t
  generalize xs (Int32.toNatClampNeg (v4 + 2)) = wa
  generalize xs (Int32.toNatClampNeg (v4 + 3)) = ra
  generalize xs (Int32.toNatClampNeg (v4 + 4)) = le
  refine c5_addRoom (fun hok => ?_) (fun hno => Or.inl ⟨rfl, v1, v2, v3, v4', c6_addRoom (fun q => absurd q hno) (fun _ => ⟨fun q => absurd rfl q, fun _ => ?_⟩)⟩)
  · by_cases h6 : n < 6
    · refine ⟨fun _ => ⟨fun _ => ?_, fun q => absurd rfl q⟩, fun q => absurd (by rw [R.rooms]; exact (nn_lt (b := 6) (by omega) (by omega)).mpr h6) q⟩
      rw [va_ue]
      refine s0_remember hf S.1 (fun M1 c1 kp rc hc => ?_)
      have R1 : RlM n (M1 0) (M 21 3) := by rw [kp.1]; exact R
      refine s3_buildRoom I.1 I.2.2.1 R1 h6 hok.1 (fun c' R' => ⟨v1, v2, v3, v4', c6_addRoom (fun _ => ⟨fun _ => ⟨fun _ => ?_, fun q => ?_⟩, fun q => absurd q z10⟩) (fun q => absurd hok q)⟩)
      · refine c6_refused0 ⟨fun _ => s6_noteR (kp.2.2.1 21 (by decide) (by decide)) hg (fun c2 h1 h2 h3 h4 => ?_), fun q => absurd rfl q⟩
        have e3 := h1 3 (by decide) (by decide)
        refine s6_addTo (n := n) (by rw [e3]; exact I.1) h6 hok.1 (chk_ok h2 (fun _ => ?_) (hK _ _ (S.act hfg kp rc hc (fun i hi => va_un _ _ hi) (h4.same rfl rfl) (fun j h0 h3' h5 => ?_) h3 ⟨n + 1, ?_, ?_⟩)))
        · rw [upL, va_us, va_us, R'.rooms, e3, (I.addr (wa := wa) (ra := ra) (le := le) h6 hok.1).1.2.1]
        · rw [va_un _ _ h3', h1 j h0 h5]
        · rw [va_us, va_us, e3]
          exact R'
        · rw [va_us, e3]
          exact (I.addr h6 hok.1).mono (by omega)
      · rw [va_un _ _ (by decide), kp.2.2.1 21 (by decide) (by decide), I.1.2.1] at q
        have := (nn_eq (b := 6) (by omega) (by omega)).mp q
        omega
    · have e6 : n = 6 := by omega
      subst e6
      refine ⟨fun q => absurd q (by rw [R.rooms]; decide), fun _ => ⟨fun q => absurd q z10, fun _ => Or.inr ⟨rfl, v1, v2, v3, v4', ?_⟩⟩⟩
      rw [va_ue]
      exact c6_addRoom (fun _ => ⟨fun _ => ⟨fun q => absurd I.1.2.1 q, fun _ => c6_refused2 ⟨fun q => absurd q z10, fun _ => chk_ok rfl (fun q => absurd q (by decide)) (hK _ _ (S.ref (by omega)))⟩⟩, fun q => absurd q z10⟩) (fun q => absurd hok q)
  · exact c6_refused1 ⟨fun q => absurd q z10, fun _ => chk_ok rfl (fun q => absurd q z10) (hK _ _ (S.ref (by omega)))⟩
