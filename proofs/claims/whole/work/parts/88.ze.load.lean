/-! all of a text, the program -/
theorem c4_loop {M0 : Mem} {t : Nat} {ch : Nat → Int32} {res : Nat × Option Row} {P : Int32 → Mem → Prop} (X : Tx M0 t ch)
    (h1 : ∀ (row' : Row) (n' : Nat) (M' : Mem) (c' : Reg), res.2 = some row' → CS M0 M' t c' res.1 → RlM n' c' row' → Inv n' 0 row' → P 1 M')
    (h0 : res.2 = none → ∀ (M' : Mem) (c' : Reg), CS M0 M' t c' res.1 → P 0 M') : ∀ (r i p n : Nat) (row : Row) (M : Mem) (c : Reg), i + r = 80 → i ≤ p → p ≤ t → CS M0 M t c p → RlM n c row → Inv n 0 row → res = pl t ch (r + 1) p row → wX4_readInto_L16 P (r + 1) (Int32.ofNat i) M := by
  have ht8 := X.1
  intro r
  have stop : ∀ (p n : Nat) (row : Row) (M : Mem) (c : Reg), p = t → CS M0 M t c p → RlM n c row → Inv n 0 row → res = (p, some row) → wX4_readInto_L49 P M := by
    intro p n row M c hp C R I hres
    subst hres
    refine ⟨fun q => absurd ?_ q, fun _ => h1 row n M c rfl C R I⟩
    rw [C.2.2.1, C.2.1, hp]
  induction r with
  | zero =>
    intro i p n row M c hi hip hp C R I hres
    have hi : i = 80 := hi
    subst hi
    have e : pl t ch (0 + 1) p row = (p, some row) := by
      show (if p < t then bnd (prt t ch p row) (fun q row' => pl t ch 0 q row') else (p, some row)) = (p, some row)
      rw [if_neg (by omega)]
    rw [e] at hres
    exact ⟨fun _ => stop p n row M c (by omega) C R I hres, fun q => absurd (by decide) q⟩
  | succ r ih =>
    intro i p n row M c hi hip hp C R I hres
    have e : pl t ch (r + 1 + 1) p row = (if p < t then bnd (prt t ch p row) (fun q row' => pl t ch (r + 1) q row') else (p, some row)) := rfl
    rw [e] at hres
    refine ⟨fun q => absurd q (nge (b := 80) (by omega) (by omega)), fun _ => ⟨fun q => ?_, fun q => ?_⟩⟩
    · rw [C.2.1, C.2.2.1] at q
      have := (nn_le (by omega) (by omega)).mp q
      rw [if_neg (by omega)] at hres
      exact stop p n row M c (by omega) C R I hres
    · rw [C.2.1, C.2.2.1] at q
      have hlt : p < t := Nat.lt_of_not_le (fun g => q ((nn_le (by omega) (by omega)).mpr g))
      rw [if_pos hlt] at hres
      have pb := prt_b (ch := ch) (row := row) hlt
      refine c4_part X C hlt R I (fun row' n' M' c' g C' R' I' => ⟨fun _ => ?_, fun q => absurd q z10⟩) (fun g M' c' C' => ⟨fun q => absurd rfl q, fun _ => ?_⟩)
      · rw [bnd_s g] at hres
        have := pb.2 (by rw [g]; exact fun q => by cases q)
        rw [nn_s]
        exact ih (i + 1) _ n' row' M' c' (by omega) (by omega) pb.1 C' R' I' hres
      · rw [bnd_n g] at hres
        subst hres
        exact h0 rfl M' c' C'
theorem c4_readInto {M0 M : Mem} {t : Nat} {ch : Nat → Int32} {c : Reg} {old : Row} {P : Int32 → Mem → Prop} (X : Tx M0 t ch) (C : CS M0 M t c 0)
    (h1 : ∀ (row' : Row) (n' : Nat) (M' : Mem) (c' : Reg), (prs t ch (clr old)).2 = some row' → CS M0 M' t c' (prs t ch (clr old)).1 → RlM n' c' row' → Inv n' 0 row' → P 1 M')
    (h0 : (prs t ch (clr old)).2 = none → ∀ (M' : Mem) (c' : Reg), CS M0 M' t c' (prs t ch (clr old)).1 → P 0 M') : wX4_readInto M P := by
  have ht8 := X.1
  have I0 := clr_inv old
  refine c3_beginAnew old (fun c1 R1 => ?_)
  have C1 := C.reg (c' := c1)
  generalize hrow : clr old = row at h1 h0 I0 R1
  unfold wX4_readHead
  refine c4_here X C1 (by omega) ?_
  by_cases g : 0 < t ∧ ch 0 = 77
  · have e := (hv_ne (t := t) (ch := ch) (p := 0) (x := 77) (by decide)).mpr g
    rw [e]
    have ep : prs t ch row = bnd (nm3 t ch 1) (fun q pw => bnd (nm2 t ch q 30 80) (fun q sp => pl t ch 81 q (upd (upd row 9 (Int32.ofNat pw)) 10 (Int32.ofNat sp)))) := by unfold prs; rw [if_pos g]
    have b3 := nm3_b (t := t) (ch := ch) (p := 1) (by omega)
    refine ⟨fun _ => ?_, fun q => absurd rfl q⟩
    refine c4_setting (M0 := M0) (t := t) (ch := ch) (p := 0) (T := 0) (k := 0) (c := c1) (n := 0) (row := row) (r := nm3 t ch 1) (by decide) R1 (by decide) (fun a e => ⟨Nat.zero_le a, b3.2.2 a e⟩) (fun Q hQ => c4_num3 X C1.step (by omega) hQ) (fun pw M2 c2 e2 C2 R2 ok => ⟨fun q => absurd q z10, fun _ => ?_⟩) (fun e2 M2 C2 => ⟨fun _ => ⟨fun q => absurd rfl q, fun _ => ?_⟩, fun q => absurd rfl q⟩)
    · rw [bnd_s e2] at ep
      try dsimp only at ep
      have hp := b3.2.2 pw e2
      have b4 := nm2_b (t := t) (ch := ch) (lo := 30) (hi := 80) b3.2.1
      refine c4_setting (M0 := M0) (t := t) (ch := ch) (p := 0) (T := 0) (k := 1) (c := c2) (n := 0) (row := upd row 9 (Int32.ofNat pw)) (r := nm2 t ch (nm3 t ch 1).1 30 80) (by decide) R2 (by decide) (fun a e => ⟨(b4.2.2 a e).1, (b4.2.2 a e).2.1⟩) (fun Q hQ => c4_num2 X C2 b3.2.1 (by decide) (by decide) hQ) (fun sp M3 c3 e3 C3 R3 ok2 => ⟨fun q => absurd q z10, fun _ => ⟨fun _ => ?_, fun q => absurd q z10⟩⟩) (fun e3 M3 C3 => ⟨fun _ => ⟨fun q => absurd rfl q, fun _ => ?_⟩, fun q => absurd rfl q⟩)
      · rw [bnd_s e3] at ep
        try dsimp only at ep
        have hs := b4.2.2 sp e3
        exact ⟨81, c4_loop X h1 h0 80 0 _ 0 _ M3 c3 rfl (Nat.zero_le _) b4.2.1 C3 R3 (head_inv I0 hp ⟨hs.1, hs.2.1⟩) ep⟩
      · rw [bnd_n e3] at ep
        rw [ep] at h0
        exact h0 rfl M3 c2 C3
    · rw [bnd_n e2] at ep
      rw [ep] at h0
      exact h0 rfl M2 c1 C2
  · have e : ¬ hvf t ch 0 = 77 := fun e => g ((hv_ne (by decide)).mp e)
    have ep : prs t ch row = (0, none) := by unfold prs; rw [if_neg g]
    rw [ep] at h0
    exact ⟨fun q => absurd q e, fun _ => ⟨fun q => absurd rfl q, fun _ => h0 rfl _ c1 C1⟩⟩
theorem pl_b {t : Nat} {ch : Nat → Int32} : ∀ (f p : Nat) (row : Row), p ≤ t → (pl t ch f p row).1 ≤ t := by
  intro f
  induction f with
  | zero => intro p row hp; exact hp
  | succ f ih =>
    intro p row hp
    show (if p < t then bnd (prt t ch p row) (fun q row' => pl t ch f q row') else (p, some row)).1 ≤ t
    by_cases hlt : p < t
    · rw [if_pos hlt]
      have pb := prt_b (ch := ch) (row := row) hlt
      exact (bnd_b (Nat.zero_le _) pb.1 (fun a _ => ⟨Nat.zero_le _, ih _ a pb.1⟩)).2
    · rw [if_neg hlt]
      exact hp
theorem prs_b {t : Nat} {ch : Nat → Int32} {row : Row} : (prs t ch row).1 ≤ t := by
  unfold prs
  split
  · rename_i g
    have b3 := nm3_b (t := t) (ch := ch) (p := 1) (by omega)
    refine (bnd_b (Nat.zero_le _) b3.2.1 (fun a _ => ⟨Nat.zero_le _, ?_⟩)).2
    have b4 := nm2_b (t := t) (ch := ch) (lo := 30) (hi := 80) b3.2.1
    exact (bnd_b (Nat.zero_le _) b4.2.1 (fun a _ => ⟨Nat.zero_le _, pl_b _ _ _ b4.2.1⟩)).2
  · exact Nat.zero_le _
theorem cs_start {M : Mem} {t : Nat} (h : M 20 0 1 = Int32.ofNat t) : CS M (va_up (va_up M 20 (va_up (M 20) 6 (fun _ => 0))) 20 (va_up ((va_up M 20 (va_up (M 20) 6 (fun _ => 0))) 20) 6 (upd (upd ((va_up M 20 (va_up (M 20) 6 (fun _ => 0))) 20 6) 3 1) 1 ((va_up M 20 (va_up (M 20) 6 (fun _ => 0))) 20 0 1)))) t (M 1) 0 := by
  refine ⟨rfl, h, rfl, rfl, fun j hj => ?_, fun i h1 h2 => ?_⟩
  · rw [va_us, va_un _ _ hj, va_us, va_un _ _ hj]
  · rw [va_un _ _ h2, va_un _ _ h2]
theorem tx_of {M : Mem} {t : Nat} (h1 : t ≤ 80) (h : ∀ k, k < t → M 20 1 k = M 21 1 k ∧ 0 ≤ (M 21 1 k).toInt ∧ (M 21 1 k).toInt ≤ 255) : Tx M t (M 21 1) := ⟨h1, h⟩
theorem road2 {L T : Nat} {xs : Nat → Int32} {v4 : Int32} {K : Mem → (Nat → Int64) → Prop} {M : Mem} {O : Nat → Int64} (S : Sim T M) (hK : ∀ M' O', Sim (T + 60) M' → K M' O') : wL_law_C2 L xs v4 K M O := by
  have S0 := S
  obtain ⟨S1, S2, S3, t, t1, t2, t3, t4⟩ := S
  have X := tx_of t1 t4
  have fin : ∀ (M' : Mem) (c1 : Reg) (q : Nat) (r1 : Int32), CS M M' t c1 q → (∀ (row' : Row) (c' : Reg), (prs t (M 21 1) (clr (M 21 2))).2 = some row' → MS (cu (M 21) 0 0 0) c' row' (prs t (M 21 1) (clr (M 21 2))).1 1 → r1 = -99999) → ((prs t (M 21 1) (clr (M 21 2))).2 = none → r1 = Int32.ofNat (prs t (M 21 1) (clr (M 21 2))).1) → wX6_errorPosition (M' 21) (fun r3 c4 => ((r1 = r3 → K (va_up M' 21 c4) O) ∧ (¬ r1 = r3 → False))) := by
    intro M' c1 q r1 C e1 e0
    have sim : ∀ (c4 : Reg) (row' : Row) (q' : Nat) (g : Int32), MS (cu (M 21) 0 0 0) c4 row' q' g → Sim (T + 60) (va_up M' 21 c4) := by
      intro c4 row' q' g m
      refine S0.frame (by omega) (fun i g1 g2 g3 => ?_) (fun j hj => ?_) (fun j j0 j2 j4 => ?_) ?_ ?_
      · rw [va_un _ _ g3]; exact C.2.2.2.2.2 i g1 g2
      · rw [va_un _ _ (by decide)]; exact C.2.2.2.2.1 j hj
      · rw [va_us, m.2.2.2.2 j j0 j2, e_row _ _ j0]
      · rw [va_us]; exact m.2.2.2.1 2 (by decide) (by decide)
      · rw [va_us]; exact m.2.2.2.1 9 (by decide) (by decide)
    rw [C.2.2.2.2.2 21 (by decide) (by decide)]
    refine m6_readText (c0 := cu (M 21) 0 0 0) (t := t) t3 t1 (fun k hk => (t4 k hk).2) (fun row' c' g m => ?_) (fun g row' c' m => ?_)
    · exact chk2 (e1 row' c' g m) (hK _ _ (sim c' row' _ _ m))
    · exact chk2 (e0 g) (hK _ _ (sim c' row' _ _ m))
  refine c4_readInto (old := M 21 2) X (cs_start t2) (fun row' n' M' c' g C R I => ⟨fun q => absurd q z10, fun _ => ?_⟩) (fun g M' c' C => ⟨fun _ => ?_, fun q => absurd rfl q⟩)
  · exact fin M' c' _ _ C (fun _ _ _ _ => rfl) (fun g2 => by rw [g] at g2; cases g2)
  · exact fin M' c' _ _ C (fun row' c2 g2 _ => by rw [g] at g2; cases g2) (fun _ => C.2.2.1)
theorem road3 {L T : Nat} {xs : Nat → Int32} {v4 : Int32} {K : Mem → (Nat → Int64) → Prop} {M : Mem} {O : Nat → Int64} (S : Sim T M) (hK : ∀ M' O', Sim (T + 60) M' → K M' O') : wL_law_C3 L xs v4 K M O := by
  have S0 := S
  obtain ⟨S1, S2, S3, t, t1, t2, t3, t4⟩ := S
  have X := tx_of t1 t4
  obtain ⟨a, f, g, hf, hg, hfg⟩ := S2
  refine c4_readInto (old := M 21 2) X (cs_start t2) (fun row' n' M' c' e C R I => ⟨fun _ => ?_, fun q => absurd q z10⟩) (fun e M' c' C => ⟨fun q => absurd rfl q, fun _ => ⟨rfl, ?_⟩⟩)
  · refine s3_copyFrom I.1 I.2.1 I.2.2.1 (by rw [C.1]; exact R) (fun c4 R4 => ?_)
    unfold wX0_forgetAll
    refine ⟨3, fun q => absurd q (by decide), fun _ => ⟨nn_in (a := 0) (by decide) (by decide), fun q => absurd q (by decide), fun _ => ⟨nn_in (a := 1) (by decide) (by decide), fun _ => ?_, fun q => absurd (by decide) q⟩⟩⟩
    rw [bool0]
    generalize hM : va_up (va_up (va_up (va_up M' 0 c4) 20 _) 20 _) 20 _ = M2
    have m0 : M2 0 = c4 := by rw [← hM]; rfl
    have mo : ∀ i, i ≠ 0 → i ≠ 20 → M2 i = M' i := fun i h0 h20 => by rw [← hM, va_un _ _ h20, va_un _ _ h20, va_un _ _ h20, va_un _ _ h0]
    have mj : ∀ j, j ≠ 2 → j ≠ 5 → M2 20 j = M' 20 j := fun j h2 h5 => by
      rw [← hM, va_us, cu_e, va_un _ _ h5, va_us, cu_e, va_un _ _ h5, va_us, cu_e, va_un _ _ h2, va_un _ _ (by decide)]
    have m21 : M2 20 2 1 = 0 := by rw [← hM]; rfl
    have m50 : M2 20 5 0 = 0 := by rw [← hM]; rfl
    have m51 : M2 20 5 1 = 0 := by rw [← hM]; rfl
    have e21 : M2 21 = M 21 := by rw [mo 21 (by decide) (by decide)]; exact C.2.2.2.2.2 21 (by decide) (by decide)
    dsimp only
    rw [e21]
    refine m6_readText (c0 := M 21) (t := t) t3 t1 (fun k hk => (t4 k hk).2) (fun row2 c' e2 m => ?_) (fun e2 row2 c' m => by rw [e] at e2; cases e2)
    have er : row2 = row' := Option.some.inj (e2.symm.trans e)
    subst er
    refine ⟨fun q => absurd rfl q, fun _ => c6_refused0 ⟨fun _ => ?_, fun q => absurd rfl q⟩⟩
    refine s6_copy (j1 := 2) (j2 := 3) (s := 0) (d := 0) (n := 128) (by decide) (by decide) (by decide) (by decide) (Or.inl (by decide)) ?_
    rw [bool0]
    generalize hc : cu (cu (cu (va_up (cu c' 0 0 0) 3 _) 0 9 0) 7 0 0) 7 1 0 = c5
    have co : ∀ j, j ≠ 0 → j ≠ 2 → j ≠ 3 → j ≠ 7 → c5 j = M 21 j := fun j h0 h2 h3 h7 => by
      rw [← hc, cu_e, va_un _ _ h7, cu_e, va_un _ _ h7, cu_e, va_un _ _ h0, va_un _ _ h3, e_row _ _ h0]
      exact m.2.2.2.2 j h0 h2
    have c3 : c5 3 = va_cpy (c' 2) (c' 3) 0 0 128 := by rw [← hc]; rfl
    have H3 : HR (T + 60) c4 (c5 3) := by
      rw [c3]
      refine HR.cong2 ⟨n', R4, I.mono (by omega)⟩ (fun i hi => ?_)
      rw [cpy_in hi, m.1]
    refine chk_ok (by rw [← hc]; rfl) (fun _ => ?_) (hK _ _ ⟨?_, ⟨0, f, g, ⟨?_, by omega, ?_⟩, ⟨?_, by omega, fun k i hk hi => by omega⟩, fun k hk => by omega⟩, fun s hs => ?_, ⟨t, t1, ?_, ?_, fun k hk => ?_⟩⟩)
    · rw [upL, m0, R4.rooms, c3, cpy_in (by decide), m.1, I.1.2.1]
    · show HR (T + 60) (M2 0) (c5 3)
      rw [m0]
      exact H3
    · show M2 20 2 1 = _
      rw [m21]; rfl
    · obtain ⟨p, p1, p2, p3⟩ := hf.2.2
      refine ⟨p, fun k hk => ⟨(p1 k hk).1, ?_⟩, p2, fun k hk => by omega⟩
      show M2 20 3 k = _
      rw [mj 3 (by decide) (by decide), C.2.2.2.2.1 3 (by decide)]
      exact (p1 k hk).2
    · show c5 0 9 = _
      rw [← hc]; rfl
    · refine Or.inl ?_
      rcases (by omega : s = 0 ∨ s = 1) with es | es <;> subst es
      · exact ⟨m50, by show c5 7 0 = 0; rw [← hc]; rfl⟩
      · exact ⟨m51, by show c5 7 1 = 0; rw [← hc]; rfl⟩
    · show M2 20 0 1 = _
      rw [mj 0 (by decide) (by decide), C.2.2.2.2.1 0 (by decide)]
      exact t2
    · show c5 0 2 = _
      rw [← hc]
      show c' 0 2 = _
      rw [m.2.2.2.1 2 (by decide) (by decide)]
      exact t3
    · show M2 20 1 k = c5 1 k ∧ 0 ≤ (c5 1 k).toInt ∧ (c5 1 k).toInt ≤ 255
      rw [mj 1 (by decide) (by decide), C.2.2.2.2.1 1 (by decide), co 1 (by decide) (by decide) (by decide) (by decide)]
      exact t4 k hk
  · dsimp only
    rw [C.2.2.2.2.2 21 (by decide) (by decide)]
    refine m6_readText (c0 := M 21) (t := t) t3 t1 (fun k hk => (t4 k hk).2) (fun row2 c2 e2 m => by rw [e] at e2; cases e2) (fun e2 row2 c2 m => ?_)
    have pb : (prs t (M 21 1) (clr (M 21 2))).1 < 2147483648 := by
      have := prs_b (t := t) (ch := M 21 1) (row := clr (M 21 2))
      omega
    refine ⟨fun _ => c6_refused1 ⟨fun q => absurd q z10, fun _ => chk_ok rfl (fun q => absurd q z10) (hK _ _ (S0.frame (by omega) (fun i g1 g2 g3 => ?_) (fun j hj => ?_) (fun j j0 j2 j4 => ?_) ?_ ?_))⟩, fun q => absurd q (nat_none pb)⟩
    · rw [va_un _ _ g3]; exact C.2.2.2.2.2 i g1 g2
    · rw [va_un _ _ (by decide)]; exact C.2.2.2.2.1 j hj
    · rw [va_us, e_row _ _ j0, m.2.2.2.2 j j0 j2]
    · rw [va_us]; exact m.2.2.2.1 2 (by decide) (by decide)
    · rw [va_us]; exact m.2.2.2.1 9 (by decide) (by decide)
