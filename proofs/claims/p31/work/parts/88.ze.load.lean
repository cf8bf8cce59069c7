/-! all of a text, the program -/
theorem c4_loop {M0 : Mem} {t : Nat} {ch : Nat → Int32} {res : Nat × Option Row} {P : Int32 → Mem → Prop} (X : Tx M0 t ch)
    (h1 : ∀ (row' : Row) (n' : Nat) (M' : Mem) (c' : Reg), res.2 = some row' → CS M0 M' t c' res.1 → RlM n' c' row' → Inv n' 0 row' → P 1 M')
    (h0 : res.2 = none → ∀ (M' : Mem) (c' : Reg), CS M0 M' t c' res.1 → P 0 M') : ∀ (r i p n : Nat) (row : Row) (M : Mem) (c : Reg), i + r = 80 → i ≤ p → p ≤ t → CS M0 M t c p → RlM n c row → Inv n 0 row → res = pl t ch (r + 1) p row → wX4_readInto_L16 P (r + 1) (Int32.ofNat i) M := by
  have ht8 := X.1
  intro r
  have stop : ∀ (p n : Nat) (row : Row) (M : Mem) (c : Reg), p = t → CS M0 M t c p → RlM n c row → Inv n 0 row → res = (p, some row) → wX4_readInto_L49 P M := by
    intro p n row M c hp C R I hres
    subst hres
    refine ⟨fun q => absurd ?_ q, fun _ => h1 row n M c rfl C R I⟩
    rw [C.2.2.1, C.2.1, hp]
  induction r with
  | zero =>
    intro i p n row M c hi hip hp C R I hres
    have hi : i = 80 := hi
    subst hi
    have e : pl t ch (0 + 1) p row = (p, some row) := by
      show (if p < t then bnd (prt t ch p row) (fun q row' => pl t ch 0 q row') else (p, some row)) = (p, some row)
      rw [if_neg (by omega)]
    rw [e] at hres
    exact ⟨fun _ => stop p n row M c (by omega) C R I hres, fun q => absurd (by decide) q⟩
  | succ r ih =>
    intro i p n row M c hi hip hp C R I hres
    have e : pl t ch (r + 1 + 1) p row = (if p < t then bnd (prt t ch p row) (fun q row' => pl t ch (r + 1) q row') else (p, some row)) := rfl
    rw [e] at hres
    refine ⟨fun q => absurd q (nge (b := 80) (by omega) (by omega)), fun _ => ⟨fun q => ?_, fun q => ?_⟩⟩
    · rw [C.2.1, C.2.2.1] at q
      have := (nn_le (by omega) (by omega)).mp q
      rw [if_neg (by omega)] at hres
      exact stop p n row M c (by omega) C R I hres
    · rw [C.2.1, C.2.2.1] at q
      have hlt : p < t := Nat.lt_of_not_le (fun g => q ((nn_le (by omega) (by omega)).mpr g))
      rw [if_pos hlt] at hres
      have pb := prt_b (ch := ch) (row := row) hlt
      refine c4_part X C hlt R I (fun row' n' M' c' g C' R' I' => ⟨fun _ => ?_, fun q => absurd q z10⟩) (fun g M' c' C' => ⟨fun q => absurd rfl q, fun _ => ?_⟩)
      · rw [bnd_s g] at hres
        have := pb.2 (by rw [g]; exact fun q => by cases q)
        rw [nn_s]
        exact ih (i + 1) _ n' row' M' c' (by omega) (by omega) pb.1 C' R' I' hres
      · rw [bnd_n g] at hres
        subst hres
        exact h0 rfl M' c' C'
theorem c4_readInto {M0 M : Mem} {t : Nat} {ch : Nat → Int32} {c : Reg} {old : Row} {P : Int32 → Mem → Prop} (X : Tx M0 t ch) (C : CS M0 M t c 0)
    (h1 : ∀ (row' : Row) (n' : Nat) (M' : Mem) (c' : Reg), (prs t ch (clr old)).2 = some row' → CS M0 M' t c' (prs t ch (clr old)).1 → RlM n' c' row' → Inv n' 0 row' → P 1 M')
    (h0 : (prs t ch (clr old)).2 = none → ∀ (M' : Mem) (c' : Reg), CS M0 M' t c' (prs t ch (clr old)).1 → P 0 M') : wX4_readInto M P := by
  have ht8 := X.1
  have I0 := clr_inv old
  refine c3_beginAnew old (fun c1 R1 => ?_)
  have C1 := C.reg (c' := c1)
  generalize hrow : clr old = row at h1 h0 I0 R1
  unfold wX4_readHead
  refine c4_here X C1 (by omega) ?_
  by_cases g : 0 < t ∧ ch 0 = 77
  · have e := (hv_ne (t := t) (ch := ch) (p := 0) (x := 77) (by decide)).mpr g
    rw [e]
    have ep : prs t ch row = bnd (nm3 t ch 1) (fun q pw => bnd (nm2 t ch q 30 80) (fun q sp => pl t ch 81 q (upd (upd row 9 (Int32.ofNat pw)) 10 (Int32.ofNat sp)))) := by unfold prs; rw [if_pos g]
    have b3 := nm3_b (t := t) (ch := ch) (p := 1) (by omega)
    refine ⟨fun _ => ?_, fun q => absurd rfl q⟩
    refine c4_setting (M0 := M0) (t := t) (ch := ch) (p := 0) (T := 0) (k := 0) (c := c1) (n := 0) (row := row) (r := nm3 t ch 1) (by decide) R1 (by decide) (fun a e => ⟨Nat.zero_le a, b3.2.2 a e⟩) (fun Q hQ => c4_num3 X C1.step (by omega) hQ) (fun pw M2 c2 e2 C2 R2 ok => ⟨fun q => absurd q z10, fun _ => ?_⟩) (fun e2 M2 C2 => ⟨fun _ => ⟨fun q => absurd rfl q, fun _ => ?_⟩, fun q => absurd rfl q⟩)
    · rw [bnd_s e2] at ep
      try dsimp only at ep
      have hp := b3.2.2 pw e2
      have b4 := nm2_b (t := t) (ch := ch) (lo := 30) (hi := 80) b3.2.1
      refine c4_setting (M0 := M0) (t := t) (ch := ch) (p := 0) (T := 0) (k := 1) (c := c2) (n := 0) (row := upd row 9 (Int32.ofNat pw)) (r := nm2 t ch (nm3 t ch 1).1 30 80) (by decide) R2 (by decide) (fun a e => ⟨(b4.2.2 a e).1, (b4.2.2 a e).2.1⟩) (fun Q hQ => c4_num2 X C2 b3.2.1 (by decide) (by decide) hQ) (fun sp M3 c3 e3 C3 R3 ok2 => ⟨fun q => absurd q z10, fun _ => ⟨fun _ => ?_, fun q => absurd q z10⟩⟩) (fun e3 M3 C3 => ⟨fun _ => ⟨fun q => absurd rfl q, fun _ => ?_⟩, fun q => absurd rfl q⟩)
      · rw [bnd_s e3] at ep
        try dsimp only at ep
        have hs := b4.2.2 sp e3
        exact ⟨81, c4_loop X h1 h0 80 0 _ 0 _ M3 c3 rfl (Nat.zero_le _) b4.2.1 C3 R3 (head_inv I0 hp ⟨hs.1, hs.2.1⟩) ep⟩
      · rw [bnd_n e3] at ep
        rw [ep] at h0
        exact h0 rfl M3 c2 C3
    · rw [bnd_n e2] at ep
      rw [ep] at h0
      exact h0 rfl M2 c1 C2
  · have e : ¬ hvf t ch 0 = 77 := fun e => g ((hv_ne (by decide)).mp e)
    have ep : prs t ch row = (0, none) := by unfold prs; rw [if_neg g]
    rw [ep] at h0
    exact ⟨fun q => absurd q e, fun _ => ⟨fun q => absurd rfl q, fun _ => h0 rfl _ c1 C1⟩⟩
theorem pl_b {t : Nat} {ch : Nat → Int32} : ∀ (f p : Nat) (row : Row), p ≤ t → (pl t ch f p row).1 ≤ t := by
  intro f
  induction f with
  | zero => intro p row hp; exact hp
  | succ f ih =>
    intro p row hp
    show (if p < t then bnd (prt t ch p row) (fun q row' => pl t ch f q row') else (p, some row)).1 ≤ t
    by_cases hlt : p < t
    · rw [if_pos hlt]
      have pb := prt_b (ch := ch) (row := row) hlt
      exact (bnd_b (Nat.zero_le _) pb.1 (fun a _ => ⟨Nat.zero_le _, ih _ a pb.1⟩)).2
    · rw [if_neg hlt]
      exact hp
theorem prs_b {t : Nat} {ch : Nat → Int32} {row : Row} : (prs t ch row).1 ≤ t := by
  unfold prs
  split
  · rename_i g
    have b3 := nm3_b (t := t) (ch := ch) (p := 1) (by omega)
    refine (bnd_b (Nat.zero_le _) b3.2.1 (fun a _ => ⟨Nat.zero_le _, ?_⟩)).2
    have b4 := nm2_b (t := t) (ch := ch) (lo := 30) (hi := 80) b3.2.1
    exact (bnd_b (Nat.zero_le _) b4.2.1 (fun a _ => ⟨Nat.zero_le _, pl_b _ _ _ b4.2.1⟩)).2
  · exact Nat.zero_le _
theorem cs_start {M : Mem} {t : Nat} (h : M 20 0 1 = Int32.ofNat t) : CS M (va_up (va_up M 20 (va_up (M 20) 6 (fun _ => 0))) 20 (va_up ((va_up M 20 (va_up (M 20) 6 (fun _ => 0))) 20) 6 (upd (upd ((va_up M 20 (va_up (M 20) 6 (fun _ => 0))) 20 6) 3 1) 1 ((va_up M 20 (va_up (M 20) 6 (fun _ => 0))) 20 0 1)))) t (M 1) 0 := by
  refine ⟨rfl, h, rfl, rfl, fun j hj => ?_, fun i h1 h2 => ?_⟩
  · rw [va_us, va_un _ _ hj, va_us, va_un _ _ hj]
  · rw [va_un _ _ h2, va_un _ _ h2]
