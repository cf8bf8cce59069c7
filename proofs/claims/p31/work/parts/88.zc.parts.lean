/-! a new station -/
def clr (old : Row) : Row := upd (upd (upd (upd (upd (upd (upd (upd (upd (upd (upd (upd (fun k => if k < 128 then 0 else old k) 2 5) 9 60) 10 60) 11 5) 12 3) 13 12) 14 20) 15 10) 16 35) 17 18) 18 800) 19 1200
theorem clr_inv (old : Row) : Inv 0 0 (clr old) := by
  have ew : wy (clr old) = 0 := rfl
  refine ⟨⟨by decide, rfl, by rw [ew]; decide, rfl, ?_, ?_, fun i hi => absurd hi (Nat.not_lt_zero i)⟩, ⟨Or.inl rfl, Or.inl rfl, ⟨by show 0 ≤ (0 : Int32).toInt; decide, by show (0 : Int32).toInt < 60; decide⟩, ⟨by show 0 ≤ (0 : Int32).toInt; decide, by show (0 : Int32).toInt ≤ 100; decide⟩, ⟨by show -20 ≤ (5 : Int32).toInt; decide, by show (5 : Int32).toInt ≤ 40; decide, by show 0 ≤ (12 : Int32).toInt; decide, by show (12 : Int32).toInt ≤ 30; decide⟩, ⟨by show 0 ≤ (20 : Int32).toInt; decide, by show (20 : Int32).toInt ≤ 50; decide⟩, ⟨by show 0 ≤ (60 : Int32).toInt; decide, by show (60 : Int32).toInt ≤ 200; decide⟩⟩, ⟨fun i hi => absurd hi (Nat.not_lt_zero i), fun i h1 h2 => ?_⟩, fun i hi => absurd hi (Nat.not_lt_zero i), ?_, ?_⟩
  · rw [ew]
    exact fun k k' hk => absurd hk (Nat.not_lt_zero k)
  · rw [ew]
    exact fun k hk => absurd hk (Nat.not_lt_zero k)
  · rcases (by omega : i = 0 ∨ i = 1 ∨ i = 2 ∨ i = 3 ∨ i = 4 ∨ i = 5) with e | e | e | e | e | e <;> subst e <;> exact ⟨rfl, rfl, rfl, rfl, rfl⟩
  · show 0 ≤ (0 : Int32).toInt
    decide
  · show (0 : Int32).toInt ≤ _
    decide
theorem c3_beginAnew {c : Reg} {P : Reg → Prop} (old : Row) (h : ∀ c' : Reg, RlM 0 c' (clr old) → P c') : wX3_beginAnew c P := by
  refine h _ ⟨⟨rfl, rfl, rfl, show (0 : Int32) = 0 - 0 from by decide, rfl, rfl, rfl, rfl, rfl, rfl⟩, fun k hk => ?_, fun p hp => ?_, fun i q hi => absurd hi (Nat.not_lt_zero i), rfl, rfl, fun k hk => absurd hk (Nat.not_lt_zero k)⟩
  · rcases (by omega : k = 0 ∨ k = 1 ∨ k = 2 ∨ k = 3 ∨ k = 4 ∨ k = 5 ∨ k = 6 ∨ k = 7 ∨ k = 8) with e | e | e | e | e | e | e | e | e <;> subst e <;> rfl
  · rcases (by omega : p = 0 ∨ p = 1) with e | e <;> subst e <;> exact ⟨rfl, rfl⟩
/-! parts of a text -/
def rn (row : Row) : Nat := (row 0).toNatClampNeg
def slo (k : Nat) : Nat := (sv1 k).toInt.toNat
def shi (k : Nat) : Nat := (sv2 k).toInt.toNat
theorem sl_e : ∀ k, k < 9 → sv1 k = Int32.ofNat (slo k) ∧ sv2 k = Int32.ofNat (shi k) ∧ slo k ≤ shi k ∧ (1 ≤ k → shi k ≤ 99) ∧ slo k ≤ 99 ∧ (sv1 k).toInt = slo k ∧ (sv2 k).toInt = shi k := by decide
def prR (t : Nat) (ch : Nat → Int32) (p : Nat) (row : Row) : Nat × Option Row := bnd (nm1 t ch (p + 1) 1 9) fun q tn => bnd (nm2 t ch q 10 25) fun q wa => bnd (nm1 t ch q 1 9) fun q ra => bnd (nm1 t ch q 0 9) fun q le => (q, some (addf row (rn row) (Int32.ofNat tn) (Int32.ofNat wa) (Int32.ofNat ra) (Int32.ofNat le)))
def prO (t : Nat) (ch : Nat → Int32) (p : Nat) (row : Row) : Nat × Option Row := if p + 1 < t ∧ ch (p + 1) = 45 then bnd (nm2 t ch (p + 2) 1 20) (fun q v => (q, some (upd row 2 (-Int32.ofNat v)))) else if p + 1 < t ∧ ch (p + 1) = 43 then bnd (nm2 t ch (p + 2) 0 40) (fun q v => (q, some (upd row 2 (Int32.ofNat v)))) else (p + 1, none)
def prS (t : Nat) (ch : Nat → Int32) (p : Nat) (row : Row) : Nat × Option Row := bnd (nm1 t ch (p + 1) 2 8) fun q k => bnd (nm2 t ch q (slo k) (shi k)) fun q v => (q, some (upd row (9 + k) (Int32.ofNat v)))
def prt (t : Nat) (ch : Nat → Int32) (p : Nat) (row : Row) : Nat × Option Row := if ch p = 114 then (if rn row < 6 then prR t ch p row else (p, none)) else if ch p = 111 then prO t ch p row else if ch p = 115 then prS t ch p row else (p, none)
theorem bnd_b {α β : Type} {r : Nat × Option α} {f : Nat → α → Nat × Option β} {p t : Nat} (h1 : p ≤ r.1) (h2 : r.1 ≤ t) (h : ∀ a, r.2 = some a → p ≤ (f r.1 a).1 ∧ (f r.1 a).1 ≤ t) : p ≤ (bnd r f).1 ∧ (bnd r f).1 ≤ t := by
  unfold bnd
  cases e : r.2 with
  | none => exact ⟨h1, h2⟩
  | some a => exact h a e
theorem bnd_s {α β : Type} {r : Nat × Option α} {f : Nat → α → Nat × Option β} {a : α} (e : r.2 = some a) : bnd r f = f r.1 a := by
  unfold bnd
  rw [e]
theorem bnd_n {α β : Type} {r : Nat × Option α} {f : Nat → α → Nat × Option β} (e : r.2 = none) : bnd r f = (r.1, none) := by
  unfold bnd
  rw [e]
theorem prR_b {t : Nat} {ch : Nat → Int32} {p : Nat} {row : Row} (hp : p < t) : p + 1 ≤ (prR t ch p row).1 ∧ (prR t ch p row).1 ≤ t := by
  have b1 := nm1_b (t := t) (ch := ch) (p := p + 1) (lo := 1) (hi := 9) (by omega)
  refine bnd_b b1.1 b1.2.1 (fun tn _ => ?_)
  have b2 := nm2_b (t := t) (ch := ch) (lo := 10) (hi := 25) b1.2.1
  refine bnd_b (by omega) b2.2.1 (fun wa _ => ?_)
  have b3 := nm1_b (t := t) (ch := ch) (lo := 1) (hi := 9) b2.2.1
  refine bnd_b (by omega) b3.2.1 (fun ra _ => ?_)
  have b4 := nm1_b (t := t) (ch := ch) (lo := 0) (hi := 9) b3.2.1
  refine bnd_b (by omega) b4.2.1 (fun le _ => ?_)
  exact ⟨by dsimp only; omega, b4.2.1⟩
theorem prO_b {t : Nat} {ch : Nat → Int32} {p : Nat} {row : Row} (hp : p < t) : p + 1 ≤ (prO t ch p row).1 ∧ (prO t ch p row).1 ≤ t := by
  unfold prO
  split
  · have b1 := nm2_b (t := t) (ch := ch) (p := p + 2) (lo := 1) (hi := 20) (by omega)
    exact bnd_b (by omega) b1.2.1 (fun v _ => ⟨by dsimp only; omega, b1.2.1⟩)
  · split
    · have b1 := nm2_b (t := t) (ch := ch) (p := p + 2) (lo := 0) (hi := 40) (by omega)
      exact bnd_b (by omega) b1.2.1 (fun v _ => ⟨by dsimp only; omega, b1.2.1⟩)
    · exact ⟨Nat.le_refl _, hp⟩
theorem prS_b {t : Nat} {ch : Nat → Int32} {p : Nat} {row : Row} (hp : p < t) : p + 1 ≤ (prS t ch p row).1 ∧ (prS t ch p row).1 ≤ t := by
  have b1 := nm1_b (t := t) (ch := ch) (p := p + 1) (lo := 2) (hi := 8) (by omega)
  refine bnd_b b1.1 b1.2.1 (fun k _ => ?_)
  have b2 := nm2_b (t := t) (ch := ch) (lo := slo k) (hi := shi k) b1.2.1
  exact bnd_b (by omega) b2.2.1 (fun v _ => ⟨by dsimp only; omega, b2.2.1⟩)
theorem prt_b {t : Nat} {ch : Nat → Int32} {p : Nat} {row : Row} (hp : p < t) : (prt t ch p row).1 ≤ t ∧ ((prt t ch p row).2 ≠ none → p + 1 ≤ (prt t ch p row).1) := by
  unfold prt
  split
  · split
    · exact ⟨(prR_b hp).2, fun _ => (prR_b hp).1⟩
    · exact ⟨Nat.le_of_lt hp, fun q => absurd rfl q⟩
  · split
    · exact ⟨(prO_b hp).2, fun _ => (prO_b hp).1⟩
    · split
      · exact ⟨(prS_b hp).2, fun _ => (prS_b hp).1⟩
      · exact ⟨Nat.le_of_lt hp, fun q => absurd rfl q⟩
/-! parts, the program -/
theorem ov_n {a : Nat} (h : a < 2147483648) : ¬ Int32.ofNat a = -1 := by
  rw [← Int32.toInt_inj, ti_nat h, im1]
  omega
theorem c4_setting {M0 M : Mem} {t : Nat} {ch : Nat → Int32} {c : Reg} {p n T k : Nat} {row : Row} {D : Int32} {r : Nat × Option Nat} {P : Int32 → Mem → Prop} (hk : k < 9) (R : RlM n c row) (hn : n ≤ 6) (hr : ∀ a, r.2 = some a → slo k ≤ a ∧ a ≤ shi k)
    (hread : ∀ Q : Int32 → Mem → Prop, (∀ M' : Mem, CS M0 M' t c r.1 → Q (ov r.2) M') → wX4_readNumber D (sv1 k) (sv2 k) M Q)
    (h1 : ∀ (v : Nat) (M' : Mem) (c' : Reg), r.2 = some v → CS M0 M' t c' r.1 → RlM n c' (upd row (9 + k) (Int32.ofNat v)) → SetOk k (Int32.ofNat v) → P 1 M')
    (h0 : r.2 = none → ∀ M' : Mem, CS M0 M' t c r.1 → P 0 M') : wX4_readSetting (Int32.ofNat k) D M P := by
  refine s5_low hk (s5_high hk (hread _ (fun M' C' => ?_)))
  have sl := sl_e k hk
  cases e : r.2 with
  | none => exact ⟨fun q => absurd rfl q, fun _ => h0 e M' C'⟩
  | some v =>
    have b := hr v e
    have hs : shi k ≤ 200 := by
      have : ∀ k, k < 9 → shi k ≤ 200 := by decide
      exact this k hk
    refine ⟨fun _ => c3_change hk ?_, fun q => absurd q (ov_n (by omega))⟩
    rw [C'.1]
    refine h1 v _ _ e C'.reg (R.set hn hk) ⟨?_, ?_⟩
    · rw [sl.2.2.2.2.2.1, ti_nat (by omega)]
      omega
    · rw [sl.2.2.2.2.2.2, ti_nat (by omega)]
      omega
theorem c4_room {M0 M : Mem} {t : Nat} {ch : Nat → Int32} {c : Reg} {p n T : Nat} {row : Row} {P : Int32 → Mem → Prop} (X : Tx M0 t ch) (C : CS M0 M t c (p + 1)) (hp : p < t) (R : RlM n c row) (I : Inv n T row) (hn6 : n < 6)
    (h1 : ∀ (row' : Row) (n' : Nat) (M' : Mem) (c' : Reg), (prR t ch p row).2 = some row' → CS M0 M' t c' (prR t ch p row).1 → RlM n' c' row' → Inv n' T row' → P 1 M')
    (h0 : (prR t ch p row).2 = none → ∀ (M' : Mem) (c' : Reg), CS M0 M' t c' (prR t ch p row).1 → P 0 M') : wX4_readRoom M P := by
  have ern : rn row = n := by
    have hn := I.1.1
    unfold rn
    rw [I.1.2.1, tn_nat (by omega)]
  unfold prR at h1 h0
  rw [ern] at h1 h0
  have b1 := nm1_b (t := t) (ch := ch) (p := p + 1) (lo := 1) (hi := 9) (by omega)
  refine c4_num1 X C (by omega) (by decide) (by decide) (fun M1 C1 => ?_)
  cases e1 : (nm1 t ch (p + 1) 1 9).2 with
  | none =>
    rw [bnd_n e1] at h1 h0
    have z : wX4_readRoom_L27 P (ov none) (-1) M1 := ⟨fun q => absurd rfl q, fun _ => ⟨fun q => absurd rfl q, fun _ => ⟨fun q => absurd rfl q, fun _ => h0 rfl M1 c C1⟩⟩⟩
    exact ⟨fun q => absurd rfl q, fun _ => z⟩
  | some tn =>
    have r1 := b1.2.2 tn e1
    rw [bnd_s e1] at h1 h0
    refine ⟨fun _ => ?_, fun q => absurd q (ov_n (by omega))⟩
    have b2 := nm2_b (t := t) (ch := ch) (lo := 10) (hi := 25) b1.2.1
    refine c4_num2 X C1 b1.2.1 (by decide) (by decide) (fun M2 C2 => ?_)
    cases e2 : (nm2 t ch (nm1 t ch (p + 1) 1 9).1 10 25).2 with
    | none =>
      rw [bnd_n e2] at h1 h0
      exact ⟨fun q => absurd rfl q, fun _ => ⟨fun q => absurd rfl q, fun _ => ⟨fun q => absurd rfl q, fun _ => h0 rfl M2 c C2⟩⟩⟩
    | some wa =>
      have r2 := b2.2.2 wa e2
      rw [bnd_s e2] at h1 h0
      refine ⟨fun _ => ?_, fun q => absurd q (ov_n (by omega))⟩
      have b3 := nm1_b (t := t) (ch := ch) (lo := 1) (hi := 9) b2.2.1
      refine c4_num1 X C2 b2.2.1 (by decide) (by decide) (fun M3 C3 => ?_)
      cases e3 : (nm1 t ch (nm2 t ch (nm1 t ch (p + 1) 1 9).1 10 25).1 1 9).2 with
      | none =>
        rw [bnd_n e3] at h1 h0
        exact ⟨fun q => absurd rfl q, fun _ => ⟨fun q => absurd rfl q, fun _ => h0 rfl M3 c C3⟩⟩
      | some ra =>
        have r3 := b3.2.2 ra e3
        rw [bnd_s e3] at h1 h0
        refine ⟨fun _ => ?_, fun q => absurd q (ov_n (by omega))⟩
        have b4 := nm1_b (t := t) (ch := ch) (lo := 0) (hi := 9) b3.2.1
        refine c4_num1 X C3 b3.2.1 (by decide) (by decide) (fun M4 C4 => ?_)
        cases e4 : (nm1 t ch (nm1 t ch (nm2 t ch (nm1 t ch (p + 1) 1 9).1 10 25).1 1 9).1 0 9).2 with
        | none =>
          rw [bnd_n e4] at h1 h0
          exact ⟨fun q => absurd rfl q, fun _ => h0 rfl M4 c C4⟩
        | some le =>
          have r4 := b4.2.2 le e4
          rw [bnd_s e4] at h1 h0
          refine ⟨fun _ => ?_, fun q => absurd q (ov_n (by omega))⟩
          have ht : 1 ≤ (Int32.ofNat tn).toInt ∧ (Int32.ofNat tn).toInt ≤ 9 := by rw [ti_nat (by omega)]; omega
          refine s3_buildRoom (m := row) I.1 I.2.2.1 (by rw [C4.1]; exact R) hn6 ht (fun c' R' => h1 _ (n + 1) _ _ rfl C4.reg R' (I.addr hn6 ht))
theorem hv_ne {t : Nat} {ch : Nat → Int32} {p : Nat} {x : Int32} (hx : ¬ (-1 : Int32) = x) : hvf t ch p = x ↔ p < t ∧ ch p = x := by
  unfold hvf
  by_cases g : p < t
  · rw [if_pos g]
    exact ⟨fun e => ⟨g, e⟩, fun e => e.2⟩
  · rw [if_neg g]
    exact ⟨fun e => absurd e hx, fun e => absurd e.1 g⟩
theorem c4_outside {M0 M : Mem} {t : Nat} {ch : Nat → Int32} {c : Reg} {p n T : Nat} {row : Row} {P : Int32 → Mem → Prop} (X : Tx M0 t ch) (C : CS M0 M t c (p + 1)) (hp : p < t) (R : RlM n c row) (I : Inv n T row)
    (h1 : ∀ (row' : Row) (n' : Nat) (M' : Mem) (c' : Reg), (prO t ch p row).2 = some row' → CS M0 M' t c' (prO t ch p row).1 → RlM n' c' row' → Inv n' T row' → P 1 M')
    (h0 : (prO t ch p row).2 = none → ∀ (M' : Mem) (c' : Reg), CS M0 M' t c' (prO t ch p row).1 → P 0 M') : wX4_readOutside M P := by
  have hn := I.1.1
  have ht := X.1
  refine c4_here X C (by omega) ?_
  unfold prO at h1 h0
  by_cases g45 : p + 1 < t ∧ ch (p + 1) = 45
  · have e := (hv_ne (t := t) (ch := ch) (p := p + 1) (x := 45) (by decide)).mpr g45
    rw [e]
    rw [if_pos g45] at h1 h0
    have b := nm2_b (t := t) (ch := ch) (p := p + 2) (lo := 1) (hi := 20) (by omega)
    refine ⟨fun q => absurd q (by decide), fun _ => ⟨fun _ => ⟨fun _ => ?_, fun q => absurd q (by decide)⟩, fun q => absurd rfl q⟩⟩
    refine c4_num2 X C.step (by omega) (by decide) (by decide) (fun M2 C2 => ?_)
    cases e2 : (nm2 t ch (p + 2) 1 20).2 with
    | none =>
      rw [bnd_n e2] at h1 h0
      exact ⟨fun q => absurd rfl q, fun _ => h0 rfl M2 c C2⟩
    | some v =>
      have r2 := b.2.2 v e2
      rw [bnd_s e2] at h1 h0
      refine ⟨fun _ => ⟨fun _ => ?_, fun q => absurd q (by decide)⟩, fun q => absurd q (ov_n (by omega))⟩
      rw [C2.1]
      exact h1 _ n _ _ rfl C2.reg (R.out hn) (I.out (by rw [neg_x (by omega)]; omega) (by rw [neg_x (by omega)]; omega))
  · rw [if_neg g45] at h1 h0
    have e45 : ¬ hvf t ch (p + 1) = 45 := fun e => g45 ((hv_ne (by decide)).mp e)
    by_cases g43 : p + 1 < t ∧ ch (p + 1) = 43
    · have e := (hv_ne (t := t) (ch := ch) (p := p + 1) (x := 43) (by decide)).mpr g43
      rw [e]
      rw [if_pos g43] at h1 h0
      have b := nm2_b (t := t) (ch := ch) (p := p + 2) (lo := 0) (hi := 40) (by omega)
      refine ⟨fun _ => ⟨fun q => absurd rfl q, fun _ => ?_⟩, fun q => absurd rfl q⟩
      refine c4_num2 X C.step (by omega) (by decide) (by decide) (fun M2 C2 => ?_)
      cases e2 : (nm2 t ch (p + 2) 0 40).2 with
      | none =>
        rw [bnd_n e2] at h1 h0
        exact ⟨fun q => absurd rfl q, fun _ => h0 rfl M2 c C2⟩
      | some v =>
        have r2 := b.2.2 v e2
        rw [bnd_s e2] at h1 h0
        refine ⟨fun _ => ⟨fun q => absurd rfl q, fun _ => ?_⟩, fun q => absurd q (ov_n (by omega))⟩
        rw [C2.1]
        exact h1 _ n _ _ rfl C2.reg (R.out hn) (I.out (by rw [ti_nat (by omega)]; omega) (by rw [ti_nat (by omega)]; omega))
    · rw [if_neg g43] at h1 h0
      have e43 : ¬ hvf t ch (p + 1) = 43 := fun e => g43 ((hv_ne (by decide)).mp e)
      exact ⟨fun q => absurd q e43, fun _ => ⟨fun q => absurd q e45, fun _ => h0 rfl M c C⟩⟩
theorem c4_part {M0 M : Mem} {t : Nat} {ch : Nat → Int32} {c : Reg} {p n T : Nat} {row : Row} {P : Int32 → Mem → Prop} (X : Tx M0 t ch) (C : CS M0 M t c p) (hp : p < t) (R : RlM n c row) (I : Inv n T row)
    (h1 : ∀ (row' : Row) (n' : Nat) (M' : Mem) (c' : Reg), (prt t ch p row).2 = some row' → CS M0 M' t c' (prt t ch p row).1 → RlM n' c' row' → Inv n' T row' → P 1 M')
    (h0 : (prt t ch p row).2 = none → ∀ (M' : Mem) (c' : Reg), CS M0 M' t c' (prt t ch p row).1 → P 0 M') : wX4_readPart M P := by
  have hn := I.1.1
  have ht := X.1
  have ern : rn row = n := by
    unfold rn
    rw [I.1.2.1, tn_nat (by omega)]
  have ehv : hvf t ch p = ch p := by unfold hvf; rw [if_pos hp]
  refine c4_here X C (by omega) ?_
  rw [ehv]
  unfold prt at h1 h0
  rw [ern] at h1 h0
  by_cases g1 : ch p = 114
  · rw [if_pos g1] at h1 h0
    refine ⟨fun q => absurd g1 q, fun _ => ?_⟩
    by_cases h6 : n < 6
    · rw [if_pos h6] at h1 h0
      refine ⟨fun _ => ⟨fun q => absurd rfl q, fun _ => ?_⟩, fun q => absurd (by rw [C.1, R.rooms]; exact (nn_lt (b := 6) (by omega) (by omega)).mpr h6) q⟩
      rw [va_ue]
      exact c4_room X C.step hp R I h6 (fun row' n' M' c' e1 e2 e3 e4 => ⟨Or.inr rfl, h1 row' n' M' c' e1 e2 e3 e4⟩) (fun e M' c' e2 => ⟨Or.inl rfl, h0 e M' c' e2⟩)
    · rw [if_neg h6] at h1 h0
      refine ⟨fun q => absurd ((nn_lt (b := 6) (by omega) (by omega)).mp (by rw [C.1, R.rooms] at q; exact q)) h6, fun _ => ⟨fun _ => ?_, fun q => absurd q z10⟩⟩
      rw [va_ue, g1]
      exact ⟨fun _ => ⟨fun _ => h0 rfl M c C, fun q => absurd q (by decide)⟩, fun q => absurd q (by decide)⟩
  · rw [if_neg g1] at h1 h0
    refine ⟨fun _ => ?_, fun q => absurd q g1⟩
    by_cases g2 : ch p = 111
    · rw [if_pos g2] at h1 h0
      exact ⟨fun q => absurd g2 q, fun _ => c4_outside X C.step hp R I (fun row' n' M' c' e1 e2 e3 e4 => ⟨Or.inr rfl, h1 row' n' M' c' e1 e2 e3 e4⟩) (fun e M' c' e2 => ⟨Or.inl rfl, h0 e M' c' e2⟩)⟩
    · rw [if_neg g2] at h1 h0
      refine ⟨fun _ => ?_, fun q => absurd q g2⟩
      by_cases g3 : ch p = 115
      · rw [if_pos g3] at h1 h0
        refine ⟨fun q => absurd g3 q, fun _ => ?_⟩
        unfold prS at h1 h0
        have b1 := nm1_b (t := t) (ch := ch) (p := p + 1) (lo := 2) (hi := 8) (by omega)
        refine c4_num1 X C.step (by omega) (by decide) (by decide) (fun M1 C1 => ?_)
        cases e1 : (nm1 t ch (p + 1) 2 8).2 with
        | none =>
          rw [bnd_n e1] at h1 h0
          exact ⟨fun _ => h0 rfl M1 c C1, fun q => absurd rfl q⟩
        | some k =>
          have r1 := b1.2.2 k e1
          have sl := sl_e k (by omega)
          have hs := sl.2.2.2.1 (by omega)
          rw [bnd_s e1] at h1 h0
          refine ⟨fun q => absurd q (ov_n (by omega)), fun _ => ?_⟩
          have b2 := nm2_b (t := t) (ch := ch) (lo := slo k) (hi := shi k) b1.2.1
          refine c4_setting (M0 := M0) (t := t) (ch := ch) (p := p) (T := T) (k := k) (c := c) (row := row) (r := nm2 t ch (nm1 t ch (p + 1) 2 8).1 (slo k) (shi k)) (by omega) R hn (fun a e => ⟨(b2.2.2 a e).1, (b2.2.2 a e).2.1⟩) (fun Q hQ => ?_) (fun v M' c' e C' R' ok => ?_) (fun e M' C' => ?_)
          · rw [sl.1, sl.2.1]
            exact c4_num2 X C1 b1.2.1 (by omega) (by omega) hQ
          · rw [bnd_s e] at h1
            exact ⟨fun q => absurd q z10, fun _ => h1 _ n _ _ rfl C' R' (I.set (by omega) ok)⟩
          · rw [bnd_n e] at h0
            exact ⟨fun _ => h0 rfl M' c C', fun q => absurd rfl q⟩
      · rw [if_neg g3] at h1 h0
        exact ⟨fun _ => h0 rfl M c C, fun q => absurd q g3⟩
