/-! parts, the model -/
theorem least_any {v : Int32} {P : Int32 → Prop} (h : ∀ r, P r) : wX6_least v P := ⟨fun _ => h _, fun _ => h _, fun _ => h _, fun _ => h _, fun _ => h _, fun _ => h _, fun _ => h _, fun _ => h _, fun _ => h _⟩
theorem most_any {v : Int32} {P : Int32 → Prop} (h : ∀ r, P r) : wX6_most v P := ⟨fun _ => h _, fun _ => h _, fun _ => h _, fun _ => h _, fun _ => h _, fun _ => h _, fun _ => h _, fun _ => h _, fun _ => h _⟩
theorem MS.r2 {c0 c : Reg} {row : Row} {p i : Nat} {g v : Int32} (h : MS c0 c row p g) : MS c0 (cu c 2 i v) (upd row i v) p g := by
  rw [cu_e, h.1]
  exact h.row
theorem m6_room {c0 c : Reg} {row : Row} {p t n T : Nat} {P : Reg → Prop} (h : MS c0 c row p 1) (ht : c0 0 2 = Int32.ofNat t) (ht8 : t ≤ 80) (hb : ∀ k, k < t → 0 ≤ (c0 1 k).toInt ∧ (c0 1 k).toInt ≤ 255) (hp : p < t) (I : Inv n T row)
    (h1 : ∀ (row' : Row) (n' : Nat) (c' : Reg), (if rn row < 6 then prR t (c0 1) p row else (p, none)).2 = some row' → MS c0 c' row' (if rn row < 6 then prR t (c0 1) p row else (p, none)).1 1 → Inv n' T row' → P c')
    (h0 : (if rn row < 6 then prR t (c0 1) p row else (p, none)).2 = none → ∀ c' : Reg, MS c0 c' row (if rn row < 6 then prR t (c0 1) p row else (p, none)).1 0 → P c') : wX6_readRoom c P := by
  have hn := I.1.1
  have ern : rn row = n := by
    unfold rn
    rw [I.1.2.1, tn_nat (by omega)]
  rw [ern] at h1 h0
  have e0 : c 2 0 = Int32.ofNat n := by rw [h.1]; exact I.1.2.1
  by_cases h6 : n < 6
  · rw [if_pos h6] at h1 h0
    unfold prR at h1 h0
    rw [ern] at h1 h0
    refine ⟨fun q => ?_, fun _ => ?_⟩
    · rw [e0] at q
      have := (nn_le (a := 6) (by omega) (by omega)).mp q
      omega
    have b1 := nm1_b (t := t) (ch := c0 1) (p := p + 1) (lo := 1) (hi := 9) (by omega)
    refine m6_yes h (fun c1 m1 => ?_)
    have e1n : ∀ {q lo hi : Nat}, dig t (c0 1) q lo hi = none → nm1 t (c0 1) q lo hi = (q, none) := fun e => by unfold nm1; rw [e]
    have e1s : ∀ {q lo hi a : Nat}, dig t (c0 1) q lo hi = some a → nm1 t (c0 1) q lo hi = (q + 1, some a) := fun e => by unfold nm1; rw [e]
    refine m6_digit (lo := 1) (hi := 9) m1 ht ht8 (by omega) hb (by decide) (by decide) (fun tn c2 g2 m2 => ?_) (fun g2 v c2 m2 => ?_)
    · have d2 := dig_some g2
      rw [e1s g2, bnd_s rfl] at h1 h0
      have b2 := nm2_b (t := t) (ch := c0 1) (p := p + 1 + 1) (lo := 10) (hi := 25) (by omega)
      refine m6_two (lo := 10) (hi := 25) m2 ht ht8 (by omega) hb (by decide) (by decide) (by decide) (fun wa c3 g3 m3 => ?_) (fun g3 v c3 m3 => ?_)
      · have r3 := b2.2.2 wa g3
        rw [bnd_s g3] at h1 h0
        refine m6_digit (lo := 1) (hi := 9) m3 ht ht8 b2.2.1 hb (by decide) (by decide) (fun ra c4 g4 m4 => ?_) (fun g4 v c4 m4 => ?_)
        · have d4 := dig_some g4
          rw [e1s g4, bnd_s rfl] at h1 h0
          refine m6_digit (lo := 0) (hi := 9) m4 ht ht8 (by omega) hb (by decide) (by decide) (fun le c5 g5 m5 => ?_) (fun g5 v c5 m5 => ?_)
          · have d5 := dig_some g5
            rw [e1s g5, bnd_s rfl] at h1 h0
            have htn : 1 ≤ (Int32.ofNat tn).toInt ∧ (Int32.ofNat tn).toInt ≤ 9 := by rw [ti_nat (by omega)]; omega
            refine ⟨fun q => absurd (m5.2.2.1.symm.trans q) z10, fun _ => s6_addTo (n := n) (by rw [m5.1]; exact I.1) h6 htn ?_⟩
            rw [m5.1]
            exact h1 _ (n + 1) _ rfl m5.row (I.addr h6 htn)
          · rw [e1n g5, bnd_n rfl] at h0
            exact ⟨fun _ => h0 rfl _ m5, fun q => absurd m5.2.2.1 q⟩
        · rw [e1n g4, bnd_n rfl] at h0
          exact m6_digitF m4 ht ht8 (by omega) (fun v c5 m5 => ⟨fun _ => h0 rfl _ m5, fun q => absurd m5.2.2.1 q⟩)
      · rw [bnd_n g3] at h0
        exact m6_digitF m3 ht ht8 (by omega) (fun v c4 m4 => m6_digitF m4 ht ht8 (by omega) (fun v c5 m5 => ⟨fun _ => h0 rfl _ m5, fun q => absurd m5.2.2.1 q⟩))
    · rw [e1n g2, bnd_n rfl] at h0
      exact m6_twoF m2 ht ht8 (by omega) (fun v c3 m3 => m6_digitF m3 ht ht8 (by omega) (fun v c4 m4 => m6_digitF m4 ht ht8 (by omega) (fun v c5 m5 => ⟨fun _ => h0 rfl _ m5, fun q => absurd m5.2.2.1 q⟩)))
  · rw [if_neg h6] at h1 h0
    refine ⟨fun _ => m6_no h (fun c1 m1 => ?_), fun q => absurd (by rw [e0]; exact le_nn (a := 6) (by omega) (by omega) (by omega)) q⟩
    exact m6_digitF m1 ht ht8 (by omega) (fun v c2 m2 => m6_twoF m2 ht ht8 (by omega) (fun v c3 m3 => m6_digitF m3 ht ht8 (by omega) (fun v c4 m4 => m6_digitF m4 ht ht8 (by omega) (fun v c5 m5 => ⟨fun _ => h0 rfl _ m5, fun q => absurd m5.2.2.1 q⟩))))
theorem m6_out {c0 c : Reg} {row : Row} {p t n T : Nat} {P : Reg → Prop} (h : MS c0 c row p 1) (ht : c0 0 2 = Int32.ofNat t) (ht8 : t ≤ 80) (hb : ∀ k, k < t → 0 ≤ (c0 1 k).toInt ∧ (c0 1 k).toInt ≤ 255) (hp : p < t) (I : Inv n T row)
    (h1 : ∀ (row' : Row) (n' : Nat) (c' : Reg), (prO t (c0 1) p row).2 = some row' → MS c0 c' row' (prO t (c0 1) p row).1 1 → Inv n' T row' → P c')
    (h0 : (prO t (c0 1) p row).2 = none → ∀ c' : Reg, MS c0 c' row (prO t (c0 1) p row).1 0 → P c') : wX6_readOutside c P := by
  have hn := I.1.1
  unfold prO at h1 h0
  refine m6_yes h (fun c1 m1 => ?_)
  have fz : ∀ (v s : Int32) (c' : Reg) (q : Nat), MS c0 c' row q 0 → (∀ c2 : Reg, MS c0 c2 row q 0 → P c2) → wX6_readOutside_L55 P v s c' := fun v s c' q m k => ⟨fun _ => k _ m, fun e => absurd m.2.2.1 e⟩
  refine m6_isNext m1 ht ht8 (by omega) (fun g1 g2 => ⟨fun _ => ?_, fun q => absurd q z10⟩) (fun g => ⟨fun q => absurd rfl q, fun _ => ?_⟩)
  · rw [if_pos ⟨g1, g2⟩] at h1 h0
    refine m6_yes m1 (fun c2 m2 => ⟨fun q => absurd q z10, fun _ => ?_⟩)
    have b := nm2_b (t := t) (ch := c0 1) (p := p + 2) (lo := 1) (hi := 20) (by omega)
    refine m6_two (p := p + 2) (lo := 1) (hi := 20) m2 ht ht8 (by omega) hb (by decide) (by decide) (by decide) (fun v c3 g3 m3 => ?_) (fun g3 v c3 m3 => ?_)
    · have r3 := b.2.2 v g3
      rw [bnd_s g3] at h1
      exact ⟨fun q => absurd (m3.2.2.1.symm.trans q) z10, fun _ => ⟨fun q => absurd q z10, fun _ => h1 _ n _ rfl m3.r2 (I.out (by rw [neg_x (by omega)]; omega) (by rw [neg_x (by omega)]; omega))⟩⟩
    · rw [bnd_n g3] at h0
      exact fz _ _ _ _ m3 (h0 rfl)
  · rw [if_neg g] at h1 h0
    refine m6_isNext m1 ht ht8 (by omega) (fun g1 g2 => ⟨fun q => absurd q z10, fun _ => ?_⟩) (fun g2 => ⟨fun _ => ?_, fun q => absurd rfl q⟩)
    · rw [if_pos ⟨g1, g2⟩] at h1 h0
      refine m6_yes m1 (fun c2 m2 => ⟨fun _ => ?_, fun q => absurd rfl q⟩)
      have b := nm2_b (t := t) (ch := c0 1) (p := p + 2) (lo := 0) (hi := 40) (by omega)
      refine m6_two (p := p + 2) (lo := 0) (hi := 40) m2 ht ht8 (by omega) hb (by decide) (by decide) (by decide) (fun v c3 g3 m3 => ?_) (fun g3 v c3 m3 => ?_)
      · have r3 := b.2.2 v g3
        rw [bnd_s g3] at h1
        exact ⟨fun q => absurd (m3.2.2.1.symm.trans q) z10, fun _ => ⟨fun _ => h1 _ n _ rfl m3.r2 (I.out (by rw [ti_nat (by omega)]; omega) (by rw [ti_nat (by omega)]; omega)), fun q => absurd rfl q⟩⟩
      · rw [bnd_n g3] at h0
        exact fz _ _ _ _ m3 (h0 rfl)
    · rw [if_neg g2] at h1 h0
      exact m6_no m1 (fun c2 m2 => ⟨fun _ => m6_twoF m2 ht ht8 (by omega) (fun v c3 m3 => fz _ _ _ _ m3 (h0 rfl)), fun q => absurd rfl q⟩)
theorem m6_set {c0 c : Reg} {row : Row} {p t n T : Nat} {P : Reg → Prop} (h : MS c0 c row p 1) (ht : c0 0 2 = Int32.ofNat t) (ht8 : t ≤ 80) (hb : ∀ k, k < t → 0 ≤ (c0 1 k).toInt ∧ (c0 1 k).toInt ≤ 255) (hp : p < t) (I : Inv n T row)
    (h1 : ∀ (row' : Row) (n' : Nat) (c' : Reg), (prS t (c0 1) p row).2 = some row' → MS c0 c' row' (prS t (c0 1) p row).1 1 → Inv n' T row' → P c')
    (h0 : (prS t (c0 1) p row).2 = none → ∀ c' : Reg, MS c0 c' row (prS t (c0 1) p row).1 0 → P c') : wX6_readSetting c P := by
  have hn := I.1.1
  unfold prS at h1 h0
  refine m6_yes h (fun c1 m1 => ?_)
  refine m6_digit (lo := 2) (hi := 8) m1 ht ht8 (by omega) hb (by decide) (by decide) (fun k c2 g2 m2 => ?_) (fun g2 v c2 m2 => ?_)
  · have d2 := dig_some g2
    have e1 : nm1 t (c0 1) (p + 1) 2 8 = (p + 1 + 1, some k) := by unfold nm1; rw [g2]
    rw [e1, bnd_s rfl] at h1 h0
    have sl := sl_e k (by omega)
    have hs := sl.2.2.2.1 (by omega)
    refine s6_least (by omega) (s6_most (by omega) ?_)
    rw [sl.1, sl.2.1]
    have b := nm2_b (t := t) (ch := c0 1) (p := p + 1 + 1) (lo := slo k) (hi := shi k) (by omega)
    refine m6_two m2 ht ht8 (by omega) hb (by omega) (by omega) sl.2.2.1 (fun v c3 g3 m3 => ?_) (fun g3 v c3 m3 => ?_)
    · have r3 := b.2.2 v g3
      rw [bnd_s g3] at h1
      refine ⟨fun q => absurd (m3.2.2.1.symm.trans q) z10, fun _ => ?_⟩
      rw [ix_set, tn_nat (by omega)]
      refine ⟨nn_in (by omega) (by omega), h1 _ n _ rfl m3.r2 (I.set (by omega) ⟨?_, ?_⟩)⟩
      · rw [sl.2.2.2.2.2.1, ti_nat (by omega)]
        omega
      · rw [sl.2.2.2.2.2.2, ti_nat (by omega)]
        omega
    · rw [bnd_n g3] at h0
      exact ⟨fun _ => h0 rfl _ m3, fun q => absurd m3.2.2.1 q⟩
  · have e1 : nm1 t (c0 1) (p + 1) 2 8 = (p + 1, none) := by unfold nm1; rw [g2]
    rw [e1, bnd_n rfl] at h0
    exact least_any (fun r4 => most_any (fun r5 => m6_twoF m2 ht ht8 (by omega) (fun v c3 m3 => ⟨fun _ => h0 rfl _ m3, fun q => absurd m3.2.2.1 q⟩)))
/-! all of a text -/
def pl (t : Nat) (ch : Nat → Int32) : Nat → Nat → Row → Nat × Option Row
  | 0, p, _ => (p, none)
  | f + 1, p, row => if p < t then bnd (prt t ch p row) (fun q row' => pl t ch f q row') else (p, some row)
def prs (t : Nat) (ch : Nat → Int32) (row : Row) : Nat × Option Row := if 0 < t ∧ ch 0 = 77 then bnd (nm3 t ch 1) (fun q pw => bnd (nm2 t ch q 30 80) (fun q sp => pl t ch 81 q (upd (upd row 9 (Int32.ofNat pw)) 10 (Int32.ofNat sp)))) else (0, none)
theorem m6_end {c0 c : Reg} {row : Row} {q : Nat} {P : Int32 → Reg → Prop} (h : MS c0 c row q 0) (k : P (Int32.ofNat q) c) (N : Nat) : wX6_readText_L86 P (N + 1) c := by
  refine ⟨fun _ => ⟨fun _ => ?_, fun e => absurd h.2.2.1 e⟩, fun e => absurd h.2.2.1 e⟩
  rw [h.2.1]
  exact k
theorem m6_loop {c0 : Reg} {t : Nat} {res : Nat × Option Row} {P : Int32 → Reg → Prop} (ht : c0 0 2 = Int32.ofNat t) (ht8 : t ≤ 80) (hb : ∀ k, k < t → 0 ≤ (c0 1 k).toInt ∧ (c0 1 k).toInt ≤ 255)
    (h1 : ∀ (row' : Row) (c' : Reg), res.2 = some row' → MS c0 c' row' res.1 1 → P (-99999) c')
    (h0 : res.2 = none → ∀ (row' : Row) (c' : Reg), MS c0 c' row' res.1 0 → P (Int32.ofNat res.1) c') : ∀ (r p n : Nat) (row : Row) (c : Reg), t ≤ p + r → p ≤ t → MS c0 c row p 1 → Inv n 0 row → res = pl t (c0 1) (r + 1) p row → wX6_readText_L86 P (r + 2) c := by
  intro r
  induction r with
  | zero =>
    intro p n row c hr hp m I hres
    have e : pl t (c0 1) (0 + 1) p row = (p, some row) := by
      show (if p < t then bnd (prt t (c0 1) p row) (fun q row' => pl t (c0 1) 0 q row') else (p, some row)) = (p, some row)
      rw [if_neg (by omega)]
    rw [e] at hres
    subst hres
    have e2 : c 0 2 = Int32.ofNat t := (m.2.2.2.1 2 (by decide) (by decide)).trans ht
    refine ⟨fun q => absurd (m.2.2.1.symm.trans q) z10, fun _ => ⟨fun _ => ⟨fun q => absurd (m.2.2.1.symm.trans q) z10, fun _ => h1 row c rfl m⟩, fun q => absurd ?_ q⟩⟩
    rw [e2, m.2.1]
    exact le_nn (by omega) (by omega) (by omega)
  | succ r ih =>
    intro p n row c hr hp m I hres
    have e2 : c 0 2 = Int32.ofNat t := (m.2.2.2.1 2 (by decide) (by decide)).trans ht
    have e : pl t (c0 1) (r + 1 + 1) p row = (if p < t then bnd (prt t (c0 1) p row) (fun q row' => pl t (c0 1) (r + 1) q row') else (p, some row)) := rfl
    rw [e] at hres
    by_cases hlt : p < t
    · rw [if_pos hlt] at hres
      have pb := prt_b (ch := c0 1) (row := row) hlt
      have k1 : ∀ (row' : Row) (n' : Nat) (c' : Reg), (prt t (c0 1) p row).2 = some row' → MS c0 c' row' (prt t (c0 1) p row).1 1 → Inv n' 0 row' → wX6_readText_L86 P (r + 2) c' := fun row' n' c' g m' I' => by
        rw [bnd_s g] at hres
        have := pb.2 (by rw [g]; exact fun q => by cases q)
        exact ih _ n' row' c' (by omega) pb.1 m' I' hres
      have k0 : (prt t (c0 1) p row).2 = none → ∀ c' : Reg, MS c0 c' row (prt t (c0 1) p row).1 0 → wX6_readText_L86 P (r + 2) c' := fun g c' m' => by
        rw [bnd_n g] at hres
        subst hres
        exact m6_end m' (h0 rfl row c' m') (r + 1)
      refine ⟨fun q => absurd (m.2.2.1.symm.trans q) z10, fun _ => ⟨fun q => ?_, fun _ => ?_⟩⟩
      · rw [e2, m.2.1] at q
        have := (nn_le (by omega) (by omega)).mp q
        omega
      · unfold prt at k1 k0
        refine m6_isNext m ht ht8 hp (fun _ g => ⟨fun q => absurd q z10, fun _ => ?_⟩) (fun g => ⟨fun _ => ?_, fun q => absurd rfl q⟩)
        · rw [if_pos g] at k1 k0
          exact m6_room m ht ht8 hb hlt I k1 k0
        · rw [if_neg (fun g2 => g ⟨hlt, g2⟩)] at k1 k0
          refine m6_isNext m ht ht8 hp (fun _ g => ⟨fun q => absurd q z10, fun _ => ?_⟩) (fun g => ⟨fun _ => ?_, fun q => absurd rfl q⟩)
          · rw [if_pos g] at k1 k0
            exact m6_out m ht ht8 hb hlt I k1 k0
          · rw [if_neg (fun g2 => g ⟨hlt, g2⟩)] at k1 k0
            refine m6_isNext m ht ht8 hp (fun _ g => ⟨fun q => absurd q z10, fun _ => ?_⟩) (fun g => ⟨fun _ => ?_, fun q => absurd rfl q⟩)
            · rw [if_pos g] at k1 k0
              exact m6_set m ht ht8 hb hlt I k1 k0
            · rw [if_neg (fun g2 => g ⟨hlt, g2⟩)] at k1 k0
              exact m6_no m (fun c' m' => k0 rfl c' m')
    · rw [if_neg hlt] at hres
      subst hres
      refine ⟨fun q => absurd (m.2.2.1.symm.trans q) z10, fun _ => ⟨fun _ => ⟨fun q => absurd (m.2.2.1.symm.trans q) z10, fun _ => h1 row c rfl m⟩, fun q => absurd ?_ q⟩⟩
      rw [e2, m.2.1]
      exact le_nn (by omega) (by omega) (by omega)
theorem head_inv {n T a b : Nat} {row : Row} (I : Inv n T row) (ha : a ≤ 200) (hb : 30 ≤ b ∧ b ≤ 80) : Inv n T (upd (upd row 9 (Int32.ofNat a)) 10 (Int32.ofNat b)) := by
  refine (I.set (k := 0) (by decide) (setok0 ha)).set (k := 1) (by decide) ?_
  unfold SetOk
  rw [ti_nat (by omega), show (sv1 1).toInt = 30 from rfl, show (sv2 1).toInt = 80 from rfl]
  omega
theorem m6_readText {c0 : Reg} {t : Nat} {P : Int32 → Reg → Prop} (ht : c0 0 2 = Int32.ofNat t) (ht8 : t ≤ 80) (hb : ∀ k, k < t → 0 ≤ (c0 1 k).toInt ∧ (c0 1 k).toInt ≤ 255)
    (h1 : ∀ (row' : Row) (c' : Reg), (prs t (c0 1) (clr (c0 2))).2 = some row' → MS c0 c' row' (prs t (c0 1) (clr (c0 2))).1 1 → P (-99999) c')
    (h0 : (prs t (c0 1) (clr (c0 2))).2 = none → ∀ (row' : Row) (c' : Reg), MS c0 c' row' (prs t (c0 1) (clr (c0 2))).1 0 → P (Int32.ofNat (prs t (c0 1) (clr (c0 2))).1) c') : wX6_readText c0 P := by
  have I0 := clr_inv (c0 2)
  refine s6_clean ?_
  have m0 : MS c0 (va_up (cu (cu c0 0 3 0) 0 4 1) 2 (clr (cu (cu c0 0 3 0) 0 4 1 2))) (clr (c0 2)) 0 1 := by
    refine ⟨rfl, rfl, rfl, fun k k3 k4 => ?_, fun j j0 j2 => ?_⟩
    · rw [va_un _ _ (by decide), cu_sv, upd_n _ _ k4, cu_sv, upd_n _ _ k3]
    · rw [va_un _ _ j2, cu_e, va_un _ _ j0, cu_e, va_un _ _ j0]
  generalize va_up (cu (cu c0 0 3 0) 0 4 1) 2 (clr (cu (cu c0 0 3 0) 0 4 1 2)) = c1 at m0
  generalize hrow : clr (c0 2) = row at m0 h1 h0 I0
  have fail : ∀ (q : Nat), prs t (c0 1) row = (q, none) → ∀ (row' : Row) (c' : Reg), MS c0 c' row' q 0 → P (Int32.ofNat q) c' := fun q e row' c' m => by
    have := h0 (by rw [e]) row' c' (by rw [e]; exact m)
    rw [e] at this
    exact this
  have fz59 : ∀ (q : Nat), q ≤ 80 → prs t (c0 1) row = (q, none) → ∀ (s0 s1 : Int32) (c' : Reg), MS c0 c' row q 0 → wX6_readText_L59 P s0 s1 c' := fun q hq e s0 s1 c' m => m6_twoF m ht ht8 hq (fun v c2 m2 => ⟨1, m6_end m2.r2.r2 (fail q e _ _ m2.r2.r2) 0⟩)
  have fz3 : ∀ (q : Nat), q ≤ 80 → prs t (c0 1) row = (q, none) → ∀ (r5 : Int32) (c' : Reg), MS c0 c' row q 0 → ((¬ r5 = 2 → wX6_two 0 99 c' (fun r7 c8 => wX6_readText_L59 P r7 (100 * r5) c8)) ∧ (r5 = 2 → wX6_two 0 0 c' (fun r9 c10 => wX6_readText_L59 P r9 (100 * r5) c10))) := fun q hq e r5 c' m => ⟨fun _ => m6_twoF m ht ht8 hq (fun v c2 m2 => fz59 q hq e _ _ _ m2), fun _ => m6_twoF m ht ht8 hq (fun v c2 m2 => fz59 q hq e _ _ _ m2)⟩
  refine m6_isNext m0 ht ht8 (by omega) (fun g1 g2 => m6_yes m0 (fun c2 m2 => ?_)) (fun g => m6_no m0 (fun c2 m2 => m6_digitF m2 ht ht8 (by omega) (fun v c3 m3 => fz3 0 (by omega) (by unfold prs; rw [if_neg g]) v c3 m3)))
  have ep : prs t (c0 1) row = bnd (nm3 t (c0 1) 1) (fun q pw => bnd (nm2 t (c0 1) q 30 80) (fun q sp => pl t (c0 1) 81 q (upd (upd row 9 (Int32.ofNat pw)) 10 (Int32.ofNat sp)))) := by unfold prs; rw [if_pos ⟨g1, g2⟩]
  refine m6_digit (p := 1) (lo := 0) (hi := 2) m2 ht ht8 (by omega) hb (by decide) (by decide) (fun a c3 g3 m3 => ?_) (fun g3 v c3 m3 => fz3 1 (by omega) ?_ v c3 m3)
  · have d3 := dig_some g3
    have e3 : nm3 t (c0 1) 1 = bnd (nm2 t (c0 1) (1 + 1) 0 (if a = 2 then 0 else 99)) (fun q v => (q, some (100 * a + v))) := by unfold nm3; rw [g3]
    rw [e3] at ep
    have e2 : Int32.ofNat a = 2 ↔ a = 2 := nn_eq (b := 2) (by omega) (by omega)
    have fin : ∀ hi : Nat, (if a = 2 then 0 else 99) = hi → wX6_two (Int32.ofNat 0) (Int32.ofNat hi) c3 (fun r7 c8 => wX6_readText_L59 P r7 (100 * Int32.ofNat a) c8) := by
      intro hi ehi
      rw [ehi] at ep
      have hh : hi ≤ 99 ∧ 100 * a + hi ≤ 200 := by
        by_cases g : a = 2
        · rw [if_pos g] at ehi; omega
        · rw [if_neg g] at ehi; omega
      have b := nm2_b (t := t) (ch := c0 1) (p := 1 + 1) (lo := 0) (hi := hi) (by omega)
      refine m6_two m3 ht ht8 (by omega) hb (by omega) hh.1 (by omega) (fun v c4 g4 m4 => ?_) (fun g4 v c4 m4 => ?_)
      · have r4 := b.2.2 v g4
        rw [bnd_s g4, bnd_s rfl] at ep
        have b2 := nm2_b (t := t) (ch := c0 1) (lo := 30) (hi := 80) b.2.1
        refine m6_two (lo := 30) (hi := 80) m4 ht ht8 b.2.1 hb (by decide) (by decide) (by decide) (fun sp c5 g5 m5 => ?_) (fun g5 x c5 m5 => ?_)
        · have r5 := b2.2.2 sp g5
          have em : (100 : Int32) * Int32.ofNat a + Int32.ofNat v = Int32.ofNat (100 * a + v) := by rw [show (100 : Int32) = Int32.ofNat 100 from rfl, nn_m, nn_a]
          rw [em]
          dsimp only at ep
          rw [bnd_s g5] at ep
          exact ⟨80 + 2, m6_loop ht ht8 hb h1 h0 80 _ 0 _ _ (by omega) b2.2.1 m5.r2.r2 (head_inv I0 (by omega) (by omega)) ep⟩
        · dsimp only at ep
          rw [bnd_n g5] at ep
          exact ⟨1, m6_end m5.r2.r2 (fail _ ep _ _ m5.r2.r2) 0⟩
      · rw [bnd_n g4] at ep
        exact fz59 _ (by omega) ep _ _ _ m4
    exact ⟨fun q => fin 99 (if_neg (fun g => q (e2.mpr g))), fun q => fin 0 (if_pos (e2.mp q))⟩
  · have e3 : nm3 t (c0 1) 1 = (1, none) := by unfold nm3; rw [g3]
    rw [ep, e3]
    rfl
