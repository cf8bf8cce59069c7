/-! tells: the text, as a list -/
def ap (t : Tt) (a : Nat) : Tt := (t.1 + 1, upd t.2 t.1 (Int32.ofNat a))
def txl (l : List Nat) : Tt := l.foldl ap (0, fun _ => 0)
theorem txl_s (l : List Nat) (a : Nat) : txl (l ++ [a]) = ap (txl l) a := by
  unfold txl
  rw [List.foldl_append]
  rfl
def Cs (t : Nat) (ch : Nat → Int32) : Nat → List Nat → Prop
  | p, [] => p = t
  | p, a :: l => p < t ∧ ch p = Int32.ofNat a ∧ Cs t ch (p + 1) l
theorem fold_f : ∀ (l : List Nat) (t0 : Tt), (l.foldl ap t0).1 = t0.1 + l.length ∧ (∀ i, i < t0.1 → (l.foldl ap t0).2 i = t0.2 i) ∧ Cs (l.foldl ap t0).1 (l.foldl ap t0).2 t0.1 l
  | [], t0 => ⟨rfl, fun _ _ => rfl, rfl⟩
  | a :: l, t0 => by
    obtain ⟨h1, h2, h3⟩ := fold_f l (ap t0 a)
    have e1 : (ap t0 a).1 = t0.1 + 1 := rfl
    rw [e1] at h1 h2 h3
    show (l.foldl ap (ap t0 a)).1 = t0.1 + (l.length + 1) ∧ (∀ i, i < t0.1 → (l.foldl ap (ap t0 a)).2 i = t0.2 i) ∧ (t0.1 < (l.foldl ap (ap t0 a)).1 ∧ (l.foldl ap (ap t0 a)).2 t0.1 = Int32.ofNat a ∧ Cs (l.foldl ap (ap t0 a)).1 (l.foldl ap (ap t0 a)).2 (t0.1 + 1) l)
    refine ⟨by omega, fun i hi => ?_, by omega, ?_, h3⟩
    · rw [h2 i (by omega)]
      exact upd_n _ _ (by omega)
    · rw [h2 t0.1 (by omega)]
      exact upd_s _ _ _
theorem txl_1 (l : List Nat) : (txl l).1 = l.length := by
  have := (fold_f l (0, fun _ => 0)).1
  rw [Nat.zero_add] at this
  exact this
theorem txl_c (l : List Nat) : Cs (txl l).1 (txl l).2 0 l := (fold_f l (0, fun _ => 0)).2.2
/-! the text, read -/
theorem dig_ok {t p lo hi d : Nat} {ch : Nat → Int32} (hp : p < t) (hc : ch p = Int32.ofNat (48 + d)) (h1 : lo ≤ d) (h2 : d ≤ hi) (h3 : d ≤ 9) : dig t ch p lo hi = some d := by
  unfold dig
  have e : (ch p).toInt = 48 + (d : Int) := by rw [hc, ti_nat (by omega)]; omega
  rw [e, if_pos ⟨hp, by omega, by omega⟩]
  exact congrArg some (by omega)
theorem nm1_ok {t p lo hi d : Nat} {ch : Nat → Int32} (hp : p < t) (hc : ch p = Int32.ofNat (48 + d)) (h1 : lo ≤ d) (h2 : d ≤ hi) (h3 : d ≤ 9) : nm1 t ch p lo hi = (p + 1, some d) := by
  unfold nm1
  rw [dig_ok hp hc h1 h2 h3]
theorem nm2_ok {t p lo hi v : Nat} {ch : Nat → Int32} (hp : p < t) (hp2 : p + 1 < t) (hc : ch p = Int32.ofNat (48 + v / 10)) (hc2 : ch (p + 1) = Int32.ofNat (48 + v % 10)) (h1 : lo ≤ v) (h2 : v ≤ hi) (h3 : v ≤ 99) : nm2 t ch p lo hi = (p + 2, some v) := by
  unfold nm2
  rw [dig_ok hp hc (by omega) (by omega) (by omega)]
  dsimp only
  rw [dig_ok hp2 hc2 (by omega) (by omega) (by omega)]
  dsimp only
  rw [show 10 * (v / 10) + v % 10 = v by omega]
def roomL (v : Nat) : List Nat := [114, 48 + (1 + v % 9), 48 + (10 + v / 9 % 16) / 10, 48 + (10 + v / 9 % 16) % 10, 48 + (1 + v / 5 % 9), 48 + v / 3 % 10]
def roomsL (V : Nat → Nat) : Nat → List Nat
  | 0 => []
  | j + 1 => roomsL V j ++ roomL (V j)
def headL (a b c : Nat) : List Nat := [77, 48 + a, 48 + b / 10, 48 + b % 10, 48 + c / 10, 48 + c % 10]
def outL (w : Nat) : List Nat := [111, 43, 48 + w / 10, 48 + w % 10]
def fullL (a b c w : Nat) (V : Nat → Nat) (k : Nat) : List Nat := headL a b c ++ roomsL V k ++ outL w
theorem adok {v : Nat} : AddOk (Int32.ofNat (1 + v % 9)) (Int32.ofNat (10 + v / 9 % 16)) (Int32.ofNat (1 + v / 5 % 9)) (Int32.ofNat (v / 3 % 10)) := by
  unfold AddOk
  rw [ti_nat (by omega), ti_nat (by omega), ti_nat (by omega), ti_nat (by omega)]
  omega
theorem pl_room {t f p v n : Nat} {ch : Nat → Int32} {row : Row} {l : List Nat} (I : Inv n 0 row) (E : Ex n 0 row) (hn : n < 6) (C : Cs t ch p (roomL v ++ l)) : ∃ row', pl t ch (f + 1) p row = pl t ch f (p + 6) row' ∧ Inv (n + 1) 0 row' ∧ Ex (n + 1) 0 row' ∧ Cs t ch (p + 6) l := by
  obtain ⟨p0, c0, p1, c1, p2, c2, p3, c3, p4, c4, p5, c5, C⟩ := C
  have ok := adok (v := v)
  refine ⟨addf row n (Int32.ofNat (1 + v % 9)) (Int32.ofNat (10 + v / 9 % 16)) (Int32.ofNat (1 + v / 5 % 9)) (Int32.ofNat (v / 3 % 10)), ?_, I.addr hn ok.1, E.add I hn ok (by omega), C⟩
  have ern : rn row = n := by
    unfold rn
    rw [I.1.2.1, tn_nat (by omega)]
  have er : prt t ch p row = (p + 6, some (addf row n (Int32.ofNat (1 + v % 9)) (Int32.ofNat (10 + v / 9 % 16)) (Int32.ofNat (1 + v / 5 % 9)) (Int32.ofNat (v / 3 % 10)))) := by
    unfold prt
    rw [c0, if_pos (show Int32.ofNat 114 = 114 from rfl), ern, if_pos hn]
    unfold prR
    rw [nm1_ok (d := 1 + v % 9) p1 c1 (by omega) (by omega) (by omega)]
    rw [bnd_s rfl]
    dsimp only
    rw [nm2_ok (v := 10 + v / 9 % 16) p2 p3 c2 c3 (by omega) (by omega) (by omega)]
    rw [bnd_s rfl]
    dsimp only
    rw [nm1_ok (d := 1 + v / 5 % 9) p4 c4 (by omega) (by omega) (by omega)]
    rw [bnd_s rfl]
    dsimp only
    rw [nm1_ok (d := v / 3 % 10) p5 c5 (by omega) (by omega) (by omega)]
    rw [bnd_s rfl, ern]
  show (if p < t then bnd (prt t ch p row) (fun q row' => pl t ch f q row') else (p, some row)) = _
  rw [if_pos p0, er, bnd_s rfl]
theorem pl_out {t f p w n : Nat} {ch : Nat → Int32} {row : Row} (I : Inv n 0 row) (E : Ex n 0 row) (hw : w ≤ 40) (C : Cs t ch p (outL w)) : ∃ row', pl t ch (f + 2) p row = (p + 4, some row') ∧ Inv n 0 row' ∧ Ex n 0 row' := by
  obtain ⟨p0, c0, p1, c1, p2, c2, p3, c3, C⟩ := C
  have hw2 : (Int32.ofNat w).toInt = w := ti_nat (by omega)
  refine ⟨upd row 2 (Int32.ofNat w), ?_, I.out (by rw [hw2]; omega) (by rw [hw2]; omega), E.out (by rw [hw2]; omega) (by rw [hw2]; omega)⟩
  have er : prt t ch p row = (p + 4, some (upd row 2 (Int32.ofNat w))) := by
    unfold prt
    rw [c0, if_neg (show ¬ Int32.ofNat 111 = 114 by decide), if_pos (show Int32.ofNat 111 = 111 from rfl)]
    unfold prO
    rw [c1, if_neg (fun q => absurd q.2 (by decide)), if_pos ⟨p1, rfl⟩]
    rw [nm2_ok (v := w) p2 p3 c2 c3 (by omega) (by omega) (by omega)]
    rw [bnd_s rfl]
  show (if p < t then bnd (prt t ch p row) (fun q row' => pl t ch (f + 1) q row') else (p, some row)) = _
  rw [if_pos p0, er, bnd_s rfl]
  show (if p + 4 < t then _ else (p + 4, some (upd row 2 (Int32.ofNat w)))) = _
  have C : p + 4 = t := C
  rw [if_neg (by omega)]
theorem prs_full {a b c w k : Nat} {V : Nat → Nat} (ha : a ≤ 1) (hb : b ≤ 99) (hc1 : 30 ≤ c) (hc : c ≤ 80) (hw : w ≤ 40) (hk : k ≤ 3) : ∃ row n, (prs (txl (fullL a b c w V k)).1 (txl (fullL a b c w V k)).2 row0).2 = some row ∧ Inv n 0 row ∧ Ex n 0 row := by
  have C := txl_c (fullL a b c w V k)
  generalize (txl (fullL a b c w V k)).1 = t at C
  generalize (txl (fullL a b c w V k)).2 = ch at C
  unfold fullL at C
  rw [List.append_assoc] at C
  obtain ⟨p0, c0, p1, c1, p2, c2, p3, c3, p4, c4, p5, c5, C⟩ := C
  have e1 : nm3 t ch 1 = (4, some (100 * a + b)) := by
    unfold nm3
    rw [dig_ok (d := a) p1 c1 (by omega) (by omega) (by omega)]
    dsimp only
    rw [if_neg (by omega), nm2_ok (v := b) p2 p3 c2 c3 (by omega) (by omega) hb, bnd_s rfl]
  have e2 : nm2 t ch 4 30 80 = (6, some c) := nm2_ok (v := c) p4 p5 c4 c5 hc1 hc (by omega)
  have ep : prs t ch row0 = pl t ch 81 6 (upd (upd row0 9 (Int32.ofNat (100 * a + b))) 10 (Int32.ofNat c)) := by
    unfold prs
    rw [if_pos ⟨p0, c0⟩, e1, bnd_s rfl]
    dsimp only
    rw [e2, bnd_s rfl]
  have I : Inv 0 0 (upd (upd row0 9 (Int32.ofNat (100 * a + b))) 10 (Int32.ofNat c)) := head_inv (clr_inv _) (by omega) ⟨hc1, hc⟩
  have E : Ex 0 0 (upd (upd row0 9 (Int32.ofNat (100 * a + b))) 10 (Int32.ofNat c)) := by
    refine (Ex.r0.set (k := 0) (by decide) (setok0 (by omega))).set (k := 1) (by decide) ?_
    unfold SetOk
    rw [ti_nat (by omega), show (sv1 1).toInt = 30 from rfl, show (sv2 1).toInt = 80 from rfl]
    omega
  rw [ep]
  generalize upd (upd row0 9 (Int32.ofNat (100 * a + b))) 10 (Int32.ofNat c) = r0 at I E
  have C : Cs t ch 6 (roomsL V k ++ outL w) := C
  rcases (by omega : k = 0 ∨ k = 1 ∨ k = 2 ∨ k = 3) with e | e | e | e <;> subst e <;> simp only [roomsL, List.nil_append, List.append_assoc] at C
  · obtain ⟨r, g, J, F⟩ := pl_out (f := 79) I E hw C
    exact ⟨r, 0, by rw [g], J, F⟩
  · obtain ⟨r1, g1, I1, E1, C1⟩ := pl_room (f := 80) I E (by decide) C
    obtain ⟨r, g, J, F⟩ := pl_out (f := 78) I1 E1 hw C1
    exact ⟨r, 1, by rw [g1, g], J, F⟩
  · obtain ⟨r1, g1, I1, E1, C1⟩ := pl_room (f := 80) I E (by decide) C
    obtain ⟨r2, g2, I2, E2, C2⟩ := pl_room (f := 79) I1 E1 (by decide) C1
    obtain ⟨r, g, J, F⟩ := pl_out (f := 77) I2 E2 hw C2
    exact ⟨r, 2, by rw [g1, g2, g], J, F⟩
  · obtain ⟨r1, g1, I1, E1, C1⟩ := pl_room (f := 80) I E (by decide) C
    obtain ⟨r2, g2, I2, E2, C2⟩ := pl_room (f := 79) I1 E1 (by decide) C1
    obtain ⟨r3, g3, I3, E3, C3⟩ := pl_room (f := 78) I2 E2 (by decide) C2
    obtain ⟨r, g, J, F⟩ := pl_out (f := 76) I3 E3 hw C3
    exact ⟨r, 3, by rw [g1, g2, g3, g], J, F⟩
/-! the text, typed -/
theorem and_nn (z : Int32) {k : Nat} (hk : k < 2147483648) : ∃ w, w ≤ k ∧ z &&& Int32.ofNat k = Int32.ofNat w := by
  have e : (z &&& Int32.ofNat k).toBitVec.toNat = z.toBitVec.toNat &&& k := by
    rw [Int32.toBitVec_and, BitVec.toNat_and]
    show _ &&& (BitVec.ofNat 32 k).toNat = _
    rw [BitVec.toNat_ofNat, Nat.mod_eq_of_lt (by omega)]
  refine ⟨z.toBitVec.toNat &&& k, Nat.and_le_right, ?_⟩
  refine Int32.toBitVec_inj.mp (BitVec.eq_of_toNat_eq ?_)
  rw [e]
  show _ = (BitVec.ofNat 32 _).toNat
  have : z.toBitVec.toNat &&& k ≤ k := Nat.and_le_right
  rw [BitVec.toNat_ofNat, Nat.mod_eq_of_lt (by omega)]
section
variable {T : Nat} {m : Row} {h : Hy} {s : Sl} {M : Mem} {P : Int32 → Mem → Prop}
theorem q_put {l : List Nat} {a : Int32} {b : Nat} {F G : Int64 → Mem → Prop} (ea : a = Int32.ofNat b) (hb : b < 256) (hl : l.length < 80) (S : AR T M (m, h, s, txl l)) (hP : ∀ M', AR T M' (m, h, s, txl (l ++ [b])) → G (Int32.toInt64 (Int32.ofNat (l.length + 1))) M') : wL_append a M (fun r M' => (lg_cmp r 0 ≤ 0 → F r M') ∧ (¬ lg_cmp r 0 ≤ 0 → G r M')) := by
  subst ea
  have ht := txl_1 l
  refine q_append (A := (m, h, s, txl l)) (a := Int32.ofNat b) (by show (txl l).1 < 80; omega) (by rw [ti_nat (by omega)]; omega) M _ S (fun M' S' _ => ?_)
  have e : Int32.toInt64 (Int32.ofNat ((txl l).1 + 1)) = Int32.toInt64 (Int32.ofNat (l.length + 1)) := by rw [ht]
  show (lg_cmp (Int32.toInt64 (Int32.ofNat ((txl l).1 + 1))) 0 ≤ 0 → F (Int32.toInt64 (Int32.ofNat ((txl l).1 + 1))) M') ∧ (¬ lg_cmp (Int32.toInt64 (Int32.ofNat ((txl l).1 + 1))) 0 ≤ 0 → G (Int32.toInt64 (Int32.ofNat ((txl l).1 + 1))) M')
  rw [e]
  refine len (by rw [t64 (by omega)]; show (0 : Int) < _; omega) (hP M' ?_)
  rw [txl_s]
  exact S'
theorem q_type1 {l : List Nat} {v : Nat} (hv : v ≤ 9) (hl : l.length < 80) (S : AR T M (m, h, s, txl l)) (hP : ∀ M', AR T M' (m, h, s, txl (l ++ [48 + v])) → P 1 M') : wL_types (Int32.ofNat v) 1 M P := by
  refine ⟨fun _ => ?_, fun q => absurd q (by decide)⟩
  refine ⟨fun q => absurd q (by decide), fun _ => yes ⟨by decide, ?_⟩⟩
  refine q_put (b := 48 + v) ?_ (by omega) hl S (fun M1 S1 => ?_)
  · rw [show (1 : Int32) = Int32.ofNat 1 from rfl, nn_div2 (by omega) (by decide) (by decide), show (10 : Int32) = Int32.ofNat 10 from rfl, nn_rem2 (by omega) (by decide) (by decide), show (48 : Int32) = Int32.ofNat 48 from rfl, nn_a, show v / 1 % 10 = v by omega]
  · exact ⟨fun _ => ⟨Or.inr rfl, hP M1 S1⟩, fun q => absurd (by decide) q⟩
theorem q_type2 {l : List Nat} {v : Nat} (hv : v ≤ 99) (hl : l.length + 1 < 80) (S : AR T M (m, h, s, txl l)) (hP : ∀ M', AR T M' (m, h, s, txl (l ++ [48 + v / 10, 48 + v % 10])) → P 1 M') : wL_types (Int32.ofNat v) 2 M P := by
  refine ⟨fun q => absurd rfl q, fun _ => ?_⟩
  refine ⟨fun q => absurd q (by decide), fun _ => yes ⟨by decide, ?_⟩⟩
  refine q_put (b := 48 + v / 10) ?_ (by omega) (by omega) S (fun M1 S1 => ?_)
  · rw [show (10 : Int32) = Int32.ofNat 10 from rfl, nn_div2 (by omega) (by decide) (by decide), nn_rem2 (by omega) (by decide) (by decide), show (48 : Int32) = Int32.ofNat 48 from rfl, nn_a, show v / 10 % 10 = v / 10 by omega]
  · refine ⟨fun q => absurd q (by decide), fun _ => yes ⟨by decide, ?_⟩⟩
    refine q_put (b := 48 + v % 10) ?_ (by omega) (by rw [List.length_append]; show l.length + 1 < 80; omega) S1 (fun M2 S2 => ?_)
    · rw [show (10 : Int32) / 10 = Int32.ofNat 1 from by decide, nn_div2 (by omega) (by decide) (by decide), show (10 : Int32) = Int32.ofNat 10 from rfl, nn_rem2 (by omega) (by decide) (by decide), show (48 : Int32) = Int32.ofNat 48 from rfl, nn_a, show v / 1 % 10 = v % 10 by omega]
    · rw [List.append_assoc] at S2
      exact ⟨fun _ => ⟨Or.inr rfl, hP M2 S2⟩, fun q => absurd (by decide) q⟩
theorem roomsL_len (V : Nat → Nat) : ∀ k, (roomsL V k).length = 6 * k := by
  intro k
  induction k with
  | zero => rfl
  | succ k ih =>
    show (roomsL V k ++ roomL (V k)).length = _
    rw [List.length_append, ih]
    show 6 * k + 6 = _
    omega
theorem q_tells {X Y : Nat} {tt : Tt} (hX : X < 2147483648) (hY : Y < 2147483648) : ∃ (l : List Nat) (row : Row) (n : Nat), (prs (txl l).1 (txl l).2 row0).2 = some row ∧ Inv n 0 row ∧ Ex n 0 row ∧ ∀ (M : Mem) (P : Int32 → Mem → Prop), AR T M (m, h, s, tt) → (∀ M', AR T M' (m, h, s, txl l) → P 1 M') → wL_tells (Int32.ofNat X) (Int32.ofNat Y) M P := by
  have c4 : Int32.ofNat Y / 4 - Int32.ofNat Y / 4 / 100 * 100 = Int32.ofNat (Y / 4 % 100) := by
    rw [show (4 : Int32) = Int32.ofNat 4 from rfl, nn_div2 hY (by decide) (by decide), show (100 : Int32) = Int32.ofNat 100 from rfl, nn_rem2 (by omega) (by decide) (by decide)]
  have hV : ∀ j : Nat, ∃ v, v ≤ 70000 ∧ ((Int32.ofNat X >>> (Int32.ofNat j &&& 31)) &&& 65535) + (Int32.ofNat Y / 4 - Int32.ofNat Y / 4 / 100 * 100) = Int32.ofNat v := by
    intro j
    obtain ⟨w, w1, w2⟩ := and_nn (Int32.ofNat X >>> (Int32.ofNat j &&& 31)) (k := 65535) (by decide)
    have w2 : (Int32.ofNat X >>> (Int32.ofNat j &&& 31)) &&& 65535 = Int32.ofNat w := w2
    exact ⟨w + Y / 4 % 100, by omega, by rw [w2, c4, nn_a]⟩
  let V : Nat → Nat := fun j => Classical.choose (hV j)
  have hV1 : ∀ j, V j ≤ 70000 := fun j => (Classical.choose_spec (hV j)).1
  have hV2 : ∀ j, ((Int32.ofNat X >>> (Int32.ofNat j &&& 31)) &&& 65535) + (Int32.ofNat Y / 4 - Int32.ofNat Y / 4 / 100 * 100) = Int32.ofNat (V j) := fun j => (Classical.choose_spec (hV j)).2
  clear_value V
  have hk : Y % 4 ≤ 3 := by omega
  obtain ⟨row, n, g1, g2, g3⟩ := prs_full (a := X % 2) (b := X / 2 % 100) (c := 30 + X / 200 % 51) (w := Y / 8 % 41) (k := Y % 4) (V := V) (by omega) (by omega) (by omega) (by omega) (by omega) hk
  refine ⟨_, row, n, g1, g2, g3, fun M P S hP => ?_⟩
  have ep : epf (txl (fullL (X % 2) (X / 2 % 100) (30 + X / 200 % 51) (Y / 8 % 41) V (Y % 4))) = -99999 := by
    unfold epf
    rw [g1]
  have b1 : ∀ a : Nat, 1 + Int32.ofNat a = Int32.ofNat (1 + a) := fun a => by rw [show (1 : Int32) = Int32.ofNat 1 from rfl, nn_a]
  have x2 : Int32.ofNat X - Int32.ofNat X / 2 * 2 = Int32.ofNat (X % 2) := by
    rw [show (2 : Int32) = Int32.ofNat 2 from rfl, nn_rem2 hX (by decide) (by decide)]
  have x100 : Int32.ofNat X / 2 - Int32.ofNat X / 2 / 100 * 100 = Int32.ofNat (X / 2 % 100) := by
    rw [show (2 : Int32) = Int32.ofNat 2 from rfl, nn_div2 hX (by decide) (by decide), show (100 : Int32) = Int32.ofNat 100 from rfl, nn_rem2 (by omega) (by decide) (by decide)]
  have x51 : 30 + (Int32.ofNat X / 200 - Int32.ofNat X / 200 / 51 * 51) = Int32.ofNat (30 + X / 200 % 51) := by
    rw [show (200 : Int32) = Int32.ofNat 200 from rfl, nn_div2 hX (by decide) (by decide), show (51 : Int32) = Int32.ofNat 51 from rfl, nn_rem2 (by omega) (by decide) (by decide), show (30 : Int32) = Int32.ofNat 30 from rfl, nn_a]
  have y4 : Int32.ofNat Y - Int32.ofNat Y / 4 * 4 = Int32.ofNat (Y % 4) := by
    rw [show (4 : Int32) = Int32.ofNat 4 from rfl, nn_rem2 hY (by decide) (by decide)]
  have y41 : Int32.ofNat Y / 8 - Int32.ofNat Y / 8 / 41 * 41 = Int32.ofNat (Y / 8 % 41) := by
    rw [show (8 : Int32) = Int32.ofNat 8 from rfl, nn_div2 hY (by decide) (by decide), show (41 : Int32) = Int32.ofNat 41 from rfl, nn_rem2 (by omega) (by decide) (by decide)]
  have v9 : ∀ v : Nat, v ≤ 70000 → 1 + (Int32.ofNat v - Int32.ofNat v / 9 * 9) = Int32.ofNat (1 + v % 9) := fun v hv => by
    rw [show (9 : Int32) = Int32.ofNat 9 from rfl, nn_rem2 (by omega) (by decide) (by decide), b1]
  have v16 : ∀ v : Nat, v ≤ 70000 → 10 + (Int32.ofNat v / 9 - Int32.ofNat v / 9 / 16 * 16) = Int32.ofNat (10 + v / 9 % 16) := fun v hv => by
    rw [show (9 : Int32) = Int32.ofNat 9 from rfl, nn_div2 (by omega) (by decide) (by decide), show (16 : Int32) = Int32.ofNat 16 from rfl, nn_rem2 (by omega) (by decide) (by decide), show (10 : Int32) = Int32.ofNat 10 from rfl, nn_a]
  have v5 : ∀ v : Nat, v ≤ 70000 → 1 + (Int32.ofNat v / 5 - Int32.ofNat v / 5 / 9 * 9) = Int32.ofNat (1 + v / 5 % 9) := fun v hv => by
    rw [show (5 : Int32) = Int32.ofNat 5 from rfl, nn_div2 (by omega) (by decide) (by decide), show (9 : Int32) = Int32.ofNat 9 from rfl, nn_rem2 (by omega) (by decide) (by decide), b1]
  have v3 : ∀ v : Nat, v ≤ 70000 → Int32.ofNat v / 3 - Int32.ofNat v / 3 / 10 * 10 = Int32.ofNat (v / 3 % 10) := fun v hv => by
    rw [show (3 : Int32) = Int32.ofNat 3 from rfl, nn_div2 (by omega) (by decide) (by decide), show (10 : Int32) = Int32.ofNat 10 from rfl, nn_rem2 (by omega) (by decide) (by decide)]
  -- the end of the text
  have l188 : ∀ M', AR T M' (m, h, s, txl (headL (X % 2) (X / 2 % 100) (30 + X / 200 % 51) ++ roomsL V (Y % 4))) → wL_tells_L188 (Int32.ofNat X) (Int32.ofNat Y) P 1 M' := by
    intro M' S'
    have hl : (headL (X % 2) (X / 2 % 100) (30 + X / 200 % 51) ++ roomsL V (Y % 4)).length ≤ 24 := by
      rw [List.length_append, roomsL_len]
      show 6 + _ ≤ 24
      omega
    unfold wL_tells_L188
    rw [y41]
    refine yes (q_put (b := 111) rfl (by decide) (by omega) S' (fun M1 S1 => ?_))
    refine q_put (b := 43) rfl (by decide) (by rw [List.length_append]; show _ + 1 < 80; omega) S1 (fun M2 S2 => ?_)
    refine q_type2 (by omega) (by rw [List.length_append, List.length_append]; show _ + 1 + 1 + 1 < 80; omega) S2 (fun M3 S3 => yes ?_)
    rw [List.append_assoc, List.append_assoc] at S3
    have S3 : AR T M3 (m, h, s, txl (fullL (X % 2) (X / 2 % 100) (30 + X / 200 % 51) (Y / 8 % 41) V (Y % 4))) := S3
    refine q_errorPosition S3 (fun M4 S4 _ => ?_)
    show (¬ epf _ = -99999 → _) ∧ _
    exact ⟨fun q => absurd ep q, fun _ => hP M4 S4⟩
  have l71 : ∀ (r j N : Nat) (M' : Mem), j + r = Y % 4 → r < N → AR T M' (m, h, s, txl (headL (X % 2) (X / 2 % 100) (30 + X / 200 % 51) ++ roomsL V j)) → wL_tells_L71 (Int32.ofNat X) (Int32.ofNat Y) P N 1 (Int32.ofNat j) M' := by
    intro r
    induction r with
    | zero =>
      intro j N M' hj hN S'
      obtain ⟨N, rfl⟩ : ∃ g, N = g + 1 := ⟨N - 1, by omega⟩
      have hj : j = Y % 4 := hj
      subst hj
      refine ⟨fun _ => l188 M' S', fun q => absurd ?_ q⟩
      rw [y4]
      exact (nn_le (by omega) (by omega)).mpr (Nat.le_refl _)
    | succ r ih =>
      intro j N M' hj hN S'
      obtain ⟨N, rfl⟩ : ∃ g, N = g + 1 := ⟨N - 1, by omega⟩
      have hl : (headL (X % 2) (X / 2 % 100) (30 + X / 200 % 51) ++ roomsL V j).length ≤ 18 := by
        rw [List.length_append, roomsL_len]
        show 6 + _ ≤ 18
        omega
      unfold wL_tells_L71
      rw [y4, hV2, v9 _ (hV1 j), v16 _ (hV1 j), v5 _ (hV1 j), v3 _ (hV1 j)]
      refine ⟨fun q => ?_, fun _ => yes ?_⟩
      · have := (nn_le (by omega) (by omega)).mp q
        omega
      generalize hL : headL (X % 2) (X / 2 % 100) (30 + X / 200 % 51) ++ roomsL V j = L at S' hl
      refine q_put (b := 114) rfl (by decide) (by omega) S' (fun M1 S1 => ?_)
      refine q_type1 (by omega) (by simp only [List.length_append, List.length_cons, List.length_nil]; omega) S1 (fun M2 S2 => yes ?_)
      refine q_type2 (by omega) (by simp only [List.length_append, List.length_cons, List.length_nil]; omega) S2 (fun M3 S3 => yes ?_)
      refine q_type1 (by omega) (by simp only [List.length_append, List.length_cons, List.length_nil]; omega) S3 (fun M4 S4 => yes ?_)
      refine q_type1 (by omega) (by simp only [List.length_append, List.length_cons, List.length_nil]; omega) S4 (fun M5 S5 => yes ?_)
      rw [nn_s]
      refine ih (j + 1) N M5 (by omega) (by omega) ?_
      have e : headL (X % 2) (X / 2 % 100) (30 + X / 200 % 51) ++ roomsL V (j + 1) = L ++ [114] ++ [48 + (1 + V j % 9)] ++ [48 + (10 + V j / 9 % 16) / 10, 48 + (10 + V j / 9 % 16) % 10] ++ [48 + (1 + V j / 5 % 9)] ++ [48 + V j / 3 % 10] := by
        rw [← hL]
        show _ ++ (roomsL V j ++ roomL (V j)) = _
        simp only [roomL, List.append_assoc, List.cons_append, List.nil_append]
      rw [e]
      exact S5
  unfold wL_tells
  rw [x2, x100, x51]
  refine q_clearText (A := (m, h, s, tt)) S (fun M1 S1 _ => ⟨fun q => absurd q (ng (by have := S.2.2.2.2.1; show tt.1 < _; have : tt.1 ≤ 80 := this; omega)), fun _ => ?_⟩)
  have S1 : AR T M1 (m, h, s, txl []) := S1
  refine q_append (A := (m, h, s, txl [])) (a := 77) (by show (0 : Nat) < 80; decide) (by decide) M1 _ S1 (fun M2 S2 _ => eqk rfl ?_)
  have S2 : AR T M2 (m, h, s, txl [77]) := S2
  refine q_type1 (by omega) (by decide) S2 (fun M3 S3 => yes ?_)
  refine q_type2 (by omega) (Nat.le_of_ble_eq_true rfl) S3 (fun M4 S4 => yes ?_)
  refine q_type2 (by omega) (Nat.le_of_ble_eq_true rfl) S4 (fun M5 S5 => yes ?_)
  exact l71 (Y % 4) 0 4 M5 (by omega) (by omega) S5
end
