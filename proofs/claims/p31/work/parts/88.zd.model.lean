/-! all of a text -/
def pl (t : Nat) (ch : Nat → Int32) : Nat → Nat → Row → Nat × Option Row
  | 0, p, _ => (p, none)
  | f + 1, p, row => if p < t then bnd (prt t ch p row) (fun q row' => pl t ch f q row') else (p, some row)
def prs (t : Nat) (ch : Nat → Int32) (row : Row) : Nat × Option Row := if 0 < t ∧ ch 0 = 77 then bnd (nm3 t ch 1) (fun q pw => bnd (nm2 t ch q 30 80) (fun q sp => pl t ch 81 q (upd (upd row 9 (Int32.ofNat pw)) 10 (Int32.ofNat sp)))) else (0, none)
theorem head_inv {n T a b : Nat} {row : Row} (I : Inv n T row) (ha : a ≤ 200) (hb : 30 ≤ b ∧ b ≤ 80) : Inv n T (upd (upd row 9 (Int32.ofNat a)) 10 (Int32.ofNat b)) := by
  refine (I.set (k := 0) (by decide) (setok0 ha)).set (k := 1) (by decide) ?_
  unfold SetOk
  rw [ti_nat (by omega), show (sv1 1).toInt = 30 from rfl, show (sv2 1).toInt = 80 from rfl]
  omega
