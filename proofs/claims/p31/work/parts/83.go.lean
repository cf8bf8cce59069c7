/-! moving heat, the model -/
def lasti (m : Row) (a : Int32) : Nat → Option Nat
  | 0 => none
  | n + 1 => if m (75 + 2 * n) = a then some n else lasti m a n
theorem lasti_lt {m : Row} {a : Int32} {n k : Nat} (h : lasti m a n = some k) : k < n ∧ m (75 + 2 * k) = a := by
  induction n with
  | zero => cases h
  | succ n ih =>
    unfold lasti at h
    by_cases q : m (75 + 2 * n) = a
    · rw [if_pos q] at h
      cases h
      exact ⟨Nat.lt_succ_self _, q⟩
    · rw [if_neg q] at h
      exact ⟨Nat.lt_succ_of_lt (ih h).1, (ih h).2⟩
theorem lasti_no {m : Row} {a : Int32} {n k : Nat} (h : lasti m a n = none) (hk : k < n) : ¬ m (75 + 2 * k) = a := by
  induction n with
  | zero => omega
  | succ n ih =>
    unfold lasti at h
    by_cases q : m (75 + 2 * n) = a
    · rw [if_pos q] at h
      cases h
    · rw [if_neg q] at h
      rcases Nat.lt_succ_iff_lt_or_eq.mp hk with h1 | h1
      · exact ih h h1
      · subst h1; exact q
theorem lastw_i (m : Row) (a : Int32) (n : Nat) : lastw m a n = (lasti m a n).elim (-99999) Int32.ofNat := by
  induction n with
  | zero => rfl
  | succ n ih =>
    unfold lastw lasti
    by_cases q : m (75 + 2 * n) = a
    · rw [if_pos q, if_pos q]; rfl
    · rw [if_neg q, if_neg q, ih]
theorem nat_none {k : Nat} (hk : k < 2147483648) : ¬ Int32.ofNat k = -99999 := by
  rw [← Int32.toInt_inj, ti_nat hk]
  have : (-99999 : Int32).toInt = -99999 := by decide
  omega
def addh (m : Row) (p : Nat) (u : Int32) : Row := if p < 8 then upd m (18 + p) (m (18 + p) + u) else m
def subh (m : Row) (p : Nat) (u : Int32) : Row := if p < 8 then upd m (18 + p) (m (18 + p) - u) else m
def codeOf (f t : Nat) : Int32 := Int32.ofNat (10 * f + t)
theorem codeOf_e (f t : Nat) : (10 : Int32) * Int32.ofNat f + Int32.ofNat t = codeOf f t := by
  rw [show (10 : Int32) = Int32.ofNat 10 from rfl, nn_m, nn_a]
  rfl
/-- the ledger after a way got u more -/
def wayf (m : Row) (f t : Nat) (u : Int32) (n : Nat) : Row := match lasti m (codeOf f t) n with
  | some k => upd m (76 + 2 * k) (m (76 + 2 * k) + u)
  | none => upd (upd (upd (upd m (75 + 2 * n) (codeOf f t)) (76 + 2 * n) 0) 74 (m 74 + 1)) (76 + 2 * n) (0 + u)
def gof (m : Row) (f t : Nat) (u : Int32) (n : Nat) : Row := if u ≤ 0 then m else addh (subh (wayf m f t u n) f u) t u
theorem cu_e (c : Reg) (j i : Nat) (v : Int32) : cu c j i v = va_up c j (upd (c j) i v) := rfl
theorem upd_s (m : Row) (k : Nat) (v : Int32) : upd m k v k = v := by simp [upd]
theorem upd_n (m : Row) {k i : Nat} (v : Int32) (h : i ≠ k) : upd m k v i = m i := by simp [upd, h]
theorem n8 {p : Nat} (hp : p ≤ 9) : (8 : Int32) ≤ Int32.ofNat p ↔ 8 ≤ p := nn_le (a := 8) (by omega) (by omega)
