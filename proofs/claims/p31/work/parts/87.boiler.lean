/-! the boiler -/
def turnf (m : Row) (a : Int32) : Row := upd (upd (upd m 3 a) 4 (m 1)) 8 (m 8 + a)
abbrev mustf (m : Row) : Prop := 90 ≤ degf m 0 ∨ (¬ (m 1 - m 4 < m 11) ∧ (m 6 = 1 ∨ ¬ degf m 0 < m 10 + 5))
abbrev mayf (m : Row) : Prop := ¬ (m 1 - m 4 < m 12) ∧ m 6 = 0 ∧ ¬ m 9 = 0 ∧ ¬ m 10 ≤ degf m 0
def boil1 (m : Row) : Row := if m 3 = 1 then (if mustf m then turnf m 0 else m) else (if mayf m then turnf m 1 else m)
def boilf (m : Row) (w : Nat) : Row := if boil1 m 3 = 1 then gof (boil1 m) 9 0 (boil1 m 9) w else boil1 m
def waysBoil (m : Row) (w : Nat) : Nat := if boil1 m 3 = 1 then waysGo (boil1 m) 9 0 w (boil1 m 9) else w
theorem Dist.cong {w : Nat} {m m' : Row} (h : Dist w m) (e : ∀ i, 74 ≤ i → m' i = m i) : Dist w m' := fun k k' h1 h2 h3 => h k k' h1 h2 (by rw [e _ (by omega), e _ (by omega)] at h3; exact h3)
theorem WOk.cong {w : Nat} {m m' : Row} (h : WOk w m) (e : ∀ i, 74 ≤ i → m' i = m i) : WOk w m' := fun k hk => by
  rw [e _ (by omega)]
  exact h k hk
theorem turnf_at {m : Row} {a : Int32} {i : Nat} (h : 9 ≤ i) : turnf m a i = m i := by
  unfold turnf
  rw [upd_n _ _ (by omega), upd_n _ _ (by omega), upd_n _ _ (by omega)]
theorem boil1_at {m : Row} {i : Nat} (h : 9 ≤ i) : boil1 m i = m i := by
  unfold boil1
  split
  · split
    · exact turnf_at h
    · rfl
  · split
    · exact turnf_at h
    · rfl
theorem cap0 (m : Row) : 0 < (capf m 0).toInt := by
  show 0 < (40 : Int32).toInt
  decide
theorem cap1 (m : Row) : 0 < (capf m 1).toInt := by
  show 0 < (60 : Int32).toInt
  decide
