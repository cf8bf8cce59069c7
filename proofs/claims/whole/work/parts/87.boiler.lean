/-! the boiler -/
def turnf (m : Row) (a : Int32) : Row := upd (upd (upd m 3 a) 4 (m 1)) 8 (m 8 + a)
abbrev mustf (m : Row) : Prop := 90 ≤ degf m 0 ∨ (¬ (m 1 - m 4 < m 11) ∧ (m 6 = 1 ∨ ¬ degf m 0 < m 10 + 5))
abbrev mayf (m : Row) : Prop := ¬ (m 1 - m 4 < m 12) ∧ m 6 = 0 ∧ ¬ m 9 = 0 ∧ ¬ m 10 ≤ degf m 0
def boil1 (m : Row) : Row := if m 3 = 1 then (if mustf m then turnf m 0 else m) else (if mayf m then turnf m 1 else m)
def boilf (m : Row) (w : Nat) : Row := if boil1 m 3 = 1 then gof (boil1 m) 9 0 (boil1 m 9) w else boil1 m
def waysBoil (m : Row) (w : Nat) : Nat := if boil1 m 3 = 1 then waysGo (boil1 m) 9 0 w (boil1 m 9) else w
theorem Dist.cong {w : Nat} {m m' : Row} (h : Dist w m) (e : ∀ i, 74 ≤ i → m' i = m i) : Dist w m' := fun k k' h1 h2 h3 => h k k' h1 h2 (by rw [e _ (by omega), e _ (by omega)] at h3; exact h3)
theorem WOk.cong {w : Nat} {m m' : Row} (h : WOk w m) (e : ∀ i, 74 ≤ i → m' i = m i) : WOk w m' := fun k hk => by
  rw [e _ (by omega)]
  exact h k hk
theorem turnf_at {m : Row} {a : Int32} {i : Nat} (h : 9 ≤ i) : turnf m a i = m i := by
  unfold turnf
  rw [upd_n _ _ (by omega), upd_n _ _ (by omega), upd_n _ _ (by omega)]
theorem boil1_at {m : Row} {i : Nat} (h : 9 ≤ i) : boil1 m i = m i := by
  unfold boil1
  split
  · split
    · exact turnf_at h
    · rfl
  · split
    · exact turnf_at h
    · rfl
theorem cap0 (m : Row) : 0 < (capf m 0).toInt := by
  show 0 < (40 : Int32).toInt
  decide
theorem cap1 (m : Row) : 0 < (capf m 1).toInt := by
  show 0 < (60 : Int32).toInt
  decide
theorem s6_goB106 {j w : Nat} {c : Reg} {P : Reg → Prop} (hw : w ≤ 26) (h74 : c j 74 = Int32.ofNat w) (hd : Dist w (c j)) (hk : WOk w (c j)) (h : P (va_up c j (if c j 3 = 1 then gof (c j) 9 0 (c j 9) w else c j))) : wX6_goBoiler_L106 j P c := by
  refine ⟨fun q => ?_, fun q => ?_⟩
  · rw [if_neg q, va_ue] at h
    exact h
  · rw [if_pos q] at h
    exact s6_go (f := 9) (t := 0) (by decide) (by decide) hw h74 (fun hl => pigeon hd hk (a := 90) (by decide) hl) h
theorem s6_goBoiler {j w : Nat} {c : Reg} {P : Reg → Prop} (hw : w ≤ 26) (h74 : c j 74 = Int32.ofNat w) (hd : Dist w (c j)) (hk : WOk w (c j)) (h : P (va_up c j (boilf (c j) w))) : wX6_goBoiler j c P := by
  have stay : boil1 (c j) = c j → wX6_goBoiler_L106 j P c := by
    intro e
    unfold boilf at h
    rw [e] at h
    exact s6_goB106 hw h74 hd hk h
  have turned : ∀ a, boil1 (c j) = turnf (c j) a → wX6_turn j a c (fun c3 => wX6_goBoiler_L106 j P c3) := by
    intro a e
    unfold boilf at h
    rw [e] at h
    show wX6_goBoiler_L106 j P (cu (cu (cu c j 3 a) j 4 ((cu c j 3 a) j 1)) j 8 (((cu (cu c j 3 a) j 4 ((cu c j 3 a) j 1)) j 8) + a))
    have ec : cu (cu (cu c j 3 a) j 4 ((cu c j 3 a) j 1)) j 8 (((cu (cu c j 3 a) j 4 ((cu c j 3 a) j 1)) j 8) + a) = va_up c j (turnf (c j) a) := by
      simp only [cu_e, va_us, va_uu]
      rw [upd_n _ _ (by decide : (1 : Nat) ≠ 3), upd_n _ _ (by decide : (8 : Nat) ≠ 4), upd_n _ _ (by decide : (8 : Nat) ≠ 3)]
      rfl
    rw [ec]
    have e74 : ∀ i, 74 ≤ i → va_up c j (turnf (c j) a) j i = c j i := fun i hi => by rw [va_us]; exact turnf_at (by omega)
    refine s6_goB106 hw (by rw [e74 74 (by omega)]; exact h74) (hd.cong e74) (hk.cong e74) ?_
    rw [va_us, va_uu]
    exact h
  refine s6_degrees (p := 0) (by decide) (cap0 _) ⟨fun q3 => ?_, fun q3 => ?_⟩
  · have e0 : ∀ b, boil1 (c j) = b ↔ (if mayf (c j) then turnf (c j) 1 else c j) = b := fun b => by unfold boil1; rw [if_neg q3]
    refine ⟨fun q => stay ((e0 _).mpr (if_neg (fun e => e.1 q))), fun q => ⟨fun q2 => stay ((e0 _).mpr (if_neg (fun e => q2 e.2.1))), fun q2 => ⟨fun q4 => stay ((e0 _).mpr (if_neg (fun e => e.2.2.1 q4))), fun q4 => ⟨fun q5 => stay ((e0 _).mpr (if_neg (fun e => e.2.2.2 q5))), fun q5 => turned 1 ((e0 _).mpr (if_pos ⟨q, q2, q4, q5⟩))⟩⟩⟩⟩
  · have e0 : ∀ b, boil1 (c j) = b ↔ (if mustf (c j) then turnf (c j) 0 else c j) = b := fun b => by unfold boil1; rw [if_pos q3]
    have l52 : ∀ s0 : Int32, (s0 = 0 ↔ ¬ (¬ (c j 1 - c j 4 < c j 11) ∧ (c j 6 = 1 ∨ ¬ degf (c j) 0 < c j 10 + 5))) → wX6_goBoiler_L52 j P (degf (c j) 0) s0 c := by
      intro s0 hs0
      refine ⟨fun q => turned 0 ((e0 _).mpr (if_pos (Or.inl q))), fun q => ⟨fun q2 => stay ((e0 _).mpr (if_neg ?_)), fun q2 => turned 0 ((e0 _).mpr (if_pos ?_))⟩⟩
      · rintro (g | g)
        · exact q g
        · exact hs0.mp q2 g
      · exact Or.inr (Decidable.of_not_not (fun g => q2 (hs0.mpr g)))
    have z : ¬ (1 : Int32) = 0 := by decide
    refine ⟨fun q => l52 0 (by simp [q]), fun q => ⟨fun q2 => l52 1 (by simp [q, q2]), fun q2 => ⟨fun q4 => l52 0 (by simp [q2, q4]), fun q4 => l52 1 (by simp [q, q4])⟩⟩⟩
