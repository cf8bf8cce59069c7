/-! mixing -/
def mixd (m : Row) : Int32 := degf m 0 - degf m 1
def mixu (m : Row) : Int32 := m 15 * m 5 * mixd m / 100
def mixf (m : Row) (w : Nat) : Row := if mixd m ≤ 0 then m else gof m 0 1 (mixu m) w
def waysMix (m : Row) (w : Nat) : Nat := if mixd m ≤ 0 then w else waysGo m 0 1 w (mixu m)
theorem s3_mix {n w : Nat} {c : Reg} {m : Row} {P : Reg → Prop} (R : Rel n w c m) (hn : n ≤ 6) (hw : w ≤ 26) (hd : Dist w m) (hk : WOk w m) (h : ∀ c' : Reg, Rel n (waysMix m w) c' (mixf m w) → P c') : wX3_mix c P := by
  have r5 : c 0 5 = m 5 := R.1.2.2.2.2.2.1
  unfold mixf waysMix at h
  refine s3_degrees (p := 0) R hn (by omega) (cap0 m) (s3_degrees (p := 1) R hn (by omega) (cap1 m) ⟨fun q => ?_, fun q => s3_settingOf (k := 6) R (by decide) ?_⟩)
  · rw [if_pos (show mixd m ≤ 0 from q), if_pos (show mixd m ≤ 0 from q)] at h
    exact h c R
  · rw [if_neg (show ¬ mixd m ≤ 0 from q), if_neg (show ¬ mixd m ≤ 0 from q)] at h
    rw [r5]
    exact s3_move (f := 0) (t := 1) R hn hw hd hk (Or.inl (by omega)) (Or.inl (by omega)) (by decide) h
