theorem law_pure (L : Nat) (xs : Nat → Int32) (hL : L ≤ 2560) : wL_loop L xs 513 0 M1 (fun _ => 0) := by
  sorry
