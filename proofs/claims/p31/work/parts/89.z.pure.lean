theorem law_pure (L : Nat) (xs : Nat → Int32) (hL : L ≤ 260) : wL_law L xs (M0, M0) (fun _ _ => True) := sorry
