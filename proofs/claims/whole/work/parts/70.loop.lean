theorem sw_0_27 (x : Int32) : (x.toInt < 0 ∨ 27 < x.toInt) ∨ (x = 0 ∨ x = 1 ∨ x = 2 ∨ x = 3 ∨ x = 4 ∨ x = 5 ∨ x = 6 ∨ x = 7 ∨ x = 8 ∨ x = 9 ∨ x = 10 ∨ x = 11 ∨ x = 12 ∨ x = 13 ∨ x = 14 ∨ x = 15 ∨ x = 16 ∨ x = 17 ∨ x = 18 ∨ x = 19 ∨ x = 20 ∨ x = 21 ∨ x = 22 ∨ x = 23 ∨ x = 24 ∨ x = 25 ∨ x = 26 ∨ x = 27) := by
  by_cases h : x.toInt < 0 ∨ 27 < x.toInt
  · exact Or.inl h
  · refine Or.inr ?_
    rcases (by omega : x.toInt = 0 ∨ x.toInt = 1 ∨ x.toInt = 2 ∨ x.toInt = 3 ∨ x.toInt = 4 ∨ x.toInt = 5 ∨ x.toInt = 6 ∨ x.toInt = 7 ∨ x.toInt = 8 ∨ x.toInt = 9 ∨ x.toInt = 10 ∨ x.toInt = 11 ∨ x.toInt = 12 ∨ x.toInt = 13 ∨ x.toInt = 14 ∨ x.toInt = 15 ∨ x.toInt = 16 ∨ x.toInt = 17 ∨ x.toInt = 18 ∨ x.toInt = 19 ∨ x.toInt = 20 ∨ x.toInt = 21 ∨ x.toInt = 22 ∨ x.toInt = 23 ∨ x.toInt = 24 ∨ x.toInt = 25 ∨ x.toInt = 26 ∨ x.toInt = 27) with h | h | h | h | h | h | h | h | h | h | h | h | h | h | h | h | h | h | h | h | h | h | h | h | h | h | h | h
    · exact Or.inl (Int32.toInt_inj.mp h)
    · exact Or.inr (Or.inl (Int32.toInt_inj.mp h))
    · exact Or.inr (Or.inr (Or.inl (Int32.toInt_inj.mp h)))
    · exact Or.inr (Or.inr (Or.inr (Or.inl (Int32.toInt_inj.mp h))))
    · exact Or.inr (Or.inr (Or.inr (Or.inr (Or.inl (Int32.toInt_inj.mp h)))))
    · exact Or.inr (Or.inr (Or.inr (Or.inr (Or.inr (Or.inl (Int32.toInt_inj.mp h))))))
    · exact Or.inr (Or.inr (Or.inr (Or.inr (Or.inr (Or.inr (Or.inl (Int32.toInt_inj.mp h)))))))
    · exact Or.inr (Or.inr (Or.inr (Or.inr (Or.inr (Or.inr (Or.inr (Or.inl (Int32.toInt_inj.mp h))))))))
    · exact Or.inr (Or.inr (Or.inr (Or.inr (Or.inr (Or.inr (Or.inr (Or.inr (Or.inl (Int32.toInt_inj.mp h)))))))))
    · exact Or.inr (Or.inr (Or.inr (Or.inr (Or.inr (Or.inr (Or.inr (Or.inr (Or.inr (Or.inl (Int32.toInt_inj.mp h))))))))))
    · exact Or.inr (Or.inr (Or.inr (Or.inr (Or.inr (Or.inr (Or.inr (Or.inr (Or.inr (Or.inr (Or.inl (Int32.toInt_inj.mp h)))))))))))
    · exact Or.inr (Or.inr (Or.inr (Or.inr (Or.inr (Or.inr (Or.inr (Or.inr (Or.inr (Or.inr (Or.inr (Or.inl (Int32.toInt_inj.mp h))))))))))))
    · exact Or.inr (Or.inr (Or.inr (Or.inr (Or.inr (Or.inr (Or.inr (Or.inr (Or.inr (Or.inr (Or.inr (Or.inr (Or.inl (Int32.toInt_inj.mp h)))))))))))))
    · exact Or.inr (Or.inr (Or.inr (Or.inr (Or.inr (Or.inr (Or.inr (Or.inr (Or.inr (Or.inr (Or.inr (Or.inr (Or.inr (Or.inl (Int32.toInt_inj.mp h))))))))))))))
    · exact Or.inr (Or.inr (Or.inr (Or.inr (Or.inr (Or.inr (Or.inr (Or.inr (Or.inr (Or.inr (Or.inr (Or.inr (Or.inr (Or.inr (Or.inl (Int32.toInt_inj.mp h)))))))))))))))
    · exact Or.inr (Or.inr (Or.inr (Or.inr (Or.inr (Or.inr (Or.inr (Or.inr (Or.inr (Or.inr (Or.inr (Or.inr (Or.inr (Or.inr (Or.inr (Or.inl (Int32.toInt_inj.mp h))))))))))))))))
    · exact Or.inr (Or.inr (Or.inr (Or.inr (Or.inr (Or.inr (Or.inr (Or.inr (Or.inr (Or.inr (Or.inr (Or.inr (Or.inr (Or.inr (Or.inr (Or.inr (Or.inl (Int32.toInt_inj.mp h)))))))))))))))))
    · exact Or.inr (Or.inr (Or.inr (Or.inr (Or.inr (Or.inr (Or.inr (Or.inr (Or.inr (Or.inr (Or.inr (Or.inr (Or.inr (Or.inr (Or.inr (Or.inr (Or.inr (Or.inl (Int32.toInt_inj.mp h))))))))))))))))))
    · exact Or.inr (Or.inr (Or.inr (Or.inr (Or.inr (Or.inr (Or.inr (Or.inr (Or.inr (Or.inr (Or.inr (Or.inr (Or.inr (Or.inr (Or.inr (Or.inr (Or.inr (Or.inr (Or.inl (Int32.toInt_inj.mp h)))))))))))))))))))
    · exact Or.inr (Or.inr (Or.inr (Or.inr (Or.inr (Or.inr (Or.inr (Or.inr (Or.inr (Or.inr (Or.inr (Or.inr (Or.inr (Or.inr (Or.inr (Or.inr (Or.inr (Or.inr (Or.inr (Or.inl (Int32.toInt_inj.mp h))))))))))))))))))))
    · exact Or.inr (Or.inr (Or.inr (Or.inr (Or.inr (Or.inr (Or.inr (Or.inr (Or.inr (Or.inr (Or.inr (Or.inr (Or.inr (Or.inr (Or.inr (Or.inr (Or.inr (Or.inr (Or.inr (Or.inr (Or.inl (Int32.toInt_inj.mp h)))))))))))))))))))))
    · exact Or.inr (Or.inr (Or.inr (Or.inr (Or.inr (Or.inr (Or.inr (Or.inr (Or.inr (Or.inr (Or.inr (Or.inr (Or.inr (Or.inr (Or.inr (Or.inr (Or.inr (Or.inr (Or.inr (Or.inr (Or.inr (Or.inl (Int32.toInt_inj.mp h))))))))))))))))))))))
    · exact Or.inr (Or.inr (Or.inr (Or.inr (Or.inr (Or.inr (Or.inr (Or.inr (Or.inr (Or.inr (Or.inr (Or.inr (Or.inr (Or.inr (Or.inr (Or.inr (Or.inr (Or.inr (Or.inr (Or.inr (Or.inr (Or.inr (Or.inl (Int32.toInt_inj.mp h)))))))))))))))))))))))
    · exact Or.inr (Or.inr (Or.inr (Or.inr (Or.inr (Or.inr (Or.inr (Or.inr (Or.inr (Or.inr (Or.inr (Or.inr (Or.inr (Or.inr (Or.inr (Or.inr (Or.inr (Or.inr (Or.inr (Or.inr (Or.inr (Or.inr (Or.inr (Or.inl (Int32.toInt_inj.mp h))))))))))))))))))))))))
    · exact Or.inr (Or.inr (Or.inr (Or.inr (Or.inr (Or.inr (Or.inr (Or.inr (Or.inr (Or.inr (Or.inr (Or.inr (Or.inr (Or.inr (Or.inr (Or.inr (Or.inr (Or.inr (Or.inr (Or.inr (Or.inr (Or.inr (Or.inr (Or.inr (Or.inl (Int32.toInt_inj.mp h)))))))))))))))))))))))))
    · exact Or.inr (Or.inr (Or.inr (Or.inr (Or.inr (Or.inr (Or.inr (Or.inr (Or.inr (Or.inr (Or.inr (Or.inr (Or.inr (Or.inr (Or.inr (Or.inr (Or.inr (Or.inr (Or.inr (Or.inr (Or.inr (Or.inr (Or.inr (Or.inr (Or.inr (Or.inl (Int32.toInt_inj.mp h))))))))))))))))))))))))))
    · exact Or.inr (Or.inr (Or.inr (Or.inr (Or.inr (Or.inr (Or.inr (Or.inr (Or.inr (Or.inr (Or.inr (Or.inr (Or.inr (Or.inr (Or.inr (Or.inr (Or.inr (Or.inr (Or.inr (Or.inr (Or.inr (Or.inr (Or.inr (Or.inr (Or.inr (Or.inr (Or.inl (Int32.toInt_inj.mp h)))))))))))))))))))))))))))
    · exact Or.inr (Or.inr (Or.inr (Or.inr (Or.inr (Or.inr (Or.inr (Or.inr (Or.inr (Or.inr (Or.inr (Or.inr (Or.inr (Or.inr (Or.inr (Or.inr (Or.inr (Or.inr (Or.inr (Or.inr (Or.inr (Or.inr (Or.inr (Or.inr (Or.inr (Or.inr (Or.inr (Int32.toInt_inj.mp h)))))))))))))))))))))))))))
def wL_S (L : Nat) (xs : Nat → Int32) (v4 : Int32) (K : Mem → (Nat → Int64) → Prop) (M : Mem) (O : Nat → Int64) : Prop := ((xs (Int32.toNatClampNeg v4) &&& 31).toInt < 0 ∨ 27 < (xs (Int32.toNatClampNeg v4) &&& 31).toInt → K M O) ∧ ((xs (Int32.toNatClampNeg v4) &&& 31) = 0 → wL_law_C0 L xs v4 K M O) ∧ ((xs (Int32.toNatClampNeg v4) &&& 31) = 1 → wL_law_C1 L xs v4 K M O) ∧ ((xs (Int32.toNatClampNeg v4) &&& 31) = 2 → wL_law_C2 L xs v4 K M O) ∧ ((xs (Int32.toNatClampNeg v4) &&& 31) = 3 → wL_law_C3 L xs v4 K M O) ∧ ((xs (Int32.toNatClampNeg v4) &&& 31) = 4 → wL_law_C4 L xs v4 K M O) ∧ ((xs (Int32.toNatClampNeg v4) &&& 31) = 5 → wL_law_C5 L xs v4 K M O) ∧ ((xs (Int32.toNatClampNeg v4) &&& 31) = 6 → wL_law_C6 L xs v4 K M O) ∧ ((xs (Int32.toNatClampNeg v4) &&& 31) = 7 → wL_law_C7 L xs v4 K M O) ∧ ((xs (Int32.toNatClampNeg v4) &&& 31) = 8 → wL_law_C8 L xs v4 K M O) ∧ ((xs (Int32.toNatClampNeg v4) &&& 31) = 9 → wL_law_C9 L xs v4 K M O) ∧ ((xs (Int32.toNatClampNeg v4) &&& 31) = 10 → wL_law_C10 L xs v4 K M O) ∧ ((xs (Int32.toNatClampNeg v4) &&& 31) = 11 → wL_law_C11 L xs v4 K M O) ∧ ((xs (Int32.toNatClampNeg v4) &&& 31) = 12 → wL_law_C12 L xs v4 K M O) ∧ ((xs (Int32.toNatClampNeg v4) &&& 31) = 13 → wL_law_C13 L xs v4 K M O) ∧ ((xs (Int32.toNatClampNeg v4) &&& 31) = 14 → wL_law_C14 L xs v4 K M O) ∧ ((xs (Int32.toNatClampNeg v4) &&& 31) = 15 → wL_law_C15 L xs v4 K M O) ∧ ((xs (Int32.toNatClampNeg v4) &&& 31) = 16 → wL_law_C16 L xs v4 K M O) ∧ ((xs (Int32.toNatClampNeg v4) &&& 31) = 17 → wL_law_C17 L xs v4 K M O) ∧ ((xs (Int32.toNatClampNeg v4) &&& 31) = 18 → wL_law_C18 L xs v4 K M O) ∧ ((xs (Int32.toNatClampNeg v4) &&& 31) = 19 → wL_law_C19 L xs v4 K M O) ∧ ((xs (Int32.toNatClampNeg v4) &&& 31) = 20 → wL_law_C20 L xs v4 K M O) ∧ ((xs (Int32.toNatClampNeg v4) &&& 31) = 21 → wL_law_C21 L xs v4 K M O) ∧ ((xs (Int32.toNatClampNeg v4) &&& 31) = 22 → wL_law_C22 L xs v4 K M O) ∧ ((xs (Int32.toNatClampNeg v4) &&& 31) = 23 → wL_law_C23 L xs v4 K M O) ∧ ((xs (Int32.toNatClampNeg v4) &&& 31) = 24 → wL_law_C24 L xs v4 K M O) ∧ ((xs (Int32.toNatClampNeg v4) &&& 31) = 25 → wL_law_C25 L xs v4 K M O) ∧ ((xs (Int32.toNatClampNeg v4) &&& 31) = 26 → wL_law_C26 L xs v4 K M O) ∧ ((xs (Int32.toNatClampNeg v4) &&& 31) = 27 → wL_law_C27 L xs v4 K M O)
def wL_loop (L : Nat) (xs : Nat → Int32) : Nat → Int32 → Mem → (Nat → Int64) → Prop
  | 0, _, _, _ => False
  | N + 1, v4, M, O => ¬ (Int32.ofNat L - 5 < v4) → vp_in v4 L ∧ wL_S L xs v4 (wL_loop L xs N (v4 + 5)) M O
set_option maxHeartbeats 4000000 in
set_option maxRecDepth 20000 in
theorem c_loop {Γ : Cx} {Λ : Lay} {B : Nat} {ids : List (Nat × Nat)} {ad : Nat → Nat → Nat} {b L : Nat} {xs : Nat → Int32} (hO : Ok Γ RL cL_law 8 room_1 Λ B) (hL : LX Γ b L xs) (hcc : cL_law = code) (hm : ∀ q, q ∈ ids0 → q ∈ ids) (hnr : (20, 6) ∉ ids) : ∀ (N k z : Nat) (v4 : Int32) (M : Mem) (O : Nat → Int64), k + 2 * N ≤ 601024 → z + 9 * N ≤ 7293034 → wL_loop L xs N v4 M O → G Γ ids ad k z (sh Λ ad M O) 23 [(4, .int v4), (3, .ref (ad 22 0)), (2, .ref (ad 21 0)), (1, .ref (ad 20 0)), (0, .ref b)] [] := by
  intro N
  induction N with
  | zero => intro k z v4 M O _ _ hs; exact False.elim hs
  | succ N ih =>
    intro k z v4 M O hk hz hs
    have hs : ¬ (Int32.ofNat L - 5 < v4) → vp_in v4 L ∧ wL_S L xs v4 (wL_loop L xs N (v4 + 5)) M O := hs
    refine G_iload hO 0 dL_law_23 rfl ?_
    refine G_aload_n hO 4 dL_law_25 rfl rfl ?_
    refine L_alen hO hL dL_law_26 ?_
    refine G_iconst hO 5 dL_law_27 (by decide) ?_
    refine G_isub hO dL_law_28 ?_
    refine G_icmp_gt hO 1789 dL_law_29 (by decide) (fun h => ?_) (fun h => ?_)
    · refine G_iconst hO 1 dL_law_1789 (by decide) ?_
      exact L_ret (st := []) hO hL hcc (by omega) (by omega) dL_law_1790
    obtain ⟨hin, hs⟩ := hs h
    refine G_aload_n hO 4 dL_law_32 rfl rfl ?_
    refine G_iload hO 0 dL_law_33 rfl ?_
    refine L_iald hO hL hin dL_law_35 ?_
    refine G_bipush hO 31 dL_law_36 (by decide) ?_
    refine G_iand hO dL_law_38 ?_
    have hK : ∀ (M : Mem) (O : Nat → Int64), wL_loop L xs N (v4 + 5) M O → G Γ ids ad (k + 2) (z + 9) (sh Λ ad M O) 1783 [(4, .int v4), (3, .ref (ad 22 0)), (2, .ref (ad 21 0)), (1, .ref (ad 20 0)), (0, .ref b)] [] := by
      intro M O hs
      refine G_iinc hO 0 (v4 + 5) [(4, .int (v4 + 5)), (3, .ref (ad 22 0)), (2, .ref (ad 21 0)), (1, .ref (ad 20 0)), (0, .ref b)] dL_law_1783 rfl rfl (by decide) rfl ?_
      refine G_goto hO 23 dL_law_1786 (by decide) ?_
      exact ih (k + 2) (z + 9) (v4 + 5) M O (by omega) (by omega) hs
    have hk2 : k + 2 ≤ 601024 := by omega
    have hz2 : z + 9 ≤ 7293034 := by omega
    rcases sw_0_27 (xs (Int32.toNatClampNeg v4) &&& 31) with hq | hq
    · refine G_tableOut hO 1783 dL_law_39 hq (by decide) ?_
      exact G_widen hO (by omega) (by omega) (hK _ _ (hs.1 hq))
    · replace hs := hs.2
      rcases hq with hq | hq | hq | hq | hq | hq | hq | hq | hq | hq | hq | hq | hq | hq | hq | hq | hq | hq | hq | hq | hq | hq | hq | hq | hq | hq | hq | hq
      · refine G_tableIn hO 164 dL_law_39 (by rw [hq]; decide) (by rw [hq]; decide) (by rw [hq]; rfl) (by decide) ?_
        exact c_law_C0 hO hL hm hnr (hs.1 hq) hk2 hz2 hK
      · refine G_tableIn hO 220 dL_law_39 (by rw [hq]; decide) (by rw [hq]; decide) (by rw [hq]; rfl) (by decide) ?_
        exact c_law_C1 hO hL hm hnr (hs.2.1 hq) hk2 hz2 hK
      · refine G_tableIn hO 233 dL_law_39 (by rw [hq]; decide) (by rw [hq]; decide) (by rw [hq]; rfl) (by decide) ?_
        exact c_law_C2 hO hL hm hnr (hs.2.2.1 hq) hk2 hz2 hK
      · refine G_tableIn hO 246 dL_law_39 (by rw [hq]; decide) (by rw [hq]; decide) (by rw [hq]; rfl) (by decide) ?_
        exact c_law_C3 hO hL hm hnr (hs.2.2.2.1 hq) hk2 hz2 hK
      · refine G_tableIn hO 290 dL_law_39 (by rw [hq]; decide) (by rw [hq]; decide) (by rw [hq]; rfl) (by decide) ?_
        exact c_law_C4 hO hL hm hnr (hs.2.2.2.2.1 hq) hk2 hz2 hK
      · refine G_tableIn hO 346 dL_law_39 (by rw [hq]; decide) (by rw [hq]; decide) (by rw [hq]; rfl) (by decide) ?_
        exact c_law_C5 hO hL hm hnr (hs.2.2.2.2.2.1 hq) hk2 hz2 hK
      · refine G_tableIn hO 402 dL_law_39 (by rw [hq]; decide) (by rw [hq]; decide) (by rw [hq]; rfl) (by decide) ?_
        exact c_law_C6 hO hL hm hnr (hs.2.2.2.2.2.2.1 hq) hk2 hz2 hK
      · refine G_tableIn hO 470 dL_law_39 (by rw [hq]; decide) (by rw [hq]; decide) (by rw [hq]; rfl) (by decide) ?_
        exact c_law_C7 hO hL hm hnr (hs.2.2.2.2.2.2.2.1 hq) hk2 hz2 hK
      · refine G_tableIn hO 538 dL_law_39 (by rw [hq]; decide) (by rw [hq]; decide) (by rw [hq]; rfl) (by decide) ?_
        exact c_law_C8 hO hL hm hnr (hs.2.2.2.2.2.2.2.2.1 hq) hk2 hz2 hK
      · refine G_tableIn hO 606 dL_law_39 (by rw [hq]; decide) (by rw [hq]; decide) (by rw [hq]; rfl) (by decide) ?_
        exact c_law_C9 hO hL hm hnr (hs.2.2.2.2.2.2.2.2.2.1 hq) hk2 hz2 hK
      · refine G_tableIn hO 674 dL_law_39 (by rw [hq]; decide) (by rw [hq]; decide) (by rw [hq]; rfl) (by decide) ?_
        exact c_law_C10 hO hL hm hnr (hs.2.2.2.2.2.2.2.2.2.2.1 hq) hk2 hz2 hK
      · refine G_tableIn hO 766 dL_law_39 (by rw [hq]; decide) (by rw [hq]; decide) (by rw [hq]; rfl) (by decide) ?_
        exact c_law_C11 hO hL hm hnr (hs.2.2.2.2.2.2.2.2.2.2.2.1 hq) hk2 hz2 hK
      · refine G_tableIn hO 846 dL_law_39 (by rw [hq]; decide) (by rw [hq]; decide) (by rw [hq]; rfl) (by decide) ?_
        exact c_law_C12 hO hL hm hnr (hs.2.2.2.2.2.2.2.2.2.2.2.2.1 hq) hk2 hz2 hK
      · refine G_tableIn hO 930 dL_law_39 (by rw [hq]; decide) (by rw [hq]; decide) (by rw [hq]; rfl) (by decide) ?_
        exact c_law_C13 hO hL hm hnr (hs.2.2.2.2.2.2.2.2.2.2.2.2.2.1 hq) hk2 hz2 hK
      · refine G_tableIn hO 998 dL_law_39 (by rw [hq]; decide) (by rw [hq]; decide) (by rw [hq]; rfl) (by decide) ?_
        exact c_law_C14 hO hL hm hnr (hs.2.2.2.2.2.2.2.2.2.2.2.2.2.2.1 hq) hk2 hz2 hK
      · refine G_tableIn hO 1054 dL_law_39 (by rw [hq]; decide) (by rw [hq]; decide) (by rw [hq]; rfl) (by decide) ?_
        exact c_law_C15 hO hL hm hnr (hs.2.2.2.2.2.2.2.2.2.2.2.2.2.2.2.1 hq) hk2 hz2 hK
      · refine G_tableIn hO 1110 dL_law_39 (by rw [hq]; decide) (by rw [hq]; decide) (by rw [hq]; rfl) (by decide) ?_
        exact c_law_C16 hO hL hm hnr (hs.2.2.2.2.2.2.2.2.2.2.2.2.2.2.2.2.1 hq) hk2 hz2 hK
      · refine G_tableIn hO 1154 dL_law_39 (by rw [hq]; decide) (by rw [hq]; decide) (by rw [hq]; rfl) (by decide) ?_
        exact c_law_C17 hO hL hm hnr (hs.2.2.2.2.2.2.2.2.2.2.2.2.2.2.2.2.2.1 hq) hk2 hz2 hK
      · refine G_tableIn hO 1222 dL_law_39 (by rw [hq]; decide) (by rw [hq]; decide) (by rw [hq]; rfl) (by decide) ?_
        exact c_law_C18 hO hL hm hnr (hs.2.2.2.2.2.2.2.2.2.2.2.2.2.2.2.2.2.2.1 hq) hk2 hz2 hK
      · refine G_tableIn hO 1278 dL_law_39 (by rw [hq]; decide) (by rw [hq]; decide) (by rw [hq]; rfl) (by decide) ?_
        exact c_law_C19 hO hL hm hnr (hs.2.2.2.2.2.2.2.2.2.2.2.2.2.2.2.2.2.2.2.1 hq) hk2 hz2 hK
      · refine G_tableIn hO 1291 dL_law_39 (by rw [hq]; decide) (by rw [hq]; decide) (by rw [hq]; rfl) (by decide) ?_
        exact c_law_C20 hO hL hm hnr (hs.2.2.2.2.2.2.2.2.2.2.2.2.2.2.2.2.2.2.2.2.1 hq) hk2 hz2 hK
      · refine G_tableIn hO 1304 dL_law_39 (by rw [hq]; decide) (by rw [hq]; decide) (by rw [hq]; rfl) (by decide) ?_
        exact c_law_C21 hO hL hm hnr (hs.2.2.2.2.2.2.2.2.2.2.2.2.2.2.2.2.2.2.2.2.2.1 hq) hk2 hz2 hK
      · refine G_tableIn hO 1360 dL_law_39 (by rw [hq]; decide) (by rw [hq]; decide) (by rw [hq]; rfl) (by decide) ?_
        exact c_law_C22 hO hL hm hnr (hs.2.2.2.2.2.2.2.2.2.2.2.2.2.2.2.2.2.2.2.2.2.2.1 hq) hk2 hz2 hK
      · refine G_tableIn hO 1416 dL_law_39 (by rw [hq]; decide) (by rw [hq]; decide) (by rw [hq]; rfl) (by decide) ?_
        exact c_law_C23 hO hL hm hnr (hs.2.2.2.2.2.2.2.2.2.2.2.2.2.2.2.2.2.2.2.2.2.2.2.1 hq) hk2 hz2 hK
      · refine G_tableIn hO 1472 dL_law_39 (by rw [hq]; decide) (by rw [hq]; decide) (by rw [hq]; rfl) (by decide) ?_
        exact c_law_C24 hO hL hm hnr (hs.2.2.2.2.2.2.2.2.2.2.2.2.2.2.2.2.2.2.2.2.2.2.2.2.1 hq) hk2 hz2 hK
      · refine G_tableIn hO 1572 dL_law_39 (by rw [hq]; decide) (by rw [hq]; decide) (by rw [hq]; rfl) (by decide) ?_
        exact c_law_C25 hO hL hm hnr (hs.2.2.2.2.2.2.2.2.2.2.2.2.2.2.2.2.2.2.2.2.2.2.2.2.2.1 hq) hk2 hz2 hK
      · refine G_tableIn hO 1671 dL_law_39 (by rw [hq]; decide) (by rw [hq]; decide) (by rw [hq]; rfl) (by decide) ?_
        exact c_law_C26 hO hL hm hnr (hs.2.2.2.2.2.2.2.2.2.2.2.2.2.2.2.2.2.2.2.2.2.2.2.2.2.2.1 hq) hk2 hz2 hK
      · refine G_tableIn hO 1727 dL_law_39 (by rw [hq]; decide) (by rw [hq]; decide) (by rw [hq]; rfl) (by decide) ?_
        exact c_law_C27 hO hL hm hnr (hs.2.2.2.2.2.2.2.2.2.2.2.2.2.2.2.2.2.2.2.2.2.2.2.2.2.2.2 hq) hk2 hz2 hK
