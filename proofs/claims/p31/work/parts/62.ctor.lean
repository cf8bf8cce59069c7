theorem c_X2_init {l : Launch} {Λ : Lay} {B : Zn} {ids : List (Nat × Nat)} {ad : Nat → Nat → Nat} {w : Nat → Nat → va_E} {A : Nat} : CT l yX2_init cX2_init 1 none { frames := 1, cells := 0, slots := 0, locals := 12 } Λ B ids ad w [.ref A] (Sm ids ad fun v w' => v = none ∧ w' = w) := by
  refine CT.ofI RX2 [(0, .ref A)] (plainFor_of_name (by decide +kernel)) rfl rfl (Nat.le_of_ble_eq_true rfl) rfl (fun Γ hO hN hF => ?_)
  refine G_aload_n hO 0 dX2_init_0 rfl rfl ?_
  refine G_objInit hO mw_61 (Nat.le_of_ble_eq_true rfl) (Nat.le_of_ble_eq_true rfl) dX2_init_1 ?_
  exact G_vret hO hF rfl (Nat.zero_le _) (Nat.zero_le _) dX2_init_4 ⟨rfl, rfl, rfl, rfl⟩
set_option maxHeartbeats 4000000 in
set_option maxRecDepth 20000 in
theorem c_X1_init {l : Launch} {Λ : Lay} {B : Zn} {ids : List (Nat × Nat)} {ad : Nat → Nat → Nat} {w : Nat → Nat → va_E} {n A : Nat} (hA : ad n 5 = A) (h5 : (n, 5) ∈ ids) (h6 : (n, 6) ∉ ids) (h7 : (n, 7) ∉ ids) (h8 : (n, 8) ∉ ids) (hw : w n 5 = .inr (1, [.null, .null, .null, .int 0])) : CT l yX1_init cX1_init 1 none { frames := 1, cells := 3, slots := 78, locals := 20 } Λ B ids ad w [.ref A] (fun v ids' ad' w' => v = none ∧ ids' = ids ++ [(n, 6)] ++ [(n, 7)] ++ [(n, 8)] ∧ ∃ a b c, ad' = ad2 (ad2 (ad2 ad n 6 a) n 7 b) n 8 c ∧ w' = up2 (up2 (up2 (up2 w n 6 (z26 Λ)) n 7 (z26 Λ)) n 8 (z26 Λ)) n 5 (.inr (1, [.ref a, .ref b, .ref c, .int 0]))) := by
  refine CT.ofI RX1 [(0, .ref A)] (plainFor_of_name (by decide +kernel)) rfl rfl (Nat.le_of_ble_eq_true rfl) rfl (fun Γ hO hN hF => ?_)
  refine G_aload_n hO 0 dX1_init_0 rfl rfl ?_
  refine G_objInit hO mw_36 (Nat.le_of_ble_eq_true rfl) (Nat.le_of_ble_eq_true rfl) dX1_init_1 ?_
  refine G_aload_n hO 0 dX1_init_4 rfl rfl ?_
  refine G_bipush hO 26 dX1_init_5 (by decide) ?_
  refine A_newaI hO 26 n 6 (by simp [h5, h6, h7, h8]) mw_56 (by decide) (by decide) (by decide) (Nat.le_of_ble_eq_true rfl) (Nat.le_of_ble_eq_true rfl) dX1_init_7 (fun a6 => ?_)
  refine A_putF (i := n) (j := 5) hO hN cl1 (by simp [ad2, hA]) (fs := [.null, .null, .null, .int 0]) 0 (by simp [h5, h6, h7, h8]) (by simp [up2, va_up, hw]) (by decide) mw_37 rfl rfl rfl rfl rfl (Nat.le_of_ble_eq_true rfl) dX1_init_9 ?_
  refine G_aload_n hO 0 dX1_init_12 rfl rfl ?_
  refine G_bipush hO 26 dX1_init_13 (by decide) ?_
  refine A_newaI hO 26 n 7 (by simp [h5, h6, h7, h8]) mw_56 (by decide) (by decide) (by decide) (Nat.le_of_ble_eq_true rfl) (Nat.le_of_ble_eq_true rfl) dX1_init_15 (fun a7 => ?_)
  refine A_putF (i := n) (j := 5) hO hN cl1 (by simp [ad2, hA]) (fs := [.ref a6, .null, .null, .int 0]) 1 (by simp [h5, h6, h7, h8]) (by simp [up2, va_up, hw]) (by decide) mw_39 rfl rfl rfl rfl rfl (Nat.le_of_ble_eq_true rfl) dX1_init_17 ?_
  refine G_aload_n hO 0 dX1_init_20 rfl rfl ?_
  refine G_bipush hO 26 dX1_init_21 (by decide) ?_
  refine A_newaI hO 26 n 8 (by simp [h5, h6, h7, h8]) mw_56 (by decide) (by decide) (by decide) (Nat.le_of_ble_eq_true rfl) (Nat.le_of_ble_eq_true rfl) dX1_init_23 (fun a8 => ?_)
  refine A_putF (i := n) (j := 5) hO hN cl1 (by simp [ad2, hA]) (fs := [.ref a6, .ref a7, .null, .int 0]) 2 (by simp [h5, h6, h7, h8]) (by simp [up2, va_up, hw]) (by decide) mw_41 rfl rfl rfl rfl rfl (Nat.le_of_ble_eq_true rfl) dX1_init_25 ?_
  refine G_cong hO (up2 (up2 (up2 (up2 w n 6 (z26 Λ)) n 7 (z26 Λ)) n 8 (z26 Λ)) n 5 (.inr (1, [.ref a6, .ref a7, .ref a8, .int 0]))) ?_ ?_
  · intro q hq
    obtain ⟨i, j⟩ := q
    by_cases hi : i = n
    · subst hi
      refine Or.inl ?_
      by_cases e5 : j = 5
      · subst e5; simp [up2, va_up]
      · by_cases e6 : j = 6
        · subst e6; simp [up2, va_up, z26]
        · by_cases e7 : j = 7
          · subst e7; simp [up2, va_up, z26]
          · by_cases e8 : j = 8
            · subst e8; simp [up2, va_up, z26]
            · simp [up2, va_up, e5, e6, e7, e8]
    · exact Or.inl (by simp [up2, va_up, hi])
  exact G_vret hO hF rfl (Nat.le_of_ble_eq_true rfl) (Nat.le_of_ble_eq_true rfl) dX1_init_28 ⟨rfl, rfl, a6, a7, a8, rfl, rfl⟩
set_option maxHeartbeats 4000000 in
set_option maxRecDepth 20000 in
theorem c_X3_init {l : Launch} {Λ : Lay} {B : Zn} {ids : List (Nat × Nat)} {ad : Nat → Nat → Nat} {w : Nat → Nat → va_E} {n : Nat} (hn0 : ∀ j, (n, j) ∈ ids ↔ j = 0) (hw : w n 0 = .inr (3, [.int 0, .int 0, .int 0, .int 0, .int 0, .int 0, .int 0, .int 0, .int 0, .null, .null, .null, .null, .null])) : CT l yX3_init cX3_init 2 none { frames := 2, cells := 14, slots := 155, locals := 80 } Λ B ids ad w [.ref (ad n 0)] (fun v ids' ad' w' => v = none ∧ ids' = ids ++ stL n ∧ (∃ f : Nat → Nat, f 0 = ad n 0 ∧ ad' = va_up ad n f) ∧ w' = va_up w n (stSh Λ ad' n cI)) := by
  refine CT.ofI RX3 [(0, .ref (ad n 0))] (plainFor_of_name (by decide +kernel)) rfl rfl (Nat.le_of_ble_eq_true rfl) rfl (fun Γ hO hN hF => ?_)
  refine G_aload_n hO 0 dX3_init_0 rfl rfl ?_
  refine G_objInit hO mw_28 (Nat.le_of_ble_eq_true rfl) (Nat.le_of_ble_eq_true rfl) dX3_init_1 ?_
  refine G_aload_n hO 0 dX3_init_4 rfl rfl ?_
  refine G_bipush hO 9 dX3_init_5 (by decide) ?_
  refine A_newaI hO 9 n 1 (by simp [hn0]) mw_56 (by decide) (by decide) (by decide) (Nat.le_of_ble_eq_true rfl) (Nat.le_of_ble_eq_true rfl) dX3_init_7 (fun a1 => ?_)
  refine A_putF (i := n) (j := 0) hO hN cl3 (by simp [ad2]) (fs := [.int 0, .int 0, .int 0, .int 0, .int 0, .int 0, .int 0, .int 0, .int 0, .null, .null, .null, .null, .null]) 9 (by simp [hn0]) (by simp [up2, va_up, hw, z26]) (by decide) mw_124 rfl rfl rfl rfl rfl (Nat.le_of_ble_eq_true rfl) dX3_init_9 ?_
  refine G_aload_n hO 0 dX3_init_12 rfl rfl ?_
  refine G_bipush hO 8 dX3_init_13 (by decide) ?_
  refine A_newaI hO 8 n 2 (by simp [hn0]) mw_56 (by decide) (by decide) (by decide) (Nat.le_of_ble_eq_true rfl) (Nat.le_of_ble_eq_true rfl) dX3_init_15 (fun a2 => ?_)
  refine A_putF (i := n) (j := 0) hO hN cl3 (by simp [ad2]) (fs := [.int 0, .int 0, .int 0, .int 0, .int 0, .int 0, .int 0, .int 0, .int 0, .ref a1, .null, .null, .null, .null]) 10 (by simp [hn0]) (by simp [up2, va_up, hw, z26]) (by decide) mw_125 rfl rfl rfl rfl rfl (Nat.le_of_ble_eq_true rfl) dX3_init_17 ?_
  refine G_aload_n hO 0 dX3_init_20 rfl rfl ?_
  refine G_bipush hO 8 dX3_init_21 (by decide) ?_
  refine A_newaI hO 8 n 3 (by simp [hn0]) mw_56 (by decide) (by decide) (by decide) (Nat.le_of_ble_eq_true rfl) (Nat.le_of_ble_eq_true rfl) dX3_init_23 (fun a3 => ?_)
  refine A_putF (i := n) (j := 0) hO hN cl3 (by simp [ad2]) (fs := [.int 0, .int 0, .int 0, .int 0, .int 0, .int 0, .int 0, .int 0, .int 0, .ref a1, .ref a2, .null, .null, .null]) 11 (by simp [hn0]) (by simp [up2, va_up, hw, z26]) (by decide) mw_126 rfl rfl rfl rfl rfl (Nat.le_of_ble_eq_true rfl) dX3_init_25 ?_
  refine G_aload_n hO 0 dX3_init_28 rfl rfl ?_
  refine G_bipush hO 6 dX3_init_29 (by decide) ?_
  refine A_newqR hO 6 n 4 (by simp [hn0]) mw_29 (by decide) (by decide) (by decide) (Nat.le_of_ble_eq_true rfl) (Nat.le_of_ble_eq_true rfl) dX3_init_31 (fun a4 => ?_)
  refine A_putF (i := n) (j := 0) hO hN cl3 (by simp [ad2]) (fs := [.int 0, .int 0, .int 0, .int 0, .int 0, .int 0, .int 0, .int 0, .int 0, .ref a1, .ref a2, .ref a3, .null, .null]) 12 (by simp [hn0]) (by simp [up2, va_up, hw, z26]) (by decide) mw_127 rfl rfl rfl rfl rfl (Nat.le_of_ble_eq_true rfl) dX3_init_34 ?_
  refine G_aload_n hO 0 dX3_init_37 rfl rfl ?_
  refine G_new hO (fs := [.null, .null, .null, .int 0]) cl1 n 5 (by simp [hn0]) mw_31 mw_32 mw_3 (by intro q hq; rcases (by omega : q = 0 ∨ q = 1 ∨ q = 2 ∨ q = 3) with h | h | h | h <;> subst h <;> rfl) (Nat.le_of_ble_eq_true rfl) (Nat.le_of_ble_eq_true rfl) dX3_init_38 (fun a5 => ?_)
  refine G_dup hO dX3_init_41 rfl ?_
  refine G_callIN hO (rest := [.ref a5, .ref (ad n 0)]) [] (fun l => c_X1_init (n := n) (A := a5) (by simp [ad2]) (by simp [hn0]) (by simp [hn0]) (by simp [hn0]) (by simp [hn0]) (by simp [up2, va_up, hw, z26])) cv_X1_init mw_34 rfl (fun _ h => h.1) rfl rfl (Nat.le_of_ble_eq_true rfl) (by decide) (by decide) dX3_init_42 ?_
  rintro v ids1 ad1 w1 ⟨rfl, rfl, a6, a7, a8, rfl, rfl⟩
  show G Γ _ _ 8 113 _ _ _ [.ref a5, .ref (ad n 0)]
  refine A_putF (i := n) (j := 0) hO hN cl3 (by simp [ad2]) (fs := [.int 0, .int 0, .int 0, .int 0, .int 0, .int 0, .int 0, .int 0, .int 0, .ref a1, .ref a2, .ref a3, .ref a4, .null]) 13 (by simp [hn0]) (by simp [up2, va_up, hw, z26]) (by decide) mw_129 rfl rfl rfl rfl rfl (Nat.le_of_ble_eq_true rfl) dX3_init_45 ?_
  refine G_iconst hO 0 dX3_init_48 (by decide) ?_
  refine G_istore_n hO [(1, .int 0), (0, .ref (ad n 0))] dX3_init_49 rfl (by decide) rfl ?_
  refine G_iload_n hO 0 dX3_init_50 rfl rfl ?_
  refine G_aload_n hO 1 dX3_init_51 rfl rfl ?_
  refine A_getf (i := n) (j := 0) hO cl3 (by simp [ad2]) (fs := [.int 0, .int 0, .int 0, .int 0, .int 0, .int 0, .int 0, .int 0, .int 0, .ref a1, .ref a2, .ref a3, .ref a4, .ref a5]) (v := .ref a4) 12 (by simp [hn0]) (by simp [up2, va_up, hw, z26]) (by decide) mw_127 rfl rfl dX3_init_52 ?_
  refine A_alen (i := n) (j := 4) hO (by simp [ad2]) (a := (6, .inr (.inr (.inr (.inr (fun _ => none)))))) (v := 6) 5 (by simp [hn0]) (by simp [up2, va_up, hw, z26]) rfl rfl dX3_init_55 ?_
  refine G_icmp_ge hO 78 dX3_init_56 (by decide) (fun h9 => absurd h9 (by decide)) (fun _ => ?_)
  refine G_aload_n hO 1 dX3_init_59 rfl rfl ?_
  refine A_getf (i := n) (j := 0) hO cl3 (by simp [ad2]) (fs := [.int 0, .int 0, .int 0, .int 0, .int 0, .int 0, .int 0, .int 0, .int 0, .ref a1, .ref a2, .ref a3, .ref a4, .ref a5]) (v := .ref a4) 12 (by simp [hn0]) (by simp [up2, va_up, hw, z26]) (by decide) mw_127 rfl rfl dX3_init_60 ?_
  refine G_iload_n hO 0 dX3_init_63 rfl rfl ?_
  refine G_new hO (fs := [.int 0, .int 0, .int 0, .int 0, .int 0, .int 0, .int 0]) cl2 n 9 (by simp [hn0]) mw_29 mw_57 mw_4 (by intro q hq; rcases (by omega : q = 0 ∨ q = 1 ∨ q = 2 ∨ q = 3 ∨ q = 4 ∨ q = 5 ∨ q = 6) with h | h | h | h | h | h | h <;> subst h <;> rfl) (Nat.le_of_ble_eq_true rfl) (Nat.le_of_ble_eq_true rfl) dX3_init_64 (fun b0 => ?_)
  refine G_dup hO dX3_init_67 rfl ?_
  refine G_callIN hO (rest := [.ref b0, .int 0, .ref a4]) [] (fun l => c_X2_init) cv_X2_init mw_59 rfl (fun _ h => h.2.1) rfl rfl (Nat.le_of_ble_eq_true rfl) (by decide) (by decide) dX3_init_68 ?_
  rintro v ids1 ad1 w1 ⟨rfl, rfl, rfl, rfl⟩
  show G Γ _ _ 9 120 _ _ _ [.ref b0, .int 0, .ref a4]
  refine A_aastR (n := 6) (i := n) (j := 4) (a := n) (b := 9) hO (by simp [ad2]) (by simp [ad2]) (f := (fun _ => none)) 0 (by decide) (vs := [.int 0, .int 0, .int 0, .int 0, .int 0, .int 0, .int 0]) (by simp [hn0]) (by simp [up2, va_up, hw, z26]) (by simp [hn0]) (by simp [up2, va_up, hw, z26]) (vp_lit (by decide)) dX3_init_71 ?_
  refine G_iinc hO 0 1 [(1, .int 1), (0, .ref (ad n 0))] dX3_init_72 rfl (by decide) (by decide) rfl ?_
  refine G_goto hO 50 dX3_init_75 (by decide) ?_
  refine G_iload_n hO 0 dX3_init_50 rfl rfl ?_
  refine G_aload_n hO 1 dX3_init_51 rfl rfl ?_
  refine A_getf (i := n) (j := 0) hO cl3 (by simp [ad2]) (fs := [.int 0, .int 0, .int 0, .int 0, .int 0, .int 0, .int 0, .int 0, .int 0, .ref a1, .ref a2, .ref a3, .ref a4, .ref a5]) (v := .ref a4) 12 (by simp [hn0]) (by simp [up2, va_up, hw, z26]) (by decide) mw_127 rfl rfl dX3_init_52 ?_
  refine A_alen (i := n) (j := 4) hO (by simp [ad2]) (a := (6, .inr (.inr (.inr (.inr (va_up (fun _ => none) 0 (some b0))))))) (v := 6) 5 (by simp [hn0]) (by simp [up2, va_up, hw, z26]) rfl rfl dX3_init_55 ?_
  refine G_icmp_ge hO 78 dX3_init_56 (by decide) (fun h9 => absurd h9 (by decide)) (fun _ => ?_)
  refine G_aload_n hO 1 dX3_init_59 rfl rfl ?_
  refine A_getf (i := n) (j := 0) hO cl3 (by simp [ad2]) (fs := [.int 0, .int 0, .int 0, .int 0, .int 0, .int 0, .int 0, .int 0, .int 0, .ref a1, .ref a2, .ref a3, .ref a4, .ref a5]) (v := .ref a4) 12 (by simp [hn0]) (by simp [up2, va_up, hw, z26]) (by decide) mw_127 rfl rfl dX3_init_60 ?_
  refine G_iload_n hO 0 dX3_init_63 rfl rfl ?_
  refine G_new hO (fs := [.int 0, .int 0, .int 0, .int 0, .int 0, .int 0, .int 0]) cl2 n 10 (by simp [hn0]) mw_29 mw_57 mw_4 (by intro q hq; rcases (by omega : q = 0 ∨ q = 1 ∨ q = 2 ∨ q = 3 ∨ q = 4 ∨ q = 5 ∨ q = 6) with h | h | h | h | h | h | h <;> subst h <;> rfl) (Nat.le_of_ble_eq_true rfl) (Nat.le_of_ble_eq_true rfl) dX3_init_64 (fun b1 => ?_)
  refine G_dup hO dX3_init_67 rfl ?_
  refine G_callIN hO (rest := [.ref b1, .int 1, .ref a4]) [] (fun l => c_X2_init) cv_X2_init mw_59 rfl (fun _ h => h.2.1) rfl rfl (Nat.le_of_ble_eq_true rfl) (by decide) (by decide) dX3_init_68 ?_
  rintro v ids1 ad1 w1 ⟨rfl, rfl, rfl, rfl⟩
  show G Γ _ _ 10 127 _ _ _ [.ref b1, .int 1, .ref a4]
  refine A_aastR (n := 6) (i := n) (j := 4) (a := n) (b := 10) hO (by simp [ad2]) (by simp [ad2]) (f := (va_up (fun _ => none) 0 (some b0))) 1 (by decide) (vs := [.int 0, .int 0, .int 0, .int 0, .int 0, .int 0, .int 0]) (by simp [hn0]) (by simp [up2, va_up, hw, z26]) (by simp [hn0]) (by simp [up2, va_up, hw, z26]) (vp_lit (by decide)) dX3_init_71 ?_
  refine G_iinc hO 0 2 [(1, .int 2), (0, .ref (ad n 0))] dX3_init_72 rfl (by decide) (by decide) rfl ?_
  refine G_goto hO 50 dX3_init_75 (by decide) ?_
  refine G_iload_n hO 0 dX3_init_50 rfl rfl ?_
  refine G_aload_n hO 1 dX3_init_51 rfl rfl ?_
  refine A_getf (i := n) (j := 0) hO cl3 (by simp [ad2]) (fs := [.int 0, .int 0, .int 0, .int 0, .int 0, .int 0, .int 0, .int 0, .int 0, .ref a1, .ref a2, .ref a3, .ref a4, .ref a5]) (v := .ref a4) 12 (by simp [hn0]) (by simp [up2, va_up, hw, z26]) (by decide) mw_127 rfl rfl dX3_init_52 ?_
  refine A_alen (i := n) (j := 4) hO (by simp [ad2]) (a := (6, .inr (.inr (.inr (.inr (va_up (va_up (fun _ => none) 0 (some b0)) 1 (some b1))))))) (v := 6) 5 (by simp [hn0]) (by simp [up2, va_up, hw, z26]) rfl rfl dX3_init_55 ?_
  refine G_icmp_ge hO 78 dX3_init_56 (by decide) (fun h9 => absurd h9 (by decide)) (fun _ => ?_)
  refine G_aload_n hO 1 dX3_init_59 rfl rfl ?_
  refine A_getf (i := n) (j := 0) hO cl3 (by simp [ad2]) (fs := [.int 0, .int 0, .int 0, .int 0, .int 0, .int 0, .int 0, .int 0, .int 0, .ref a1, .ref a2, .ref a3, .ref a4, .ref a5]) (v := .ref a4) 12 (by simp [hn0]) (by simp [up2, va_up, hw, z26]) (by decide) mw_127 rfl rfl dX3_init_60 ?_
  refine G_iload_n hO 0 dX3_init_63 rfl rfl ?_
  refine G_new hO (fs := [.int 0, .int 0, .int 0, .int 0, .int 0, .int 0, .int 0]) cl2 n 11 (by simp [hn0]) mw_29 mw_57 mw_4 (by intro q hq; rcases (by omega : q = 0 ∨ q = 1 ∨ q = 2 ∨ q = 3 ∨ q = 4 ∨ q = 5 ∨ q = 6) with h | h | h | h | h | h | h <;> subst h <;> rfl) (Nat.le_of_ble_eq_true rfl) (Nat.le_of_ble_eq_true rfl) dX3_init_64 (fun b2 => ?_)
  refine G_dup hO dX3_init_67 rfl ?_
  refine G_callIN hO (rest := [.ref b2, .int 2, .ref a4]) [] (fun l => c_X2_init) cv_X2_init mw_59 rfl (fun _ h => h.2.1) rfl rfl (Nat.le_of_ble_eq_true rfl) (by decide) (by decide) dX3_init_68 ?_
  rintro v ids1 ad1 w1 ⟨rfl, rfl, rfl, rfl⟩
  show G Γ _ _ 11 134 _ _ _ [.ref b2, .int 2, .ref a4]
  refine A_aastR (n := 6) (i := n) (j := 4) (a := n) (b := 11) hO (by simp [ad2]) (by simp [ad2]) (f := (va_up (va_up (fun _ => none) 0 (some b0)) 1 (some b1))) 2 (by decide) (vs := [.int 0, .int 0, .int 0, .int 0, .int 0, .int 0, .int 0]) (by simp [hn0]) (by simp [up2, va_up, hw, z26]) (by simp [hn0]) (by simp [up2, va_up, hw, z26]) (vp_lit (by decide)) dX3_init_71 ?_
  refine G_iinc hO 0 3 [(1, .int 3), (0, .ref (ad n 0))] dX3_init_72 rfl (by decide) (by decide) rfl ?_
  refine G_goto hO 50 dX3_init_75 (by decide) ?_
  refine G_iload_n hO 0 dX3_init_50 rfl rfl ?_
  refine G_aload_n hO 1 dX3_init_51 rfl rfl ?_
  refine A_getf (i := n) (j := 0) hO cl3 (by simp [ad2]) (fs := [.int 0, .int 0, .int 0, .int 0, .int 0, .int 0, .int 0, .int 0, .int 0, .ref a1, .ref a2, .ref a3, .ref a4, .ref a5]) (v := .ref a4) 12 (by simp [hn0]) (by simp [up2, va_up, hw, z26]) (by decide) mw_127 rfl rfl dX3_init_52 ?_
  refine A_alen (i := n) (j := 4) hO (by simp [ad2]) (a := (6, .inr (.inr (.inr (.inr (va_up (va_up (va_up (fun _ => none) 0 (some b0)) 1 (some b1)) 2 (some b2))))))) (v := 6) 5 (by simp [hn0]) (by simp [up2, va_up, hw, z26]) rfl rfl dX3_init_55 ?_
  refine G_icmp_ge hO 78 dX3_init_56 (by decide) (fun h9 => absurd h9 (by decide)) (fun _ => ?_)
  refine G_aload_n hO 1 dX3_init_59 rfl rfl ?_
  refine A_getf (i := n) (j := 0) hO cl3 (by simp [ad2]) (fs := [.int 0, .int 0, .int 0, .int 0, .int 0, .int 0, .int 0, .int 0, .int 0, .ref a1, .ref a2, .ref a3, .ref a4, .ref a5]) (v := .ref a4) 12 (by simp [hn0]) (by simp [up2, va_up, hw, z26]) (by decide) mw_127 rfl rfl dX3_init_60 ?_
  refine G_iload_n hO 0 dX3_init_63 rfl rfl ?_
  refine G_new hO (fs := [.int 0, .int 0, .int 0, .int 0, .int 0, .int 0, .int 0]) cl2 n 12 (by simp [hn0]) mw_29 mw_57 mw_4 (by intro q hq; rcases (by omega : q = 0 ∨ q = 1 ∨ q = 2 ∨ q = 3 ∨ q = 4 ∨ q = 5 ∨ q = 6) with h | h | h | h | h | h | h <;> subst h <;> rfl) (Nat.le_of_ble_eq_true rfl) (Nat.le_of_ble_eq_true rfl) dX3_init_64 (fun b3 => ?_)
  refine G_dup hO dX3_init_67 rfl ?_
  refine G_callIN hO (rest := [.ref b3, .int 3, .ref a4]) [] (fun l => c_X2_init) cv_X2_init mw_59 rfl (fun _ h => h.2.1) rfl rfl (Nat.le_of_ble_eq_true rfl) (by decide) (by decide) dX3_init_68 ?_
  rintro v ids1 ad1 w1 ⟨rfl, rfl, rfl, rfl⟩
  show G Γ _ _ 12 141 _ _ _ [.ref b3, .int 3, .ref a4]
  refine A_aastR (n := 6) (i := n) (j := 4) (a := n) (b := 12) hO (by simp [ad2]) (by simp [ad2]) (f := (va_up (va_up (va_up (fun _ => none) 0 (some b0)) 1 (some b1)) 2 (some b2))) 3 (by decide) (vs := [.int 0, .int 0, .int 0, .int 0, .int 0, .int 0, .int 0]) (by simp [hn0]) (by simp [up2, va_up, hw, z26]) (by simp [hn0]) (by simp [up2, va_up, hw, z26]) (vp_lit (by decide)) dX3_init_71 ?_
  refine G_iinc hO 0 4 [(1, .int 4), (0, .ref (ad n 0))] dX3_init_72 rfl (by decide) (by decide) rfl ?_
  refine G_goto hO 50 dX3_init_75 (by decide) ?_
  refine G_iload_n hO 0 dX3_init_50 rfl rfl ?_
  refine G_aload_n hO 1 dX3_init_51 rfl rfl ?_
  refine A_getf (i := n) (j := 0) hO cl3 (by simp [ad2]) (fs := [.int 0, .int 0, .int 0, .int 0, .int 0, .int 0, .int 0, .int 0, .int 0, .ref a1, .ref a2, .ref a3, .ref a4, .ref a5]) (v := .ref a4) 12 (by simp [hn0]) (by simp [up2, va_up, hw, z26]) (by decide) mw_127 rfl rfl dX3_init_52 ?_
  refine A_alen (i := n) (j := 4) hO (by simp [ad2]) (a := (6, .inr (.inr (.inr (.inr (va_up (va_up (va_up (va_up (fun _ => none) 0 (some b0)) 1 (some b1)) 2 (some b2)) 3 (some b3))))))) (v := 6) 5 (by simp [hn0]) (by simp [up2, va_up, hw, z26]) rfl rfl dX3_init_55 ?_
  refine G_icmp_ge hO 78 dX3_init_56 (by decide) (fun h9 => absurd h9 (by decide)) (fun _ => ?_)
  refine G_aload_n hO 1 dX3_init_59 rfl rfl ?_
  refine A_getf (i := n) (j := 0) hO cl3 (by simp [ad2]) (fs := [.int 0, .int 0, .int 0, .int 0, .int 0, .int 0, .int 0, .int 0, .int 0, .ref a1, .ref a2, .ref a3, .ref a4, .ref a5]) (v := .ref a4) 12 (by simp [hn0]) (by simp [up2, va_up, hw, z26]) (by decide) mw_127 rfl rfl dX3_init_60 ?_
  refine G_iload_n hO 0 dX3_init_63 rfl rfl ?_
  refine G_new hO (fs := [.int 0, .int 0, .int 0, .int 0, .int 0, .int 0, .int 0]) cl2 n 13 (by simp [hn0]) mw_29 mw_57 mw_4 (by intro q hq; rcases (by omega : q = 0 ∨ q = 1 ∨ q = 2 ∨ q = 3 ∨ q = 4 ∨ q = 5 ∨ q = 6) with h | h | h | h | h | h | h <;> subst h <;> rfl) (Nat.le_of_ble_eq_true rfl) (Nat.le_of_ble_eq_true rfl) dX3_init_64 (fun b4 => ?_)
  refine G_dup hO dX3_init_67 rfl ?_
  refine G_callIN hO (rest := [.ref b4, .int 4, .ref a4]) [] (fun l => c_X2_init) cv_X2_init mw_59 rfl (fun _ h => h.2.1) rfl rfl (Nat.le_of_ble_eq_true rfl) (by decide) (by decide) dX3_init_68 ?_
  rintro v ids1 ad1 w1 ⟨rfl, rfl, rfl, rfl⟩
  show G Γ _ _ 13 148 _ _ _ [.ref b4, .int 4, .ref a4]
  refine A_aastR (n := 6) (i := n) (j := 4) (a := n) (b := 13) hO (by simp [ad2]) (by simp [ad2]) (f := (va_up (va_up (va_up (va_up (fun _ => none) 0 (some b0)) 1 (some b1)) 2 (some b2)) 3 (some b3))) 4 (by decide) (vs := [.int 0, .int 0, .int 0, .int 0, .int 0, .int 0, .int 0]) (by simp [hn0]) (by simp [up2, va_up, hw, z26]) (by simp [hn0]) (by simp [up2, va_up, hw, z26]) (vp_lit (by decide)) dX3_init_71 ?_
  refine G_iinc hO 0 5 [(1, .int 5), (0, .ref (ad n 0))] dX3_init_72 rfl (by decide) (by decide) rfl ?_
  refine G_goto hO 50 dX3_init_75 (by decide) ?_
  refine G_iload_n hO 0 dX3_init_50 rfl rfl ?_
  refine G_aload_n hO 1 dX3_init_51 rfl rfl ?_
  refine A_getf (i := n) (j := 0) hO cl3 (by simp [ad2]) (fs := [.int 0, .int 0, .int 0, .int 0, .int 0, .int 0, .int 0, .int 0, .int 0, .ref a1, .ref a2, .ref a3, .ref a4, .ref a5]) (v := .ref a4) 12 (by simp [hn0]) (by simp [up2, va_up, hw, z26]) (by decide) mw_127 rfl rfl dX3_init_52 ?_
  refine A_alen (i := n) (j := 4) hO (by simp [ad2]) (a := (6, .inr (.inr (.inr (.inr (va_up (va_up (va_up (va_up (va_up (fun _ => none) 0 (some b0)) 1 (some b1)) 2 (some b2)) 3 (some b3)) 4 (some b4))))))) (v := 6) 5 (by simp [hn0]) (by simp [up2, va_up, hw, z26]) rfl rfl dX3_init_55 ?_
  refine G_icmp_ge hO 78 dX3_init_56 (by decide) (fun h9 => absurd h9 (by decide)) (fun _ => ?_)
  refine G_aload_n hO 1 dX3_init_59 rfl rfl ?_
  refine A_getf (i := n) (j := 0) hO cl3 (by simp [ad2]) (fs := [.int 0, .int 0, .int 0, .int 0, .int 0, .int 0, .int 0, .int 0, .int 0, .ref a1, .ref a2, .ref a3, .ref a4, .ref a5]) (v := .ref a4) 12 (by simp [hn0]) (by simp [up2, va_up, hw, z26]) (by decide) mw_127 rfl rfl dX3_init_60 ?_
  refine G_iload_n hO 0 dX3_init_63 rfl rfl ?_
  refine G_new hO (fs := [.int 0, .int 0, .int 0, .int 0, .int 0, .int 0, .int 0]) cl2 n 14 (by simp [hn0]) mw_29 mw_57 mw_4 (by intro q hq; rcases (by omega : q = 0 ∨ q = 1 ∨ q = 2 ∨ q = 3 ∨ q = 4 ∨ q = 5 ∨ q = 6) with h | h | h | h | h | h | h <;> subst h <;> rfl) (Nat.le_of_ble_eq_true rfl) (Nat.le_of_ble_eq_true rfl) dX3_init_64 (fun b5 => ?_)
  refine G_dup hO dX3_init_67 rfl ?_
  refine G_callIN hO (rest := [.ref b5, .int 5, .ref a4]) [] (fun l => c_X2_init) cv_X2_init mw_59 rfl (fun _ h => h.2.1) rfl rfl (Nat.le_of_ble_eq_true rfl) (by decide) (by decide) dX3_init_68 ?_
  rintro v ids1 ad1 w1 ⟨rfl, rfl, rfl, rfl⟩
  show G Γ _ _ 14 155 _ _ _ [.ref b5, .int 5, .ref a4]
  refine A_aastR (n := 6) (i := n) (j := 4) (a := n) (b := 14) hO (by simp [ad2]) (by simp [ad2]) (f := (va_up (va_up (va_up (va_up (va_up (fun _ => none) 0 (some b0)) 1 (some b1)) 2 (some b2)) 3 (some b3)) 4 (some b4))) 5 (by decide) (vs := [.int 0, .int 0, .int 0, .int 0, .int 0, .int 0, .int 0]) (by simp [hn0]) (by simp [up2, va_up, hw, z26]) (by simp [hn0]) (by simp [up2, va_up, hw, z26]) (vp_lit (by decide)) dX3_init_71 ?_
  refine G_iinc hO 0 6 [(1, .int 6), (0, .ref (ad n 0))] dX3_init_72 rfl (by decide) (by decide) rfl ?_
  refine G_goto hO 50 dX3_init_75 (by decide) ?_
  refine G_iload_n hO 0 dX3_init_50 rfl rfl ?_
  refine G_aload_n hO 1 dX3_init_51 rfl rfl ?_
  refine A_getf (i := n) (j := 0) hO cl3 (by simp [ad2]) (fs := [.int 0, .int 0, .int 0, .int 0, .int 0, .int 0, .int 0, .int 0, .int 0, .ref a1, .ref a2, .ref a3, .ref a4, .ref a5]) (v := .ref a4) 12 (by simp [hn0]) (by simp [up2, va_up, hw, z26]) (by decide) mw_127 rfl rfl dX3_init_52 ?_
  refine A_alen (i := n) (j := 4) hO (by simp [ad2]) (a := (6, .inr (.inr (.inr (.inr (va_up (va_up (va_up (va_up (va_up (va_up (fun _ => none) 0 (some b0)) 1 (some b1)) 2 (some b2)) 3 (some b3)) 4 (some b4)) 5 (some b5))))))) (v := 6) 5 (by simp [hn0]) (by simp [up2, va_up, hw, z26]) rfl rfl dX3_init_55 ?_
  refine G_icmp_ge hO 78 dX3_init_56 (by decide) (fun _ => ?_) (fun h9 => absurd (by decide) h9)
  refine G_aload_n hO 1 dX3_init_78 rfl rfl ?_
  obtain ⟨adF, hadF⟩ : ∃ x, x = (ad2 (ad2 (ad2 (ad2 (ad2 (ad2 (ad2 (ad2 (ad2 (ad2 (ad2 (ad2 (ad2 (ad2 ad n 1 a1) n 2 a2) n 3 a3) n 4 a4) n 5 a5) n 6 a6) n 7 a7) n 8 a8) n 9 b0) n 10 b1) n 11 b2) n 12 b3) n 13 b4) n 14 b5) := ⟨_, rfl⟩
  obtain ⟨idF, hidF⟩ : ∃ x, x = ids ++ [(n, 1)] ++ [(n, 2)] ++ [(n, 3)] ++ [(n, 4)] ++ [(n, 5)] ++ [(n, 6)] ++ [(n, 7)] ++ [(n, 8)] ++ [(n, 9)] ++ [(n, 10)] ++ [(n, 11)] ++ [(n, 12)] ++ [(n, 13)] ++ [(n, 14)] := ⟨_, rfl⟩
  have hm : ∀ j, j < 15 → (n, j) ∈ idF := by
    intro j hj
    rcases (by omega : j = 0 ∨ j = 1 ∨ j = 2 ∨ j = 3 ∨ j = 4 ∨ j = 5 ∨ j = 6 ∨ j = 7 ∨ j = 8 ∨ j = 9 ∨ j = 10 ∨ j = 11 ∨ j = 12 ∨ j = 13 ∨ j = 14) with h | h | h | h | h | h | h | h | h | h | h | h | h | h | h <;> subst h <;> rw [hidF] <;> simp [hn0]
  have e0 : adF n 0 = ad n 0 := by rw [hadF]; simp [ad2]
  have e1 : adF n 1 = a1 := by rw [hadF]; simp [ad2]
  have e2 : adF n 2 = a2 := by rw [hadF]; simp [ad2]
  have e3 : adF n 3 = a3 := by rw [hadF]; simp [ad2]
  have e4 : adF n 4 = a4 := by rw [hadF]; simp [ad2]
  have e5 : adF n 5 = a5 := by rw [hadF]; simp [ad2]
  have e6 : adF n 6 = a6 := by rw [hadF]; simp [ad2]
  have e7 : adF n 7 = a7 := by rw [hadF]; simp [ad2]
  have e8 : adF n 8 = a8 := by rw [hadF]; simp [ad2]
  have e9 : adF n 9 = b0 := by rw [hadF]; simp [ad2]
  have e10 : adF n 10 = b1 := by rw [hadF]; simp [ad2]
  have e11 : adF n 11 = b2 := by rw [hadF]; simp [ad2]
  have e12 : adF n 12 = b3 := by rw [hadF]; simp [ad2]
  have e13 : adF n 13 = b4 := by rw [hadF]; simp [ad2]
  have e14 : adF n 14 = b5 := by rw [hadF]; simp [ad2]
  refine G_cong hO (va_up w n (stSh Λ adF n c00)) ?_ ?_
  · intro q hq
    obtain ⟨i, j⟩ := q
    by_cases hi : i = n
    · subst hi
      have hj : j < 15 := by
        simp only [List.mem_append, List.mem_cons, List.not_mem_nil, or_false, Prod.mk.injEq, true_and, hn0] at hq
        omega
      rcases (by omega : j = 0 ∨ j = 1 ∨ j = 2 ∨ j = 3 ∨ j = 4 ∨ j = 5 ∨ j = 6 ∨ j = 7 ∨ j = 8 ∨ j = 9 ∨ j = 10 ∨ j = 11 ∨ j = 12 ∨ j = 13 ∨ j = 14) with h | h | h | h | h | h | h | h | h | h | h | h | h | h | h <;> subst h
      · refine Or.inl ?_; simp [up2, va_up, hw, z26, stSh, stF, leF, rmF, c00, e1, e2, e3, e4, e5, e6, e7, e8]
      · refine Or.inl ?_; simp [up2, va_up, hw, z26, stSh, stF, leF, rmF, c00, e1, e2, e3, e4, e5, e6, e7, e8]; rfl
      · refine Or.inl ?_; simp [up2, va_up, hw, z26, stSh, stF, leF, rmF, c00, e1, e2, e3, e4, e5, e6, e7, e8]; rfl
      · refine Or.inl ?_; simp [up2, va_up, hw, z26, stSh, stF, leF, rmF, c00, e1, e2, e3, e4, e5, e6, e7, e8]; rfl
      · refine Or.inr ⟨Λ.2.1 5, 6, (va_up (va_up (va_up (va_up (va_up (va_up (fun _ => none) 0 (some b0)) 1 (some b1)) 2 (some b2)) 3 (some b3)) 4 (some b4)) 5 (some b5)), fun r => some (adF i (r + 9)), (by simp [up2, va_up]), (by rw [va_us]; exact st_4 _ _ _ _), ?_⟩
        intro r hr
        rcases (by omega : r = 0 ∨ r = 1 ∨ r = 2 ∨ r = 3 ∨ r = 4 ∨ r = 5) with h | h | h | h | h | h <;> subst h <;> simp [va_up, e9, e10, e11, e12, e13, e14]
      · refine Or.inl ?_; simp [up2, va_up, hw, z26, stSh, stF, leF, rmF, c00, e1, e2, e3, e4, e5, e6, e7, e8]
      · refine Or.inl ?_; simp [up2, va_up, hw, z26, stSh, stF, leF, rmF, c00, e1, e2, e3, e4, e5, e6, e7, e8]; rfl
      · refine Or.inl ?_; simp [up2, va_up, hw, z26, stSh, stF, leF, rmF, c00, e1, e2, e3, e4, e5, e6, e7, e8]; rfl
      · refine Or.inl ?_; simp [up2, va_up, hw, z26, stSh, stF, leF, rmF, c00, e1, e2, e3, e4, e5, e6, e7, e8]; rfl
      · refine Or.inl ?_; simp [up2, va_up, hw, z26, stSh, stF, leF, rmF, c00, e1, e2, e3, e4, e5, e6, e7, e8]
      · refine Or.inl ?_; simp [up2, va_up, hw, z26, stSh, stF, leF, rmF, c00, e1, e2, e3, e4, e5, e6, e7, e8]
      · refine Or.inl ?_; simp [up2, va_up, hw, z26, stSh, stF, leF, rmF, c00, e1, e2, e3, e4, e5, e6, e7, e8]
      · refine Or.inl ?_; simp [up2, va_up, hw, z26, stSh, stF, leF, rmF, c00, e1, e2, e3, e4, e5, e6, e7, e8]
      · refine Or.inl ?_; simp [up2, va_up, hw, z26, stSh, stF, leF, rmF, c00, e1, e2, e3, e4, e5, e6, e7, e8]
      · refine Or.inl ?_; simp [up2, va_up, hw, z26, stSh, stF, leF, rmF, c00, e1, e2, e3, e4, e5, e6, e7, e8]
    · exact Or.inl (by simp [up2, va_up, hi])
  rw [← hadF, ← hidF, ← e0]
  refine KV_Rv hO (rest := []) [] (fun l => c_X3_beginAnew (P := fun c => c = cI) hm (show cI = cI from rfl)) cv_X3_beginAnew mw_97 mw_98 mw_96 (hm 0 (by decide)) cl3 (by rw [va_us]; exact (st_0 _ _ _ _)) rfl rfl (Nat.le_of_ble_eq_true rfl) (by decide) rfl rfl (by decide) (by decide) dX3_init_79 ?_
  intro c1 hc1
  subst hc1
  refine G_vret hO hF rfl (Nat.le_of_ble_eq_true rfl) (Nat.le_of_ble_eq_true rfl) dX3_init_82 ⟨rfl, ?_, ⟨adF n, e0, ?_⟩, rfl⟩
  · rw [hidF]; simp [stL]
  · rw [hadF]; simp only [ad2_r, va_us, va_uu]
theorem c_X3_initA {l : Launch} {Λ : Lay} {B : Zn} {ids : List (Nat × Nat)} {ad : Nat → Nat → Nat} {w : Nat → Nat → va_E} {n A : Nat} (hA : ad n 0 = A) (hn0 : ∀ j, (n, j) ∈ ids ↔ j = 0) (hw : w n 0 = .inr (3, [.int 0, .int 0, .int 0, .int 0, .int 0, .int 0, .int 0, .int 0, .int 0, .null, .null, .null, .null, .null])) : CT l yX3_init cX3_init 2 none { frames := 2, cells := 14, slots := 155, locals := 80 } Λ B ids ad w [.ref A] (fun v ids' ad' w' => v = none ∧ ids' = ids ++ stL n ∧ (∃ f : Nat → Nat, f 0 = A ∧ ad' = va_up ad n f) ∧ w' = va_up w n (stSh Λ ad' n cI)) := by
  subst hA
  exact c_X3_init hn0 hw
