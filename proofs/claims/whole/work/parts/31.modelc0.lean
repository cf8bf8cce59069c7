set_option maxHeartbeats 4000000 in
set_option maxRecDepth 20000 in
theorem c_X6_thrown {l : Launch} {Λ : Lay} {B : Nat} {ids : List (Nat × Nat)} {ad : Nat → Nat → Nat} {w : Nat → Nat → va_E} (hm : ∀ j, j < 8 → (21, j) ∈ ids) {c : Reg} {P : Int32 → Reg → Prop} (hs : wX6_thrown c P) : CT l yX6_thrown cX6_thrown 1 (some .int) { frames := 0, cells := 0, slots := 0, locals := 0 } Λ B ids ad (va_up w 21 (mdSh Λ ad c)) [.ref (ad 21 0)] (Ri ids ad w 21 (mdSh Λ ad) P) := by
  refine CT.of RX6 [(0, .ref (ad 21 0))] (plainFor_of_name (by decide +kernel)) rfl (Nat.le_of_ble_eq_true rfl) rfl (fun Γ hO hF => ?_)
  unfold wX6_thrown at hs
  refine G_aload_n hO 0 dX6_thrown_0 rfl rfl ?_
  refine C_getf hO (v := .int (c 0 0)) cl6 0 (hm 0 (by decide)) (md_0 _ _ _) (by decide) mw_837 rfl rfl dX6_thrown_1 ?_
  exact G_iret hO hF rfl (Nat.zero_le _) (Nat.zero_le _) dX6_thrown_4 ⟨rfl, rfl, _, _, rfl, rfl, hs⟩
set_option maxHeartbeats 4000000 in
set_option maxRecDepth 20000 in
theorem c_X6_refused {l : Launch} {Λ : Lay} {B : Nat} {ids : List (Nat × Nat)} {ad : Nat → Nat → Nat} {w : Nat → Nat → va_E} (hm : ∀ j, j < 8 → (21, j) ∈ ids) {a1 : Int32} {c : Reg} {P : Int32 → Reg → Prop} (hs : wX6_refused a1 c P) : CT l yX6_refused cX6_refused 2 (some .boolean) { frames := 0, cells := 0, slots := 0, locals := 0 } Λ B ids ad (va_up w 21 (mdSh Λ ad c)) [.ref (ad 21 0), .int a1] (Ri ids ad w 21 (mdSh Λ ad) P) := by
  refine CT.of RX6 [(0, .ref (ad 21 0)), (1, .int a1)] (plainFor_of_name (by decide +kernel)) rfl (Nat.le_of_ble_eq_true rfl) rfl (fun Γ hO hF => ?_)
  unfold wX6_refused at hs
  refine G_aload_n hO 0 dX6_refused_0 rfl rfl ?_
  refine G_iload_n hO 1 dX6_refused_1 rfl rfl ?_
  refine C_putf hO (cw_md _ _) cl6 0 (hm 0 (by decide)) (md_0 _ _ _) (by decide) mw_837 rfl rfl rfl rfl (Nat.le_of_ble_eq_true rfl) (mdP (by decide)) dX6_refused_2 ?_
  refine G_iload_n hO 1 dX6_refused_5 rfl rfl ?_
  refine G_if_le hO 13 dX6_refused_6 (by decide) (fun h1 => ?_) (fun h1 => ?_)
  · replace hs := hs.1 h1
    refine G_iconst hO 0 dX6_refused_13 (by decide) ?_
    exact G_zret hO hF rfl (Nat.zero_le _) (Nat.zero_le _) rfl dX6_refused_14 ⟨rfl, rfl, _, _, rfl, rfl, hs⟩
  · replace hs := hs.2 h1
    refine G_iconst hO 1 dX6_refused_9 (by decide) ?_
    refine G_goto hO 14 dX6_refused_10 (by decide) ?_
    exact G_zret hO hF rfl (Nat.zero_le _) (Nat.zero_le _) rfl dX6_refused_14 ⟨rfl, rfl, _, _, rfl, rfl, hs⟩
set_option maxHeartbeats 4000000 in
set_option maxRecDepth 20000 in
theorem c_X6_in {l : Launch} {Λ : Lay} {B : Nat} {ids : List (Nat × Nat)} {ad : Nat → Nat → Nat} {w : Nat → Nat → va_E} {a0 : Int64} {a2 : Int64} {a4 : Int64} {P : Int32 → Prop} (hs : wX6_in a0 a2 a4 P) : CT l yX6_in cX6_in 6 (some .boolean) { frames := 0, cells := 0, slots := 0, locals := 0 } Λ B ids ad w [.long a0, .long a2, .long a4] (Ni ids ad w P) := by
  refine CT.of RX6 [(0, .long a0), (2, .long a2), (4, .long a4)] (plainFor_of_name (by decide +kernel)) rfl (Nat.le_of_ble_eq_true rfl) rfl (fun Γ hO hF => ?_)
  unfold wX6_in at hs
  refine G_lload_n hO 0 dX6_in_0 rfl rfl ?_
  refine G_lload_n hO 1 dX6_in_1 rfl rfl ?_
  refine G_lcmp hO dX6_in_2 ?_
  refine G_if_lt hO 17 dX6_in_3 (by decide) (fun h2 => ?_) (fun h2 => ?_)
  · replace hs := hs.1 h2
    refine G_iconst hO 0 dX6_in_17 (by decide) ?_
    exact G_zret hO hF rfl (Nat.zero_le _) (Nat.zero_le _) rfl dX6_in_18 ⟨rfl, rfl, rfl, _, rfl, hs⟩
  · replace hs := hs.2 h2
    refine G_lload_n hO 0 dX6_in_6 rfl rfl ?_
    refine G_lload hO 2 dX6_in_7 rfl ?_
    refine G_lcmp hO dX6_in_9 ?_
    refine G_if_gt hO 17 dX6_in_10 (by decide) (fun h1 => ?_) (fun h1 => ?_)
    · replace hs := hs.1 h1
      refine G_iconst hO 0 dX6_in_17 (by decide) ?_
      exact G_zret hO hF rfl (Nat.zero_le _) (Nat.zero_le _) rfl dX6_in_18 ⟨rfl, rfl, rfl, _, rfl, hs⟩
    · replace hs := hs.2 h1
      refine G_iconst hO 1 dX6_in_13 (by decide) ?_
      refine G_goto hO 18 dX6_in_14 (by decide) ?_
      exact G_zret hO hF rfl (Nat.zero_le _) (Nat.zero_le _) rfl dX6_in_18 ⟨rfl, rfl, rfl, _, rfl, hs⟩
set_option maxHeartbeats 4000000 in
set_option maxRecDepth 20000 in
theorem c_X6_copy {l : Launch} {Λ : Lay} {B : Nat} {ids : List (Nat × Nat)} {ad : Nat → Nat → Nat} {w : Nat → Nat → va_E} (hm : ∀ j, j < 8 → (21, j) ∈ ids) {j1 : Nat} (hj1 : 1 ≤ j1 ∧ j1 ≤ 6) {j2 : Nat} (hj2 : 1 ≤ j2 ∧ j2 ≤ 6) {a1 : Int32} {a3 : Int32} {a4 : Int32} {c : Reg} {P : Reg → Prop} (hs : wX6_copy j1 j2 a1 a3 a4 c P) : CT l yX6_copy cX6_copy 6 none { frames := 0, cells := 0, slots := 0, locals := 0 } Λ B ids ad (va_up w 21 (mdSh Λ ad c)) [.ref (ad 21 j1), .int a1, .ref (ad 21 j2), .int a3, .int a4] (Rv ids ad w 21 (mdSh Λ ad) P) := by
  refine CT.of RX6 [(0, .ref (ad 21 j1)), (1, .int a1), (2, .ref (ad 21 j2)), (3, .int a3), (4, .int a4)] (plainFor_of_name (by decide +kernel)) rfl (Nat.le_of_ble_eq_true rfl) rfl (fun Γ hO hF => ?_)
  have b3 : ∀ (N3 : Nat) (v5 : Int32) (c : Reg), wX6_copy_L3 j1 j2 a1 a3 a4 P N3 v5 c → G Γ ids ad 0 0 (va_up w 21 (mdSh Λ ad c)) 3 [(0, .ref (ad 21 j1)), (1, .int a1), (2, .ref (ad 21 j2)), (3, .int a3), (4, .int a4), (5, .int v5)] [] := by
    intro N3
    induction N3 with
    | zero => intro v5 c hs; exact False.elim hs
    | succ N3 ih3 =>
      intro v5 c hs
      unfold wX6_copy_L3 at hs
      refine G_iload hO 5 dX6_copy_3 rfl ?_
      refine G_iload hO 4 dX6_copy_5 rfl ?_
      refine G_icmp_ge hO 28 dX6_copy_7 (by decide) (fun h2 => ?_) (fun h2 => ?_)
      · replace hs := hs.1 h2
        exact G_vret hO hF rfl (Nat.zero_le _) (Nat.zero_le _) dX6_copy_28 ⟨rfl, rfl, _, rfl, rfl, hs⟩
      · replace hs := hs.2 h2
        refine G_aload_n hO 2 dX6_copy_10 rfl rfl ?_
        refine G_iload_n hO 3 dX6_copy_11 rfl rfl ?_
        refine G_iload hO 5 dX6_copy_12 rfl ?_
        refine G_iadd hO dX6_copy_14 ?_
        refine G_aload_n hO 0 dX6_copy_15 rfl rfl ?_
        refine G_iload_n hO 1 dX6_copy_16 rfl rfl ?_
        refine G_iload hO 5 dX6_copy_17 rfl ?_
        refine G_iadd hO dX6_copy_19 ?_
        refine C_iald hO _ rfl (hm _ (by have h9 := hj1; omega)) (md_a _ _ hj1 _) hs.1 dX6_copy_20 ?_
        replace hs := hs.2
        refine C_iast hO (cw_md _ _) _ rfl (hm _ (by have h9 := hj2; omega)) (md_a _ _ hj2) hs.1 dX6_copy_21 ?_
        replace hs := hs.2
        refine G_iinc hO 5 (v5 + 1) [(5, .int (v5 + 1)), (0, .ref (ad 21 j1)), (1, .int a1), (2, .ref (ad 21 j2)), (3, .int a3), (4, .int a4)] dX6_copy_22 rfl rfl (by decide) rfl ?_
        refine G_goto hO 3 dX6_copy_25 (by decide) ?_
        refine G_lv hO [(0, .ref (ad 21 j1)), (1, .int a1), (2, .ref (ad 21 j2)), (3, .int a3), (4, .int a4), (5, .int (v5 + 1))] [1, 2, 3, 4, 5, 0] rfl ?_
        exact ih3 _ _ hs
  unfold wX6_copy at hs
  refine G_iconst hO 0 dX6_copy_0 (by decide) ?_
  refine G_istore hO [(5, .int 0), (0, .ref (ad 21 j1)), (1, .int a1), (2, .ref (ad 21 j2)), (3, .int a3), (4, .int a4)] dX6_copy_1 (by decide) rfl ?_
  obtain ⟨Nf1, hs⟩ := hs
  refine G_lv hO [(0, .ref (ad 21 j1)), (1, .int a1), (2, .ref (ad 21 j2)), (3, .int a3), (4, .int a4), (5, .int 0)] [1, 2, 3, 4, 5, 0] rfl ?_
  exact b3 Nf1 _ _ hs
set_option maxHeartbeats 4000000 in
set_option maxRecDepth 20000 in
theorem c_X6_tenTo {l : Launch} {Λ : Lay} {B : Nat} {ids : List (Nat × Nat)} {ad : Nat → Nat → Nat} {w : Nat → Nat → va_E} {a0 : Int32} {P : Int64 → Prop} (hs : wX6_tenTo a0 P) : CT l yX6_tenTo cX6_tenTo 4 (some .long) { frames := 0, cells := 0, slots := 0, locals := 0 } Λ B ids ad w [.int a0] (Nl ids ad w P) := by
  refine CT.of RX6 [(0, .int a0)] (plainFor_of_name (by decide +kernel)) rfl (Nat.le_of_ble_eq_true rfl) rfl (fun Γ hO hF => ?_)
  have b4 : ∀ (N4 : Nat) (v1 : Int64) (v3 : Int32), wX6_tenTo_L4 a0 P N4 v1 v3 → G Γ ids ad 0 0 w 4 [(0, .int a0), (1, .long v1), (3, .int v3)] [] := by
    intro N4
    induction N4 with
    | zero => intro v1 v3 hs; exact False.elim hs
    | succ N4 ih4 =>
      intro v1 v3 hs
      unfold wX6_tenTo_L4 at hs
      refine G_iload_n hO 2 dX6_tenTo_4 rfl rfl ?_
      refine G_iload_n hO 0 dX6_tenTo_5 rfl rfl ?_
      refine G_icmp_ge hO 21 dX6_tenTo_6 (by decide) (fun h2 => ?_) (fun h2 => ?_)
      · replace hs := hs.1 h2
        refine G_lload_n hO 1 dX6_tenTo_21 rfl rfl ?_
        exact G_lret hO hF rfl (Nat.zero_le _) (Nat.zero_le _) dX6_tenTo_22 ⟨rfl, rfl, rfl, _, rfl, hs⟩
      · replace hs := hs.2 h2
        refine G_lload_n hO 1 dX6_tenTo_9 rfl rfl ?_
        refine G_ldc2 hO mw_1018 dX6_tenTo_10 ?_
        refine G_lmul hO dX6_tenTo_13 ?_
        refine G_lstore_n hO [(1, .long (v1 * 10)), (0, .int a0), (3, .int v3)] dX6_tenTo_14 rfl (by decide) rfl ?_
        refine G_iinc hO 2 (v3 + 1) [(3, .int (v3 + 1)), (1, .long (v1 * 10)), (0, .int a0)] dX6_tenTo_15 rfl rfl (by decide) rfl ?_
        refine G_goto hO 4 dX6_tenTo_18 (by decide) ?_
        refine G_lv hO [(0, .int a0), (1, .long (v1 * 10)), (3, .int (v3 + 1))] [2, 1, 0] rfl ?_
        exact ih4 _ _ hs
  unfold wX6_tenTo at hs
  refine G_lconst hO 1 dX6_tenTo_0 (by decide) ?_
  refine G_lstore_n hO [(1, .long 1), (0, .int a0)] dX6_tenTo_1 rfl (by decide) rfl ?_
  refine G_iconst hO 0 dX6_tenTo_2 (by decide) ?_
  refine G_istore_n hO [(3, .int 0), (1, .long 1), (0, .int a0)] dX6_tenTo_3 rfl (by decide) rfl ?_
  obtain ⟨Nf1, hs⟩ := hs
  refine G_lv hO [(0, .int a0), (1, .long 1), (3, .int 0)] [2, 1, 0] rfl ?_
  exact b4 Nf1 _ _ hs
set_option maxHeartbeats 4000000 in
set_option maxRecDepth 20000 in
theorem c_X6_down {l : Launch} {Λ : Lay} {B : Nat} {ids : List (Nat × Nat)} {ad : Nat → Nat → Nat} {w : Nat → Nat → va_E} {a0 : Int32} {a1 : Int32} {P : Int32 → Prop} (hs : wX6_down a0 a1 P) : CT l yX6_down cX6_down 3 (some .int) { frames := 0, cells := 0, slots := 0, locals := 0 } Λ B ids ad w [.int a0, .int a1] (Ni ids ad w P) := by
  refine CT.of RX6 [(0, .int a0), (1, .int a1)] (plainFor_of_name (by decide +kernel)) rfl (Nat.le_of_ble_eq_true rfl) rfl (fun Γ hO hF => ?_)
  unfold wX6_down at hs
  refine G_iload_n hO 0 dX6_down_0 rfl rfl ?_
  refine G_iload_n hO 1 dX6_down_1 rfl rfl ?_
  refine G_idiv hO dX6_down_2 hs.1 ?_
  replace hs := hs.2
  refine G_istore_n hO [(2, .int (a0 / a1)), (0, .int a0), (1, .int a1)] dX6_down_3 rfl (by decide) rfl ?_
  refine G_iload_n hO 1 dX6_down_4 rfl rfl ?_
  refine G_iload_n hO 2 dX6_down_5 rfl rfl ?_
  refine G_irem hO dX6_down_6 hs.1 ?_
  replace hs := hs.2
  refine G_if_ge hO 16 dX6_down_7 (by decide) (fun h1 => ?_) (fun h1 => ?_)
  · replace hs := hs.1 h1
    refine G_iload_n hO 0 dX6_down_16 rfl rfl ?_
    exact G_iret hO hF rfl (Nat.zero_le _) (Nat.zero_le _) dX6_down_17 ⟨rfl, rfl, rfl, _, rfl, hs⟩
  · replace hs := hs.2 h1
    refine G_iload_n hO 0 dX6_down_10 rfl rfl ?_
    refine G_iconst hO 1 dX6_down_11 (by decide) ?_
    refine G_isub hO dX6_down_12 ?_
    refine G_goto hO 17 dX6_down_13 (by decide) ?_
    exact G_iret hO hF rfl (Nat.zero_le _) (Nat.zero_le _) dX6_down_17 ⟨rfl, rfl, rfl, _, rfl, hs⟩
set_option maxHeartbeats 4000000 in
set_option maxRecDepth 20000 in
theorem c_X6_least {l : Launch} {Λ : Lay} {B : Nat} {ids : List (Nat × Nat)} {ad : Nat → Nat → Nat} {w : Nat → Nat → va_E} {a0 : Int32} {P : Int32 → Prop} (hs : wX6_least a0 P) : CT l yX6_least cX6_least 1 (some .int) { frames := 0, cells := 0, slots := 0, locals := 0 } Λ B ids ad w [.int a0] (Ni ids ad w P) := by
  refine CT.of RX6 [(0, .int a0)] (plainFor_of_name (by decide +kernel)) rfl (Nat.le_of_ble_eq_true rfl) rfl (fun Γ hO hF => ?_)
  unfold wX6_least at hs
  refine G_iload_n hO 0 dX6_least_0 rfl rfl ?_
  rcases sw_1_8 a0 with hq | hq
  · replace hs := hs.1 hq
    refine G_tableOut hO 56 dX6_least_1 hq (by decide) ?_
    refine G_iconst hO 0 dX6_least_56 (by decide) ?_
    exact G_iret hO hF rfl (Nat.zero_le _) (Nat.zero_le _) dX6_least_57 ⟨rfl, rfl, rfl, _, rfl, hs⟩
  · replace hs := hs.2
    rcases hq with hq | hq | hq | hq | hq | hq | hq | hq
    · replace hs := hs.1 hq
      refine G_tableIn hO 48 dX6_least_1 (by rw [hq]; decide) (by rw [hq]; decide) (by rw [hq]; rfl) (by decide) ?_
      refine G_bipush hO 30 dX6_least_48 (by decide) ?_
      exact G_iret hO hF rfl (Nat.zero_le _) (Nat.zero_le _) dX6_least_50 ⟨rfl, rfl, rfl, _, rfl, hs⟩
    · replace hs := hs.2.1 hq
      refine G_tableIn hO 56 dX6_least_1 (by rw [hq]; decide) (by rw [hq]; decide) (by rw [hq]; rfl) (by decide) ?_
      refine G_iconst hO 0 dX6_least_56 (by decide) ?_
      exact G_iret hO hF rfl (Nat.zero_le _) (Nat.zero_le _) dX6_least_57 ⟨rfl, rfl, rfl, _, rfl, hs⟩
    · replace hs := hs.2.2.1 hq
      refine G_tableIn hO 56 dX6_least_1 (by rw [hq]; decide) (by rw [hq]; decide) (by rw [hq]; rfl) (by decide) ?_
      refine G_iconst hO 0 dX6_least_56 (by decide) ?_
      exact G_iret hO hF rfl (Nat.zero_le _) (Nat.zero_le _) dX6_least_57 ⟨rfl, rfl, rfl, _, rfl, hs⟩
    · replace hs := hs.2.2.2.1 hq
      refine G_tableIn hO 56 dX6_least_1 (by rw [hq]; decide) (by rw [hq]; decide) (by rw [hq]; rfl) (by decide) ?_
      refine G_iconst hO 0 dX6_least_56 (by decide) ?_
      exact G_iret hO hF rfl (Nat.zero_le _) (Nat.zero_le _) dX6_least_57 ⟨rfl, rfl, rfl, _, rfl, hs⟩
    · replace hs := hs.2.2.2.2.1 hq
      refine G_tableIn hO 51 dX6_least_1 (by rw [hq]; decide) (by rw [hq]; decide) (by rw [hq]; rfl) (by decide) ?_
      refine G_iconst hO 1 dX6_least_51 (by decide) ?_
      exact G_iret hO hF rfl (Nat.zero_le _) (Nat.zero_le _) dX6_least_52 ⟨rfl, rfl, rfl, _, rfl, hs⟩
    · replace hs := hs.2.2.2.2.2.1 hq
      refine G_tableIn hO 51 dX6_least_1 (by rw [hq]; decide) (by rw [hq]; decide) (by rw [hq]; rfl) (by decide) ?_
      refine G_iconst hO 1 dX6_least_51 (by decide) ?_
      exact G_iret hO hF rfl (Nat.zero_le _) (Nat.zero_le _) dX6_least_52 ⟨rfl, rfl, rfl, _, rfl, hs⟩
    · replace hs := hs.2.2.2.2.2.2.1 hq
      refine G_tableIn hO 56 dX6_least_1 (by rw [hq]; decide) (by rw [hq]; decide) (by rw [hq]; rfl) (by decide) ?_
      refine G_iconst hO 0 dX6_least_56 (by decide) ?_
      exact G_iret hO hF rfl (Nat.zero_le _) (Nat.zero_le _) dX6_least_57 ⟨rfl, rfl, rfl, _, rfl, hs⟩
    · replace hs := hs.2.2.2.2.2.2.2 hq
      refine G_tableIn hO 53 dX6_least_1 (by rw [hq]; decide) (by rw [hq]; decide) (by rw [hq]; rfl) (by decide) ?_
      refine G_bipush hO 10 dX6_least_53 (by decide) ?_
      exact G_iret hO hF rfl (Nat.zero_le _) (Nat.zero_le _) dX6_least_55 ⟨rfl, rfl, rfl, _, rfl, hs⟩
set_option maxHeartbeats 4000000 in
set_option maxRecDepth 20000 in
theorem c_X6_most {l : Launch} {Λ : Lay} {B : Nat} {ids : List (Nat × Nat)} {ad : Nat → Nat → Nat} {w : Nat → Nat → va_E} {a0 : Int32} {P : Int32 → Prop} (hs : wX6_most a0 P) : CT l yX6_most cX6_most 1 (some .int) { frames := 0, cells := 0, slots := 0, locals := 0 } Λ B ids ad w [.int a0] (Ni ids ad w P) := by
  refine CT.of RX6 [(0, .int a0)] (plainFor_of_name (by decide +kernel)) rfl (Nat.le_of_ble_eq_true rfl) rfl (fun Γ hO hF => ?_)
  unfold wX6_most at hs
  refine G_iload_n hO 0 dX6_most_0 rfl rfl ?_
  rcases sw_0_7 a0 with hq | hq
  · replace hs := hs.1 hq
    refine G_tableOut hO 64 dX6_most_1 hq (by decide) ?_
    refine G_bipush hO 30 dX6_most_64 (by decide) ?_
    exact G_iret hO hF rfl (Nat.zero_le _) (Nat.zero_le _) dX6_most_66 ⟨rfl, rfl, rfl, _, rfl, hs⟩
  · replace hs := hs.2
    rcases hq with hq | hq | hq | hq | hq | hq | hq | hq
    · replace hs := hs.1 hq
      refine G_tableIn hO 48 dX6_most_1 (by rw [hq]; decide) (by rw [hq]; decide) (by rw [hq]; rfl) (by decide) ?_
      refine G_sipush hO 200 dX6_most_48 (by decide) ?_
      exact G_iret hO hF rfl (Nat.zero_le _) (Nat.zero_le _) dX6_most_51 ⟨rfl, rfl, rfl, _, rfl, hs⟩
    · replace hs := hs.2.1 hq
      refine G_tableIn hO 52 dX6_most_1 (by rw [hq]; decide) (by rw [hq]; decide) (by rw [hq]; rfl) (by decide) ?_
      refine G_bipush hO 80 dX6_most_52 (by decide) ?_
      exact G_iret hO hF rfl (Nat.zero_le _) (Nat.zero_le _) dX6_most_54 ⟨rfl, rfl, rfl, _, rfl, hs⟩
    · replace hs := hs.2.2.1 hq
      refine G_tableIn hO 64 dX6_most_1 (by rw [hq]; decide) (by rw [hq]; decide) (by rw [hq]; rfl) (by decide) ?_
      refine G_bipush hO 30 dX6_most_64 (by decide) ?_
      exact G_iret hO hF rfl (Nat.zero_le _) (Nat.zero_le _) dX6_most_66 ⟨rfl, rfl, rfl, _, rfl, hs⟩
    · replace hs := hs.2.2.2.1 hq
      refine G_tableIn hO 64 dX6_most_1 (by rw [hq]; decide) (by rw [hq]; decide) (by rw [hq]; rfl) (by decide) ?_
      refine G_bipush hO 30 dX6_most_64 (by decide) ?_
      exact G_iret hO hF rfl (Nat.zero_le _) (Nat.zero_le _) dX6_most_66 ⟨rfl, rfl, rfl, _, rfl, hs⟩
    · replace hs := hs.2.2.2.2.1 hq
      refine G_tableIn hO 64 dX6_most_1 (by rw [hq]; decide) (by rw [hq]; decide) (by rw [hq]; rfl) (by decide) ?_
      refine G_bipush hO 30 dX6_most_64 (by decide) ?_
      exact G_iret hO hF rfl (Nat.zero_le _) (Nat.zero_le _) dX6_most_66 ⟨rfl, rfl, rfl, _, rfl, hs⟩
    · replace hs := hs.2.2.2.2.2.1 hq
      refine G_tableIn hO 55 dX6_most_1 (by rw [hq]; decide) (by rw [hq]; decide) (by rw [hq]; rfl) (by decide) ?_
      refine G_bipush hO 50 dX6_most_55 (by decide) ?_
      exact G_iret hO hF rfl (Nat.zero_le _) (Nat.zero_le _) dX6_most_57 ⟨rfl, rfl, rfl, _, rfl, hs⟩
    · replace hs := hs.2.2.2.2.2.2.1 hq
      refine G_tableIn hO 58 dX6_most_1 (by rw [hq]; decide) (by rw [hq]; decide) (by rw [hq]; rfl) (by decide) ?_
      refine G_bipush hO 20 dX6_most_58 (by decide) ?_
      exact G_iret hO hF rfl (Nat.zero_le _) (Nat.zero_le _) dX6_most_60 ⟨rfl, rfl, rfl, _, rfl, hs⟩
    · replace hs := hs.2.2.2.2.2.2.2 hq
      refine G_tableIn hO 61 dX6_most_1 (by rw [hq]; decide) (by rw [hq]; decide) (by rw [hq]; rfl) (by decide) ?_
      refine G_bipush hO 60 dX6_most_61 (by decide) ?_
      exact G_iret hO hF rfl (Nat.zero_le _) (Nat.zero_le _) dX6_most_63 ⟨rfl, rfl, rfl, _, rfl, hs⟩
set_option maxHeartbeats 4000000 in
set_option maxRecDepth 20000 in
theorem c_X6_clean {l : Launch} {Λ : Lay} {B : Nat} {ids : List (Nat × Nat)} {ad : Nat → Nat → Nat} {w : Nat → Nat → va_E} (hm : ∀ j, j < 8 → (21, j) ∈ ids) {j : Nat} (hj : 2 ≤ j ∧ j ≤ 4) {c : Reg} {P : Reg → Prop} (hs : wX6_clean j c P) : CT l yX6_clean cX6_clean 2 none { frames := 0, cells := 0, slots := 0, locals := 0 } Λ B ids ad (va_up w 21 (mdSh Λ ad c)) [.ref (ad 21 j)] (Rv ids ad w 21 (mdSh Λ ad) P) := by
  refine CT.of RX6 [(0, .ref (ad 21 j))] (plainFor_of_name (by decide +kernel)) rfl (Nat.le_of_ble_eq_true rfl) rfl (fun Γ hO hF => ?_)
  have b2 : ∀ (N2 : Nat) (v1 : Int32) (c : Reg), wX6_clean_L2 j P N2 v1 c → G Γ ids ad 0 0 (va_up w 21 (mdSh Λ ad c)) 2 [(0, .ref (ad 21 j)), (1, .int v1)] [] := by
    intro N2
    induction N2 with
    | zero => intro v1 c hs; exact False.elim hs
    | succ N2 ih2 =>
      intro v1 c hs
      unfold wX6_clean_L2 at hs
      refine G_iload_n hO 1 dX6_clean_2 rfl rfl ?_
      refine G_sipush hO 128 dX6_clean_3 (by decide) ?_
      refine G_icmp_ge hO 19 dX6_clean_6 (by decide) (fun h2 => ?_) (fun h2 => ?_)
      · replace hs := hs.1 h2
        refine G_aload_n hO 0 dX6_clean_19 rfl rfl ?_
        refine G_iconst hO 2 dX6_clean_20 (by decide) ?_
        refine G_iconst hO 5 dX6_clean_21 (by decide) ?_
        refine C_iast hO (cw_md _ _) 2 (by decide) (hm _ (by have h9 := hj; omega)) (md_w _ _ hj) (vp_lit (by decide)) dX6_clean_22 ?_
        refine G_aload_n hO 0 dX6_clean_23 rfl rfl ?_
        refine G_bipush hO 9 dX6_clean_24 (by decide) ?_
        refine G_bipush hO 60 dX6_clean_26 (by decide) ?_
        refine C_iast hO (cw_md _ _) 9 (by decide) (hm _ (by have h9 := hj; omega)) (md_w _ _ hj) (vp_lit (by decide)) dX6_clean_28 ?_
        refine G_aload_n hO 0 dX6_clean_29 rfl rfl ?_
        refine G_bipush hO 10 dX6_clean_30 (by decide) ?_
        refine G_bipush hO 60 dX6_clean_32 (by decide) ?_
        refine C_iast hO (cw_md _ _) 10 (by decide) (hm _ (by have h9 := hj; omega)) (md_w _ _ hj) (vp_lit (by decide)) dX6_clean_34 ?_
        refine G_aload_n hO 0 dX6_clean_35 rfl rfl ?_
        refine G_bipush hO 11 dX6_clean_36 (by decide) ?_
        refine G_iconst hO 5 dX6_clean_38 (by decide) ?_
        refine C_iast hO (cw_md _ _) 11 (by decide) (hm _ (by have h9 := hj; omega)) (md_w _ _ hj) (vp_lit (by decide)) dX6_clean_39 ?_
        refine G_aload_n hO 0 dX6_clean_40 rfl rfl ?_
        refine G_bipush hO 12 dX6_clean_41 (by decide) ?_
        refine G_iconst hO 3 dX6_clean_43 (by decide) ?_
        refine C_iast hO (cw_md _ _) 12 (by decide) (hm _ (by have h9 := hj; omega)) (md_w _ _ hj) (vp_lit (by decide)) dX6_clean_44 ?_
        refine G_aload_n hO 0 dX6_clean_45 rfl rfl ?_
        refine G_bipush hO 13 dX6_clean_46 (by decide) ?_
        refine G_bipush hO 12 dX6_clean_48 (by decide) ?_
        refine C_iast hO (cw_md _ _) 13 (by decide) (hm _ (by have h9 := hj; omega)) (md_w _ _ hj) (vp_lit (by decide)) dX6_clean_50 ?_
        refine G_aload_n hO 0 dX6_clean_51 rfl rfl ?_
        refine G_bipush hO 14 dX6_clean_52 (by decide) ?_
        refine G_bipush hO 20 dX6_clean_54 (by decide) ?_
        refine C_iast hO (cw_md _ _) 14 (by decide) (hm _ (by have h9 := hj; omega)) (md_w _ _ hj) (vp_lit (by decide)) dX6_clean_56 ?_
        refine G_aload_n hO 0 dX6_clean_57 rfl rfl ?_
        refine G_bipush hO 15 dX6_clean_58 (by decide) ?_
        refine G_bipush hO 10 dX6_clean_60 (by decide) ?_
        refine C_iast hO (cw_md _ _) 15 (by decide) (hm _ (by have h9 := hj; omega)) (md_w _ _ hj) (vp_lit (by decide)) dX6_clean_62 ?_
        refine G_aload_n hO 0 dX6_clean_63 rfl rfl ?_
        refine G_bipush hO 16 dX6_clean_64 (by decide) ?_
        refine G_bipush hO 35 dX6_clean_66 (by decide) ?_
        refine C_iast hO (cw_md _ _) 16 (by decide) (hm _ (by have h9 := hj; omega)) (md_w _ _ hj) (vp_lit (by decide)) dX6_clean_68 ?_
        refine G_aload_n hO 0 dX6_clean_69 rfl rfl ?_
        refine G_bipush hO 17 dX6_clean_70 (by decide) ?_
        refine G_bipush hO 18 dX6_clean_72 (by decide) ?_
        refine C_iast hO (cw_md _ _) 17 (by decide) (hm _ (by have h9 := hj; omega)) (md_w _ _ hj) (vp_lit (by decide)) dX6_clean_74 ?_
        refine G_aload_n hO 0 dX6_clean_75 rfl rfl ?_
        refine G_bipush hO 18 dX6_clean_76 (by decide) ?_
        refine G_sipush hO 800 dX6_clean_78 (by decide) ?_
        refine C_iast hO (cw_md _ _) 18 (by decide) (hm _ (by have h9 := hj; omega)) (md_w _ _ hj) (vp_lit (by decide)) dX6_clean_81 ?_
        refine G_aload_n hO 0 dX6_clean_82 rfl rfl ?_
        refine G_bipush hO 19 dX6_clean_83 (by decide) ?_
        refine G_sipush hO 1200 dX6_clean_85 (by decide) ?_
        refine C_iast hO (cw_md _ _) 19 (by decide) (hm _ (by have h9 := hj; omega)) (md_w _ _ hj) (vp_lit (by decide)) dX6_clean_88 ?_
        exact G_vret hO hF rfl (Nat.zero_le _) (Nat.zero_le _) dX6_clean_89 ⟨rfl, rfl, _, rfl, rfl, hs⟩
      · replace hs := hs.2 h2
        refine G_aload_n hO 0 dX6_clean_9 rfl rfl ?_
        refine G_iload_n hO 1 dX6_clean_10 rfl rfl ?_
        refine G_iconst hO 0 dX6_clean_11 (by decide) ?_
        refine C_iast hO (cw_md _ _) _ rfl (hm _ (by have h9 := hj; omega)) (md_w _ _ hj) hs.1 dX6_clean_12 ?_
        replace hs := hs.2
        refine G_iinc hO 1 (v1 + 1) [(1, .int (v1 + 1)), (0, .ref (ad 21 j))] dX6_clean_13 rfl rfl (by decide) rfl ?_
        refine G_goto hO 2 dX6_clean_16 (by decide) ?_
        refine G_lv hO [(0, .ref (ad 21 j)), (1, .int (v1 + 1))] [1, 0] rfl ?_
        exact ih2 _ _ hs
  unfold wX6_clean at hs
  refine G_iconst hO 0 dX6_clean_0 (by decide) ?_
  refine G_istore_n hO [(1, .int 0), (0, .ref (ad 21 j))] dX6_clean_1 rfl (by decide) rfl ?_
  obtain ⟨Nf1, hs⟩ := hs
  refine G_lv hO [(0, .ref (ad 21 j)), (1, .int 0)] [1, 0] rfl ?_
  exact b2 Nf1 _ _ hs
set_option maxHeartbeats 4000000 in
set_option maxRecDepth 20000 in
theorem c_X6_note {l : Launch} {Λ : Lay} {B : Nat} {ids : List (Nat × Nat)} {ad : Nat → Nat → Nat} {w : Nat → Nat → va_E} (hm : ∀ j, j < 8 → (21, j) ∈ ids) {c : Reg} {P : Reg → Prop} (hs : wX6_note c P) : CT l yX6_note cX6_note 1 none { frames := 1, cells := 0, slots := 0, locals := 25 } Λ B ids ad (va_up w 21 (mdSh Λ ad c)) [.ref (ad 21 0)] (Rv ids ad w 21 (mdSh Λ ad) P) := by
  refine CT.of RX6 [(0, .ref (ad 21 0))] (plainFor_of_name (by decide +kernel)) rfl (Nat.le_of_ble_eq_true rfl) rfl (fun Γ hO hF => ?_)
  have b37 : ∀ (c : Reg), wX6_note_L37 P c → G Γ ids ad 0 0 (va_up w 21 (mdSh Λ ad c)) 37 [(0, .ref (ad 21 0))] [] := by
    intro c hs
    unfold wX6_note_L37 at hs
    refine G_aload_n hO 0 dX6_note_37 rfl rfl ?_
    refine C_getf hO (v := .ref (ad 21 3)) cl6 6 (hm 0 (by decide)) (md_0 _ _ _) (by decide) mw_843 rfl rfl dX6_note_38 ?_
    refine G_iconst hO 0 dX6_note_41 (by decide) ?_
    refine G_aload_n hO 0 dX6_note_42 rfl rfl ?_
    refine C_getf hO (v := .ref (ad 21 5)) cl6 8 (hm 0 (by decide)) (md_0 _ _ _) (by decide) mw_845 rfl rfl dX6_note_43 ?_
    refine G_sipush hO 128 dX6_note_46 (by decide) ?_
    refine G_aload_n hO 0 dX6_note_49 rfl rfl ?_
    refine C_getf hO (v := .int (c 0 9)) cl6 9 (hm 0 (by decide)) (md_0 _ _ _) (by decide) mw_846 rfl rfl dX6_note_50 ?_
    refine G_imul hO dX6_note_53 ?_
    refine G_sipush hO 128 dX6_note_54 (by decide) ?_
    refine KS_Rv hO (rest := []) [.ref (ad 21 3), .int 0, .ref (ad 21 5), .int (128 * (c 0 9)), .int 128] (fun l => c_X6_copy hm (by decide) (by decide) hs) cv_X6_copy mw_955 mw_954 rfl rfl (Nat.le_of_ble_eq_true rfl) (by decide) rfl rfl (Nat.zero_le _) (Nat.zero_le _) dX6_note_57 ?_
    intro c3 hs
    refine G_aload_n hO 0 dX6_note_60 rfl rfl ?_
    refine G_dup hO dX6_note_61 rfl ?_
    refine C_getf hO (v := .int (c3 0 9)) cl6 9 (hm 0 (by decide)) (md_0 _ _ _) (by decide) mw_846 rfl rfl dX6_note_62 ?_
    refine G_iconst hO 1 dX6_note_65 (by decide) ?_
    refine G_iadd hO dX6_note_66 ?_
    refine C_putf hO (cw_md _ _) cl6 9 (hm 0 (by decide)) (md_0 _ _ _) (by decide) mw_846 rfl rfl rfl rfl (Nat.le_of_ble_eq_true rfl) (mdP (by decide)) dX6_note_67 ?_
    exact G_vret hO hF rfl (Nat.zero_le _) (Nat.zero_le _) dX6_note_70 ⟨rfl, rfl, _, rfl, rfl, hs⟩
  unfold wX6_note at hs
  refine G_aload_n hO 0 dX6_note_0 rfl rfl ?_
  refine C_getf hO (v := .int (c 0 9)) cl6 9 (hm 0 (by decide)) (md_0 _ _ _) (by decide) mw_846 rfl rfl dX6_note_1 ?_
  refine G_bipush hO 14 dX6_note_4 (by decide) ?_
  refine G_icmp_ne hO 37 dX6_note_6 (by decide) (fun h2 => ?_) (fun h2 => ?_)
  · replace hs := hs.1 h2
    exact b37 _ hs
  · replace hs := hs.2 h2
    refine G_aload_n hO 0 dX6_note_9 rfl rfl ?_
    refine C_getf hO (v := .ref (ad 21 5)) cl6 8 (hm 0 (by decide)) (md_0 _ _ _) (by decide) mw_845 rfl rfl dX6_note_10 ?_
    refine G_sipush hO 128 dX6_note_13 (by decide) ?_
    refine G_aload_n hO 0 dX6_note_16 rfl rfl ?_
    refine C_getf hO (v := .ref (ad 21 5)) cl6 8 (hm 0 (by decide)) (md_0 _ _ _) (by decide) mw_845 rfl rfl dX6_note_17 ?_
    refine G_iconst hO 0 dX6_note_20 (by decide) ?_
    refine G_sipush hO 1664 dX6_note_21 (by decide) ?_
    refine KS_Rv hO (rest := []) [.ref (ad 21 5), .int 128, .ref (ad 21 5), .int 0, .int 1664] (fun l => c_X6_copy hm (by decide) (by decide) hs) cv_X6_copy mw_955 mw_954 rfl rfl (Nat.le_of_ble_eq_true rfl) (by decide) rfl rfl (Nat.zero_le _) (Nat.zero_le _) dX6_note_24 ?_
    intro c1 hs
    refine G_aload_n hO 0 dX6_note_27 rfl rfl ?_
    refine G_dup hO dX6_note_28 rfl ?_
    refine C_getf hO (v := .int (c1 0 9)) cl6 9 (hm 0 (by decide)) (md_0 _ _ _) (by decide) mw_846 rfl rfl dX6_note_29 ?_
    refine G_iconst hO 1 dX6_note_32 (by decide) ?_
    refine G_isub hO dX6_note_33 ?_
    refine C_putf hO (cw_md _ _) cl6 9 (hm 0 (by decide)) (md_0 _ _ _) (by decide) mw_846 rfl rfl rfl rfl (Nat.le_of_ble_eq_true rfl) (mdP (by decide)) dX6_note_34 ?_
    exact b37 _ hs
set_option maxHeartbeats 4000000 in
set_option maxRecDepth 20000 in
theorem c_X6_begin {l : Launch} {Λ : Lay} {B : Nat} {ids : List (Nat × Nat)} {ad : Nat → Nat → Nat} {w : Nat → Nat → va_E} (hm : ∀ j, j < 8 → (21, j) ∈ ids) {c : Reg} {P : Reg → Prop} (hs : wX6_begin c P) : CT l yX6_begin cX6_begin 1 none { frames := 1, cells := 0, slots := 0, locals := 25 } Λ B ids ad (va_up w 21 (mdSh Λ ad c)) [.ref (ad 21 0)] (Rv ids ad w 21 (mdSh Λ ad) P) := by
  refine CT.of RX6 [(0, .ref (ad 21 0))] (plainFor_of_name (by decide +kernel)) rfl (Nat.le_of_ble_eq_true rfl) rfl (fun Γ hO hF => ?_)
  unfold wX6_begin at hs
  refine G_aload_n hO 0 dX6_begin_0 rfl rfl ?_
  refine C_getf hO (v := .ref (ad 21 3)) cl6 6 (hm 0 (by decide)) (md_0 _ _ _) (by decide) mw_843 rfl rfl dX6_begin_1 ?_
  refine G_iconst hO 0 dX6_begin_4 (by decide) ?_
  refine G_aload_n hO 0 dX6_begin_5 rfl rfl ?_
  refine C_getf hO (v := .ref (ad 21 4)) cl6 7 (hm 0 (by decide)) (md_0 _ _ _) (by decide) mw_844 rfl rfl dX6_begin_6 ?_
  refine G_iconst hO 0 dX6_begin_9 (by decide) ?_
  refine G_sipush hO 128 dX6_begin_10 (by decide) ?_
  refine KS_Rv hO (rest := []) [.ref (ad 21 3), .int 0, .ref (ad 21 4), .int 0, .int 128] (fun l => c_X6_copy hm (by decide) (by decide) hs) cv_X6_copy mw_955 mw_954 rfl rfl (Nat.le_of_ble_eq_true rfl) (by decide) rfl rfl (Nat.zero_le _) (Nat.zero_le _) dX6_begin_13 ?_
  intro c1 hs
  exact G_vret hO hF rfl (Nat.zero_le _) (Nat.zero_le _) dX6_begin_16 ⟨rfl, rfl, _, rfl, rfl, hs⟩
set_option maxHeartbeats 4000000 in
set_option maxRecDepth 20000 in
theorem c_X6_cell {l : Launch} {Λ : Lay} {B : Nat} {ids : List (Nat × Nat)} {ad : Nat → Nat → Nat} {w : Nat → Nat → va_E} {a0 : Int32} {a1 : Int32} {P : Int32 → Prop} (hs : wX6_cell a0 a1 P) : CT l yX6_cell cX6_cell 2 (some .int) { frames := 0, cells := 0, slots := 0, locals := 0 } Λ B ids ad w [.int a0, .int a1] (Ni ids ad w P) := by
  refine CT.of RX6 [(0, .int a0), (1, .int a1)] (plainFor_of_name (by decide +kernel)) rfl (Nat.le_of_ble_eq_true rfl) rfl (fun Γ hO hF => ?_)
  unfold wX6_cell at hs
  refine G_bipush hO 26 dX6_cell_0 (by decide) ?_
  refine G_bipush hO 8 dX6_cell_2 (by decide) ?_
  refine G_iload_n hO 0 dX6_cell_4 rfl rfl ?_
  refine G_imul hO dX6_cell_5 ?_
  refine G_iadd hO dX6_cell_6 ?_
  refine G_iload_n hO 1 dX6_cell_7 rfl rfl ?_
  refine G_iadd hO dX6_cell_8 ?_
  exact G_iret hO hF rfl (Nat.zero_le _) (Nat.zero_le _) dX6_cell_9 ⟨rfl, rfl, rfl, _, rfl, hs⟩
set_option maxHeartbeats 4000000 in
set_option maxRecDepth 20000 in
theorem c_X6_isRoom {l : Launch} {Λ : Lay} {B : Nat} {ids : List (Nat × Nat)} {ad : Nat → Nat → Nat} {w : Nat → Nat → va_E} (hm : ∀ j, j < 8 → (21, j) ∈ ids) {a1 : Int32} {c : Reg} {P : Int32 → Reg → Prop} (hs : wX6_isRoom a1 c P) : CT l yX6_isRoom cX6_isRoom 2 (some .boolean) { frames := 1, cells := 0, slots := 0, locals := 25 } Λ B ids ad (va_up w 21 (mdSh Λ ad c)) [.ref (ad 21 0), .int a1] (Ri ids ad w 21 (mdSh Λ ad) P) := by
  refine CT.of RX6 [(0, .ref (ad 21 0)), (1, .int a1)] (plainFor_of_name (by decide +kernel)) rfl (Nat.le_of_ble_eq_true rfl) rfl (fun Γ hO hF => ?_)
  unfold wX6_isRoom at hs
  refine G_iload_n hO 1 dX6_isRoom_0 rfl rfl ?_
  refine G_i2l hO dX6_isRoom_1 ?_
  refine G_lconst hO 0 dX6_isRoom_2 (by decide) ?_
  refine G_aload_n hO 0 dX6_isRoom_3 rfl rfl ?_
  refine C_getf hO (v := .ref (ad 21 3)) cl6 6 (hm 0 (by decide)) (md_0 _ _ _) (by decide) mw_843 rfl rfl dX6_isRoom_4 ?_
  refine G_iconst hO 0 dX6_isRoom_7 (by decide) ?_
  refine C_iald hO 0 (by decide) (hm 3 (by decide)) (md_3 _ _ _) (vp_lit (by decide)) dX6_isRoom_8 ?_
  refine G_iconst hO 1 dX6_isRoom_9 (by decide) ?_
  refine G_isub hO dX6_isRoom_10 ?_
  refine G_i2l hO dX6_isRoom_11 ?_
  refine KS_Ni hO (rest := []) [.long (Int32.toInt64 a1), .long 0, .long (Int32.toInt64 ((c 3 0) - 1))] (fun l => c_X6_in hs) cv_X6_in mw_884 mw_883 rfl rfl (Nat.le_of_ble_eq_true rfl) (by decide) rfl rfl (Nat.zero_le _) (Nat.zero_le _) dX6_isRoom_12 ?_
  intro r1 hs
  have hb := hs.1.nar
  replace hs := hs.2
  exact G_zret hO hF rfl (Nat.zero_le _) (Nat.zero_le _) hb dX6_isRoom_15 ⟨rfl, rfl, _, _, rfl, rfl, hs⟩
set_option maxHeartbeats 4000000 in
set_option maxRecDepth 20000 in
theorem c_X6_isWarmPlace {l : Launch} {Λ : Lay} {B : Nat} {ids : List (Nat × Nat)} {ad : Nat → Nat → Nat} {w : Nat → Nat → va_E} (hm : ∀ j, j < 8 → (21, j) ∈ ids) {a1 : Int32} {c : Reg} {P : Int32 → Reg → Prop} (hs : wX6_isWarmPlace a1 c P) : CT l yX6_isWarmPlace cX6_isWarmPlace 2 (some .boolean) { frames := 1, cells := 0, slots := 0, locals := 25 } Λ B ids ad (va_up w 21 (mdSh Λ ad c)) [.ref (ad 21 0), .int a1] (Ri ids ad w 21 (mdSh Λ ad) P) := by
  refine CT.of RX6 [(0, .ref (ad 21 0)), (1, .int a1)] (plainFor_of_name (by decide +kernel)) rfl (Nat.le_of_ble_eq_true rfl) rfl (fun Γ hO hF => ?_)
  unfold wX6_isWarmPlace at hs
  refine G_iload_n hO 1 dX6_isWarmPlace_0 rfl rfl ?_
  refine G_i2l hO dX6_isWarmPlace_1 ?_
  refine G_lconst hO 0 dX6_isWarmPlace_2 (by decide) ?_
  refine G_aload_n hO 0 dX6_isWarmPlace_3 rfl rfl ?_
  refine C_getf hO (v := .ref (ad 21 3)) cl6 6 (hm 0 (by decide)) (md_0 _ _ _) (by decide) mw_843 rfl rfl dX6_isWarmPlace_4 ?_
  refine G_iconst hO 0 dX6_isWarmPlace_7 (by decide) ?_
  refine C_iald hO 0 (by decide) (hm 3 (by decide)) (md_3 _ _ _) (vp_lit (by decide)) dX6_isWarmPlace_8 ?_
  refine G_iconst hO 1 dX6_isWarmPlace_9 (by decide) ?_
  refine G_iadd hO dX6_isWarmPlace_10 ?_
  refine G_i2l hO dX6_isWarmPlace_11 ?_
  refine KS_Ni hO (rest := []) [.long (Int32.toInt64 a1), .long 0, .long (Int32.toInt64 ((c 3 0) + 1))] (fun l => c_X6_in hs) cv_X6_in mw_884 mw_883 rfl rfl (Nat.le_of_ble_eq_true rfl) (by decide) rfl rfl (Nat.zero_le _) (Nat.zero_le _) dX6_isWarmPlace_12 ?_
  intro r1 hs
  have hb := hs.1.nar
  replace hs := hs.2
  exact G_zret hO hF rfl (Nat.zero_le _) (Nat.zero_le _) hb dX6_isWarmPlace_15 ⟨rfl, rfl, _, _, rfl, rfl, hs⟩
set_option maxHeartbeats 4000000 in
set_option maxRecDepth 20000 in
theorem c_X6_capacity {l : Launch} {Λ : Lay} {B : Nat} {ids : List (Nat × Nat)} {ad : Nat → Nat → Nat} {w : Nat → Nat → va_E} (hm : ∀ j, j < 8 → (21, j) ∈ ids) {j : Nat} (hj : 2 ≤ j ∧ j ≤ 4) {a1 : Int32} {c : Reg} {P : Int32 → Reg → Prop} (hs : wX6_capacity j a1 c P) : CT l yX6_capacity cX6_capacity 2 (some .int) { frames := 1, cells := 0, slots := 0, locals := 21 } Λ B ids ad (va_up w 21 (mdSh Λ ad c)) [.ref (ad 21 j), .int a1] (Ri ids ad w 21 (mdSh Λ ad) P) := by
  refine CT.of RX6 [(0, .ref (ad 21 j)), (1, .int a1)] (plainFor_of_name (by decide +kernel)) rfl (Nat.le_of_ble_eq_true rfl) rfl (fun Γ hO hF => ?_)
  unfold wX6_capacity at hs
  refine G_iload_n hO 1 dX6_capacity_0 rfl rfl ?_
  refine G_if_ne hO 9 dX6_capacity_1 (by decide) (fun h3 => ?_) (fun h3 => ?_)
  · replace hs := hs.1 h3
    refine G_iload_n hO 1 dX6_capacity_9 rfl rfl ?_
    refine G_iconst hO 1 dX6_capacity_10 (by decide) ?_
    refine G_icmp_ne hO 19 dX6_capacity_11 (by decide) (fun h2 => ?_) (fun h2 => ?_)
    · replace hs := hs.1 h2
      refine G_bipush hO 10 dX6_capacity_19 (by decide) ?_
      refine G_aload_n hO 0 dX6_capacity_21 rfl rfl ?_
      refine G_iload_n hO 1 dX6_capacity_22 rfl rfl ?_
      refine G_iconst hO 2 dX6_capacity_23 (by decide) ?_
      refine G_isub hO dX6_capacity_24 ?_
      refine G_iconst hO 0 dX6_capacity_25 (by decide) ?_
      refine KS_Ni hO (rest := [.ref (ad 21 j), .int 10]) [.int (a1 - 2), .int 0] (fun l => c_X6_cell hs) cv_X6_cell mw_928 mw_927 rfl rfl (Nat.le_of_ble_eq_true rfl) (by decide) rfl rfl (Nat.zero_le _) (Nat.zero_le _) dX6_capacity_26 ?_
      intro r1 hs
      refine C_iald hO _ rfl (hm _ (by have h9 := hj; omega)) (md_w _ _ hj _) hs.1 dX6_capacity_29 ?_
      replace hs := hs.2
      refine G_imul hO dX6_capacity_30 ?_
      exact G_iret hO hF rfl (Nat.zero_le _) (Nat.zero_le _) dX6_capacity_31 ⟨rfl, rfl, _, _, rfl, rfl, hs⟩
    · replace hs := hs.2 h2
      refine G_bipush hO 60 dX6_capacity_14 (by decide) ?_
      refine G_goto hO 31 dX6_capacity_16 (by decide) ?_
      exact G_iret hO hF rfl (Nat.zero_le _) (Nat.zero_le _) dX6_capacity_31 ⟨rfl, rfl, _, _, rfl, rfl, hs⟩
  · replace hs := hs.2 h3
    refine G_bipush hO 40 dX6_capacity_4 (by decide) ?_
    refine G_goto hO 31 dX6_capacity_6 (by decide) ?_
    exact G_iret hO hF rfl (Nat.zero_le _) (Nat.zero_le _) dX6_capacity_31 ⟨rfl, rfl, _, _, rfl, rfl, hs⟩
set_option maxHeartbeats 4000000 in
set_option maxRecDepth 20000 in
theorem c_X6_degrees {l : Launch} {Λ : Lay} {B : Nat} {ids : List (Nat × Nat)} {ad : Nat → Nat → Nat} {w : Nat → Nat → va_E} (hm : ∀ j, j < 8 → (21, j) ∈ ids) {j : Nat} (hj : 2 ≤ j ∧ j ≤ 4) {a1 : Int32} {c : Reg} {P : Int32 → Reg → Prop} (hs : wX6_degrees j a1 c P) : CT l yX6_degrees cX6_degrees 2 (some .int) { frames := 2, cells := 0, slots := 0, locals := 42 } Λ B ids ad (va_up w 21 (mdSh Λ ad c)) [.ref (ad 21 j), .int a1] (Ri ids ad w 21 (mdSh Λ ad) P) := by
  refine CT.of RX6 [(0, .ref (ad 21 j)), (1, .int a1)] (plainFor_of_name (by decide +kernel)) rfl (Nat.le_of_ble_eq_true rfl) rfl (fun Γ hO hF => ?_)
  unfold wX6_degrees at hs
  refine G_aload_n hO 0 dX6_degrees_0 rfl rfl ?_
  refine G_bipush hO 18 dX6_degrees_1 (by decide) ?_
  refine G_iload_n hO 1 dX6_degrees_3 rfl rfl ?_
  refine G_iadd hO dX6_degrees_4 ?_
  refine C_iald hO _ rfl (hm _ (by have h9 := hj; omega)) (md_w _ _ hj _) hs.1 dX6_degrees_5 ?_
  replace hs := hs.2
  refine G_aload_n hO 0 dX6_degrees_6 rfl rfl ?_
  refine G_iload_n hO 1 dX6_degrees_7 rfl rfl ?_
  refine KS_Ri hO (rest := [.int (c j (Int32.toNatClampNeg (18 + a1)))]) [.ref (ad 21 j), .int a1] (fun l => c_X6_capacity hm hj hs) cv_X6_capacity mw_989 mw_988 rfl rfl (Nat.le_of_ble_eq_true rfl) (by decide) rfl rfl (Nat.zero_le _) (Nat.zero_le _) dX6_degrees_8 ?_
  intro r1 c2 hs
  refine KS_Ni hO (rest := []) [.int (c j (Int32.toNatClampNeg (18 + a1))), .int r1] (fun l => c_X6_down hs) cv_X6_down mw_992 mw_991 rfl rfl (Nat.le_of_ble_eq_true rfl) (by decide) rfl rfl (Nat.zero_le _) (Nat.zero_le _) dX6_degrees_11 ?_
  intro r3 hs
  exact G_iret hO hF rfl (Nat.zero_le _) (Nat.zero_le _) dX6_degrees_14 ⟨rfl, rfl, _, _, rfl, rfl, hs⟩
set_option maxHeartbeats 4000000 in
set_option maxRecDepth 20000 in
theorem c_X6_wayOf {l : Launch} {Λ : Lay} {B : Nat} {ids : List (Nat × Nat)} {ad : Nat → Nat → Nat} {w : Nat → Nat → va_E} (hm : ∀ j, j < 8 → (21, j) ∈ ids) {j : Nat} (hj : 2 ≤ j ∧ j ≤ 4) {a1 : Int32} {a2 : Int32} {c : Reg} {P : Int32 → Reg → Prop} (hs : wX6_wayOf j a1 a2 c P) : CT l yX6_wayOf cX6_wayOf 5 (some .int) { frames := 0, cells := 0, slots := 0, locals := 0 } Λ B ids ad (va_up w 21 (mdSh Λ ad c)) [.ref (ad 21 j), .int a1, .int a2] (Ri ids ad w 21 (mdSh Λ ad) P) := by
  refine CT.of RX6 [(0, .ref (ad 21 j)), (1, .int a1), (2, .int a2)] (plainFor_of_name (by decide +kernel)) rfl (Nat.le_of_ble_eq_true rfl) rfl (fun Γ hO hF => ?_)
  have b6 : ∀ (N6 : Nat) (v3 : Int32) (v4 : Int32) (c : Reg), wX6_wayOf_L6 j a1 a2 P N6 v3 v4 c → G Γ ids ad 0 0 (va_up w 21 (mdSh Λ ad c)) 6 [(0, .ref (ad 21 j)), (1, .int a1), (2, .int a2), (3, .int v3), (4, .int v4)] [] := by
    intro N6
    induction N6 with
    | zero => intro v3 v4 c hs; exact False.elim hs
    | succ N6 ih6 =>
      intro v3 v4 c hs
      unfold wX6_wayOf_L6 at hs
      refine G_iload hO 4 dX6_wayOf_6 rfl ?_
      refine G_aload_n hO 0 dX6_wayOf_8 rfl rfl ?_
      refine G_bipush hO 74 dX6_wayOf_9 (by decide) ?_
      refine C_iald hO 74 (by decide) (hm _ (by have h9 := hj; omega)) (md_w _ _ hj _) (vp_lit (by decide)) dX6_wayOf_11 ?_
      refine G_icmp_ge hO 46 dX6_wayOf_12 (by decide) (fun h3 => ?_) (fun h3 => ?_)
      · replace hs := hs.1 h3
        refine G_iload_n hO 3 dX6_wayOf_46 rfl rfl ?_
        exact G_iret hO hF rfl (Nat.zero_le _) (Nat.zero_le _) dX6_wayOf_47 ⟨rfl, rfl, _, _, rfl, rfl, hs⟩
      · replace hs := hs.2 h3
        refine G_aload_n hO 0 dX6_wayOf_15 rfl rfl ?_
        refine G_bipush hO 75 dX6_wayOf_16 (by decide) ?_
        refine G_iconst hO 2 dX6_wayOf_18 (by decide) ?_
        refine G_iload hO 4 dX6_wayOf_19 rfl ?_
        refine G_imul hO dX6_wayOf_21 ?_
        refine G_iadd hO dX6_wayOf_22 ?_
        refine C_iald hO _ rfl (hm _ (by have h9 := hj; omega)) (md_w _ _ hj _) hs.1 dX6_wayOf_23 ?_
        replace hs := hs.2
        refine G_bipush hO 10 dX6_wayOf_24 (by decide) ?_
        refine G_iload_n hO 1 dX6_wayOf_26 rfl rfl ?_
        refine G_imul hO dX6_wayOf_27 ?_
        refine G_iload_n hO 2 dX6_wayOf_28 rfl rfl ?_
        refine G_iadd hO dX6_wayOf_29 ?_
        refine G_icmp_ne hO 38 dX6_wayOf_30 (by decide) (fun h2 => ?_) (fun h2 => ?_)
        · replace hs := hs.1 h2
          refine G_iload_n hO 3 dX6_wayOf_38 rfl rfl ?_
          refine G_istore_n hO [(3, .int v3), (0, .ref (ad 21 j)), (1, .int a1), (2, .int a2), (4, .int v4)] dX6_wayOf_39 rfl (by decide) rfl ?_
          refine G_iinc hO 4 (v4 + 1) [(4, .int (v4 + 1)), (3, .int v3), (0, .ref (ad 21 j)), (1, .int a1), (2, .int a2)] dX6_wayOf_40 rfl rfl (by decide) rfl ?_
          refine G_goto hO 6 dX6_wayOf_43 (by decide) ?_
          refine G_lv hO [(0, .ref (ad 21 j)), (1, .int a1), (2, .int a2), (3, .int v3), (4, .int (v4 + 1))] [2, 3, 4, 1, 0] rfl ?_
          exact ih6 _ _ _ hs
        · replace hs := hs.2 h2
          refine G_iload hO 4 dX6_wayOf_33 rfl ?_
          refine G_goto hO 39 dX6_wayOf_35 (by decide) ?_
          refine G_istore_n hO [(3, .int v4), (0, .ref (ad 21 j)), (1, .int a1), (2, .int a2), (4, .int v4)] dX6_wayOf_39 rfl (by decide) rfl ?_
          refine G_iinc hO 4 (v4 + 1) [(4, .int (v4 + 1)), (3, .int v4), (0, .ref (ad 21 j)), (1, .int a1), (2, .int a2)] dX6_wayOf_40 rfl rfl (by decide) rfl ?_
          refine G_goto hO 6 dX6_wayOf_43 (by decide) ?_
          refine G_lv hO [(0, .ref (ad 21 j)), (1, .int a1), (2, .int a2), (3, .int v4), (4, .int (v4 + 1))] [2, 3, 4, 1, 0] rfl ?_
          exact ih6 _ _ _ hs
  unfold wX6_wayOf at hs
  refine G_ldc hO mw_914 dX6_wayOf_0 ?_
  refine G_istore_n hO [(3, .int (-99999)), (0, .ref (ad 21 j)), (1, .int a1), (2, .int a2)] dX6_wayOf_2 rfl (by decide) rfl ?_
  refine G_iconst hO 0 dX6_wayOf_3 (by decide) ?_
  refine G_istore hO [(4, .int 0), (3, .int (-99999)), (0, .ref (ad 21 j)), (1, .int a1), (2, .int a2)] dX6_wayOf_4 (by decide) rfl ?_
  obtain ⟨Nf1, hs⟩ := hs
  refine G_lv hO [(0, .ref (ad 21 j)), (1, .int a1), (2, .int a2), (3, .int (-99999)), (4, .int 0)] [2, 3, 4, 1, 0] rfl ?_
  exact b6 Nf1 _ _ _ hs
set_option maxHeartbeats 4000000 in
set_option maxRecDepth 20000 in
theorem c_X6_movedOf {l : Launch} {Λ : Lay} {B : Nat} {ids : List (Nat × Nat)} {ad : Nat → Nat → Nat} {w : Nat → Nat → va_E} (hm : ∀ j, j < 8 → (21, j) ∈ ids) {j : Nat} (hj : 2 ≤ j ∧ j ≤ 4) {a1 : Int32} {a2 : Int32} {c : Reg} {P : Int32 → Reg → Prop} (hs : wX6_movedOf j a1 a2 c P) : CT l yX6_movedOf cX6_movedOf 4 (some .int) { frames := 1, cells := 0, slots := 0, locals := 24 } Λ B ids ad (va_up w 21 (mdSh Λ ad c)) [.ref (ad 21 j), .int a1, .int a2] (Ri ids ad w 21 (mdSh Λ ad) P) := by
  refine CT.of RX6 [(0, .ref (ad 21 j)), (1, .int a1), (2, .int a2)] (plainFor_of_name (by decide +kernel)) rfl (Nat.le_of_ble_eq_true rfl) rfl (fun Γ hO hF => ?_)
  unfold wX6_movedOf at hs
  refine G_aload_n hO 0 dX6_movedOf_0 rfl rfl ?_
  refine G_iload_n hO 1 dX6_movedOf_1 rfl rfl ?_
  refine G_iload_n hO 2 dX6_movedOf_2 rfl rfl ?_
  refine KS_Ri hO (rest := []) [.ref (ad 21 j), .int a1, .int a2] (fun l => c_X6_wayOf hm hj hs) cv_X6_wayOf mw_934 mw_933 rfl rfl (Nat.le_of_ble_eq_true rfl) (by decide) rfl rfl (Nat.zero_le _) (Nat.zero_le _) dX6_movedOf_3 ?_
  intro r1 c2 hs
  refine G_istore_n hO [(3, .int r1), (0, .ref (ad 21 j)), (1, .int a1), (2, .int a2)] dX6_movedOf_6 rfl (by decide) rfl ?_
  refine G_iload_n hO 0 dX6_movedOf_7 rfl rfl ?_
  refine G_ldc hO mw_914 dX6_movedOf_8 ?_
  refine G_icmp_ne hO 17 dX6_movedOf_10 (by decide) (fun h3 => ?_) (fun h3 => ?_)
  · replace hs := hs.1 h3
    refine G_aload_n hO 1 dX6_movedOf_17 rfl rfl ?_
    refine G_bipush hO 76 dX6_movedOf_18 (by decide) ?_
    refine G_iconst hO 2 dX6_movedOf_20 (by decide) ?_
    refine G_iload_n hO 0 dX6_movedOf_21 rfl rfl ?_
    refine G_imul hO dX6_movedOf_22 ?_
    refine G_iadd hO dX6_movedOf_23 ?_
    refine C_iald hO _ rfl (hm _ (by have h9 := hj; omega)) (md_w _ _ hj _) hs.1 dX6_movedOf_24 ?_
    replace hs := hs.2
    exact G_iret hO hF rfl (Nat.zero_le _) (Nat.zero_le _) dX6_movedOf_25 ⟨rfl, rfl, _, _, rfl, rfl, hs⟩
  · replace hs := hs.2 h3
    refine G_iconst hO 0 dX6_movedOf_13 (by decide) ?_
    refine G_goto hO 25 dX6_movedOf_14 (by decide) ?_
    exact G_iret hO hF rfl (Nat.zero_le _) (Nat.zero_le _) dX6_movedOf_25 ⟨rfl, rfl, _, _, rfl, rfl, hs⟩
set_option maxHeartbeats 4000000 in
set_option maxRecDepth 20000 in
theorem c_X6_go {l : Launch} {Λ : Lay} {B : Nat} {ids : List (Nat × Nat)} {ad : Nat → Nat → Nat} {w : Nat → Nat → va_E} (hm : ∀ j, j < 8 → (21, j) ∈ ids) {j : Nat} (hj : 2 ≤ j ∧ j ≤ 4) {a1 : Int32} {a2 : Int32} {a3 : Int32} {c : Reg} {P : Reg → Prop} (hs : wX6_go j a1 a2 a3 c P) : CT l yX6_go cX6_go 5 none { frames := 1, cells := 0, slots := 0, locals := 24 } Λ B ids ad (va_up w 21 (mdSh Λ ad c)) [.ref (ad 21 j), .int a1, .int a2, .int a3] (Rv ids ad w 21 (mdSh Λ ad) P) := by
  refine CT.of RX6 [(0, .ref (ad 21 j)), (1, .int a1), (2, .int a2), (3, .int a3)] (plainFor_of_name (by decide +kernel)) rfl (Nat.le_of_ble_eq_true rfl) rfl (fun Γ hO hF => ?_)
  have b96 : ∀ (c : Reg), wX6_go_L96 j a1 a2 a3 P c → G Γ ids ad 0 0 (va_up w 21 (mdSh Λ ad c)) 96 [(0, .ref (ad 21 j)), (2, .int a2), (3, .int a3)] [] := by
    intro c hs
    unfold wX6_go_L96 at hs
    refine G_iload_n hO 1 dX6_go_96 rfl rfl ?_
    refine G_bipush hO 8 dX6_go_97 (by decide) ?_
    refine G_icmp_ge hO 112 dX6_go_99 (by decide) (fun h7 => ?_) (fun h7 => ?_)
    · replace hs := hs.1 h7
      exact G_vret hO hF rfl (Nat.zero_le _) (Nat.zero_le _) dX6_go_112 ⟨rfl, rfl, _, rfl, rfl, hs⟩
    · replace hs := hs.2 h7
      refine G_aload_n hO 0 dX6_go_102 rfl rfl ?_
      refine G_bipush hO 18 dX6_go_103 (by decide) ?_
      refine G_iload_n hO 1 dX6_go_105 rfl rfl ?_
      refine G_iadd hO dX6_go_106 ?_
      refine G_dup2 hO dX6_go_107 rfl rfl ?_
      refine C_iald hO _ rfl (hm _ (by have h9 := hj; omega)) (md_w _ _ hj _) hs.1 dX6_go_108 ?_
      replace hs := hs.2
      refine G_iload_n hO 2 dX6_go_109 rfl rfl ?_
      refine G_iadd hO dX6_go_110 ?_
      refine C_iast hO (cw_md _ _) _ rfl (hm _ (by have h9 := hj; omega)) (md_w _ _ hj) hs.1 dX6_go_111 ?_
      replace hs := hs.2
      exact G_vret hO hF rfl (Nat.zero_le _) (Nat.zero_le _) dX6_go_112 ⟨rfl, rfl, _, rfl, rfl, hs⟩
  have b67 : ∀ (v4 : Int32) (c : Reg), wX6_go_L67 j a1 a2 a3 P v4 c → G Γ ids ad 0 0 (va_up w 21 (mdSh Λ ad c)) 67 [(0, .ref (ad 21 j)), (1, .int a1), (2, .int a2), (3, .int a3), (4, .int v4)] [] := by
    intro v4 c hs
    unfold wX6_go_L67 at hs
    refine G_aload_n hO 0 dX6_go_67 rfl rfl ?_
    refine G_bipush hO 76 dX6_go_68 (by decide) ?_
    refine G_iconst hO 2 dX6_go_70 (by decide) ?_
    refine G_iload hO 4 dX6_go_71 rfl ?_
    refine G_imul hO dX6_go_73 ?_
    refine G_iadd hO dX6_go_74 ?_
    refine G_dup2 hO dX6_go_75 rfl rfl ?_
    refine C_iald hO _ rfl (hm _ (by have h9 := hj; omega)) (md_w _ _ hj _) hs.1 dX6_go_76 ?_
    replace hs := hs.2
    refine G_iload_n hO 3 dX6_go_77 rfl rfl ?_
    refine G_iadd hO dX6_go_78 ?_
    refine C_iast hO (cw_md _ _) _ rfl (hm _ (by have h9 := hj; omega)) (md_w _ _ hj) hs.1 dX6_go_79 ?_
    replace hs := hs.2
    refine G_iload_n hO 1 dX6_go_80 rfl rfl ?_
    refine G_bipush hO 8 dX6_go_81 (by decide) ?_
    refine G_icmp_ge hO 96 dX6_go_83 (by decide) (fun h6 => ?_) (fun h6 => ?_)
    · replace hs := hs.1 h6
      refine G_lv hO [(0, .ref (ad 21 j)), (2, .int a2), (3, .int a3)] [0, 2, 3] rfl ?_
      exact b96 _ hs
    · replace hs := hs.2 h6
      refine G_aload_n hO 0 dX6_go_86 rfl rfl ?_
      refine G_bipush hO 18 dX6_go_87 (by decide) ?_
      refine G_iload_n hO 1 dX6_go_89 rfl rfl ?_
      refine G_iadd hO dX6_go_90 ?_
      refine G_dup2 hO dX6_go_91 rfl rfl ?_
      refine C_iald hO _ rfl (hm _ (by have h9 := hj; omega)) (md_w _ _ hj _) hs.1 dX6_go_92 ?_
      replace hs := hs.2
      refine G_iload_n hO 3 dX6_go_93 rfl rfl ?_
      refine G_isub hO dX6_go_94 ?_
      refine C_iast hO (cw_md _ _) _ rfl (hm _ (by have h9 := hj; omega)) (md_w _ _ hj) hs.1 dX6_go_95 ?_
      replace hs := hs.2
      refine G_lv hO [(0, .ref (ad 21 j)), (2, .int a2), (3, .int a3)] [0, 2, 3] rfl ?_
      exact b96 _ hs
  unfold wX6_go at hs
  refine G_iload_n hO 3 dX6_go_0 rfl rfl ?_
  refine G_if_le hO 112 dX6_go_1 (by decide) (fun h5 => ?_) (fun h5 => ?_)
  · replace hs := hs.1 h5
    exact G_vret hO hF rfl (Nat.zero_le _) (Nat.zero_le _) dX6_go_112 ⟨rfl, rfl, _, rfl, rfl, hs⟩
  · replace hs := hs.2 h5
    refine G_aload_n hO 0 dX6_go_4 rfl rfl ?_
    refine G_iload_n hO 1 dX6_go_5 rfl rfl ?_
    refine G_iload_n hO 2 dX6_go_6 rfl rfl ?_
    refine KS_Ri hO (rest := []) [.ref (ad 21 j), .int a1, .int a2] (fun l => c_X6_wayOf hm hj hs) cv_X6_wayOf mw_934 mw_933 rfl rfl (Nat.le_of_ble_eq_true rfl) (by decide) rfl rfl (Nat.zero_le _) (Nat.zero_le _) dX6_go_7 ?_
    intro r1 c2 hs
    refine G_istore hO [(4, .int r1), (0, .ref (ad 21 j)), (1, .int a1), (2, .int a2), (3, .int a3)] dX6_go_10 (by decide) rfl ?_
    refine G_iload hO 0 dX6_go_12 rfl ?_
    refine G_ldc hO mw_914 dX6_go_14 ?_
    refine G_icmp_ne hO 67 dX6_go_16 (by decide) (fun h4 => ?_) (fun h4 => ?_)
    · replace hs := hs.1 h4
      refine G_lv hO [(0, .ref (ad 21 j)), (1, .int a1), (2, .int a2), (3, .int a3), (4, .int r1)] [1, 2, 3, 4, 0] rfl ?_
      exact b67 _ _ hs
    · replace hs := hs.2 h4
      refine G_aload_n hO 1 dX6_go_19 rfl rfl ?_
      refine G_bipush hO 74 dX6_go_20 (by decide) ?_
      refine C_iald hO 74 (by decide) (hm _ (by have h9 := hj; omega)) (md_w _ _ hj _) (vp_lit (by decide)) dX6_go_22 ?_
      refine G_bipush hO 26 dX6_go_23 (by decide) ?_
      refine G_icmp_ge hO 67 dX6_go_25 (by decide) (fun h3 => ?_) (fun h3 => ?_)
      · replace hs := hs.1 h3
        refine G_lv hO [(0, .ref (ad 21 j)), (1, .int a1), (2, .int a2), (3, .int a3), (4, .int r1)] [1, 2, 3, 4, 0] rfl ?_
        exact b67 _ _ hs
      · replace hs := hs.2 h3
        refine G_aload_n hO 1 dX6_go_28 rfl rfl ?_
        refine G_bipush hO 74 dX6_go_29 (by decide) ?_
        refine C_iald hO 74 (by decide) (hm _ (by have h9 := hj; omega)) (md_w _ _ hj _) (vp_lit (by decide)) dX6_go_31 ?_
        refine G_istore hO [(4, .int (c2 j 74)), (0, .ref (ad 21 j)), (1, .int a1), (2, .int a2), (3, .int a3)] dX6_go_32 (by decide) rfl ?_
        refine G_aload_n hO 1 dX6_go_34 rfl rfl ?_
        refine G_bipush hO 75 dX6_go_35 (by decide) ?_
        refine G_iconst hO 2 dX6_go_37 (by decide) ?_
        refine G_iload hO 0 dX6_go_38 rfl ?_
        refine G_imul hO dX6_go_40 ?_
        refine G_iadd hO dX6_go_41 ?_
        refine G_bipush hO 10 dX6_go_42 (by decide) ?_
        refine G_iload_n hO 2 dX6_go_44 rfl rfl ?_
        refine G_imul hO dX6_go_45 ?_
        refine G_iload_n hO 3 dX6_go_46 rfl rfl ?_
        refine G_iadd hO dX6_go_47 ?_
        refine C_iast hO (cw_md _ _) _ rfl (hm _ (by have h9 := hj; omega)) (md_w _ _ hj) hs.1 dX6_go_48 ?_
        replace hs := hs.2
        refine G_aload_n hO 1 dX6_go_49 rfl rfl ?_
        refine G_bipush hO 76 dX6_go_50 (by decide) ?_
        refine G_iconst hO 2 dX6_go_52 (by decide) ?_
        refine G_iload hO 0 dX6_go_53 rfl ?_
        refine G_imul hO dX6_go_55 ?_
        refine G_iadd hO dX6_go_56 ?_
        refine G_iconst hO 0 dX6_go_57 (by decide) ?_
        refine C_iast hO (cw_md _ _) _ rfl (hm _ (by have h9 := hj; omega)) (md_w _ _ hj) hs.1 dX6_go_58 ?_
        replace hs := hs.2
        refine G_aload_n hO 1 dX6_go_59 rfl rfl ?_
        refine G_bipush hO 74 dX6_go_60 (by decide) ?_
        refine G_dup2 hO dX6_go_62 rfl rfl ?_
        refine C_iald hO 74 (by decide) (hm _ (by have h9 := hj; omega)) (md_w _ _ hj _) (vp_lit (by decide)) dX6_go_63 ?_
        refine G_iconst hO 1 dX6_go_64 (by decide) ?_
        refine G_iadd hO dX6_go_65 ?_
        refine C_iast hO (cw_md _ _) 74 (by decide) (hm _ (by have h9 := hj; omega)) (md_w _ _ hj) (vp_lit (by decide)) dX6_go_66 ?_
        refine G_lv hO [(0, .ref (ad 21 j)), (1, .int a1), (2, .int a2), (3, .int a3), (4, .int (c2 j 74))] [1, 2, 3, 4, 0] rfl ?_
        exact b67 _ _ hs
set_option maxHeartbeats 4000000 in
set_option maxRecDepth 20000 in
theorem c_X6_addTo {l : Launch} {Λ : Lay} {B : Nat} {ids : List (Nat × Nat)} {ad : Nat → Nat → Nat} {w : Nat → Nat → va_E} (hm : ∀ j, j < 8 → (21, j) ∈ ids) {j : Nat} (hj : 2 ≤ j ∧ j ≤ 4) {a1 : Int32} {a2 : Int32} {a3 : Int32} {a4 : Int32} {c : Reg} {P : Reg → Prop} (hs : wX6_addTo j a1 a2 a3 a4 c P) : CT l yX6_addTo cX6_addTo 6 none { frames := 2, cells := 0, slots := 0, locals := 48 } Λ B ids ad (va_up w 21 (mdSh Λ ad c)) [.ref (ad 21 j), .int a1, .int a2, .int a3, .int a4] (Rv ids ad w 21 (mdSh Λ ad) P) := by
  refine CT.of RX6 [(0, .ref (ad 21 j)), (1, .int a1), (2, .int a2), (3, .int a3), (4, .int a4)] (plainFor_of_name (by decide +kernel)) rfl (Nat.le_of_ble_eq_true rfl) rfl (fun Γ hO hF => ?_)
  unfold wX6_addTo at hs
  refine G_aload_n hO 0 dX6_addTo_0 rfl rfl ?_
  refine G_iconst hO 0 dX6_addTo_1 (by decide) ?_
  refine C_iald hO 0 (by decide) (hm _ (by have h9 := hj; omega)) (md_w _ _ hj _) (vp_lit (by decide)) dX6_addTo_2 ?_
  refine G_istore hO [(5, .int (c j 0)), (0, .ref (ad 21 j)), (1, .int a1), (2, .int a2), (3, .int a3), (4, .int a4)] dX6_addTo_3 (by decide) rfl ?_
  refine G_aload_n hO 1 dX6_addTo_5 rfl rfl ?_
  refine G_iload hO 0 dX6_addTo_6 rfl ?_
  refine G_iconst hO 0 dX6_addTo_8 (by decide) ?_
  refine KS_Ni hO (rest := [.ref (ad 21 j)]) [.int (c j 0), .int 0] (fun l => c_X6_cell hs) cv_X6_cell mw_928 mw_927 rfl rfl (Nat.le_of_ble_eq_true rfl) (by decide) rfl rfl (Nat.zero_le _) (Nat.zero_le _) dX6_addTo_9 ?_
  intro r1 hs
  refine G_iload_n hO 2 dX6_addTo_12 rfl rfl ?_
  refine C_iast hO (cw_md _ _) _ rfl (hm _ (by have h9 := hj; omega)) (md_w _ _ hj) hs.1 dX6_addTo_13 ?_
  replace hs := hs.2
  refine G_aload_n hO 1 dX6_addTo_14 rfl rfl ?_
  refine G_iload hO 0 dX6_addTo_15 rfl ?_
  refine G_iconst hO 1 dX6_addTo_17 (by decide) ?_
  refine KS_Ni hO (rest := [.ref (ad 21 j)]) [.int (c j 0), .int 1] (fun l => c_X6_cell hs) cv_X6_cell mw_928 mw_927 rfl rfl (Nat.le_of_ble_eq_true rfl) (by decide) rfl rfl (Nat.zero_le _) (Nat.zero_le _) dX6_addTo_18 ?_
  intro r2 hs
  refine G_iload_n hO 3 dX6_addTo_21 rfl rfl ?_
  refine C_iast hO (cw_md _ _) _ rfl (hm _ (by have h9 := hj; omega)) (md_w _ _ hj) hs.1 dX6_addTo_22 ?_
  replace hs := hs.2
  refine G_aload_n hO 1 dX6_addTo_23 rfl rfl ?_
  refine G_iload hO 0 dX6_addTo_24 rfl ?_
  refine G_iconst hO 2 dX6_addTo_26 (by decide) ?_
  refine KS_Ni hO (rest := [.ref (ad 21 j)]) [.int (c j 0), .int 2] (fun l => c_X6_cell hs) cv_X6_cell mw_928 mw_927 rfl rfl (Nat.le_of_ble_eq_true rfl) (by decide) rfl rfl (Nat.zero_le _) (Nat.zero_le _) dX6_addTo_27 ?_
  intro r3 hs
  refine G_iload_n hO 4 dX6_addTo_30 rfl rfl ?_
  refine C_iast hO (cw_md _ _) _ rfl (hm _ (by have h9 := hj; omega)) (md_w _ _ hj) hs.1 dX6_addTo_31 ?_
  replace hs := hs.2
  refine G_aload_n hO 1 dX6_addTo_32 rfl rfl ?_
  refine G_iload hO 0 dX6_addTo_33 rfl ?_
  refine G_iconst hO 3 dX6_addTo_35 (by decide) ?_
  refine KS_Ni hO (rest := [.ref (ad 21 j)]) [.int (c j 0), .int 3] (fun l => c_X6_cell hs) cv_X6_cell mw_928 mw_927 rfl rfl (Nat.le_of_ble_eq_true rfl) (by decide) rfl rfl (Nat.zero_le _) (Nat.zero_le _) dX6_addTo_36 ?_
  intro r4 hs
  refine G_iload hO 5 dX6_addTo_39 rfl ?_
  refine C_iast hO (cw_md _ _) _ rfl (hm _ (by have h9 := hj; omega)) (md_w _ _ hj) hs.1 dX6_addTo_41 ?_
  replace hs := hs.2
  refine G_aload_n hO 1 dX6_addTo_42 rfl rfl ?_
  refine G_iconst hO 0 dX6_addTo_43 (by decide) ?_
  refine G_dup2 hO dX6_addTo_44 rfl rfl ?_
  refine C_iald hO 0 (by decide) (hm _ (by have h9 := hj; omega)) (md_w _ _ hj _) (vp_lit (by decide)) dX6_addTo_45 ?_
  refine G_iconst hO 1 dX6_addTo_46 (by decide) ?_
  refine G_iadd hO dX6_addTo_47 ?_
  refine C_iast hO (cw_md _ _) 0 (by decide) (hm _ (by have h9 := hj; omega)) (md_w _ _ hj) (vp_lit (by decide)) dX6_addTo_48 ?_
  refine G_aload_n hO 1 dX6_addTo_49 rfl rfl ?_
  refine G_bipush hO 9 dX6_addTo_50 (by decide) ?_
  refine G_iconst hO 2 dX6_addTo_52 (by decide) ?_
  refine G_iload hO 0 dX6_addTo_53 rfl ?_
  refine G_iadd hO dX6_addTo_55 ?_
  refine G_sipush hO 150 dX6_addTo_56 (by decide) ?_
  refine G_iload_n hO 2 dX6_addTo_59 rfl rfl ?_
  refine G_imul hO dX6_addTo_60 ?_
  refine KS_Rv hO (rest := []) [.ref (ad 21 j), .int 9, .int (2 + (c j 0)), .int (150 * a1)] (fun l => c_X6_go hm hj hs) cv_X6_go mw_931 mw_930 rfl rfl (Nat.le_of_ble_eq_true rfl) (by decide) rfl rfl (Nat.zero_le _) (Nat.zero_le _) dX6_addTo_61 ?_
  intro c5 hs
  exact G_vret hO hF rfl (Nat.zero_le _) (Nat.zero_le _) dX6_addTo_64 ⟨rfl, rfl, _, rfl, rfl, hs⟩
set_option maxHeartbeats 4000000 in
set_option maxRecDepth 20000 in
theorem c_X6_wish {l : Launch} {Λ : Lay} {B : Nat} {ids : List (Nat × Nat)} {ad : Nat → Nat → Nat} {w : Nat → Nat → va_E} (hm : ∀ j, j < 8 → (21, j) ∈ ids) {j : Nat} (hj : 2 ≤ j ∧ j ≤ 4) {c : Reg} {P : Int32 → Reg → Prop} (hs : wX6_wish j c P) : CT l yX6_wish cX6_wish 2 (some .int) { frames := 0, cells := 0, slots := 0, locals := 0 } Λ B ids ad (va_up w 21 (mdSh Λ ad c)) [.ref (ad 21 j)] (Ri ids ad w 21 (mdSh Λ ad) P) := by
  refine CT.of RX6 [(0, .ref (ad 21 j))] (plainFor_of_name (by decide +kernel)) rfl (Nat.le_of_ble_eq_true rfl) rfl (fun Γ hO hF => ?_)
  unfold wX6_wish at hs
  refine G_aload_n hO 0 dX6_wish_0 rfl rfl ?_
  refine G_iconst hO 2 dX6_wish_1 (by decide) ?_
  refine C_iald hO 2 (by decide) (hm _ (by have h9 := hj; omega)) (md_w _ _ hj _) (vp_lit (by decide)) dX6_wish_2 ?_
  refine G_bipush hO 20 dX6_wish_3 (by decide) ?_
  refine G_icmp_lt hO 11 dX6_wish_5 (by decide) (fun h2 => ?_) (fun h2 => ?_)
  · replace hs := hs.1 h2
    refine G_bipush hO 20 dX6_wish_11 (by decide) ?_
    refine G_aload_n hO 0 dX6_wish_13 rfl rfl ?_
    refine G_bipush hO 13 dX6_wish_14 (by decide) ?_
    refine C_iald hO 13 (by decide) (hm _ (by have h9 := hj; omega)) (md_w _ _ hj _) (vp_lit (by decide)) dX6_wish_16 ?_
    refine G_bipush hO 20 dX6_wish_17 (by decide) ?_
    refine G_aload_n hO 0 dX6_wish_19 rfl rfl ?_
    refine G_iconst hO 2 dX6_wish_20 (by decide) ?_
    refine C_iald hO 2 (by decide) (hm _ (by have h9 := hj; omega)) (md_w _ _ hj _) (vp_lit (by decide)) dX6_wish_21 ?_
    refine G_isub hO dX6_wish_22 ?_
    refine G_imul hO dX6_wish_23 ?_
    refine G_bipush hO 10 dX6_wish_24 (by decide) ?_
    refine G_idiv hO dX6_wish_26 (by decide) ?_
    refine G_iadd hO dX6_wish_27 ?_
    refine G_istore_n hO [(1, .int (20 + (((c j 13) * (20 - (c j 2))) / 10))), (0, .ref (ad 21 j))] dX6_wish_28 rfl (by decide) rfl ?_
    refine G_iload_n hO 0 dX6_wish_29 rfl rfl ?_
    refine G_bipush hO 70 dX6_wish_30 (by decide) ?_
    refine G_icmp_le hO 40 dX6_wish_32 (by decide) (fun h1 => ?_) (fun h1 => ?_)
    · replace hs := hs.1 h1
      refine G_iload_n hO 0 dX6_wish_40 rfl rfl ?_
      exact G_iret hO hF rfl (Nat.zero_le _) (Nat.zero_le _) dX6_wish_41 ⟨rfl, rfl, _, _, rfl, rfl, hs⟩
    · replace hs := hs.2 h1
      refine G_bipush hO 70 dX6_wish_35 (by decide) ?_
      refine G_goto hO 41 dX6_wish_37 (by decide) ?_
      exact G_iret hO hF rfl (Nat.zero_le _) (Nat.zero_le _) dX6_wish_41 ⟨rfl, rfl, _, _, rfl, rfl, hs⟩
  · replace hs := hs.2 h2
    refine G_bipush hO 20 dX6_wish_8 (by decide) ?_
    exact G_iret hO hF rfl (Nat.zero_le _) (Nat.zero_le _) dX6_wish_10 ⟨rfl, rfl, _, _, rfl, rfl, hs⟩
set_option maxHeartbeats 4000000 in
set_option maxRecDepth 20000 in
theorem c_X6_goSeason {l : Launch} {Λ : Lay} {B : Nat} {ids : List (Nat × Nat)} {ad : Nat → Nat → Nat} {w : Nat → Nat → va_E} (hm : ∀ j, j < 8 → (21, j) ∈ ids) {j : Nat} (hj : 2 ≤ j ∧ j ≤ 4) {c : Reg} {P : Reg → Prop} (hs : wX6_goSeason j c P) : CT l yX6_goSeason cX6_goSeason 2 none { frames := 0, cells := 0, slots := 0, locals := 0 } Λ B ids ad (va_up w 21 (mdSh Λ ad c)) [.ref (ad 21 j)] (Rv ids ad w 21 (mdSh Λ ad) P) := by
  refine CT.of RX6 [(0, .ref (ad 21 j))] (plainFor_of_name (by decide +kernel)) rfl (Nat.le_of_ble_eq_true rfl) rfl (fun Γ hO hF => ?_)
  have b45 : ∀ (s0 : Int32) (s1 : Int32) (c : Reg), wX6_goSeason_L45 j P s0 s1 c → G Γ ids ad 0 0 (va_up w 21 (mdSh Λ ad c)) 45 [(0, .ref (ad 21 j))] [.int s0, .int s1, .ref (ad 21 j)] := by
    intro s0 s1 c hs
    unfold wX6_goSeason_L45 at hs
    refine C_iast hO (cw_md _ _) _ rfl (hm _ (by have h9 := hj; omega)) (md_w _ _ hj) hs.1 dX6_goSeason_45 ?_
    replace hs := hs.2
    refine G_aload_n hO 0 dX6_goSeason_46 rfl rfl ?_
    refine G_bipush hO 7 dX6_goSeason_47 (by decide) ?_
    refine C_iald hO 7 (by decide) (hm _ (by have h9 := hj; omega)) (md_w _ _ hj _) (vp_lit (by decide)) dX6_goSeason_49 ?_
    refine G_bipush hO 60 dX6_goSeason_50 (by decide) ?_
    refine G_icmp_ne hO 70 dX6_goSeason_52 (by decide) (fun h4 => ?_) (fun h4 => ?_)
    · replace hs := hs.1 h4
      exact G_vret hO hF rfl (Nat.zero_le _) (Nat.zero_le _) dX6_goSeason_70 ⟨rfl, rfl, _, rfl, rfl, hs⟩
    · replace hs := hs.2 h4
      refine G_aload_n hO 0 dX6_goSeason_55 rfl rfl ?_
      refine G_bipush hO 6 dX6_goSeason_56 (by decide) ?_
      refine G_iconst hO 1 dX6_goSeason_58 (by decide) ?_
      refine G_aload_n hO 0 dX6_goSeason_59 rfl rfl ?_
      refine G_bipush hO 6 dX6_goSeason_60 (by decide) ?_
      refine C_iald hO 6 (by decide) (hm _ (by have h9 := hj; omega)) (md_w _ _ hj _) (vp_lit (by decide)) dX6_goSeason_62 ?_
      refine G_isub hO dX6_goSeason_63 ?_
      refine C_iast hO (cw_md _ _) 6 (by decide) (hm _ (by have h9 := hj; omega)) (md_w _ _ hj) (vp_lit (by decide)) dX6_goSeason_64 ?_
      refine G_aload_n hO 0 dX6_goSeason_65 rfl rfl ?_
      refine G_bipush hO 7 dX6_goSeason_66 (by decide) ?_
      refine G_iconst hO 0 dX6_goSeason_68 (by decide) ?_
      refine C_iast hO (cw_md _ _) 7 (by decide) (hm _ (by have h9 := hj; omega)) (md_w _ _ hj) (vp_lit (by decide)) dX6_goSeason_69 ?_
      exact G_vret hO hF rfl (Nat.zero_le _) (Nat.zero_le _) dX6_goSeason_70 ⟨rfl, rfl, _, rfl, rfl, hs⟩
  have b32 : ∀ (s0 : Int32) (s1 : Int32) (s2 : Int32) (c : Reg), wX6_goSeason_L32 j P s0 s1 s2 c → G Γ ids ad 0 0 (va_up w 21 (mdSh Λ ad c)) 32 [(0, .ref (ad 21 j))] [.int s0, .int s1, .int s2, .ref (ad 21 j)] := by
    intro s0 s1 s2 c hs
    unfold wX6_goSeason_L32 at hs
    refine G_icmp_ne hO 44 dX6_goSeason_32 (by decide) (fun h3 => ?_) (fun h3 => ?_)
    · replace hs := hs.1 h3
      refine G_iconst hO 0 dX6_goSeason_44 (by decide) ?_
      exact b45 _ _ _ hs
    · replace hs := hs.2 h3
      refine G_aload_n hO 0 dX6_goSeason_35 rfl rfl ?_
      refine G_bipush hO 7 dX6_goSeason_36 (by decide) ?_
      refine C_iald hO 7 (by decide) (hm _ (by have h9 := hj; omega)) (md_w _ _ hj _) (vp_lit (by decide)) dX6_goSeason_38 ?_
      refine G_iconst hO 1 dX6_goSeason_39 (by decide) ?_
      refine G_iadd hO dX6_goSeason_40 ?_
      refine G_goto hO 45 dX6_goSeason_41 (by decide) ?_
      exact b45 _ _ _ hs
  have b15 : ∀ (s0 : Int32) (c : Reg), wX6_goSeason_L15 j P s0 c → G Γ ids ad 0 0 (va_up w 21 (mdSh Λ ad c)) 15 [(0, .ref (ad 21 j))] [.int s0] := by
    intro s0 c hs
    unfold wX6_goSeason_L15 at hs
    refine G_istore_n hO [(1, .int s0), (0, .ref (ad 21 j))] dX6_goSeason_15 rfl (by decide) rfl ?_
    refine G_aload_n hO 1 dX6_goSeason_16 rfl rfl ?_
    refine G_bipush hO 7 dX6_goSeason_17 (by decide) ?_
    refine G_iload_n hO 0 dX6_goSeason_19 rfl rfl ?_
    refine G_aload_n hO 1 dX6_goSeason_20 rfl rfl ?_
    refine G_bipush hO 6 dX6_goSeason_21 (by decide) ?_
    refine C_iald hO 6 (by decide) (hm _ (by have h9 := hj; omega)) (md_w _ _ hj _) (vp_lit (by decide)) dX6_goSeason_23 ?_
    refine G_if_ne hO 31 dX6_goSeason_24 (by decide) (fun h2 => ?_) (fun h2 => ?_)
    · replace hs := hs.1 h2
      refine G_iconst hO 0 dX6_goSeason_31 (by decide) ?_
      refine G_lv hO [(0, .ref (ad 21 j))] [1] rfl ?_
      exact b32 _ _ _ _ hs
    · replace hs := hs.2 h2
      refine G_iconst hO 1 dX6_goSeason_27 (by decide) ?_
      refine G_goto hO 32 dX6_goSeason_28 (by decide) ?_
      refine G_lv hO [(0, .ref (ad 21 j))] [1] rfl ?_
      exact b32 _ _ _ _ hs
  unfold wX6_goSeason at hs
  refine G_aload_n hO 0 dX6_goSeason_0 rfl rfl ?_
  refine G_iconst hO 2 dX6_goSeason_1 (by decide) ?_
  refine C_iald hO 2 (by decide) (hm _ (by have h9 := hj; omega)) (md_w _ _ hj _) (vp_lit (by decide)) dX6_goSeason_2 ?_
  refine G_aload_n hO 0 dX6_goSeason_3 rfl rfl ?_
  refine G_bipush hO 17 dX6_goSeason_4 (by decide) ?_
  refine C_iald hO 17 (by decide) (hm _ (by have h9 := hj; omega)) (md_w _ _ hj _) (vp_lit (by decide)) dX6_goSeason_6 ?_
  refine G_icmp_lt hO 14 dX6_goSeason_7 (by decide) (fun h1 => ?_) (fun h1 => ?_)
  · replace hs := hs.1 h1
    refine G_iconst hO 0 dX6_goSeason_14 (by decide) ?_
    exact b15 _ _ hs
  · replace hs := hs.2 h1
    refine G_iconst hO 1 dX6_goSeason_10 (by decide) ?_
    refine G_goto hO 15 dX6_goSeason_11 (by decide) ?_
    exact b15 _ _ hs
set_option maxHeartbeats 4000000 in
set_option maxRecDepth 20000 in
theorem c_X6_turn {l : Launch} {Λ : Lay} {B : Nat} {ids : List (Nat × Nat)} {ad : Nat → Nat → Nat} {w : Nat → Nat → va_E} (hm : ∀ j, j < 8 → (21, j) ∈ ids) {j : Nat} (hj : 2 ≤ j ∧ j ≤ 4) {a1 : Int32} {c : Reg} {P : Reg → Prop} (hs : wX6_turn j a1 c P) : CT l yX6_turn cX6_turn 2 none { frames := 0, cells := 0, slots := 0, locals := 0 } Λ B ids ad (va_up w 21 (mdSh Λ ad c)) [.ref (ad 21 j), .int a1] (Rv ids ad w 21 (mdSh Λ ad) P) := by
  refine CT.of RX6 [(0, .ref (ad 21 j)), (1, .int a1)] (plainFor_of_name (by decide +kernel)) rfl (Nat.le_of_ble_eq_true rfl) rfl (fun Γ hO hF => ?_)
  unfold wX6_turn at hs
  refine G_aload_n hO 0 dX6_turn_0 rfl rfl ?_
  refine G_iconst hO 3 dX6_turn_1 (by decide) ?_
  refine G_iload_n hO 1 dX6_turn_2 rfl rfl ?_
  refine C_iast hO (cw_md _ _) 3 (by decide) (hm _ (by have h9 := hj; omega)) (md_w _ _ hj) (vp_lit (by decide)) dX6_turn_3 ?_
  refine G_aload_n hO 0 dX6_turn_4 rfl rfl ?_
  refine G_iconst hO 4 dX6_turn_5 (by decide) ?_
  refine G_aload_n hO 0 dX6_turn_6 rfl rfl ?_
  refine G_iconst hO 1 dX6_turn_7 (by decide) ?_
  refine C_iald hO 1 (by decide) (hm _ (by have h9 := hj; omega)) (md_w _ _ hj _) (vp_lit (by decide)) dX6_turn_8 ?_
  refine C_iast hO (cw_md _ _) 4 (by decide) (hm _ (by have h9 := hj; omega)) (md_w _ _ hj) (vp_lit (by decide)) dX6_turn_9 ?_
  refine G_aload_n hO 0 dX6_turn_10 rfl rfl ?_
  refine G_bipush hO 8 dX6_turn_11 (by decide) ?_
  refine G_dup2 hO dX6_turn_13 rfl rfl ?_
  refine C_iald hO 8 (by decide) (hm _ (by have h9 := hj; omega)) (md_w _ _ hj _) (vp_lit (by decide)) dX6_turn_14 ?_
  refine G_iload_n hO 1 dX6_turn_15 rfl rfl ?_
  refine G_iadd hO dX6_turn_16 ?_
  refine C_iast hO (cw_md _ _) 8 (by decide) (hm _ (by have h9 := hj; omega)) (md_w _ _ hj) (vp_lit (by decide)) dX6_turn_17 ?_
  exact G_vret hO hF rfl (Nat.zero_le _) (Nat.zero_le _) dX6_turn_18 ⟨rfl, rfl, _, rfl, rfl, hs⟩
set_option maxHeartbeats 4000000 in
set_option maxRecDepth 20000 in
theorem c_X6_goBoiler {l : Launch} {Λ : Lay} {B : Nat} {ids : List (Nat × Nat)} {ad : Nat → Nat → Nat} {w : Nat → Nat → va_E} (hm : ∀ j, j < 8 → (21, j) ∈ ids) {j : Nat} (hj : 2 ≤ j ∧ j ≤ 4) {c : Reg} {P : Reg → Prop} (hs : wX6_goBoiler j c P) : CT l yX6_goBoiler cX6_goBoiler 4 none { frames := 3, cells := 0, slots := 0, locals := 63 } Λ B ids ad (va_up w 21 (mdSh Λ ad c)) [.ref (ad 21 j)] (Rv ids ad w 21 (mdSh Λ ad) P) := by
  refine CT.of RX6 [(0, .ref (ad 21 j))] (plainFor_of_name (by decide +kernel)) rfl (Nat.le_of_ble_eq_true rfl) rfl (fun Γ hO hF => ?_)
  have b106 : ∀ (c : Reg), wX6_goBoiler_L106 j P c → G Γ ids ad 0 0 (va_up w 21 (mdSh Λ ad c)) 106 [(0, .ref (ad 21 j))] [] := by
    intro c hs
    unfold wX6_goBoiler_L106 at hs
    refine G_aload_n hO 0 dX6_goBoiler_106 rfl rfl ?_
    refine G_iconst hO 3 dX6_goBoiler_107 (by decide) ?_
    refine C_iald hO 3 (by decide) (hm _ (by have h9 := hj; omega)) (md_w _ _ hj _) (vp_lit (by decide)) dX6_goBoiler_108 ?_
    refine G_iconst hO 1 dX6_goBoiler_109 (by decide) ?_
    refine G_icmp_ne hO 124 dX6_goBoiler_110 (by decide) (fun h13 => ?_) (fun h13 => ?_)
    · replace hs := hs.1 h13
      exact G_vret hO hF rfl (Nat.zero_le _) (Nat.zero_le _) dX6_goBoiler_124 ⟨rfl, rfl, _, rfl, rfl, hs⟩
    · replace hs := hs.2 h13
      refine G_aload_n hO 0 dX6_goBoiler_113 rfl rfl ?_
      refine G_bipush hO 9 dX6_goBoiler_114 (by decide) ?_
      refine G_iconst hO 0 dX6_goBoiler_116 (by decide) ?_
      refine G_aload_n hO 0 dX6_goBoiler_117 rfl rfl ?_
      refine G_bipush hO 9 dX6_goBoiler_118 (by decide) ?_
      refine C_iald hO 9 (by decide) (hm _ (by have h9 := hj; omega)) (md_w _ _ hj _) (vp_lit (by decide)) dX6_goBoiler_120 ?_
      refine KS_Rv hO (rest := []) [.ref (ad 21 j), .int 9, .int 0, .int (c j 9)] (fun l => c_X6_go hm hj hs) cv_X6_go mw_931 mw_930 rfl rfl (Nat.le_of_ble_eq_true rfl) (by decide) rfl rfl (Nat.zero_le _) (Nat.zero_le _) dX6_goBoiler_121 ?_
      intro c12 hs
      exact G_vret hO hF rfl (Nat.zero_le _) (Nat.zero_le _) dX6_goBoiler_124 ⟨rfl, rfl, _, rfl, rfl, hs⟩
  have b68 : ∀ (c : Reg), wX6_goBoiler_L68 j P c → G Γ ids ad 0 0 (va_up w 21 (mdSh Λ ad c)) 68 [(0, .ref (ad 21 j))] [] := by
    intro c hs
    unfold wX6_goBoiler_L68 at hs
    refine G_goto hO 106 dX6_goBoiler_68 (by decide) ?_
    exact b106 _ hs
  have b63 : ∀ (c : Reg), wX6_goBoiler_L63 j P c → G Γ ids ad 0 0 (va_up w 21 (mdSh Λ ad c)) 63 [(0, .ref (ad 21 j))] [] := by
    intro c hs
    unfold wX6_goBoiler_L63 at hs
    refine G_aload_n hO 0 dX6_goBoiler_63 rfl rfl ?_
    refine G_iconst hO 0 dX6_goBoiler_64 (by decide) ?_
    refine KS_Rv hO (rest := []) [.ref (ad 21 j), .int 0] (fun l => c_X6_turn hm hj hs) cv_X6_turn mw_1066 mw_1065 rfl rfl (Nat.le_of_ble_eq_true rfl) (by decide) rfl rfl (Nat.zero_le _) (Nat.zero_le _) dX6_goBoiler_65 ?_
    intro c16 hs
    exact b68 _ hs
  have b52 : ∀ (v1 : Int32) (s0 : Int32) (c : Reg), wX6_goBoiler_L52 j P v1 s0 c → G Γ ids ad 0 0 (va_up w 21 (mdSh Λ ad c)) 52 [(0, .ref (ad 21 j)), (1, .int v1)] [.int s0] := by
    intro v1 s0 c hs
    unfold wX6_goBoiler_L52 at hs
    refine G_istore_n hO [(3, .int s0), (0, .ref (ad 21 j)), (1, .int v1)] dX6_goBoiler_52 rfl (by decide) rfl ?_
    refine G_iload_n hO 2 dX6_goBoiler_53 rfl rfl ?_
    refine G_bipush hO 90 dX6_goBoiler_54 (by decide) ?_
    refine G_icmp_ge hO 63 dX6_goBoiler_56 (by decide) (fun h15 => ?_) (fun h15 => ?_)
    · replace hs := hs.1 h15
      refine G_lv hO [(0, .ref (ad 21 j))] [1] rfl ?_
      exact b63 _ hs
    · replace hs := hs.2 h15
      refine G_iload_n hO 0 dX6_goBoiler_59 rfl rfl ?_
      refine G_if_eq hO 68 dX6_goBoiler_60 (by decide) (fun h14 => ?_) (fun h14 => ?_)
      · replace hs := hs.1 h14
        refine G_lv hO [(0, .ref (ad 21 j))] [1] rfl ?_
        exact b68 _ hs
      · replace hs := hs.2 h14
        refine G_lv hO [(0, .ref (ad 21 j))] [1] rfl ?_
        exact b63 _ hs
  have b47 : ∀ (v1 : Int32) (c : Reg), wX6_goBoiler_L47 j P v1 c → G Γ ids ad 0 0 (va_up w 21 (mdSh Λ ad c)) 47 [(0, .ref (ad 21 j)), (1, .int v1)] [] := by
    intro v1 c hs
    unfold wX6_goBoiler_L47 at hs
    refine G_iconst hO 1 dX6_goBoiler_47 (by decide) ?_
    refine G_goto hO 52 dX6_goBoiler_48 (by decide) ?_
    exact b52 _ _ _ hs
  have b51 : ∀ (v1 : Int32) (c : Reg), wX6_goBoiler_L51 j P v1 c → G Γ ids ad 0 0 (va_up w 21 (mdSh Λ ad c)) 51 [(0, .ref (ad 21 j)), (1, .int v1)] [] := by
    intro v1 c hs
    unfold wX6_goBoiler_L51 at hs
    refine G_iconst hO 0 dX6_goBoiler_51 (by decide) ?_
    exact b52 _ _ _ hs
  unfold wX6_goBoiler at hs
  refine G_aload_n hO 0 dX6_goBoiler_0 rfl rfl ?_
  refine G_iconst hO 0 dX6_goBoiler_1 (by decide) ?_
  refine KS_Ri hO (rest := []) [.ref (ad 21 j), .int 0] (fun l => c_X6_degrees hm hj hs) cv_X6_degrees mw_986 mw_985 rfl rfl (Nat.le_of_ble_eq_true rfl) (by decide) rfl rfl (Nat.zero_le _) (Nat.zero_le _) dX6_goBoiler_2 ?_
  intro r1 c2 hs
  refine G_istore_n hO [(1, .int r1), (0, .ref (ad 21 j))] dX6_goBoiler_5 rfl (by decide) rfl ?_
  refine G_aload_n hO 1 dX6_goBoiler_6 rfl rfl ?_
  refine G_iconst hO 1 dX6_goBoiler_7 (by decide) ?_
  refine C_iald hO 1 (by decide) (hm _ (by have h9 := hj; omega)) (md_w _ _ hj _) (vp_lit (by decide)) dX6_goBoiler_8 ?_
  refine G_aload_n hO 1 dX6_goBoiler_9 rfl rfl ?_
  refine G_iconst hO 4 dX6_goBoiler_10 (by decide) ?_
  refine C_iald hO 4 (by decide) (hm _ (by have h9 := hj; omega)) (md_w _ _ hj _) (vp_lit (by decide)) dX6_goBoiler_11 ?_
  refine G_isub hO dX6_goBoiler_12 ?_
  refine G_istore_n hO [(2, .int ((c2 j 1) - (c2 j 4))), (1, .int r1), (0, .ref (ad 21 j))] dX6_goBoiler_13 rfl (by decide) rfl ?_
  refine G_aload_n hO 2 dX6_goBoiler_14 rfl rfl ?_
  refine G_iconst hO 3 dX6_goBoiler_15 (by decide) ?_
  refine C_iald hO 3 (by decide) (hm _ (by have h9 := hj; omega)) (md_w _ _ hj _) (vp_lit (by decide)) dX6_goBoiler_16 ?_
  refine G_iconst hO 1 dX6_goBoiler_17 (by decide) ?_
  refine G_icmp_ne hO 71 dX6_goBoiler_18 (by decide) (fun h11 => ?_) (fun h11 => ?_)
  · replace hs := hs.1 h11
    refine G_iload_n hO 0 dX6_goBoiler_71 rfl rfl ?_
    refine G_aload_n hO 2 dX6_goBoiler_72 rfl rfl ?_
    refine G_bipush hO 12 dX6_goBoiler_73 (by decide) ?_
    refine C_iald hO 12 (by decide) (hm _ (by have h9 := hj; omega)) (md_w _ _ hj _) (vp_lit (by decide)) dX6_goBoiler_75 ?_
    refine G_icmp_lt hO 106 dX6_goBoiler_76 (by decide) (fun h7 => ?_) (fun h7 => ?_)
    · replace hs := hs.1 h7
      refine G_lv hO [(0, .ref (ad 21 j))] [2] rfl ?_
      exact b106 _ hs
    · replace hs := hs.2 h7
      refine G_aload_n hO 2 dX6_goBoiler_79 rfl rfl ?_
      refine G_bipush hO 6 dX6_goBoiler_80 (by decide) ?_
      refine C_iald hO 6 (by decide) (hm _ (by have h9 := hj; omega)) (md_w _ _ hj _) (vp_lit (by decide)) dX6_goBoiler_82 ?_
      refine G_if_ne hO 106 dX6_goBoiler_83 (by decide) (fun h6 => ?_) (fun h6 => ?_)
      · replace hs := hs.1 h6
        refine G_lv hO [(0, .ref (ad 21 j))] [2] rfl ?_
        exact b106 _ hs
      · replace hs := hs.2 h6
        refine G_aload_n hO 2 dX6_goBoiler_86 rfl rfl ?_
        refine G_bipush hO 9 dX6_goBoiler_87 (by decide) ?_
        refine C_iald hO 9 (by decide) (hm _ (by have h9 := hj; omega)) (md_w _ _ hj _) (vp_lit (by decide)) dX6_goBoiler_89 ?_
        refine G_if_eq hO 106 dX6_goBoiler_90 (by decide) (fun h5 => ?_) (fun h5 => ?_)
        · replace hs := hs.1 h5
          refine G_lv hO [(0, .ref (ad 21 j))] [2] rfl ?_
          exact b106 _ hs
        · replace hs := hs.2 h5
          refine G_iload_n hO 1 dX6_goBoiler_93 rfl rfl ?_
          refine G_aload_n hO 2 dX6_goBoiler_94 rfl rfl ?_
          refine G_bipush hO 10 dX6_goBoiler_95 (by decide) ?_
          refine C_iald hO 10 (by decide) (hm _ (by have h9 := hj; omega)) (md_w _ _ hj _) (vp_lit (by decide)) dX6_goBoiler_97 ?_
          refine G_icmp_ge hO 106 dX6_goBoiler_98 (by decide) (fun h4 => ?_) (fun h4 => ?_)
          · replace hs := hs.1 h4
            refine G_lv hO [(0, .ref (ad 21 j))] [2] rfl ?_
            exact b106 _ hs
          · replace hs := hs.2 h4
            refine G_aload_n hO 2 dX6_goBoiler_101 rfl rfl ?_
            refine G_iconst hO 1 dX6_goBoiler_102 (by decide) ?_
            refine KS_Rv hO (rest := []) [.ref (ad 21 j), .int 1] (fun l => c_X6_turn hm hj hs) cv_X6_turn mw_1066 mw_1065 rfl rfl (Nat.le_of_ble_eq_true rfl) (by decide) rfl rfl (Nat.zero_le _) (Nat.zero_le _) dX6_goBoiler_103 ?_
            intro c3 hs
            refine G_lv hO [(0, .ref (ad 21 j))] [2] rfl ?_
            exact b106 _ hs
  · replace hs := hs.2 h11
    refine G_iload_n hO 0 dX6_goBoiler_21 rfl rfl ?_
    refine G_aload_n hO 2 dX6_goBoiler_22 rfl rfl ?_
    refine G_bipush hO 11 dX6_goBoiler_23 (by decide) ?_
    refine C_iald hO 11 (by decide) (hm _ (by have h9 := hj; omega)) (md_w _ _ hj _) (vp_lit (by decide)) dX6_goBoiler_25 ?_
    refine G_icmp_lt hO 51 dX6_goBoiler_26 (by decide) (fun h10 => ?_) (fun h10 => ?_)
    · replace hs := hs.1 h10
      refine G_lv hO [(0, .ref (ad 21 j)), (1, .int r1)] [2, 1] rfl ?_
      exact b51 _ _ hs
    · replace hs := hs.2 h10
      refine G_aload_n hO 2 dX6_goBoiler_29 rfl rfl ?_
      refine G_bipush hO 6 dX6_goBoiler_30 (by decide) ?_
      refine C_iald hO 6 (by decide) (hm _ (by have h9 := hj; omega)) (md_w _ _ hj _) (vp_lit (by decide)) dX6_goBoiler_32 ?_
      refine G_iconst hO 1 dX6_goBoiler_33 (by decide) ?_
      refine G_icmp_eq hO 47 dX6_goBoiler_34 (by decide) (fun h9 => ?_) (fun h9 => ?_)
      · replace hs := hs.1 h9
        refine G_lv hO [(0, .ref (ad 21 j)), (1, .int r1)] [2, 1] rfl ?_
        exact b47 _ _ hs
      · replace hs := hs.2 h9
        refine G_iload_n hO 1 dX6_goBoiler_37 rfl rfl ?_
        refine G_aload_n hO 2 dX6_goBoiler_38 rfl rfl ?_
        refine G_bipush hO 10 dX6_goBoiler_39 (by decide) ?_
        refine C_iald hO 10 (by decide) (hm _ (by have h9 := hj; omega)) (md_w _ _ hj _) (vp_lit (by decide)) dX6_goBoiler_41 ?_
        refine G_iconst hO 5 dX6_goBoiler_42 (by decide) ?_
        refine G_iadd hO dX6_goBoiler_43 ?_
        refine G_icmp_lt hO 51 dX6_goBoiler_44 (by decide) (fun h8 => ?_) (fun h8 => ?_)
        · replace hs := hs.1 h8
          refine G_lv hO [(0, .ref (ad 21 j)), (1, .int r1)] [2, 1] rfl ?_
          exact b51 _ _ hs
        · replace hs := hs.2 h8
          refine G_lv hO [(0, .ref (ad 21 j)), (1, .int r1)] [2, 1] rfl ?_
          exact b47 _ _ hs
set_option maxHeartbeats 4000000 in
set_option maxRecDepth 20000 in
theorem c_X6_freeTarget {l : Launch} {Λ : Lay} {B : Nat} {ids : List (Nat × Nat)} {ad : Nat → Nat → Nat} {w : Nat → Nat → va_E} (hm : ∀ j, j < 8 → (21, j) ∈ ids) {j : Nat} (hj : 2 ≤ j ∧ j ≤ 4) {c : Reg} {P : Int32 → Reg → Prop} (hs : wX6_freeTarget j c P) : CT l yX6_freeTarget cX6_freeTarget 2 (some .int) { frames := 3, cells := 0, slots := 0, locals := 63 } Λ B ids ad (va_up w 21 (mdSh Λ ad c)) [.ref (ad 21 j)] (Ri ids ad w 21 (mdSh Λ ad) P) := by
  refine CT.of RX6 [(0, .ref (ad 21 j))] (plainFor_of_name (by decide +kernel)) rfl (Nat.le_of_ble_eq_true rfl) rfl (fun Γ hO hF => ?_)
  unfold wX6_freeTarget at hs
  refine G_aload_n hO 0 dX6_freeTarget_0 rfl rfl ?_
  refine KS_Ri hO (rest := []) [.ref (ad 21 j)] (fun l => c_X6_wish hm hj hs) cv_X6_wish mw_963 mw_962 rfl rfl (Nat.le_of_ble_eq_true rfl) (by decide) rfl rfl (Nat.zero_le _) (Nat.zero_le _) dX6_freeTarget_1 ?_
  intro r1 c2 hs
  refine G_aload_n hO 0 dX6_freeTarget_4 rfl rfl ?_
  refine G_iconst hO 1 dX6_freeTarget_5 (by decide) ?_
  refine KS_Ri hO (rest := [.int r1]) [.ref (ad 21 j), .int 1] (fun l => c_X6_degrees hm hj hs) cv_X6_degrees mw_986 mw_985 rfl rfl (Nat.le_of_ble_eq_true rfl) (by decide) rfl rfl (Nat.zero_le _) (Nat.zero_le _) dX6_freeTarget_6 ?_
  intro r3 c4 hs
  refine G_isub hO dX6_freeTarget_9 ?_
  refine G_istore_n hO [(1, .int (r1 - r3)), (0, .ref (ad 21 j))] dX6_freeTarget_10 rfl (by decide) rfl ?_
  refine G_iload_n hO 0 dX6_freeTarget_11 rfl rfl ?_
  refine G_if_gt hO 19 dX6_freeTarget_12 (by decide) (fun h6 => ?_) (fun h6 => ?_)
  · replace hs := hs.1 h6
    refine G_iload_n hO 0 dX6_freeTarget_19 rfl rfl ?_
    refine G_bipush hO 10 dX6_freeTarget_20 (by decide) ?_
    refine G_icmp_le hO 30 dX6_freeTarget_22 (by decide) (fun h5 => ?_) (fun h5 => ?_)
    · replace hs := hs.1 h5
      refine G_bipush hO 10 dX6_freeTarget_30 (by decide) ?_
      refine G_iload_n hO 0 dX6_freeTarget_32 rfl rfl ?_
      refine G_imul hO dX6_freeTarget_33 ?_
      exact G_iret hO hF rfl (Nat.zero_le _) (Nat.zero_le _) dX6_freeTarget_34 ⟨rfl, rfl, _, _, rfl, rfl, hs⟩
    · replace hs := hs.2 h5
      refine G_bipush hO 100 dX6_freeTarget_25 (by decide) ?_
      refine G_goto hO 34 dX6_freeTarget_27 (by decide) ?_
      exact G_iret hO hF rfl (Nat.zero_le _) (Nat.zero_le _) dX6_freeTarget_34 ⟨rfl, rfl, _, _, rfl, rfl, hs⟩
  · replace hs := hs.2 h6
    refine G_iconst hO 0 dX6_freeTarget_15 (by decide) ?_
    refine G_goto hO 34 dX6_freeTarget_16 (by decide) ?_
    exact G_iret hO hF rfl (Nat.zero_le _) (Nat.zero_le _) dX6_freeTarget_34 ⟨rfl, rfl, _, _, rfl, rfl, hs⟩
set_option maxHeartbeats 4000000 in
set_option maxRecDepth 20000 in
theorem c_X6_isPinched {l : Launch} {Λ : Lay} {B : Nat} {ids : List (Nat × Nat)} {ad : Nat → Nat → Nat} {w : Nat → Nat → va_E} (hm : ∀ j, j < 8 → (21, j) ∈ ids) {j : Nat} (hj : 2 ≤ j ∧ j ≤ 4) {c : Reg} {P : Int32 → Reg → Prop} (hs : wX6_isPinched j c P) : CT l yX6_isPinched cX6_isPinched 1 (some .boolean) { frames := 4, cells := 0, slots := 0, locals := 84 } Λ B ids ad (va_up w 21 (mdSh Λ ad c)) [.ref (ad 21 j)] (Ri ids ad w 21 (mdSh Λ ad) P) := by
  refine CT.of RX6 [(0, .ref (ad 21 j))] (plainFor_of_name (by decide +kernel)) rfl (Nat.le_of_ble_eq_true rfl) rfl (fun Γ hO hF => ?_)
  unfold wX6_isPinched at hs
  refine G_aload_n hO 0 dX6_isPinched_0 rfl rfl ?_
  refine G_iconst hO 0 dX6_isPinched_1 (by decide) ?_
  refine KS_Ri hO (rest := []) [.ref (ad 21 j), .int 0] (fun l => c_X6_degrees hm hj hs) cv_X6_degrees mw_986 mw_985 rfl rfl (Nat.le_of_ble_eq_true rfl) (by decide) rfl rfl (Nat.zero_le _) (Nat.zero_le _) dX6_isPinched_2 ?_
  intro r1 c2 hs
  refine G_aload_n hO 0 dX6_isPinched_5 rfl rfl ?_
  refine G_bipush hO 16 dX6_isPinched_6 (by decide) ?_
  refine C_iald hO 16 (by decide) (hm _ (by have h9 := hj; omega)) (md_w _ _ hj _) (vp_lit (by decide)) dX6_isPinched_8 ?_
  refine G_icmp_ge hO 25 dX6_isPinched_9 (by decide) (fun h6 => ?_) (fun h6 => ?_)
  · replace hs := hs.1 h6
    refine G_iconst hO 0 dX6_isPinched_25 (by decide) ?_
    exact G_zret hO hF rfl (Nat.zero_le _) (Nat.zero_le _) rfl dX6_isPinched_26 ⟨rfl, rfl, _, _, rfl, rfl, hs⟩
  · replace hs := hs.2 h6
    refine G_aload_n hO 0 dX6_isPinched_12 rfl rfl ?_
    refine KS_Ri hO (rest := []) [.ref (ad 21 j)] (fun l => c_X6_freeTarget hm hj hs) cv_X6_freeTarget mw_1075 mw_1074 rfl rfl (Nat.le_of_ble_eq_true rfl) (by decide) rfl rfl (Nat.zero_le _) (Nat.zero_le _) dX6_isPinched_13 ?_
    intro r3 c4 hs
    refine G_bipush hO 20 dX6_isPinched_16 (by decide) ?_
    refine G_icmp_le hO 25 dX6_isPinched_18 (by decide) (fun h5 => ?_) (fun h5 => ?_)
    · replace hs := hs.1 h5
      refine G_iconst hO 0 dX6_isPinched_25 (by decide) ?_
      exact G_zret hO hF rfl (Nat.zero_le _) (Nat.zero_le _) rfl dX6_isPinched_26 ⟨rfl, rfl, _, _, rfl, rfl, hs⟩
    · replace hs := hs.2 h5
      refine G_iconst hO 1 dX6_isPinched_21 (by decide) ?_
      refine G_goto hO 26 dX6_isPinched_22 (by decide) ?_
      exact G_zret hO hF rfl (Nat.zero_le _) (Nat.zero_le _) rfl dX6_isPinched_26 ⟨rfl, rfl, _, _, rfl, rfl, hs⟩
set_option maxHeartbeats 4000000 in
set_option maxRecDepth 20000 in
theorem c_X6_goValve {l : Launch} {Λ : Lay} {B : Nat} {ids : List (Nat × Nat)} {ad : Nat → Nat → Nat} {w : Nat → Nat → va_E} (hm : ∀ j, j < 8 → (21, j) ∈ ids) {j : Nat} (hj : 2 ≤ j ∧ j ≤ 4) {c : Reg} {P : Reg → Prop} (hs : wX6_goValve j c P) : CT l yX6_goValve cX6_goValve 3 none { frames := 5, cells := 0, slots := 0, locals := 104 } Λ B ids ad (va_up w 21 (mdSh Λ ad c)) [.ref (ad 21 j)] (Rv ids ad w 21 (mdSh Λ ad) P) := by
  refine CT.of RX6 [(0, .ref (ad 21 j))] (plainFor_of_name (by decide +kernel)) rfl (Nat.le_of_ble_eq_true rfl) rfl (fun Γ hO hF => ?_)
  have b43 : ∀ (s0 : Int32) (c : Reg), wX6_goValve_L43 j P s0 c → G Γ ids ad 0 0 (va_up w 21 (mdSh Λ ad c)) 43 [(0, .ref (ad 21 j))] [.int s0] := by
    intro s0 c hs
    unfold wX6_goValve_L43 at hs
    refine G_aload_n hO 0 dX6_goValve_43 rfl rfl ?_
    refine G_iconst hO 5 dX6_goValve_44 (by decide) ?_
    refine C_iald hO 5 (by decide) (hm _ (by have h9 := hj; omega)) (md_w _ _ hj _) (vp_lit (by decide)) dX6_goValve_45 ?_
    refine G_isub hO dX6_goValve_46 ?_
    refine G_istore_n hO [(1, .int (s0 - (c j 5))), (0, .ref (ad 21 j))] dX6_goValve_47 rfl (by decide) rfl ?_
    refine G_aload_n hO 1 dX6_goValve_48 rfl rfl ?_
    refine G_bipush hO 14 dX6_goValve_49 (by decide) ?_
    refine C_iald hO 14 (by decide) (hm _ (by have h9 := hj; omega)) (md_w _ _ hj _) (vp_lit (by decide)) dX6_goValve_51 ?_
    refine G_istore_n hO [(2, .int (c j 14)), (1, .int (s0 - (c j 5))), (0, .ref (ad 21 j))] dX6_goValve_52 rfl (by decide) rfl ?_
    refine G_aload_n hO 2 dX6_goValve_53 rfl rfl ?_
    refine G_iconst hO 5 dX6_goValve_54 (by decide) ?_
    refine G_dup2 hO dX6_goValve_55 rfl rfl ?_
    refine C_iald hO 5 (by decide) (hm _ (by have h9 := hj; omega)) (md_w _ _ hj _) (vp_lit (by decide)) dX6_goValve_56 ?_
    refine G_iload_n hO 1 dX6_goValve_57 rfl rfl ?_
    refine G_iload_n hO 0 dX6_goValve_58 rfl rfl ?_
    refine G_icmp_le hO 66 dX6_goValve_59 (by decide) (fun h9 => ?_) (fun h9 => ?_)
    · replace hs := hs.1 h9
      refine G_iload_n hO 1 dX6_goValve_66 rfl rfl ?_
      refine G_iload_n hO 0 dX6_goValve_67 rfl rfl ?_
      refine G_ineg hO dX6_goValve_68 ?_
      refine G_icmp_ge hO 77 dX6_goValve_69 (by decide) (fun h8 => ?_) (fun h8 => ?_)
      · replace hs := hs.1 h8
        refine G_iload_n hO 1 dX6_goValve_77 rfl rfl ?_
        refine G_iadd hO dX6_goValve_78 ?_
        refine C_iast hO (cw_md _ _) 5 (by decide) (hm _ (by have h9 := hj; omega)) (md_w _ _ hj) (vp_lit (by decide)) dX6_goValve_79 ?_
        exact G_vret hO hF rfl (Nat.zero_le _) (Nat.zero_le _) dX6_goValve_80 ⟨rfl, rfl, _, rfl, rfl, hs⟩
      · replace hs := hs.2 h8
        refine G_iload_n hO 0 dX6_goValve_72 rfl rfl ?_
        refine G_ineg hO dX6_goValve_73 ?_
        refine G_goto hO 78 dX6_goValve_74 (by decide) ?_
        refine G_iadd hO dX6_goValve_78 ?_
        refine C_iast hO (cw_md _ _) 5 (by decide) (hm _ (by have h9 := hj; omega)) (md_w _ _ hj) (vp_lit (by decide)) dX6_goValve_79 ?_
        exact G_vret hO hF rfl (Nat.zero_le _) (Nat.zero_le _) dX6_goValve_80 ⟨rfl, rfl, _, rfl, rfl, hs⟩
    · replace hs := hs.2 h9
      refine G_iload_n hO 0 dX6_goValve_62 rfl rfl ?_
      refine G_goto hO 78 dX6_goValve_63 (by decide) ?_
      refine G_iadd hO dX6_goValve_78 ?_
      refine C_iast hO (cw_md _ _) 5 (by decide) (hm _ (by have h9 := hj; omega)) (md_w _ _ hj) (vp_lit (by decide)) dX6_goValve_79 ?_
      exact G_vret hO hF rfl (Nat.zero_le _) (Nat.zero_le _) dX6_goValve_80 ⟨rfl, rfl, _, rfl, rfl, hs⟩
  unfold wX6_goValve at hs
  refine G_aload_n hO 0 dX6_goValve_0 rfl rfl ?_
  refine G_bipush hO 6 dX6_goValve_1 (by decide) ?_
  refine C_iald hO 6 (by decide) (hm _ (by have h9 := hj; omega)) (md_w _ _ hj _) (vp_lit (by decide)) dX6_goValve_3 ?_
  refine G_iconst hO 1 dX6_goValve_4 (by decide) ?_
  refine G_icmp_ne hO 27 dX6_goValve_5 (by decide) (fun h7 => ?_) (fun h7 => ?_)
  · replace hs := hs.1 h7
    refine G_aload_n hO 0 dX6_goValve_27 rfl rfl ?_
    refine KS_Ri hO (rest := []) [.ref (ad 21 j)] (fun l => c_X6_isPinched hm hj hs) cv_X6_isPinched mw_1072 mw_1071 rfl rfl (Nat.le_of_ble_eq_true rfl) (by decide) rfl rfl (Nat.zero_le _) (Nat.zero_le _) dX6_goValve_28 ?_
    intro r1 c2 hs
    refine G_if_eq hO 39 dX6_goValve_31 (by decide) (fun h5 => ?_) (fun h5 => ?_)
    · replace hs := hs.1 h5
      refine G_aload_n hO 0 dX6_goValve_39 rfl rfl ?_
      refine KS_Ri hO (rest := []) [.ref (ad 21 j)] (fun l => c_X6_freeTarget hm hj hs) cv_X6_freeTarget mw_1075 mw_1074 rfl rfl (Nat.le_of_ble_eq_true rfl) (by decide) rfl rfl (Nat.zero_le _) (Nat.zero_le _) dX6_goValve_40 ?_
      intro r3 c4 hs
      exact b43 _ _ hs
    · replace hs := hs.2 h5
      refine G_bipush hO 20 dX6_goValve_34 (by decide) ?_
      refine G_goto hO 43 dX6_goValve_36 (by decide) ?_
      exact b43 _ _ hs
  · replace hs := hs.2 h7
    refine G_aload_n hO 0 dX6_goValve_8 rfl rfl ?_
    refine G_iconst hO 5 dX6_goValve_9 (by decide) ?_
    refine G_aload_n hO 0 dX6_goValve_10 rfl rfl ?_
    refine G_iconst hO 1 dX6_goValve_11 (by decide) ?_
    refine C_iald hO 1 (by decide) (hm _ (by have h9 := hj; omega)) (md_w _ _ hj _) (vp_lit (by decide)) dX6_goValve_12 ?_
    refine G_bipush hO 30 dX6_goValve_13 (by decide) ?_
    refine G_irem hO dX6_goValve_15 (by decide) ?_
    refine G_if_ne hO 24 dX6_goValve_16 (by decide) (fun h6 => ?_) (fun h6 => ?_)
    · replace hs := hs.1 h6
      refine G_iconst hO 0 dX6_goValve_24 (by decide) ?_
      refine C_iast hO (cw_md _ _) 5 (by decide) (hm _ (by have h9 := hj; omega)) (md_w _ _ hj) (vp_lit (by decide)) dX6_goValve_25 ?_
      exact G_vret hO hF rfl (Nat.zero_le _) (Nat.zero_le _) dX6_goValve_26 ⟨rfl, rfl, _, rfl, rfl, hs⟩
    · replace hs := hs.2 h6
      refine G_bipush hO 100 dX6_goValve_19 (by decide) ?_
      refine G_goto hO 25 dX6_goValve_21 (by decide) ?_
      refine C_iast hO (cw_md _ _) 5 (by decide) (hm _ (by have h9 := hj; omega)) (md_w _ _ hj) (vp_lit (by decide)) dX6_goValve_25 ?_
      exact G_vret hO hF rfl (Nat.zero_le _) (Nat.zero_le _) dX6_goValve_26 ⟨rfl, rfl, _, rfl, rfl, hs⟩
set_option maxHeartbeats 4000000 in
set_option maxRecDepth 20000 in
theorem c_X6_goMixing {l : Launch} {Λ : Lay} {B : Nat} {ids : List (Nat × Nat)} {ad : Nat → Nat → Nat} {w : Nat → Nat → va_E} (hm : ∀ j, j < 8 → (21, j) ∈ ids) {j : Nat} (hj : 2 ≤ j ∧ j ≤ 4) {c : Reg} {P : Reg → Prop} (hs : wX6_goMixing j c P) : CT l yX6_goMixing cX6_goMixing 2 none { frames := 3, cells := 0, slots := 0, locals := 63 } Λ B ids ad (va_up w 21 (mdSh Λ ad c)) [.ref (ad 21 j)] (Rv ids ad w 21 (mdSh Λ ad) P) := by
  refine CT.of RX6 [(0, .ref (ad 21 j))] (plainFor_of_name (by decide +kernel)) rfl (Nat.le_of_ble_eq_true rfl) rfl (fun Γ hO hF => ?_)
  unfold wX6_goMixing at hs
  refine G_aload_n hO 0 dX6_goMixing_0 rfl rfl ?_
  refine G_iconst hO 0 dX6_goMixing_1 (by decide) ?_
  refine KS_Ri hO (rest := []) [.ref (ad 21 j), .int 0] (fun l => c_X6_degrees hm hj hs) cv_X6_degrees mw_986 mw_985 rfl rfl (Nat.le_of_ble_eq_true rfl) (by decide) rfl rfl (Nat.zero_le _) (Nat.zero_le _) dX6_goMixing_2 ?_
  intro r1 c2 hs
  refine G_aload_n hO 0 dX6_goMixing_5 rfl rfl ?_
  refine G_iconst hO 1 dX6_goMixing_6 (by decide) ?_
  refine KS_Ri hO (rest := [.int r1]) [.ref (ad 21 j), .int 1] (fun l => c_X6_degrees hm hj hs) cv_X6_degrees mw_986 mw_985 rfl rfl (Nat.le_of_ble_eq_true rfl) (by decide) rfl rfl (Nat.zero_le _) (Nat.zero_le _) dX6_goMixing_7 ?_
  intro r3 c4 hs
  refine G_isub hO dX6_goMixing_10 ?_
  refine G_istore_n hO [(1, .int (r1 - r3)), (0, .ref (ad 21 j))] dX6_goMixing_11 rfl (by decide) rfl ?_
  refine G_iload_n hO 0 dX6_goMixing_12 rfl rfl ?_
  refine G_if_le hO 35 dX6_goMixing_13 (by decide) (fun h6 => ?_) (fun h6 => ?_)
  · replace hs := hs.1 h6
    exact G_vret hO hF rfl (Nat.zero_le _) (Nat.zero_le _) dX6_goMixing_35 ⟨rfl, rfl, _, rfl, rfl, hs⟩
  · replace hs := hs.2 h6
    refine G_aload_n hO 1 dX6_goMixing_16 rfl rfl ?_
    refine G_iconst hO 0 dX6_goMixing_17 (by decide) ?_
    refine G_iconst hO 1 dX6_goMixing_18 (by decide) ?_
    refine G_aload_n hO 1 dX6_goMixing_19 rfl rfl ?_
    refine G_bipush hO 15 dX6_goMixing_20 (by decide) ?_
    refine C_iald hO 15 (by decide) (hm _ (by have h9 := hj; omega)) (md_w _ _ hj _) (vp_lit (by decide)) dX6_goMixing_22 ?_
    refine G_aload_n hO 1 dX6_goMixing_23 rfl rfl ?_
    refine G_iconst hO 5 dX6_goMixing_24 (by decide) ?_
    refine C_iald hO 5 (by decide) (hm _ (by have h9 := hj; omega)) (md_w _ _ hj _) (vp_lit (by decide)) dX6_goMixing_25 ?_
    refine G_imul hO dX6_goMixing_26 ?_
    refine G_iload_n hO 0 dX6_goMixing_27 rfl rfl ?_
    refine G_imul hO dX6_goMixing_28 ?_
    refine G_bipush hO 100 dX6_goMixing_29 (by decide) ?_
    refine G_idiv hO dX6_goMixing_31 (by decide) ?_
    refine KS_Rv hO (rest := []) [.ref (ad 21 j), .int 0, .int 1, .int ((((c4 j 15) * (c4 j 5)) * (r1 - r3)) / 100)] (fun l => c_X6_go hm hj hs) cv_X6_go mw_931 mw_930 rfl rfl (Nat.le_of_ble_eq_true rfl) (by decide) rfl rfl (Nat.zero_le _) (Nat.zero_le _) dX6_goMixing_32 ?_
    intro c5 hs
    exact G_vret hO hF rfl (Nat.zero_le _) (Nat.zero_le _) dX6_goMixing_35 ⟨rfl, rfl, _, rfl, rfl, hs⟩
set_option maxHeartbeats 4000000 in
set_option maxRecDepth 20000 in
theorem c_X6_goRadiators {l : Launch} {Λ : Lay} {B : Nat} {ids : List (Nat × Nat)} {ad : Nat → Nat → Nat} {w : Nat → Nat → va_E} (hm : ∀ j, j < 8 → (21, j) ∈ ids) {j : Nat} (hj : 2 ≤ j ∧ j ≤ 4) {a1 : Int32} {c : Reg} {P : Reg → Prop} (hs : wX6_goRadiators j a1 c P) : CT l yX6_goRadiators cX6_goRadiators 5 none { frames := 3, cells := 0, slots := 0, locals := 63 } Λ B ids ad (va_up w 21 (mdSh Λ ad c)) [.ref (ad 21 j), .int a1] (Rv ids ad w 21 (mdSh Λ ad) P) := by
  refine CT.of RX6 [(0, .ref (ad 21 j)), (1, .int a1)] (plainFor_of_name (by decide +kernel)) rfl (Nat.le_of_ble_eq_true rfl) rfl (fun Γ hO hF => ?_)
  unfold wX6_goRadiators at hs
  refine G_aload_n hO 0 dX6_goRadiators_0 rfl rfl ?_
  refine G_iconst hO 2 dX6_goRadiators_1 (by decide) ?_
  refine G_iload_n hO 1 dX6_goRadiators_2 rfl rfl ?_
  refine G_iadd hO dX6_goRadiators_3 ?_
  refine KS_Ri hO (rest := []) [.ref (ad 21 j), .int (2 + a1)] (fun l => c_X6_degrees hm hj hs) cv_X6_degrees mw_986 mw_985 rfl rfl (Nat.le_of_ble_eq_true rfl) (by decide) rfl rfl (Nat.zero_le _) (Nat.zero_le _) dX6_goRadiators_4 ?_
  intro r1 c2 hs
  refine G_istore_n hO [(2, .int r1), (0, .ref (ad 21 j)), (1, .int a1)] dX6_goRadiators_7 rfl (by decide) rfl ?_
  refine G_aload_n hO 1 dX6_goRadiators_8 rfl rfl ?_
  refine G_iconst hO 1 dX6_goRadiators_9 (by decide) ?_
  refine KS_Ri hO (rest := []) [.ref (ad 21 j), .int 1] (fun l => c_X6_degrees hm hj hs) cv_X6_degrees mw_986 mw_985 rfl rfl (Nat.le_of_ble_eq_true rfl) (by decide) rfl rfl (Nat.zero_le _) (Nat.zero_le _) dX6_goRadiators_10 ?_
  intro r3 c4 hs
  refine G_iload_n hO 0 dX6_goRadiators_13 rfl rfl ?_
  refine G_isub hO dX6_goRadiators_14 ?_
  refine G_istore_n hO [(3, .int (r3 - r1)), (2, .int r1), (0, .ref (ad 21 j)), (1, .int a1)] dX6_goRadiators_15 rfl (by decide) rfl ?_
  refine G_iload_n hO 1 dX6_goRadiators_16 rfl rfl ?_
  refine G_aload_n hO 2 dX6_goRadiators_17 rfl rfl ?_
  refine G_iload_n hO 3 dX6_goRadiators_18 rfl rfl ?_
  refine G_iconst hO 1 dX6_goRadiators_19 (by decide) ?_
  refine KS_Ni hO (rest := [.ref (ad 21 j), .int r1]) [.int a1, .int 1] (fun l => c_X6_cell hs) cv_X6_cell mw_928 mw_927 rfl rfl (Nat.le_of_ble_eq_true rfl) (by decide) rfl rfl (Nat.zero_le _) (Nat.zero_le _) dX6_goRadiators_20 ?_
  intro r5 hs
  refine C_iald hO _ rfl (hm _ (by have h9 := hj; omega)) (md_w _ _ hj _) hs.1 dX6_goRadiators_23 ?_
  replace hs := hs.2
  refine G_icmp_ge hO 64 dX6_goRadiators_24 (by decide) (fun h11 => ?_) (fun h11 => ?_)
  · replace hs := hs.1 h11
    exact G_vret hO hF rfl (Nat.zero_le _) (Nat.zero_le _) dX6_goRadiators_64 ⟨rfl, rfl, _, rfl, rfl, hs⟩
  · replace hs := hs.2 h11
    refine G_iload_n hO 0 dX6_goRadiators_27 rfl rfl ?_
    refine G_if_le hO 64 dX6_goRadiators_28 (by decide) (fun h10 => ?_) (fun h10 => ?_)
    · replace hs := hs.1 h10
      exact G_vret hO hF rfl (Nat.zero_le _) (Nat.zero_le _) dX6_goRadiators_64 ⟨rfl, rfl, _, rfl, rfl, hs⟩
    · replace hs := hs.2 h10
      refine G_aload_n hO 2 dX6_goRadiators_31 rfl rfl ?_
      refine G_iload_n hO 3 dX6_goRadiators_32 rfl rfl ?_
      refine G_iconst hO 2 dX6_goRadiators_33 (by decide) ?_
      refine KS_Ni hO (rest := [.ref (ad 21 j)]) [.int a1, .int 2] (fun l => c_X6_cell hs) cv_X6_cell mw_928 mw_927 rfl rfl (Nat.le_of_ble_eq_true rfl) (by decide) rfl rfl (Nat.zero_le _) (Nat.zero_le _) dX6_goRadiators_34 ?_
      intro r6 hs
      refine C_iald hO _ rfl (hm _ (by have h9 := hj; omega)) (md_w _ _ hj _) hs.1 dX6_goRadiators_37 ?_
      replace hs := hs.2
      refine G_iload_n hO 0 dX6_goRadiators_38 rfl rfl ?_
      refine G_imul hO dX6_goRadiators_39 ?_
      refine G_iconst hO 4 dX6_goRadiators_40 (by decide) ?_
      refine G_idiv hO dX6_goRadiators_41 (by decide) ?_
      refine G_istore hO [(4, .int (((c4 j (Int32.toNatClampNeg r6)) * (r3 - r1)) / 4)), (3, .int (r3 - r1)), (2, .int r1), (0, .ref (ad 21 j)), (1, .int a1)] dX6_goRadiators_42 (by decide) rfl ?_
      refine G_aload_n hO 3 dX6_goRadiators_44 rfl rfl ?_
      refine G_iconst hO 1 dX6_goRadiators_45 (by decide) ?_
      refine G_iconst hO 2 dX6_goRadiators_46 (by decide) ?_
      refine G_iload_n hO 4 dX6_goRadiators_47 rfl rfl ?_
      refine G_iadd hO dX6_goRadiators_48 ?_
      refine G_iload hO 0 dX6_goRadiators_49 rfl ?_
      refine G_iconst hO 1 dX6_goRadiators_51 (by decide) ?_
      refine G_icmp_ge hO 59 dX6_goRadiators_52 (by decide) (fun h9 => ?_) (fun h9 => ?_)
      · replace hs := hs.1 h9
        refine G_iload hO 0 dX6_goRadiators_59 rfl ?_
        refine KS_Rv hO (rest := []) [.ref (ad 21 j), .int 1, .int (2 + a1), .int (((c4 j (Int32.toNatClampNeg r6)) * (r3 - r1)) / 4)] (fun l => c_X6_go hm hj hs) cv_X6_go mw_931 mw_930 rfl rfl (Nat.le_of_ble_eq_true rfl) (by decide) rfl rfl (Nat.zero_le _) (Nat.zero_le _) dX6_goRadiators_61 ?_
        intro c7 hs
        exact G_vret hO hF rfl (Nat.zero_le _) (Nat.zero_le _) dX6_goRadiators_64 ⟨rfl, rfl, _, rfl, rfl, hs⟩
      · replace hs := hs.2 h9
        refine G_iconst hO 1 dX6_goRadiators_55 (by decide) ?_
        refine G_goto hO 61 dX6_goRadiators_56 (by decide) ?_
        refine KS_Rv hO (rest := []) [.ref (ad 21 j), .int 1, .int (2 + a1), .int 1] (fun l => c_X6_go hm hj hs) cv_X6_go mw_931 mw_930 rfl rfl (Nat.le_of_ble_eq_true rfl) (by decide) rfl rfl (Nat.zero_le _) (Nat.zero_le _) dX6_goRadiators_61 ?_
        intro c8 hs
        exact G_vret hO hF rfl (Nat.zero_le _) (Nat.zero_le _) dX6_goRadiators_64 ⟨rfl, rfl, _, rfl, rfl, hs⟩
set_option maxHeartbeats 4000000 in
set_option maxRecDepth 20000 in
theorem c_X6_goLeak {l : Launch} {Λ : Lay} {B : Nat} {ids : List (Nat × Nat)} {ad : Nat → Nat → Nat} {w : Nat → Nat → va_E} (hm : ∀ j, j < 8 → (21, j) ∈ ids) {j : Nat} (hj : 2 ≤ j ∧ j ≤ 4) {a1 : Int32} {c : Reg} {P : Reg → Prop} (hs : wX6_goLeak j a1 c P) : CT l yX6_goLeak cX6_goLeak 4 none { frames := 3, cells := 0, slots := 0, locals := 63 } Λ B ids ad (va_up w 21 (mdSh Λ ad c)) [.ref (ad 21 j), .int a1] (Rv ids ad w 21 (mdSh Λ ad) P) := by
  refine CT.of RX6 [(0, .ref (ad 21 j)), (1, .int a1)] (plainFor_of_name (by decide +kernel)) rfl (Nat.le_of_ble_eq_true rfl) rfl (fun Γ hO hF => ?_)
  have b23 : ∀ (s0 : Int32) (s1 : Int32) (c : Reg), wX6_goLeak_L23 j a1 P s0 s1 c → G Γ ids ad 0 0 (va_up w 21 (mdSh Λ ad c)) 23 [(0, .ref (ad 21 j)), (1, .int a1)] [.int s0, .int s1] := by
    intro s0 s1 c hs
    unfold wX6_goLeak_L23 at hs
    refine G_imul hO dX6_goLeak_23 ?_
    refine G_istore_n hO [(2, .int (s1 * s0)), (0, .ref (ad 21 j)), (1, .int a1)] dX6_goLeak_24 rfl (by decide) rfl ?_
    refine G_iload_n hO 0 dX6_goLeak_25 rfl rfl ?_
    refine G_aload_n hO 1 dX6_goLeak_26 rfl rfl ?_
    refine G_iconst hO 2 dX6_goLeak_27 (by decide) ?_
    refine G_iload_n hO 2 dX6_goLeak_28 rfl rfl ?_
    refine G_iadd hO dX6_goLeak_29 ?_
    refine KS_Ri hO (rest := [.int (s1 * s0)]) [.ref (ad 21 j), .int (2 + a1)] (fun l => c_X6_degrees hm hj hs) cv_X6_degrees mw_986 mw_985 rfl rfl (Nat.le_of_ble_eq_true rfl) (by decide) rfl rfl (Nat.zero_le _) (Nat.zero_le _) dX6_goLeak_30 ?_
    intro r4 c5 hs
    refine G_aload_n hO 1 dX6_goLeak_33 rfl rfl ?_
    refine G_iconst hO 2 dX6_goLeak_34 (by decide) ?_
    refine C_iald hO 2 (by decide) (hm _ (by have h9 := hj; omega)) (md_w _ _ hj _) (vp_lit (by decide)) dX6_goLeak_35 ?_
    refine G_isub hO dX6_goLeak_36 ?_
    refine G_imul hO dX6_goLeak_37 ?_
    refine G_bipush hO 8 dX6_goLeak_38 (by decide) ?_
    refine KS_Ni hO (rest := []) [.int ((s1 * s0) * (r4 - (c5 j 2))), .int 8] (fun l => c_X6_down hs) cv_X6_down mw_992 mw_991 rfl rfl (Nat.le_of_ble_eq_true rfl) (by decide) rfl rfl (Nat.zero_le _) (Nat.zero_le _) dX6_goLeak_40 ?_
    intro r6 hs
    refine G_istore_n hO [(3, .int r6), (2, .int (s1 * s0)), (0, .ref (ad 21 j)), (1, .int a1)] dX6_goLeak_43 rfl (by decide) rfl ?_
    refine G_aload_n hO 2 dX6_goLeak_44 rfl rfl ?_
    refine G_iconst hO 2 dX6_goLeak_45 (by decide) ?_
    refine G_iload_n hO 3 dX6_goLeak_46 rfl rfl ?_
    refine G_iadd hO dX6_goLeak_47 ?_
    refine G_bipush hO 8 dX6_goLeak_48 (by decide) ?_
    refine G_iload_n hO 0 dX6_goLeak_50 rfl rfl ?_
    refine KS_Rv hO (rest := []) [.ref (ad 21 j), .int (2 + a1), .int 8, .int r6] (fun l => c_X6_go hm hj hs) cv_X6_go mw_931 mw_930 rfl rfl (Nat.le_of_ble_eq_true rfl) (by decide) rfl rfl (Nat.zero_le _) (Nat.zero_le _) dX6_goLeak_51 ?_
    intro c7 hs
    refine G_aload_n hO 2 dX6_goLeak_54 rfl rfl ?_
    refine G_bipush hO 8 dX6_goLeak_55 (by decide) ?_
    refine G_iconst hO 2 dX6_goLeak_57 (by decide) ?_
    refine G_iload_n hO 3 dX6_goLeak_58 rfl rfl ?_
    refine G_iadd hO dX6_goLeak_59 ?_
    refine G_iload_n hO 0 dX6_goLeak_60 rfl rfl ?_
    refine G_ineg hO dX6_goLeak_61 ?_
    refine KS_Rv hO (rest := []) [.ref (ad 21 j), .int 8, .int (2 + a1), .int (-r6)] (fun l => c_X6_go hm hj hs) cv_X6_go mw_931 mw_930 rfl rfl (Nat.le_of_ble_eq_true rfl) (by decide) rfl rfl (Nat.zero_le _) (Nat.zero_le _) dX6_goLeak_62 ?_
    intro c8 hs
    exact G_vret hO hF rfl (Nat.zero_le _) (Nat.zero_le _) dX6_goLeak_65 ⟨rfl, rfl, _, rfl, rfl, hs⟩
  unfold wX6_goLeak at hs
  refine G_aload_n hO 0 dX6_goLeak_0 rfl rfl ?_
  refine G_iload_n hO 1 dX6_goLeak_1 rfl rfl ?_
  refine G_iconst hO 3 dX6_goLeak_2 (by decide) ?_
  refine KS_Ni hO (rest := [.ref (ad 21 j)]) [.int a1, .int 3] (fun l => c_X6_cell hs) cv_X6_cell mw_928 mw_927 rfl rfl (Nat.le_of_ble_eq_true rfl) (by decide) rfl rfl (Nat.zero_le _) (Nat.zero_le _) dX6_goLeak_3 ?_
  intro r1 hs
  refine C_iald hO _ rfl (hm _ (by have h9 := hj; omega)) (md_w _ _ hj _) hs.1 dX6_goLeak_6 ?_
  replace hs := hs.2
  refine G_aload_n hO 0 dX6_goLeak_7 rfl rfl ?_
  refine G_iload_n hO 1 dX6_goLeak_8 rfl rfl ?_
  refine G_iconst hO 4 dX6_goLeak_9 (by decide) ?_
  refine KS_Ni hO (rest := [.ref (ad 21 j), .int (c j (Int32.toNatClampNeg r1))]) [.int a1, .int 4] (fun l => c_X6_cell hs) cv_X6_cell mw_928 mw_927 rfl rfl (Nat.le_of_ble_eq_true rfl) (by decide) rfl rfl (Nat.zero_le _) (Nat.zero_le _) dX6_goLeak_10 ?_
  intro r2 hs
  refine C_iald hO _ rfl (hm _ (by have h9 := hj; omega)) (md_w _ _ hj _) hs.1 dX6_goLeak_13 ?_
  replace hs := hs.2
  refine G_iconst hO 1 dX6_goLeak_14 (by decide) ?_
  refine G_icmp_ne hO 22 dX6_goLeak_15 (by decide) (fun h3 => ?_) (fun h3 => ?_)
  · replace hs := hs.1 h3
    refine G_iconst hO 1 dX6_goLeak_22 (by decide) ?_
    exact b23 _ _ _ hs
  · replace hs := hs.2 h3
    refine G_iconst hO 3 dX6_goLeak_18 (by decide) ?_
    refine G_goto hO 23 dX6_goLeak_19 (by decide) ?_
    exact b23 _ _ _ hs
set_option maxHeartbeats 4000000 in
set_option maxRecDepth 20000 in
theorem c_X6_feels {l : Launch} {Λ : Lay} {B : Nat} {ids : List (Nat × Nat)} {ad : Nat → Nat → Nat} {w : Nat → Nat → va_E} (hm : ∀ j, j < 8 → (21, j) ∈ ids) {j : Nat} (hj : 2 ≤ j ∧ j ≤ 4) {a1 : Int32} {c : Reg} {P : Int32 → Reg → Prop} (hs : wX6_feels j a1 c P) : CT l yX6_feels cX6_feels 5 (some .boolean) { frames := 3, cells := 0, slots := 0, locals := 63 } Λ B ids ad (va_up w 21 (mdSh Λ ad c)) [.ref (ad 21 j), .int a1] (Ri ids ad w 21 (mdSh Λ ad) P) := by
  refine CT.of RX6 [(0, .ref (ad 21 j)), (1, .int a1)] (plainFor_of_name (by decide +kernel)) rfl (Nat.le_of_ble_eq_true rfl) rfl (fun Γ hO hF => ?_)
  have b41 : ∀ (s0 : Int32) (c : Reg), wX6_feels_L41 j a1 P s0 c → G Γ ids ad 0 0 (va_up w 21 (mdSh Λ ad c)) 41 [(0, .ref (ad 21 j)), (1, .int a1)] [.int s0] := by
    intro s0 c hs
    unfold wX6_feels_L41 at hs
    refine G_istore hO [(4, .int s0), (0, .ref (ad 21 j)), (1, .int a1)] dX6_feels_41 (by decide) rfl ?_
    refine G_aload_n hO 1 dX6_feels_43 rfl rfl ?_
    refine G_iload_n hO 2 dX6_feels_44 rfl rfl ?_
    refine G_iload hO 0 dX6_feels_45 rfl ?_
    refine KS_Ni hO (rest := [.ref (ad 21 j)]) [.int a1, .int s0] (fun l => c_X6_cell hs) cv_X6_cell mw_928 mw_927 rfl rfl (Nat.le_of_ble_eq_true rfl) (by decide) rfl rfl (Nat.zero_le _) (Nat.zero_le _) dX6_feels_47 ?_
    intro r6 hs
    refine G_dup2 hO dX6_feels_50 rfl rfl ?_
    refine C_iald hO _ rfl (hm _ (by have h9 := hj; omega)) (md_w _ _ hj _) hs.1 dX6_feels_51 ?_
    replace hs := hs.2
    refine G_iconst hO 1 dX6_feels_52 (by decide) ?_
    refine G_iadd hO dX6_feels_53 ?_
    refine C_iast hO (cw_md _ _) _ rfl (hm _ (by have h9 := hj; omega)) (md_w _ _ hj) hs.1 dX6_feels_54 ?_
    replace hs := hs.2
    refine G_iload hO 0 dX6_feels_55 rfl ?_
    refine G_iconst hO 5 dX6_feels_57 (by decide) ?_
    refine G_icmp_ne hO 65 dX6_feels_58 (by decide) (fun h7 => ?_) (fun h7 => ?_)
    · replace hs := hs.1 h7
      refine G_iconst hO 0 dX6_feels_65 (by decide) ?_
      exact G_zret hO hF rfl (Nat.zero_le _) (Nat.zero_le _) rfl dX6_feels_66 ⟨rfl, rfl, _, _, rfl, rfl, hs⟩
    · replace hs := hs.2 h7
      refine G_iconst hO 1 dX6_feels_61 (by decide) ?_
      refine G_goto hO 66 dX6_feels_62 (by decide) ?_
      exact G_zret hO hF rfl (Nat.zero_le _) (Nat.zero_le _) rfl dX6_feels_66 ⟨rfl, rfl, _, _, rfl, rfl, hs⟩
  unfold wX6_feels at hs
  refine G_aload_n hO 0 dX6_feels_0 rfl rfl ?_
  refine G_iconst hO 2 dX6_feels_1 (by decide) ?_
  refine G_iload_n hO 1 dX6_feels_2 rfl rfl ?_
  refine G_iadd hO dX6_feels_3 ?_
  refine KS_Ri hO (rest := []) [.ref (ad 21 j), .int (2 + a1)] (fun l => c_X6_degrees hm hj hs) cv_X6_degrees mw_986 mw_985 rfl rfl (Nat.le_of_ble_eq_true rfl) (by decide) rfl rfl (Nat.zero_le _) (Nat.zero_le _) dX6_feels_4 ?_
  intro r1 c2 hs
  refine G_istore_n hO [(2, .int r1), (0, .ref (ad 21 j)), (1, .int a1)] dX6_feels_7 rfl (by decide) rfl ?_
  refine G_aload_n hO 1 dX6_feels_8 rfl rfl ?_
  refine G_iload_n hO 2 dX6_feels_9 rfl rfl ?_
  refine G_iconst hO 1 dX6_feels_10 (by decide) ?_
  refine KS_Ni hO (rest := [.ref (ad 21 j)]) [.int a1, .int 1] (fun l => c_X6_cell hs) cv_X6_cell mw_928 mw_927 rfl rfl (Nat.le_of_ble_eq_true rfl) (by decide) rfl rfl (Nat.zero_le _) (Nat.zero_le _) dX6_feels_11 ?_
  intro r3 hs
  refine C_iald hO _ rfl (hm _ (by have h9 := hj; omega)) (md_w _ _ hj _) hs.1 dX6_feels_14 ?_
  replace hs := hs.2
  refine G_istore_n hO [(3, .int (c2 j (Int32.toNatClampNeg r3))), (2, .int r1), (0, .ref (ad 21 j)), (1, .int a1)] dX6_feels_15 rfl (by decide) rfl ?_
  refine G_iload_n hO 1 dX6_feels_16 rfl rfl ?_
  refine G_iload_n hO 0 dX6_feels_17 rfl rfl ?_
  refine G_iconst hO 1 dX6_feels_18 (by decide) ?_
  refine G_isub hO dX6_feels_19 ?_
  refine G_icmp_ge hO 28 dX6_feels_20 (by decide) (fun h5 => ?_) (fun h5 => ?_)
  · replace hs := hs.1 h5
    refine G_iload_n hO 1 dX6_feels_28 rfl rfl ?_
    refine G_iload_n hO 0 dX6_feels_29 rfl rfl ?_
    refine G_iconst hO 2 dX6_feels_30 (by decide) ?_
    refine G_iadd hO dX6_feels_31 ?_
    refine G_icmp_le hO 40 dX6_feels_32 (by decide) (fun h4 => ?_) (fun h4 => ?_)
    · replace hs := hs.1 h4
      refine G_iconst hO 5 dX6_feels_40 (by decide) ?_
      refine G_lv hO [(0, .ref (ad 21 j)), (1, .int a1)] [2, 3] rfl ?_
      exact b41 _ _ hs
    · replace hs := hs.2 h4
      refine G_bipush hO 7 dX6_feels_35 (by decide) ?_
      refine G_goto hO 41 dX6_feels_37 (by decide) ?_
      refine G_lv hO [(0, .ref (ad 21 j)), (1, .int a1)] [2, 3] rfl ?_
      exact b41 _ _ hs
  · replace hs := hs.2 h5
    refine G_bipush hO 6 dX6_feels_23 (by decide) ?_
    refine G_goto hO 41 dX6_feels_25 (by decide) ?_
    refine G_lv hO [(0, .ref (ad 21 j)), (1, .int a1)] [2, 3] rfl ?_
    exact b41 _ _ hs
set_option maxHeartbeats 4000000 in
set_option maxRecDepth 20000 in
theorem c_X6_goMinute {l : Launch} {Λ : Lay} {B : Nat} {ids : List (Nat × Nat)} {ad : Nat → Nat → Nat} {w : Nat → Nat → va_E} (hm : ∀ j, j < 8 → (21, j) ∈ ids) {j : Nat} (hj : 2 ≤ j ∧ j ≤ 4) {c : Reg} {P : Int32 → Reg → Prop} (hs : wX6_goMinute j c P) : CT l yX6_goMinute cX6_goMinute 3 (some .int) { frames := 6, cells := 0, slots := 0, locals := 126 } Λ B ids ad (va_up w 21 (mdSh Λ ad c)) [.ref (ad 21 j)] (Ri ids ad w 21 (mdSh Λ ad) P) := by
  refine CT.of RX6 [(0, .ref (ad 21 j))] (plainFor_of_name (by decide +kernel)) rfl (Nat.le_of_ble_eq_true rfl) rfl (fun Γ hO hF => ?_)
  have b60 : ∀ (N60 : Nat) (v1 : Int32) (v2 : Int32) (c : Reg), wX6_goMinute_L60 j P N60 v1 v2 c → G Γ ids ad 0 0 (va_up w 21 (mdSh Λ ad c)) 60 [(0, .ref (ad 21 j)), (1, .int v1), (2, .int v2)] [] := by
    intro N60
    induction N60 with
    | zero => intro v1 v2 c hs; exact False.elim hs
    | succ N60 ih60 =>
      intro v1 v2 c hs
      unfold wX6_goMinute_L60 at hs
      refine G_iload_n hO 2 dX6_goMinute_60 rfl rfl ?_
      refine G_aload_n hO 0 dX6_goMinute_61 rfl rfl ?_
      refine G_iconst hO 0 dX6_goMinute_62 (by decide) ?_
      refine C_iald hO 0 (by decide) (hm _ (by have h9 := hj; omega)) (md_w _ _ hj _) (vp_lit (by decide)) dX6_goMinute_63 ?_
      refine G_icmp_ge hO 89 dX6_goMinute_64 (by decide) (fun h15 => ?_) (fun h15 => ?_)
      · replace hs := hs.1 h15
        refine G_aload_n hO 0 dX6_goMinute_89 rfl rfl ?_
        refine G_iconst hO 1 dX6_goMinute_90 (by decide) ?_
        refine G_dup2 hO dX6_goMinute_91 rfl rfl ?_
        refine C_iald hO 1 (by decide) (hm _ (by have h9 := hj; omega)) (md_w _ _ hj _) (vp_lit (by decide)) dX6_goMinute_92 ?_
        refine G_iconst hO 1 dX6_goMinute_93 (by decide) ?_
        refine G_iadd hO dX6_goMinute_94 ?_
        refine C_iast hO (cw_md _ _) 1 (by decide) (hm _ (by have h9 := hj; omega)) (md_w _ _ hj) (vp_lit (by decide)) dX6_goMinute_95 ?_
        refine G_iload_n hO 1 dX6_goMinute_96 rfl rfl ?_
        exact G_iret hO hF rfl (Nat.zero_le _) (Nat.zero_le _) dX6_goMinute_97 ⟨rfl, rfl, _, _, rfl, rfl, hs⟩
      · replace hs := hs.2 h15
        refine G_iload_n hO 1 dX6_goMinute_67 rfl rfl ?_
        refine G_aload_n hO 0 dX6_goMinute_68 rfl rfl ?_
        refine G_iload_n hO 2 dX6_goMinute_69 rfl rfl ?_
        refine KS_Ri hO (rest := [.int v1]) [.ref (ad 21 j), .int v2] (fun l => c_X6_feels hm hj hs) cv_X6_feels mw_1087 mw_1086 rfl rfl (Nat.le_of_ble_eq_true rfl) (by decide) rfl rfl (Nat.zero_le _) (Nat.zero_le _) dX6_goMinute_70 ?_
        intro r12 c13 hs
        refine G_if_eq hO 80 dX6_goMinute_73 (by decide) (fun h14 => ?_) (fun h14 => ?_)
        · replace hs := hs.1 h14
          refine G_iconst hO 0 dX6_goMinute_80 (by decide) ?_
          refine G_iadd hO dX6_goMinute_81 ?_
          refine G_istore_n hO [(1, .int (v1 + 0)), (0, .ref (ad 21 j)), (2, .int v2)] dX6_goMinute_82 rfl (by decide) rfl ?_
          refine G_iinc hO 2 (v2 + 1) [(2, .int (v2 + 1)), (1, .int (v1 + 0)), (0, .ref (ad 21 j))] dX6_goMinute_83 rfl rfl (by decide) rfl ?_
          refine G_goto hO 60 dX6_goMinute_86 (by decide) ?_
          refine G_lv hO [(0, .ref (ad 21 j)), (1, .int (v1 + 0)), (2, .int (v2 + 1))] [2, 1, 0] rfl ?_
          exact ih60 _ _ _ hs
        · replace hs := hs.2 h14
          refine G_iconst hO 1 dX6_goMinute_76 (by decide) ?_
          refine G_goto hO 81 dX6_goMinute_77 (by decide) ?_
          refine G_iadd hO dX6_goMinute_81 ?_
          refine G_istore_n hO [(1, .int (v1 + 1)), (0, .ref (ad 21 j)), (2, .int v2)] dX6_goMinute_82 rfl (by decide) rfl ?_
          refine G_iinc hO 2 (v2 + 1) [(2, .int (v2 + 1)), (1, .int (v1 + 1)), (0, .ref (ad 21 j))] dX6_goMinute_83 rfl rfl (by decide) rfl ?_
          refine G_goto hO 60 dX6_goMinute_86 (by decide) ?_
          refine G_lv hO [(0, .ref (ad 21 j)), (1, .int (v1 + 1)), (2, .int (v2 + 1))] [2, 1, 0] rfl ?_
          exact ih60 _ _ _ hs
  have b38 : ∀ (N38 : Nat) (v1 : Int32) (c : Reg), wX6_goMinute_L38 j P N38 v1 c → G Γ ids ad 0 0 (va_up w 21 (mdSh Λ ad c)) 38 [(0, .ref (ad 21 j)), (1, .int v1)] [] := by
    intro N38
    induction N38 with
    | zero => intro v1 c hs; exact False.elim hs
    | succ N38 ih38 =>
      intro v1 c hs
      unfold wX6_goMinute_L38 at hs
      refine G_iload_n hO 1 dX6_goMinute_38 rfl rfl ?_
      refine G_aload_n hO 0 dX6_goMinute_39 rfl rfl ?_
      refine G_iconst hO 0 dX6_goMinute_40 (by decide) ?_
      refine C_iald hO 0 (by decide) (hm _ (by have h9 := hj; omega)) (md_w _ _ hj _) (vp_lit (by decide)) dX6_goMinute_41 ?_
      refine G_icmp_ge hO 56 dX6_goMinute_42 (by decide) (fun h11 => ?_) (fun h11 => ?_)
      · replace hs := hs.1 h11
        refine G_iconst hO 0 dX6_goMinute_56 (by decide) ?_
        refine G_istore_n hO [(1, .int 0), (0, .ref (ad 21 j))] dX6_goMinute_57 rfl (by decide) rfl ?_
        refine G_iconst hO 0 dX6_goMinute_58 (by decide) ?_
        refine G_istore_n hO [(2, .int 0), (1, .int 0), (0, .ref (ad 21 j))] dX6_goMinute_59 rfl (by decide) rfl ?_
        obtain ⟨Nf9, hs⟩ := hs
        refine G_lv hO [(0, .ref (ad 21 j)), (1, .int 0), (2, .int 0)] [2, 1, 0] rfl ?_
        exact b60 Nf9 _ _ _ hs
      · replace hs := hs.2 h11
        refine G_aload_n hO 0 dX6_goMinute_45 rfl rfl ?_
        refine G_iload_n hO 1 dX6_goMinute_46 rfl rfl ?_
        refine KS_Rv hO (rest := []) [.ref (ad 21 j), .int v1] (fun l => c_X6_goLeak hm hj hs) cv_X6_goLeak mw_1084 mw_1083 rfl rfl (Nat.le_of_ble_eq_true rfl) (by decide) rfl rfl (Nat.zero_le _) (Nat.zero_le _) dX6_goMinute_47 ?_
        intro c10 hs
        refine G_iinc hO 1 (v1 + 1) [(1, .int (v1 + 1)), (0, .ref (ad 21 j))] dX6_goMinute_50 rfl rfl (by decide) rfl ?_
        refine G_goto hO 38 dX6_goMinute_53 (by decide) ?_
        refine G_lv hO [(0, .ref (ad 21 j)), (1, .int (v1 + 1))] [1, 0] rfl ?_
        exact ih38 _ _ hs
  have b18 : ∀ (N18 : Nat) (v1 : Int32) (c : Reg), wX6_goMinute_L18 j P N18 v1 c → G Γ ids ad 0 0 (va_up w 21 (mdSh Λ ad c)) 18 [(0, .ref (ad 21 j)), (1, .int v1)] [] := by
    intro N18
    induction N18 with
    | zero => intro v1 c hs; exact False.elim hs
    | succ N18 ih18 =>
      intro v1 c hs
      unfold wX6_goMinute_L18 at hs
      refine G_iload_n hO 1 dX6_goMinute_18 rfl rfl ?_
      refine G_aload_n hO 0 dX6_goMinute_19 rfl rfl ?_
      refine G_iconst hO 0 dX6_goMinute_20 (by decide) ?_
      refine C_iald hO 0 (by decide) (hm _ (by have h9 := hj; omega)) (md_w _ _ hj _) (vp_lit (by decide)) dX6_goMinute_21 ?_
      refine G_icmp_ge hO 36 dX6_goMinute_22 (by decide) (fun h8 => ?_) (fun h8 => ?_)
      · replace hs := hs.1 h8
        refine G_iconst hO 0 dX6_goMinute_36 (by decide) ?_
        refine G_istore_n hO [(1, .int 0), (0, .ref (ad 21 j))] dX6_goMinute_37 rfl (by decide) rfl ?_
        obtain ⟨Nf6, hs⟩ := hs
        refine G_lv hO [(0, .ref (ad 21 j)), (1, .int 0)] [1, 0] rfl ?_
        exact b38 Nf6 _ _ hs
      · replace hs := hs.2 h8
        refine G_aload_n hO 0 dX6_goMinute_25 rfl rfl ?_
        refine G_iload_n hO 1 dX6_goMinute_26 rfl rfl ?_
        refine KS_Rv hO (rest := []) [.ref (ad 21 j), .int v1] (fun l => c_X6_goRadiators hm hj hs) cv_X6_goRadiators mw_1081 mw_1080 rfl rfl (Nat.le_of_ble_eq_true rfl) (by decide) rfl rfl (Nat.zero_le _) (Nat.zero_le _) dX6_goMinute_27 ?_
        intro c7 hs
        refine G_iinc hO 1 (v1 + 1) [(1, .int (v1 + 1)), (0, .ref (ad 21 j))] dX6_goMinute_30 rfl rfl (by decide) rfl ?_
        refine G_goto hO 18 dX6_goMinute_33 (by decide) ?_
        refine G_lv hO [(0, .ref (ad 21 j)), (1, .int (v1 + 1))] [1, 0] rfl ?_
        exact ih18 _ _ hs
  unfold wX6_goMinute at hs
  refine G_aload_n hO 0 dX6_goMinute_0 rfl rfl ?_
  refine KS_Rv hO (rest := []) [.ref (ad 21 j)] (fun l => c_X6_goSeason hm hj hs) cv_X6_goSeason mw_1060 mw_1059 rfl rfl (Nat.le_of_ble_eq_true rfl) (by decide) rfl rfl (Nat.zero_le _) (Nat.zero_le _) dX6_goMinute_1 ?_
  intro c1 hs
  refine G_aload_n hO 0 dX6_goMinute_4 rfl rfl ?_
  refine KS_Rv hO (rest := []) [.ref (ad 21 j)] (fun l => c_X6_goBoiler hm hj hs) cv_X6_goBoiler mw_1063 mw_1062 rfl rfl (Nat.le_of_ble_eq_true rfl) (by decide) rfl rfl (Nat.zero_le _) (Nat.zero_le _) dX6_goMinute_5 ?_
  intro c2 hs
  refine G_aload_n hO 0 dX6_goMinute_8 rfl rfl ?_
  refine KS_Rv hO (rest := []) [.ref (ad 21 j)] (fun l => c_X6_goValve hm hj hs) cv_X6_goValve mw_1069 mw_1068 rfl rfl (Nat.le_of_ble_eq_true rfl) (by decide) rfl rfl (Nat.zero_le _) (Nat.zero_le _) dX6_goMinute_9 ?_
  intro c3 hs
  refine G_aload_n hO 0 dX6_goMinute_12 rfl rfl ?_
  refine KS_Rv hO (rest := []) [.ref (ad 21 j)] (fun l => c_X6_goMixing hm hj hs) cv_X6_goMixing mw_1078 mw_1077 rfl rfl (Nat.le_of_ble_eq_true rfl) (by decide) rfl rfl (Nat.zero_le _) (Nat.zero_le _) dX6_goMinute_13 ?_
  intro c4 hs
  refine G_iconst hO 0 dX6_goMinute_16 (by decide) ?_
  refine G_istore_n hO [(1, .int 0), (0, .ref (ad 21 j))] dX6_goMinute_17 rfl (by decide) rfl ?_
  obtain ⟨Nf5, hs⟩ := hs
  refine G_lv hO [(0, .ref (ad 21 j)), (1, .int 0)] [1, 0] rfl ?_
  exact b18 Nf5 _ _ hs
