set_option maxHeartbeats 4000000 in
set_option maxRecDepth 20000 in
theorem c_X6_goMinutes {l : Launch} {Λ : Lay} {B : Nat} {ids : List (Nat × Nat)} {ad : Nat → Nat → Nat} {w : Nat → Nat → va_E} (hm : ∀ j, j < 8 → (21, j) ∈ ids) {j : Nat} (hj : 2 ≤ j ∧ j ≤ 4) {a1 : Int32} {c : Reg} {P : Int32 → Reg → Prop} (hs : wX6_goMinutes j a1 c P) : CT l yX6_goMinutes cX6_goMinutes 4 (some .int) { frames := 7, cells := 0, slots := 0, locals := 148 } Λ B ids ad (va_up w 21 (mdSh Λ ad c)) [.ref (ad 21 j), .int a1] (Ri ids ad w 21 (mdSh Λ ad) P) := by
  refine CT.of RX6 [(0, .ref (ad 21 j)), (1, .int a1)] (plainFor_of_name (by decide +kernel)) rfl (Nat.le_of_ble_eq_true rfl) rfl (fun Γ hO hF => ?_)
  have b4 : ∀ (N4 : Nat) (v2 : Int32) (v3 : Int32) (c : Reg), wX6_goMinutes_L4 j a1 P N4 v2 v3 c → G Γ ids ad 0 0 (va_up w 21 (mdSh Λ ad c)) 4 [(0, .ref (ad 21 j)), (1, .int a1), (2, .int v2), (3, .int v3)] [] := by
    intro N4
    induction N4 with
    | zero => intro v2 v3 c hs; exact False.elim hs
    | succ N4 ih4 =>
      intro v2 v3 c hs
      unfold wX6_goMinutes_L4 at hs
      refine G_iload_n hO 3 dX6_goMinutes_4 rfl rfl ?_
      refine G_iload_n hO 1 dX6_goMinutes_5 rfl rfl ?_
      refine G_icmp_ge hO 22 dX6_goMinutes_6 (by decide) (fun h4 => ?_) (fun h4 => ?_)
      · replace hs := hs.1 h4
        refine G_iload_n hO 2 dX6_goMinutes_22 rfl rfl ?_
        exact G_iret hO hF rfl (Nat.zero_le _) (Nat.zero_le _) dX6_goMinutes_23 ⟨rfl, rfl, _, _, rfl, rfl, hs⟩
      · replace hs := hs.2 h4
        refine G_iload_n hO 2 dX6_goMinutes_9 rfl rfl ?_
        refine G_aload_n hO 0 dX6_goMinutes_10 rfl rfl ?_
        refine KS_Ri hO (rest := [.int v2]) [.ref (ad 21 j)] (fun l => c_X6_goMinute hm hj hs) cv_X6_goMinute mw_1057 mw_1056 rfl rfl (Nat.le_of_ble_eq_true rfl) (by decide) rfl rfl (Nat.zero_le _) (Nat.zero_le _) dX6_goMinutes_11 ?_
        intro r2 c3 hs
        refine G_iadd hO dX6_goMinutes_14 ?_
        refine G_istore_n hO [(2, .int (v2 + r2)), (0, .ref (ad 21 j)), (1, .int a1), (3, .int v3)] dX6_goMinutes_15 rfl (by decide) rfl ?_
        refine G_iinc hO 3 (v3 + 1) [(3, .int (v3 + 1)), (2, .int (v2 + r2)), (0, .ref (ad 21 j)), (1, .int a1)] dX6_goMinutes_16 rfl rfl (by decide) rfl ?_
        refine G_goto hO 4 dX6_goMinutes_19 (by decide) ?_
        refine G_lv hO [(0, .ref (ad 21 j)), (1, .int a1), (2, .int (v2 + r2)), (3, .int (v3 + 1))] [2, 3, 1, 0] rfl ?_
        exact ih4 _ _ _ hs
  unfold wX6_goMinutes at hs
  refine G_iconst hO 0 dX6_goMinutes_0 (by decide) ?_
  refine G_istore_n hO [(2, .int 0), (0, .ref (ad 21 j)), (1, .int a1)] dX6_goMinutes_1 rfl (by decide) rfl ?_
  refine G_iconst hO 0 dX6_goMinutes_2 (by decide) ?_
  refine G_istore_n hO [(3, .int 0), (2, .int 0), (0, .ref (ad 21 j)), (1, .int a1)] dX6_goMinutes_3 rfl (by decide) rfl ?_
  obtain ⟨Nf1, hs⟩ := hs
  refine G_lv hO [(0, .ref (ad 21 j)), (1, .int a1), (2, .int 0), (3, .int 0)] [2, 3, 1, 0] rfl ?_
  exact b4 Nf1 _ _ _ hs
set_option maxHeartbeats 4000000 in
set_option maxRecDepth 20000 in
theorem c_X6_append {l : Launch} {Λ : Lay} {B : Nat} {ids : List (Nat × Nat)} {ad : Nat → Nat → Nat} {w : Nat → Nat → va_E} (hm : ∀ j, j < 8 → (21, j) ∈ ids) {a1 : Int32} {c : Reg} {P : Int32 → Reg → Prop} (hs : wX6_append a1 c P) : CT l yX6_append cX6_append 2 (some .int) { frames := 1, cells := 0, slots := 0, locals := 25 } Λ B ids ad (va_up w 21 (mdSh Λ ad c)) [.ref (ad 21 0), .int a1] (Ri ids ad w 21 (mdSh Λ ad) P) := by
  refine CT.of RX6 [(0, .ref (ad 21 0)), (1, .int a1)] (plainFor_of_name (by decide +kernel)) rfl (Nat.le_of_ble_eq_true rfl) rfl (fun Γ hO hF => ?_)
  have b31 : ∀ (s0 : Int32) (c : Reg), wX6_append_L31 a1 P s0 c → G Γ ids ad 0 0 (va_up w 21 (mdSh Λ ad c)) 31 [(0, .ref (ad 21 0)), (1, .int a1)] [.int s0, .ref (ad 21 0)] := by
    intro s0 c hs
    unfold wX6_append_L31 at hs
    refine KV_Ri hO (rest := []) [.int s0] (fun l => c_X6_refused hm hs) cv_X6_refused mw_888 ms_17 mw_886 (hm 0 (by decide)) cl6 (by rw [va_us]; exact (md_0 _ _ _)) rfl rfl (Nat.le_of_ble_eq_true rfl) (by decide) rfl rfl (Nat.zero_le _) (Nat.zero_le _) dX6_append_31 ?_
    intro r4 c5 hs
    refine G_if_eq hO 39 dX6_append_34 (by decide) (fun h6 => ?_) (fun h6 => ?_)
    · replace hs := hs.1 h6
      refine G_aload_n hO 0 dX6_append_39 rfl rfl ?_
      refine C_getf hO (v := .ref (ad 21 1)) cl6 1 (hm 0 (by decide)) (md_0 _ _ _) (by decide) mw_838 rfl rfl dX6_append_40 ?_
      refine G_aload_n hO 0 dX6_append_43 rfl rfl ?_
      refine C_getf hO (v := .int (c5 0 2)) cl6 2 (hm 0 (by decide)) (md_0 _ _ _) (by decide) mw_839 rfl rfl dX6_append_44 ?_
      refine G_iload_n hO 1 dX6_append_47 rfl rfl ?_
      refine C_iast hO (cw_md _ _) _ rfl (hm 1 (by decide)) (md_1 _ _) hs.1 dX6_append_48 ?_
      replace hs := hs.2
      refine G_aload_n hO 0 dX6_append_49 rfl rfl ?_
      refine G_dup hO dX6_append_50 rfl ?_
      refine C_getf hO (v := .int ((cu c5 1 (Int32.toNatClampNeg (c5 0 2)) a1) 0 2)) cl6 2 (hm 0 (by decide)) (md_0 _ _ _) (by decide) mw_839 rfl rfl dX6_append_51 ?_
      refine G_iconst hO 1 dX6_append_54 (by decide) ?_
      refine G_iadd hO dX6_append_55 ?_
      refine C_putf hO (cw_md _ _) cl6 2 (hm 0 (by decide)) (md_0 _ _ _) (by decide) mw_839 rfl rfl rfl rfl (Nat.le_of_ble_eq_true rfl) (mdP (by decide)) dX6_append_56 ?_
      refine G_aload_n hO 0 dX6_append_59 rfl rfl ?_
      refine C_getf hO (v := .int ((cu (cu c5 1 (Int32.toNatClampNeg (c5 0 2)) a1) 0 2 (((cu c5 1 (Int32.toNatClampNeg (c5 0 2)) a1) 0 2) + 1)) 0 2)) cl6 2 (hm 0 (by decide)) (md_0 _ _ _) (by decide) mw_839 rfl rfl dX6_append_60 ?_
      exact G_iret hO hF rfl (Nat.zero_le _) (Nat.zero_le _) dX6_append_63 ⟨rfl, rfl, _, _, rfl, rfl, hs⟩
    · replace hs := hs.2 h6
      refine G_iconst hO 0 dX6_append_37 (by decide) ?_
      exact G_iret hO hF rfl (Nat.zero_le _) (Nat.zero_le _) dX6_append_38 ⟨rfl, rfl, _, _, rfl, rfl, hs⟩
  unfold wX6_append at hs
  refine G_aload_n hO 0 dX6_append_0 rfl rfl ?_
  refine G_iload_n hO 1 dX6_append_1 rfl rfl ?_
  refine G_i2l hO dX6_append_2 ?_
  refine G_lconst hO 0 dX6_append_3 (by decide) ?_
  refine G_ldc2 hO mw_882 dX6_append_4 ?_
  refine KS_Ni hO (rest := [.ref (ad 21 0)]) [.long (Int32.toInt64 a1), .long 0, .long 255] (fun l => c_X6_in hs) cv_X6_in mw_884 mw_883 rfl rfl (Nat.le_of_ble_eq_true rfl) (by decide) rfl rfl (Nat.zero_le _) (Nat.zero_le _) dX6_append_7 ?_
  intro r1 hs
  refine G_if_ne hO 17 dX6_append_10 (by decide) (fun h3 => ?_) (fun h3 => ?_)
  · replace hs := hs.1 h3
    refine G_aload_n hO 0 dX6_append_17 rfl rfl ?_
    refine C_getf hO (v := .int (c 0 2)) cl6 2 (hm 0 (by decide)) (md_0 _ _ _) (by decide) mw_839 rfl rfl dX6_append_18 ?_
    refine G_bipush hO 80 dX6_append_21 (by decide) ?_
    refine G_icmp_ne hO 30 dX6_append_23 (by decide) (fun h2 => ?_) (fun h2 => ?_)
    · replace hs := hs.1 h2
      refine G_iconst hO 0 dX6_append_30 (by decide) ?_
      exact b31 _ _ hs
    · replace hs := hs.2 h2
      refine G_iconst hO 2 dX6_append_26 (by decide) ?_
      refine G_goto hO 31 dX6_append_27 (by decide) ?_
      exact b31 _ _ hs
  · replace hs := hs.2 h3
    refine G_iconst hO 1 dX6_append_13 (by decide) ?_
    refine G_goto hO 31 dX6_append_14 (by decide) ?_
    exact b31 _ _ hs
set_option maxHeartbeats 4000000 in
set_option maxRecDepth 20000 in
theorem c_X6_clearText {l : Launch} {Λ : Lay} {B : Nat} {ids : List (Nat × Nat)} {ad : Nat → Nat → Nat} {w : Nat → Nat → va_E} (hm : ∀ j, j < 8 → (21, j) ∈ ids) {c : Reg} {P : Int32 → Reg → Prop} (hs : wX6_clearText c P) : CT l yX6_clearText cX6_clearText 2 (some .int) { frames := 0, cells := 0, slots := 0, locals := 0 } Λ B ids ad (va_up w 21 (mdSh Λ ad c)) [.ref (ad 21 0)] (Ri ids ad w 21 (mdSh Λ ad) P) := by
  refine CT.of RX6 [(0, .ref (ad 21 0))] (plainFor_of_name (by decide +kernel)) rfl (Nat.le_of_ble_eq_true rfl) rfl (fun Γ hO hF => ?_)
  unfold wX6_clearText at hs
  refine G_aload_n hO 0 dX6_clearText_0 rfl rfl ?_
  refine G_iconst hO 0 dX6_clearText_1 (by decide) ?_
  refine C_putf hO (cw_md _ _) cl6 0 (hm 0 (by decide)) (md_0 _ _ _) (by decide) mw_837 rfl rfl rfl rfl (Nat.le_of_ble_eq_true rfl) (mdP (by decide)) dX6_clearText_2 ?_
  refine G_aload_n hO 0 dX6_clearText_5 rfl rfl ?_
  refine C_getf hO (v := .int ((cu c 0 0 0) 0 2)) cl6 2 (hm 0 (by decide)) (md_0 _ _ _) (by decide) mw_839 rfl rfl dX6_clearText_6 ?_
  refine G_istore_n hO [(1, .int ((cu c 0 0 0) 0 2)), (0, .ref (ad 21 0))] dX6_clearText_9 rfl (by decide) rfl ?_
  refine G_aload_n hO 1 dX6_clearText_10 rfl rfl ?_
  refine G_iconst hO 0 dX6_clearText_11 (by decide) ?_
  refine C_putf hO (cw_md _ _) cl6 2 (hm 0 (by decide)) (md_0 _ _ _) (by decide) mw_839 rfl rfl rfl rfl (Nat.le_of_ble_eq_true rfl) (mdP (by decide)) dX6_clearText_12 ?_
  refine G_iload_n hO 0 dX6_clearText_15 rfl rfl ?_
  exact G_iret hO hF rfl (Nat.zero_le _) (Nat.zero_le _) dX6_clearText_16 ⟨rfl, rfl, _, _, rfl, rfl, hs⟩
set_option maxHeartbeats 4000000 in
set_option maxRecDepth 20000 in
theorem c_X6_isNext {l : Launch} {Λ : Lay} {B : Nat} {ids : List (Nat × Nat)} {ad : Nat → Nat → Nat} {w : Nat → Nat → va_E} (hm : ∀ j, j < 8 → (21, j) ∈ ids) {a1 : Int32} {c : Reg} {P : Int32 → Reg → Prop} (hs : wX6_isNext a1 c P) : CT l yX6_isNext cX6_isNext 2 (some .boolean) { frames := 0, cells := 0, slots := 0, locals := 0 } Λ B ids ad (va_up w 21 (mdSh Λ ad c)) [.ref (ad 21 0), .int a1] (Ri ids ad w 21 (mdSh Λ ad) P) := by
  refine CT.of RX6 [(0, .ref (ad 21 0)), (1, .int a1)] (plainFor_of_name (by decide +kernel)) rfl (Nat.le_of_ble_eq_true rfl) rfl (fun Γ hO hF => ?_)
  unfold wX6_isNext at hs
  refine G_aload_n hO 0 dX6_isNext_0 rfl rfl ?_
  refine C_getf hO (v := .int (c 0 3)) cl6 3 (hm 0 (by decide)) (md_0 _ _ _) (by decide) mw_840 rfl rfl dX6_isNext_1 ?_
  refine G_aload_n hO 0 dX6_isNext_4 rfl rfl ?_
  refine C_getf hO (v := .int (c 0 2)) cl6 2 (hm 0 (by decide)) (md_0 _ _ _) (by decide) mw_839 rfl rfl dX6_isNext_5 ?_
  refine G_icmp_ge hO 28 dX6_isNext_8 (by decide) (fun h2 => ?_) (fun h2 => ?_)
  · replace hs := hs.1 h2
    refine G_iconst hO 0 dX6_isNext_28 (by decide) ?_
    exact G_zret hO hF rfl (Nat.zero_le _) (Nat.zero_le _) rfl dX6_isNext_29 ⟨rfl, rfl, _, _, rfl, rfl, hs⟩
  · replace hs := hs.2 h2
    refine G_aload_n hO 0 dX6_isNext_11 rfl rfl ?_
    refine C_getf hO (v := .ref (ad 21 1)) cl6 1 (hm 0 (by decide)) (md_0 _ _ _) (by decide) mw_838 rfl rfl dX6_isNext_12 ?_
    refine G_aload_n hO 0 dX6_isNext_15 rfl rfl ?_
    refine C_getf hO (v := .int (c 0 3)) cl6 3 (hm 0 (by decide)) (md_0 _ _ _) (by decide) mw_840 rfl rfl dX6_isNext_16 ?_
    refine C_iald hO _ rfl (hm 1 (by decide)) (md_1 _ _ _) hs.1 dX6_isNext_19 ?_
    replace hs := hs.2
    refine G_iload_n hO 1 dX6_isNext_20 rfl rfl ?_
    refine G_icmp_ne hO 28 dX6_isNext_21 (by decide) (fun h1 => ?_) (fun h1 => ?_)
    · replace hs := hs.1 h1
      refine G_iconst hO 0 dX6_isNext_28 (by decide) ?_
      exact G_zret hO hF rfl (Nat.zero_le _) (Nat.zero_le _) rfl dX6_isNext_29 ⟨rfl, rfl, _, _, rfl, rfl, hs⟩
    · replace hs := hs.2 h1
      refine G_iconst hO 1 dX6_isNext_24 (by decide) ?_
      refine G_goto hO 29 dX6_isNext_25 (by decide) ?_
      exact G_zret hO hF rfl (Nat.zero_le _) (Nat.zero_le _) rfl dX6_isNext_29 ⟨rfl, rfl, _, _, rfl, rfl, hs⟩
set_option maxHeartbeats 4000000 in
set_option maxRecDepth 20000 in
theorem c_X6_accept {l : Launch} {Λ : Lay} {B : Nat} {ids : List (Nat × Nat)} {ad : Nat → Nat → Nat} {w : Nat → Nat → va_E} (hm : ∀ j, j < 8 → (21, j) ∈ ids) {a1 : Int32} {c : Reg} {P : Reg → Prop} (hs : wX6_accept a1 c P) : CT l yX6_accept cX6_accept 2 none { frames := 0, cells := 0, slots := 0, locals := 0 } Λ B ids ad (va_up w 21 (mdSh Λ ad c)) [.ref (ad 21 0), .int a1] (Rv ids ad w 21 (mdSh Λ ad) P) := by
  refine CT.of RX6 [(0, .ref (ad 21 0)), (1, .int a1)] (plainFor_of_name (by decide +kernel)) rfl (Nat.le_of_ble_eq_true rfl) rfl (fun Γ hO hF => ?_)
  have b17 : ∀ (s0 : Int32) (c : Reg), wX6_accept_L17 a1 P s0 c → G Γ ids ad 0 0 (va_up w 21 (mdSh Λ ad c)) 17 [(0, .ref (ad 21 0))] [.int s0, .ref (ad 21 0)] := by
    intro s0 c hs
    unfold wX6_accept_L17 at hs
    refine C_putf hO (cw_md _ _) cl6 4 (hm 0 (by decide)) (md_0 _ _ _) (by decide) mw_841 rfl rfl hs.1.nar hs.1.fit (Nat.le_of_ble_eq_true rfl) (mdP (by decide)) dX6_accept_17 ?_
    replace hs := hs.2
    refine G_aload_n hO 0 dX6_accept_20 rfl rfl ?_
    refine G_dup hO dX6_accept_21 rfl ?_
    refine C_getf hO (v := .int ((cu c 0 4 s0) 0 3)) cl6 3 (hm 0 (by decide)) (md_0 _ _ _) (by decide) mw_840 rfl rfl dX6_accept_22 ?_
    refine G_aload_n hO 0 dX6_accept_25 rfl rfl ?_
    refine C_getf hO (v := .int ((cu c 0 4 s0) 0 4)) cl6 4 (hm 0 (by decide)) (md_0 _ _ _) (by decide) mw_841 rfl rfl dX6_accept_26 ?_
    refine G_if_eq hO 36 dX6_accept_29 (by decide) (fun h3 => ?_) (fun h3 => ?_)
    · replace hs := hs.1 h3
      refine G_iconst hO 0 dX6_accept_36 (by decide) ?_
      refine G_iadd hO dX6_accept_37 ?_
      refine C_putf hO (cw_md _ _) cl6 3 (hm 0 (by decide)) (md_0 _ _ _) (by decide) mw_840 rfl rfl rfl rfl (Nat.le_of_ble_eq_true rfl) (mdP (by decide)) dX6_accept_38 ?_
      exact G_vret hO hF rfl (Nat.zero_le _) (Nat.zero_le _) dX6_accept_41 ⟨rfl, rfl, _, rfl, rfl, hs⟩
    · replace hs := hs.2 h3
      refine G_iconst hO 1 dX6_accept_32 (by decide) ?_
      refine G_goto hO 37 dX6_accept_33 (by decide) ?_
      refine G_iadd hO dX6_accept_37 ?_
      refine C_putf hO (cw_md _ _) cl6 3 (hm 0 (by decide)) (md_0 _ _ _) (by decide) mw_840 rfl rfl rfl rfl (Nat.le_of_ble_eq_true rfl) (mdP (by decide)) dX6_accept_38 ?_
      exact G_vret hO hF rfl (Nat.zero_le _) (Nat.zero_le _) dX6_accept_41 ⟨rfl, rfl, _, rfl, rfl, hs⟩
  have b16 : ∀ (c : Reg), wX6_accept_L16 a1 P c → G Γ ids ad 0 0 (va_up w 21 (mdSh Λ ad c)) 16 [(0, .ref (ad 21 0))] [.ref (ad 21 0)] := by
    intro c hs
    unfold wX6_accept_L16 at hs
    refine G_iconst hO 0 dX6_accept_16 (by decide) ?_
    exact b17 _ _ hs
  unfold wX6_accept at hs
  refine G_aload_n hO 0 dX6_accept_0 rfl rfl ?_
  refine G_aload_n hO 0 dX6_accept_1 rfl rfl ?_
  refine C_getf hO (v := .int (c 0 4)) cl6 4 (hm 0 (by decide)) (md_0 _ _ _) (by decide) mw_841 rfl rfl dX6_accept_2 ?_
  refine G_if_eq hO 16 dX6_accept_5 (by decide) (fun h2 => ?_) (fun h2 => ?_)
  · replace hs := hs.1 h2
    refine G_lv hO [(0, .ref (ad 21 0))] [0] rfl ?_
    exact b16 _ hs
  · replace hs := hs.2 h2
    refine G_iload_n hO 1 dX6_accept_8 rfl rfl ?_
    refine G_if_eq hO 16 dX6_accept_9 (by decide) (fun h1 => ?_) (fun h1 => ?_)
    · replace hs := hs.1 h1
      refine G_lv hO [(0, .ref (ad 21 0))] [0] rfl ?_
      exact b16 _ hs
    · replace hs := hs.2 h1
      refine G_iconst hO 1 dX6_accept_12 (by decide) ?_
      refine G_goto hO 17 dX6_accept_13 (by decide) ?_
      refine G_lv hO [(0, .ref (ad 21 0))] [0] rfl ?_
      exact b17 _ _ hs
set_option maxHeartbeats 4000000 in
set_option maxRecDepth 20000 in
theorem c_X6_digit {l : Launch} {Λ : Lay} {B : Nat} {ids : List (Nat × Nat)} {ad : Nat → Nat → Nat} {w : Nat → Nat → va_E} (hm : ∀ j, j < 8 → (21, j) ∈ ids) {a1 : Int32} {a2 : Int32} {c : Reg} {P : Int32 → Reg → Prop} (hs : wX6_digit a1 a2 c P) : CT l yX6_digit cX6_digit 4 (some .int) { frames := 1, cells := 0, slots := 0, locals := 25 } Λ B ids ad (va_up w 21 (mdSh Λ ad c)) [.ref (ad 21 0), .int a1, .int a2] (Ri ids ad w 21 (mdSh Λ ad) P) := by
  refine CT.of RX6 [(0, .ref (ad 21 0)), (1, .int a1), (2, .int a2)] (plainFor_of_name (by decide +kernel)) rfl (Nat.le_of_ble_eq_true rfl) rfl (fun Γ hO hF => ?_)
  have b59 : ∀ (v3 : Int32) (s0 : Int32) (c : Reg), wX6_digit_L59 a1 a2 P v3 s0 c → G Γ ids ad 0 0 (va_up w 21 (mdSh Λ ad c)) 59 [(0, .ref (ad 21 0)), (1, .int a1), (3, .int v3)] [.int s0, .ref (ad 21 0)] := by
    intro v3 s0 c hs
    unfold wX6_digit_L59 at hs
    refine KV_Rv hO (rest := []) [.int s0] (fun l => c_X6_accept hm hs) cv_X6_accept mw_908 ms_20 mw_906 (hm 0 (by decide)) cl6 (by rw [va_us]; exact (md_0 _ _ _)) rfl rfl (Nat.le_of_ble_eq_true rfl) (by decide) rfl rfl (Nat.zero_le _) (Nat.zero_le _) dX6_digit_59 ?_
    intro c6 hs
    refine G_aload_n hO 0 dX6_digit_62 rfl rfl ?_
    refine C_getf hO (v := .int (c6 0 4)) cl6 4 (hm 0 (by decide)) (md_0 _ _ _) (by decide) mw_841 rfl rfl dX6_digit_63 ?_
    refine G_if_eq hO 73 dX6_digit_66 (by decide) (fun h7 => ?_) (fun h7 => ?_)
    · replace hs := hs.1 h7
      refine G_iload_n hO 1 dX6_digit_73 rfl rfl ?_
      exact G_iret hO hF rfl (Nat.zero_le _) (Nat.zero_le _) dX6_digit_74 ⟨rfl, rfl, _, _, rfl, rfl, hs⟩
    · replace hs := hs.2 h7
      refine G_iload_n hO 2 dX6_digit_69 rfl rfl ?_
      refine G_goto hO 74 dX6_digit_70 (by decide) ?_
      exact G_iret hO hF rfl (Nat.zero_le _) (Nat.zero_le _) dX6_digit_74 ⟨rfl, rfl, _, _, rfl, rfl, hs⟩
  have b58 : ∀ (v3 : Int32) (c : Reg), wX6_digit_L58 a1 a2 P v3 c → G Γ ids ad 0 0 (va_up w 21 (mdSh Λ ad c)) 58 [(0, .ref (ad 21 0)), (1, .int a1), (3, .int v3)] [.ref (ad 21 0)] := by
    intro v3 c hs
    unfold wX6_digit_L58 at hs
    refine G_iconst hO 0 dX6_digit_58 (by decide) ?_
    exact b59 _ _ _ hs
  have b28 : ∀ (s0 : Int32) (c : Reg), wX6_digit_L28 a1 a2 P s0 c → G Γ ids ad 0 0 (va_up w 21 (mdSh Λ ad c)) 28 [(0, .ref (ad 21 0)), (1, .int a1), (2, .int a2)] [.int s0] := by
    intro s0 c hs
    unfold wX6_digit_L28 at hs
    refine G_istore_n hO [(3, .int s0), (0, .ref (ad 21 0)), (1, .int a1), (2, .int a2)] dX6_digit_28 rfl (by decide) rfl ?_
    refine G_aload_n hO 1 dX6_digit_29 rfl rfl ?_
    refine G_iload_n hO 0 dX6_digit_30 rfl rfl ?_
    refine G_i2l hO dX6_digit_31 ?_
    refine G_lconst hO 0 dX6_digit_32 (by decide) ?_
    refine G_ldc2 hO mw_915 dX6_digit_33 ?_
    refine KS_Ni hO (rest := [.ref (ad 21 0)]) [.long (Int32.toInt64 s0), .long 0, .long 9] (fun l => c_X6_in hs) cv_X6_in mw_884 mw_883 rfl rfl (Nat.le_of_ble_eq_true rfl) (by decide) rfl rfl (Nat.zero_le _) (Nat.zero_le _) dX6_digit_36 ?_
    intro r2 hs
    refine G_if_eq hO 58 dX6_digit_39 (by decide) (fun h5 => ?_) (fun h5 => ?_)
    · replace hs := hs.1 h5
      refine G_lv hO [(0, .ref (ad 21 0)), (1, .int a1), (3, .int s0)] [1, 2, 0] rfl ?_
      exact b58 _ _ hs
    · replace hs := hs.2 h5
      refine G_iload_n hO 0 dX6_digit_42 rfl rfl ?_
      refine G_i2l hO dX6_digit_43 ?_
      refine G_iload_n hO 2 dX6_digit_44 rfl rfl ?_
      refine G_i2l hO dX6_digit_45 ?_
      refine G_iload_n hO 3 dX6_digit_46 rfl rfl ?_
      refine G_i2l hO dX6_digit_47 ?_
      refine KS_Ni hO (rest := [.ref (ad 21 0)]) [.long (Int32.toInt64 s0), .long (Int32.toInt64 a1), .long (Int32.toInt64 a2)] (fun l => c_X6_in hs) cv_X6_in mw_884 mw_883 rfl rfl (Nat.le_of_ble_eq_true rfl) (by decide) rfl rfl (Nat.zero_le _) (Nat.zero_le _) dX6_digit_48 ?_
      intro r3 hs
      refine G_if_eq hO 58 dX6_digit_51 (by decide) (fun h4 => ?_) (fun h4 => ?_)
      · replace hs := hs.1 h4
        refine G_lv hO [(0, .ref (ad 21 0)), (1, .int a1), (3, .int s0)] [1, 2, 0] rfl ?_
        exact b58 _ _ hs
      · replace hs := hs.2 h4
        refine G_iconst hO 1 dX6_digit_54 (by decide) ?_
        refine G_goto hO 59 dX6_digit_55 (by decide) ?_
        refine G_lv hO [(0, .ref (ad 21 0)), (1, .int a1), (3, .int s0)] [1, 2, 0] rfl ?_
        exact b59 _ _ _ hs
  unfold wX6_digit at hs
  refine G_aload_n hO 0 dX6_digit_0 rfl rfl ?_
  refine C_getf hO (v := .int (c 0 3)) cl6 3 (hm 0 (by decide)) (md_0 _ _ _) (by decide) mw_840 rfl rfl dX6_digit_1 ?_
  refine G_aload_n hO 0 dX6_digit_4 rfl rfl ?_
  refine C_getf hO (v := .int (c 0 2)) cl6 2 (hm 0 (by decide)) (md_0 _ _ _) (by decide) mw_839 rfl rfl dX6_digit_5 ?_
  refine G_icmp_ge hO 26 dX6_digit_8 (by decide) (fun h1 => ?_) (fun h1 => ?_)
  · replace hs := hs.1 h1
    refine G_ldc hO mw_914 dX6_digit_26 ?_
    exact b28 _ _ hs
  · replace hs := hs.2 h1
    refine G_aload_n hO 0 dX6_digit_11 rfl rfl ?_
    refine C_getf hO (v := .ref (ad 21 1)) cl6 1 (hm 0 (by decide)) (md_0 _ _ _) (by decide) mw_838 rfl rfl dX6_digit_12 ?_
    refine G_aload_n hO 0 dX6_digit_15 rfl rfl ?_
    refine C_getf hO (v := .int (c 0 3)) cl6 3 (hm 0 (by decide)) (md_0 _ _ _) (by decide) mw_840 rfl rfl dX6_digit_16 ?_
    refine C_iald hO _ rfl (hm 1 (by decide)) (md_1 _ _ _) hs.1 dX6_digit_19 ?_
    replace hs := hs.2
    refine G_bipush hO 48 dX6_digit_20 (by decide) ?_
    refine G_isub hO dX6_digit_22 ?_
    refine G_goto hO 28 dX6_digit_23 (by decide) ?_
    exact b28 _ _ hs
set_option maxHeartbeats 4000000 in
set_option maxRecDepth 20000 in
theorem c_X6_two {l : Launch} {Λ : Lay} {B : Nat} {ids : List (Nat × Nat)} {ad : Nat → Nat → Nat} {w : Nat → Nat → va_E} (hm : ∀ j, j < 8 → (21, j) ∈ ids) {a1 : Int32} {a2 : Int32} {c : Reg} {P : Int32 → Reg → Prop} (hs : wX6_two a1 a2 c P) : CT l yX6_two cX6_two 6 (some .int) { frames := 2, cells := 0, slots := 0, locals := 48 } Λ B ids ad (va_up w 21 (mdSh Λ ad c)) [.ref (ad 21 0), .int a1, .int a2] (Ri ids ad w 21 (mdSh Λ ad) P) := by
  refine CT.of RX6 [(0, .ref (ad 21 0)), (1, .int a1), (2, .int a2)] (plainFor_of_name (by decide +kernel)) rfl (Nat.le_of_ble_eq_true rfl) rfl (fun Γ hO hF => ?_)
  have b45 : ∀ (v5 : Int32) (s0 : Int32) (s2 : Int32) (c : Reg), wX6_two_L45 a1 a2 P v5 s0 s2 c → G Γ ids ad 0 0 (va_up w 21 (mdSh Λ ad c)) 45 [(5, .int v5)] [.int s0, .ref (ad 21 0), .int s2] := by
    intro v5 s0 s2 c hs
    unfold wX6_two_L45 at hs
    refine G_iload hO 0 dX6_two_45 rfl ?_
    refine G_bipush hO 9 dX6_two_47 (by decide) ?_
    refine G_icmp_le hO 57 dX6_two_49 (by decide) (fun h8 => ?_) (fun h8 => ?_)
    · replace hs := hs.1 h8
      refine G_iload hO 0 dX6_two_57 rfl ?_
      refine KV_Ri hO (rest := [.int s2]) [.int s0, .int v5] (fun l => c_X6_digit hm hs) cv_X6_digit mw_912 ms_21 mw_910 (hm 0 (by decide)) cl6 (by rw [va_us]; exact (md_0 _ _ _)) rfl rfl (Nat.le_of_ble_eq_true rfl) (by decide) rfl rfl (Nat.zero_le _) (Nat.zero_le _) dX6_two_59 ?_
      intro r4 c5 hs
      refine G_iadd hO dX6_two_62 ?_
      exact G_iret hO hF rfl (Nat.zero_le _) (Nat.zero_le _) dX6_two_63 ⟨rfl, rfl, _, _, rfl, rfl, hs⟩
    · replace hs := hs.2 h8
      refine G_bipush hO 9 dX6_two_52 (by decide) ?_
      refine G_goto hO 59 dX6_two_54 (by decide) ?_
      refine KV_Ri hO (rest := [.int s2]) [.int s0, .int 9] (fun l => c_X6_digit hm hs) cv_X6_digit mw_912 ms_21 mw_910 (hm 0 (by decide)) cl6 (by rw [va_us]; exact (md_0 _ _ _)) rfl rfl (Nat.le_of_ble_eq_true rfl) (by decide) rfl rfl (Nat.zero_le _) (Nat.zero_le _) dX6_two_59 ?_
      intro r6 c7 hs
      refine G_iadd hO dX6_two_62 ?_
      exact G_iret hO hF rfl (Nat.zero_le _) (Nat.zero_le _) dX6_two_63 ⟨rfl, rfl, _, _, rfl, rfl, hs⟩
  unfold wX6_two at hs
  refine G_aload_n hO 0 dX6_two_0 rfl rfl ?_
  refine G_iload_n hO 1 dX6_two_1 rfl rfl ?_
  refine G_bipush hO 10 dX6_two_2 (by decide) ?_
  refine G_idiv hO dX6_two_4 (by decide) ?_
  refine G_iload_n hO 2 dX6_two_5 rfl rfl ?_
  refine G_bipush hO 10 dX6_two_6 (by decide) ?_
  refine G_idiv hO dX6_two_8 (by decide) ?_
  refine KV_Ri hO (rest := []) [.int (a1 / 10), .int (a2 / 10)] (fun l => c_X6_digit hm hs) cv_X6_digit mw_912 ms_21 mw_910 (hm 0 (by decide)) cl6 (by rw [va_us]; exact (md_0 _ _ _)) rfl rfl (Nat.le_of_ble_eq_true rfl) (by decide) rfl rfl (Nat.zero_le _) (Nat.zero_le _) dX6_two_9 ?_
  intro r1 c2 hs
  refine G_istore_n hO [(3, .int r1), (0, .ref (ad 21 0)), (1, .int a1), (2, .int a2)] dX6_two_12 rfl (by decide) rfl ?_
  refine G_iload_n hO 2 dX6_two_13 rfl rfl ?_
  refine G_bipush hO 10 dX6_two_14 (by decide) ?_
  refine G_iload_n hO 0 dX6_two_16 rfl rfl ?_
  refine G_imul hO dX6_two_17 ?_
  refine G_isub hO dX6_two_18 ?_
  refine G_istore hO [(4, .int (a1 - (10 * r1))), (3, .int r1), (0, .ref (ad 21 0)), (1, .int a1), (2, .int a2)] dX6_two_19 (by decide) rfl ?_
  refine G_iload_n hO 4 dX6_two_21 rfl rfl ?_
  refine G_bipush hO 10 dX6_two_22 (by decide) ?_
  refine G_iload_n hO 1 dX6_two_24 rfl rfl ?_
  refine G_imul hO dX6_two_25 ?_
  refine G_isub hO dX6_two_26 ?_
  refine G_istore hO [(5, .int (a2 - (10 * r1))), (4, .int (a1 - (10 * r1))), (3, .int r1), (0, .ref (ad 21 0)), (1, .int a1), (2, .int a2)] dX6_two_27 (by decide) rfl ?_
  refine G_bipush hO 10 dX6_two_29 (by decide) ?_
  refine G_iload_n hO 2 dX6_two_31 rfl rfl ?_
  refine G_imul hO dX6_two_32 ?_
  refine G_aload_n hO 3 dX6_two_33 rfl rfl ?_
  refine G_iload hO 1 dX6_two_34 rfl ?_
  refine G_if_ge hO 43 dX6_two_36 (by decide) (fun h3 => ?_) (fun h3 => ?_)
  · replace hs := hs.1 h3
    refine G_iload hO 1 dX6_two_43 rfl ?_
    refine G_lv hO [(5, .int (a2 - (10 * r1)))] [0] rfl ?_
    exact b45 _ _ _ _ hs
  · replace hs := hs.2 h3
    refine G_iconst hO 0 dX6_two_39 (by decide) ?_
    refine G_goto hO 45 dX6_two_40 (by decide) ?_
    refine G_lv hO [(5, .int (a2 - (10 * r1)))] [0] rfl ?_
    exact b45 _ _ _ _ hs
set_option maxHeartbeats 4000000 in
set_option maxRecDepth 20000 in
theorem c_X6_readRoom {l : Launch} {Λ : Lay} {B : Nat} {ids : List (Nat × Nat)} {ad : Nat → Nat → Nat} {w : Nat → Nat → va_E} (hm : ∀ j, j < 8 → (21, j) ∈ ids) {c : Reg} {P : Reg → Prop} (hs : wX6_readRoom c P) : CT l yX6_readRoom cX6_readRoom 5 none { frames := 3, cells := 0, slots := 0, locals := 73 } Λ B ids ad (va_up w 21 (mdSh Λ ad c)) [.ref (ad 21 0)] (Rv ids ad w 21 (mdSh Λ ad) P) := by
  refine CT.of RX6 [(0, .ref (ad 21 0))] (plainFor_of_name (by decide +kernel)) rfl (Nat.le_of_ble_eq_true rfl) rfl (fun Γ hO hF => ?_)
  have b17 : ∀ (s0 : Int32) (c : Reg), wX6_readRoom_L17 P s0 c → G Γ ids ad 0 0 (va_up w 21 (mdSh Λ ad c)) 17 [(0, .ref (ad 21 0))] [.int s0, .ref (ad 21 0)] := by
    intro s0 c hs
    unfold wX6_readRoom_L17 at hs
    refine KV_Rv hO (rest := []) [.int s0] (fun l => c_X6_accept hm hs) cv_X6_accept mw_908 ms_20 mw_906 (hm 0 (by decide)) cl6 (by rw [va_us]; exact (md_0 _ _ _)) rfl rfl (Nat.le_of_ble_eq_true rfl) (by decide) rfl rfl (Nat.zero_le _) (Nat.zero_le _) dX6_readRoom_17 ?_
    intro c2 hs
    refine G_aload_n hO 0 dX6_readRoom_20 rfl rfl ?_
    refine G_iconst hO 1 dX6_readRoom_21 (by decide) ?_
    refine G_bipush hO 9 dX6_readRoom_22 (by decide) ?_
    refine KV_Ri hO (rest := []) [.int 1, .int 9] (fun l => c_X6_digit hm hs) cv_X6_digit mw_912 ms_21 mw_910 (hm 0 (by decide)) cl6 (by rw [va_us]; exact (md_0 _ _ _)) rfl rfl (Nat.le_of_ble_eq_true rfl) (by decide) rfl rfl (Nat.zero_le _) (Nat.zero_le _) dX6_readRoom_24 ?_
    intro r3 c4 hs
    refine G_istore_n hO [(1, .int r3), (0, .ref (ad 21 0))] dX6_readRoom_27 rfl (by decide) rfl ?_
    refine G_aload_n hO 1 dX6_readRoom_28 rfl rfl ?_
    refine G_bipush hO 10 dX6_readRoom_29 (by decide) ?_
    refine G_bipush hO 25 dX6_readRoom_31 (by decide) ?_
    refine KV_Ri hO (rest := []) [.int 10, .int 25] (fun l => c_X6_two hm hs) cv_X6_two mw_918 ms_22 mw_916 (hm 0 (by decide)) cl6 (by rw [va_us]; exact (md_0 _ _ _)) rfl rfl (Nat.le_of_ble_eq_true rfl) (by decide) rfl rfl (Nat.zero_le _) (Nat.zero_le _) dX6_readRoom_33 ?_
    intro r5 c6 hs
    refine G_istore_n hO [(2, .int r5), (1, .int r3), (0, .ref (ad 21 0))] dX6_readRoom_36 rfl (by decide) rfl ?_
    refine G_aload_n hO 2 dX6_readRoom_37 rfl rfl ?_
    refine G_iconst hO 1 dX6_readRoom_38 (by decide) ?_
    refine G_bipush hO 9 dX6_readRoom_39 (by decide) ?_
    refine KV_Ri hO (rest := []) [.int 1, .int 9] (fun l => c_X6_digit hm hs) cv_X6_digit mw_912 ms_21 mw_910 (hm 0 (by decide)) cl6 (by rw [va_us]; exact (md_0 _ _ _)) rfl rfl (Nat.le_of_ble_eq_true rfl) (by decide) rfl rfl (Nat.zero_le _) (Nat.zero_le _) dX6_readRoom_41 ?_
    intro r7 c8 hs
    refine G_istore_n hO [(3, .int r7), (2, .int r5), (1, .int r3), (0, .ref (ad 21 0))] dX6_readRoom_44 rfl (by decide) rfl ?_
    refine G_aload_n hO 3 dX6_readRoom_45 rfl rfl ?_
    refine G_iconst hO 0 dX6_readRoom_46 (by decide) ?_
    refine G_bipush hO 9 dX6_readRoom_47 (by decide) ?_
    refine KV_Ri hO (rest := []) [.int 0, .int 9] (fun l => c_X6_digit hm hs) cv_X6_digit mw_912 ms_21 mw_910 (hm 0 (by decide)) cl6 (by rw [va_us]; exact (md_0 _ _ _)) rfl rfl (Nat.le_of_ble_eq_true rfl) (by decide) rfl rfl (Nat.zero_le _) (Nat.zero_le _) dX6_readRoom_49 ?_
    intro r9 c10 hs
    refine G_istore hO [(4, .int r9), (3, .int r7), (2, .int r5), (1, .int r3), (0, .ref (ad 21 0))] dX6_readRoom_52 (by decide) rfl ?_
    refine G_aload_n hO 4 dX6_readRoom_54 rfl rfl ?_
    refine C_getf hO (v := .int (c10 0 4)) cl6 4 (hm 0 (by decide)) (md_0 _ _ _) (by decide) mw_841 rfl rfl dX6_readRoom_55 ?_
    refine G_if_eq hO 73 dX6_readRoom_58 (by decide) (fun h12 => ?_) (fun h12 => ?_)
    · replace hs := hs.1 h12
      exact G_vret hO hF rfl (Nat.zero_le _) (Nat.zero_le _) dX6_readRoom_73 ⟨rfl, rfl, _, rfl, rfl, hs⟩
    · replace hs := hs.2 h12
      refine G_aload_n hO 4 dX6_readRoom_61 rfl rfl ?_
      refine C_getf hO (v := .ref (ad 21 2)) cl6 5 (hm 0 (by decide)) (md_0 _ _ _) (by decide) mw_842 rfl rfl dX6_readRoom_62 ?_
      refine G_iload_n hO 3 dX6_readRoom_65 rfl rfl ?_
      refine G_iload_n hO 2 dX6_readRoom_66 rfl rfl ?_
      refine G_iload_n hO 1 dX6_readRoom_67 rfl rfl ?_
      refine G_iload hO 0 dX6_readRoom_68 rfl ?_
      refine KS_Rv hO (rest := []) [.ref (ad 21 2), .int r3, .int r5, .int r7, .int r9] (fun l => c_X6_addTo hm (by decide) hs) cv_X6_addTo mw_925 mw_924 rfl rfl (Nat.le_of_ble_eq_true rfl) (by decide) rfl rfl (Nat.zero_le _) (Nat.zero_le _) dX6_readRoom_70 ?_
      intro c11 hs
      exact G_vret hO hF rfl (Nat.zero_le _) (Nat.zero_le _) dX6_readRoom_73 ⟨rfl, rfl, _, rfl, rfl, hs⟩
  unfold wX6_readRoom at hs
  refine G_aload_n hO 0 dX6_readRoom_0 rfl rfl ?_
  refine G_aload_n hO 0 dX6_readRoom_1 rfl rfl ?_
  refine C_getf hO (v := .ref (ad 21 2)) cl6 5 (hm 0 (by decide)) (md_0 _ _ _) (by decide) mw_842 rfl rfl dX6_readRoom_2 ?_
  refine G_iconst hO 0 dX6_readRoom_5 (by decide) ?_
  refine C_iald hO 0 (by decide) (hm 2 (by decide)) (md_2 _ _ _) (vp_lit (by decide)) dX6_readRoom_6 ?_
  refine G_bipush hO 6 dX6_readRoom_7 (by decide) ?_
  refine G_icmp_ge hO 16 dX6_readRoom_9 (by decide) (fun h1 => ?_) (fun h1 => ?_)
  · replace hs := hs.1 h1
    refine G_iconst hO 0 dX6_readRoom_16 (by decide) ?_
    exact b17 _ _ hs
  · replace hs := hs.2 h1
    refine G_iconst hO 1 dX6_readRoom_12 (by decide) ?_
    refine G_goto hO 17 dX6_readRoom_13 (by decide) ?_
    exact b17 _ _ hs
set_option maxHeartbeats 4000000 in
set_option maxRecDepth 20000 in
theorem c_X6_readOutside {l : Launch} {Λ : Lay} {B : Nat} {ids : List (Nat × Nat)} {ad : Nat → Nat → Nat} {w : Nat → Nat → va_E} (hm : ∀ j, j < 8 → (21, j) ∈ ids) {c : Reg} {P : Reg → Prop} (hs : wX6_readOutside c P) : CT l yX6_readOutside cX6_readOutside 3 none { frames := 3, cells := 0, slots := 0, locals := 73 } Λ B ids ad (va_up w 21 (mdSh Λ ad c)) [.ref (ad 21 0)] (Rv ids ad w 21 (mdSh Λ ad) P) := by
  refine CT.of RX6 [(0, .ref (ad 21 0))] (plainFor_of_name (by decide +kernel)) rfl (Nat.le_of_ble_eq_true rfl) rfl (fun Γ hO hF => ?_)
  have b55 : ∀ (v1 : Int32) (s0 : Int32) (c : Reg), wX6_readOutside_L55 P v1 s0 c → G Γ ids ad 0 0 (va_up w 21 (mdSh Λ ad c)) 55 [(0, .ref (ad 21 0)), (1, .int v1)] [.int s0] := by
    intro v1 s0 c hs
    unfold wX6_readOutside_L55 at hs
    refine G_istore_n hO [(2, .int s0), (0, .ref (ad 21 0)), (1, .int v1)] dX6_readOutside_55 rfl (by decide) rfl ?_
    refine G_aload_n hO 1 dX6_readOutside_56 rfl rfl ?_
    refine C_getf hO (v := .int (c 0 4)) cl6 4 (hm 0 (by decide)) (md_0 _ _ _) (by decide) mw_841 rfl rfl dX6_readOutside_57 ?_
    refine G_if_eq hO 79 dX6_readOutside_60 (by decide) (fun h15 => ?_) (fun h15 => ?_)
    · replace hs := hs.1 h15
      exact G_vret hO hF rfl (Nat.zero_le _) (Nat.zero_le _) dX6_readOutside_79 ⟨rfl, rfl, _, rfl, rfl, hs⟩
    · replace hs := hs.2 h15
      refine G_aload_n hO 1 dX6_readOutside_63 rfl rfl ?_
      refine C_getf hO (v := .ref (ad 21 2)) cl6 5 (hm 0 (by decide)) (md_0 _ _ _) (by decide) mw_842 rfl rfl dX6_readOutside_64 ?_
      refine G_iconst hO 2 dX6_readOutside_67 (by decide) ?_
      refine G_iload_n hO 2 dX6_readOutside_68 rfl rfl ?_
      refine G_if_eq hO 77 dX6_readOutside_69 (by decide) (fun h14 => ?_) (fun h14 => ?_)
      · replace hs := hs.1 h14
        refine G_iload_n hO 0 dX6_readOutside_77 rfl rfl ?_
        refine C_iast hO (cw_md _ _) 2 (by decide) (hm 2 (by decide)) (md_2 _ _) (vp_lit (by decide)) dX6_readOutside_78 ?_
        exact G_vret hO hF rfl (Nat.zero_le _) (Nat.zero_le _) dX6_readOutside_79 ⟨rfl, rfl, _, rfl, rfl, hs⟩
      · replace hs := hs.2 h14
        refine G_iload_n hO 0 dX6_readOutside_72 rfl rfl ?_
        refine G_ineg hO dX6_readOutside_73 ?_
        refine G_goto hO 78 dX6_readOutside_74 (by decide) ?_
        refine C_iast hO (cw_md _ _) 2 (by decide) (hm 2 (by decide)) (md_2 _ _) (vp_lit (by decide)) dX6_readOutside_78 ?_
        exact G_vret hO hF rfl (Nat.zero_le _) (Nat.zero_le _) dX6_readOutside_79 ⟨rfl, rfl, _, rfl, rfl, hs⟩
  have b31 : ∀ (v1 : Int32) (s0 : Int32) (c : Reg), wX6_readOutside_L31 P v1 s0 c → G Γ ids ad 0 0 (va_up w 21 (mdSh Λ ad c)) 31 [(0, .ref (ad 21 0)), (1, .int v1)] [.int s0, .ref (ad 21 0)] := by
    intro v1 s0 c hs
    unfold wX6_readOutside_L31 at hs
    refine KV_Rv hO (rest := []) [.int s0] (fun l => c_X6_accept hm hs) cv_X6_accept mw_908 ms_20 mw_906 (hm 0 (by decide)) cl6 (by rw [va_us]; exact (md_0 _ _ _)) rfl rfl (Nat.le_of_ble_eq_true rfl) (by decide) rfl rfl (Nat.zero_le _) (Nat.zero_le _) dX6_readOutside_31 ?_
    intro c8 hs
    refine G_iload_n hO 1 dX6_readOutside_34 rfl rfl ?_
    refine G_if_eq hO 48 dX6_readOutside_35 (by decide) (fun h13 => ?_) (fun h13 => ?_)
    · replace hs := hs.1 h13
      refine G_aload_n hO 0 dX6_readOutside_48 rfl rfl ?_
      refine G_iconst hO 0 dX6_readOutside_49 (by decide) ?_
      refine G_bipush hO 40 dX6_readOutside_50 (by decide) ?_
      refine KV_Ri hO (rest := []) [.int 0, .int 40] (fun l => c_X6_two hm hs) cv_X6_two mw_918 ms_22 mw_916 (hm 0 (by decide)) cl6 (by rw [va_us]; exact (md_0 _ _ _)) rfl rfl (Nat.le_of_ble_eq_true rfl) (by decide) rfl rfl (Nat.zero_le _) (Nat.zero_le _) dX6_readOutside_52 ?_
      intro r9 c10 hs
      exact b55 _ _ _ hs
    · replace hs := hs.2 h13
      refine G_aload_n hO 0 dX6_readOutside_38 rfl rfl ?_
      refine G_iconst hO 1 dX6_readOutside_39 (by decide) ?_
      refine G_bipush hO 20 dX6_readOutside_40 (by decide) ?_
      refine KV_Ri hO (rest := []) [.int 1, .int 20] (fun l => c_X6_two hm hs) cv_X6_two mw_918 ms_22 mw_916 (hm 0 (by decide)) cl6 (by rw [va_us]; exact (md_0 _ _ _)) rfl rfl (Nat.le_of_ble_eq_true rfl) (by decide) rfl rfl (Nat.zero_le _) (Nat.zero_le _) dX6_readOutside_42 ?_
      intro r11 c12 hs
      refine G_goto hO 55 dX6_readOutside_45 (by decide) ?_
      exact b55 _ _ _ hs
  have b26 : ∀ (v1 : Int32) (c : Reg), wX6_readOutside_L26 P v1 c → G Γ ids ad 0 0 (va_up w 21 (mdSh Λ ad c)) 26 [(0, .ref (ad 21 0)), (1, .int v1)] [.ref (ad 21 0)] := by
    intro v1 c hs
    unfold wX6_readOutside_L26 at hs
    refine G_iconst hO 1 dX6_readOutside_26 (by decide) ?_
    refine G_goto hO 31 dX6_readOutside_27 (by decide) ?_
    exact b31 _ _ _ hs
  unfold wX6_readOutside at hs
  refine G_aload_n hO 0 dX6_readOutside_0 rfl rfl ?_
  refine G_iconst hO 1 dX6_readOutside_1 (by decide) ?_
  refine KV_Rv hO (rest := []) [.int 1] (fun l => c_X6_accept hm hs) cv_X6_accept mw_908 ms_20 mw_906 (hm 0 (by decide)) cl6 (by rw [va_us]; exact (md_0 _ _ _)) rfl rfl (Nat.le_of_ble_eq_true rfl) (by decide) rfl rfl (Nat.zero_le _) (Nat.zero_le _) dX6_readOutside_2 ?_
  intro c1 hs
  refine G_aload_n hO 0 dX6_readOutside_5 rfl rfl ?_
  refine G_bipush hO 45 dX6_readOutside_6 (by decide) ?_
  refine KV_Ri hO (rest := []) [.int 45] (fun l => c_X6_isNext hm hs) cv_X6_isNext mw_904 ms_19 mw_902 (hm 0 (by decide)) cl6 (by rw [va_us]; exact (md_0 _ _ _)) rfl rfl (Nat.le_of_ble_eq_true rfl) (by decide) rfl rfl (Nat.zero_le _) (Nat.zero_le _) dX6_readOutside_8 ?_
  intro r2 c3 hs
  refine G_istore_n hO [(1, .int r2), (0, .ref (ad 21 0))] dX6_readOutside_11 rfl (by decide) rfl ?_
  refine G_aload_n hO 1 dX6_readOutside_12 rfl rfl ?_
  refine G_iload_n hO 0 dX6_readOutside_13 rfl rfl ?_
  refine G_if_ne hO 26 dX6_readOutside_14 (by decide) (fun h7 => ?_) (fun h7 => ?_)
  · replace hs := hs.1 h7
    refine G_lv hO [(0, .ref (ad 21 0)), (1, .int r2)] [1, 0] rfl ?_
    exact b26 _ _ hs
  · replace hs := hs.2 h7
    refine G_aload_n hO 1 dX6_readOutside_17 rfl rfl ?_
    refine G_bipush hO 43 dX6_readOutside_18 (by decide) ?_
    refine KV_Ri hO (rest := [.ref (ad 21 0)]) [.int 43] (fun l => c_X6_isNext hm hs) cv_X6_isNext mw_904 ms_19 mw_902 (hm 0 (by decide)) cl6 (by rw [va_us]; exact (md_0 _ _ _)) rfl rfl (Nat.le_of_ble_eq_true rfl) (by decide) rfl rfl (Nat.zero_le _) (Nat.zero_le _) dX6_readOutside_20 ?_
    intro r4 c5 hs
    refine G_if_eq hO 30 dX6_readOutside_23 (by decide) (fun h6 => ?_) (fun h6 => ?_)
    · replace hs := hs.1 h6
      refine G_iconst hO 0 dX6_readOutside_30 (by decide) ?_
      refine G_lv hO [(0, .ref (ad 21 0)), (1, .int r2)] [1, 0] rfl ?_
      exact b31 _ _ _ hs
    · replace hs := hs.2 h6
      refine G_lv hO [(0, .ref (ad 21 0)), (1, .int r2)] [1, 0] rfl ?_
      exact b26 _ _ hs
set_option maxHeartbeats 4000000 in
set_option maxRecDepth 20000 in
theorem c_X6_readSetting {l : Launch} {Λ : Lay} {B : Nat} {ids : List (Nat × Nat)} {ad : Nat → Nat → Nat} {w : Nat → Nat → va_E} (hm : ∀ j, j < 8 → (21, j) ∈ ids) {c : Reg} {P : Reg → Prop} (hs : wX6_readSetting c P) : CT l yX6_readSetting cX6_readSetting 3 none { frames := 3, cells := 0, slots := 0, locals := 73 } Λ B ids ad (va_up w 21 (mdSh Λ ad c)) [.ref (ad 21 0)] (Rv ids ad w 21 (mdSh Λ ad) P) := by
  refine CT.of RX6 [(0, .ref (ad 21 0))] (plainFor_of_name (by decide +kernel)) rfl (Nat.le_of_ble_eq_true rfl) rfl (fun Γ hO hF => ?_)
  unfold wX6_readSetting at hs
  refine G_aload_n hO 0 dX6_readSetting_0 rfl rfl ?_
  refine G_iconst hO 1 dX6_readSetting_1 (by decide) ?_
  refine KV_Rv hO (rest := []) [.int 1] (fun l => c_X6_accept hm hs) cv_X6_accept mw_908 ms_20 mw_906 (hm 0 (by decide)) cl6 (by rw [va_us]; exact (md_0 _ _ _)) rfl rfl (Nat.le_of_ble_eq_true rfl) (by decide) rfl rfl (Nat.zero_le _) (Nat.zero_le _) dX6_readSetting_2 ?_
  intro c1 hs
  refine G_aload_n hO 0 dX6_readSetting_5 rfl rfl ?_
  refine G_iconst hO 2 dX6_readSetting_6 (by decide) ?_
  refine G_bipush hO 8 dX6_readSetting_7 (by decide) ?_
  refine KV_Ri hO (rest := []) [.int 2, .int 8] (fun l => c_X6_digit hm hs) cv_X6_digit mw_912 ms_21 mw_910 (hm 0 (by decide)) cl6 (by rw [va_us]; exact (md_0 _ _ _)) rfl rfl (Nat.le_of_ble_eq_true rfl) (by decide) rfl rfl (Nat.zero_le _) (Nat.zero_le _) dX6_readSetting_9 ?_
  intro r2 c3 hs
  refine G_istore_n hO [(1, .int r2), (0, .ref (ad 21 0))] dX6_readSetting_12 rfl (by decide) rfl ?_
  refine G_aload_n hO 1 dX6_readSetting_13 rfl rfl ?_
  refine G_iload_n hO 0 dX6_readSetting_14 rfl rfl ?_
  refine KS_Ni hO (rest := [.ref (ad 21 0)]) [.int r2] (fun l => c_X6_least hs) cv_X6_least mw_945 mw_944 rfl rfl (Nat.le_of_ble_eq_true rfl) (by decide) rfl rfl (Nat.zero_le _) (Nat.zero_le _) dX6_readSetting_15 ?_
  intro r4 hs
  refine G_iload_n hO 0 dX6_readSetting_18 rfl rfl ?_
  refine KS_Ni hO (rest := [.int r4, .ref (ad 21 0)]) [.int r2] (fun l => c_X6_most hs) cv_X6_most mw_948 mw_947 rfl rfl (Nat.le_of_ble_eq_true rfl) (by decide) rfl rfl (Nat.zero_le _) (Nat.zero_le _) dX6_readSetting_19 ?_
  intro r5 hs
  refine KV_Ri hO (rest := []) [.int r4, .int r5] (fun l => c_X6_two hm hs) cv_X6_two mw_918 ms_22 mw_916 (hm 0 (by decide)) cl6 (by rw [va_us]; exact (md_0 _ _ _)) rfl rfl (Nat.le_of_ble_eq_true rfl) (by decide) rfl rfl (Nat.zero_le _) (Nat.zero_le _) dX6_readSetting_22 ?_
  intro r6 c7 hs
  refine G_istore_n hO [(2, .int r6), (1, .int r2), (0, .ref (ad 21 0))] dX6_readSetting_25 rfl (by decide) rfl ?_
  refine G_aload_n hO 2 dX6_readSetting_26 rfl rfl ?_
  refine C_getf hO (v := .int (c7 0 4)) cl6 4 (hm 0 (by decide)) (md_0 _ _ _) (by decide) mw_841 rfl rfl dX6_readSetting_27 ?_
  refine G_if_eq hO 43 dX6_readSetting_30 (by decide) (fun h8 => ?_) (fun h8 => ?_)
  · replace hs := hs.1 h8
    exact G_vret hO hF rfl (Nat.zero_le _) (Nat.zero_le _) dX6_readSetting_43 ⟨rfl, rfl, _, rfl, rfl, hs⟩
  · replace hs := hs.2 h8
    refine G_aload_n hO 2 dX6_readSetting_33 rfl rfl ?_
    refine C_getf hO (v := .ref (ad 21 2)) cl6 5 (hm 0 (by decide)) (md_0 _ _ _) (by decide) mw_842 rfl rfl dX6_readSetting_34 ?_
    refine G_bipush hO 9 dX6_readSetting_37 (by decide) ?_
    refine G_iload_n hO 1 dX6_readSetting_39 rfl rfl ?_
    refine G_iadd hO dX6_readSetting_40 ?_
    refine G_iload_n hO 0 dX6_readSetting_41 rfl rfl ?_
    refine C_iast hO (cw_md _ _) _ rfl (hm 2 (by decide)) (md_2 _ _) hs.1 dX6_readSetting_42 ?_
    replace hs := hs.2
    exact G_vret hO hF rfl (Nat.zero_le _) (Nat.zero_le _) dX6_readSetting_43 ⟨rfl, rfl, _, rfl, rfl, hs⟩
set_option maxHeartbeats 4000000 in
set_option maxRecDepth 20000 in
theorem c_X6_readText {l : Launch} {Λ : Lay} {B : Nat} {ids : List (Nat × Nat)} {ad : Nat → Nat → Nat} {w : Nat → Nat → va_E} (hm : ∀ j, j < 8 → (21, j) ∈ ids) {c : Reg} {P : Int32 → Reg → Prop} (hs : wX6_readText c P) : CT l yX6_readText cX6_readText 4 (some .int) { frames := 4, cells := 0, slots := 0, locals := 97 } Λ B ids ad (va_up w 21 (mdSh Λ ad c)) [.ref (ad 21 0)] (Ri ids ad w 21 (mdSh Λ ad) P) := by
  refine CT.of RX6 [(0, .ref (ad 21 0))] (plainFor_of_name (by decide +kernel)) rfl (Nat.le_of_ble_eq_true rfl) rfl (fun Γ hO hF => ?_)
  have b160 : ∀ (c : Reg), wX6_readText_L160 P c → G Γ ids ad 0 0 (va_up w 21 (mdSh Λ ad c)) 160 [(0, .ref (ad 21 0))] [] := by
    intro c hs
    unfold wX6_readText_L160 at hs
    refine G_aload_n hO 0 dX6_readText_160 rfl rfl ?_
    refine C_getf hO (v := .int (c 0 4)) cl6 4 (hm 0 (by decide)) (md_0 _ _ _) (by decide) mw_841 rfl rfl dX6_readText_161 ?_
    refine G_if_eq hO 172 dX6_readText_164 (by decide) (fun h30 => ?_) (fun h30 => ?_)
    · replace hs := hs.1 h30
      refine G_aload_n hO 0 dX6_readText_172 rfl rfl ?_
      refine C_getf hO (v := .int (c 0 3)) cl6 3 (hm 0 (by decide)) (md_0 _ _ _) (by decide) mw_840 rfl rfl dX6_readText_173 ?_
      exact G_iret hO hF rfl (Nat.zero_le _) (Nat.zero_le _) dX6_readText_176 ⟨rfl, rfl, _, _, rfl, rfl, hs⟩
    · replace hs := hs.2 h30
      refine G_ldc hO mw_914 dX6_readText_167 ?_
      refine G_goto hO 176 dX6_readText_169 (by decide) ?_
      exact G_iret hO hF rfl (Nat.zero_le _) (Nat.zero_le _) dX6_readText_176 ⟨rfl, rfl, _, _, rfl, rfl, hs⟩
  have b86 : ∀ (N86 : Nat) (c : Reg), wX6_readText_L86 P N86 c → G Γ ids ad 0 0 (va_up w 21 (mdSh Λ ad c)) 86 [(0, .ref (ad 21 0))] [] := by
    intro N86
    induction N86 with
    | zero => intro c hs; exact False.elim hs
    | succ N86 ih86 =>
      intro c hs
      unfold wX6_readText_L86 at hs
      refine G_aload_n hO 0 dX6_readText_86 rfl rfl ?_
      refine C_getf hO (v := .int (c 0 4)) cl6 4 (hm 0 (by decide)) (md_0 _ _ _) (by decide) mw_841 rfl rfl dX6_readText_87 ?_
      refine G_if_eq hO 160 dX6_readText_90 (by decide) (fun h29 => ?_) (fun h29 => ?_)
      · replace hs := hs.1 h29
        exact b160 _ hs
      · replace hs := hs.2 h29
        refine G_aload_n hO 0 dX6_readText_93 rfl rfl ?_
        refine C_getf hO (v := .int (c 0 3)) cl6 3 (hm 0 (by decide)) (md_0 _ _ _) (by decide) mw_840 rfl rfl dX6_readText_94 ?_
        refine G_aload_n hO 0 dX6_readText_97 rfl rfl ?_
        refine C_getf hO (v := .int (c 0 2)) cl6 2 (hm 0 (by decide)) (md_0 _ _ _) (by decide) mw_839 rfl rfl dX6_readText_98 ?_
        refine G_icmp_ge hO 160 dX6_readText_101 (by decide) (fun h28 => ?_) (fun h28 => ?_)
        · replace hs := hs.1 h28
          exact b160 _ hs
        · replace hs := hs.2 h28
          refine G_aload_n hO 0 dX6_readText_104 rfl rfl ?_
          refine G_bipush hO 114 dX6_readText_105 (by decide) ?_
          refine KV_Ri hO (rest := []) [.int 114] (fun l => c_X6_isNext hm hs) cv_X6_isNext mw_904 ms_19 mw_902 (hm 0 (by decide)) cl6 (by rw [va_us]; exact (md_0 _ _ _)) rfl rfl (Nat.le_of_ble_eq_true rfl) (by decide) rfl rfl (Nat.zero_le _) (Nat.zero_le _) dX6_readText_107 ?_
          intro r15 c16 hs
          refine G_if_eq hO 120 dX6_readText_110 (by decide) (fun h27 => ?_) (fun h27 => ?_)
          · replace hs := hs.1 h27
            refine G_aload_n hO 0 dX6_readText_120 rfl rfl ?_
            refine G_bipush hO 111 dX6_readText_121 (by decide) ?_
            refine KV_Ri hO (rest := []) [.int 111] (fun l => c_X6_isNext hm hs) cv_X6_isNext mw_904 ms_19 mw_902 (hm 0 (by decide)) cl6 (by rw [va_us]; exact (md_0 _ _ _)) rfl rfl (Nat.le_of_ble_eq_true rfl) (by decide) rfl rfl (Nat.zero_le _) (Nat.zero_le _) dX6_readText_123 ?_
            intro r17 c18 hs
            refine G_if_eq hO 136 dX6_readText_126 (by decide) (fun h25 => ?_) (fun h25 => ?_)
            · replace hs := hs.1 h25
              refine G_aload_n hO 0 dX6_readText_136 rfl rfl ?_
              refine G_bipush hO 115 dX6_readText_137 (by decide) ?_
              refine KV_Ri hO (rest := []) [.int 115] (fun l => c_X6_isNext hm hs) cv_X6_isNext mw_904 ms_19 mw_902 (hm 0 (by decide)) cl6 (by rw [va_us]; exact (md_0 _ _ _)) rfl rfl (Nat.le_of_ble_eq_true rfl) (by decide) rfl rfl (Nat.zero_le _) (Nat.zero_le _) dX6_readText_139 ?_
              intro r19 c20 hs
              refine G_if_eq hO 152 dX6_readText_142 (by decide) (fun h23 => ?_) (fun h23 => ?_)
              · replace hs := hs.1 h23
                refine G_aload_n hO 0 dX6_readText_152 rfl rfl ?_
                refine G_iconst hO 0 dX6_readText_153 (by decide) ?_
                refine KV_Rv hO (rest := []) [.int 0] (fun l => c_X6_accept hm hs) cv_X6_accept mw_908 ms_20 mw_906 (hm 0 (by decide)) cl6 (by rw [va_us]; exact (md_0 _ _ _)) rfl rfl (Nat.le_of_ble_eq_true rfl) (by decide) rfl rfl (Nat.zero_le _) (Nat.zero_le _) dX6_readText_154 ?_
                intro c21 hs
                refine G_goto hO 86 dX6_readText_157 (by decide) ?_
                exact ih86 _ hs
              · replace hs := hs.2 h23
                refine G_aload_n hO 0 dX6_readText_145 rfl rfl ?_
                refine KV_Rv hO (rest := []) [] (fun l => c_X6_readSetting hm hs) cv_X6_readSetting mw_942 ms_25 mw_940 (hm 0 (by decide)) cl6 (by rw [va_us]; exact (md_0 _ _ _)) rfl rfl (Nat.le_of_ble_eq_true rfl) (by decide) rfl rfl (Nat.zero_le _) (Nat.zero_le _) dX6_readText_146 ?_
                intro c22 hs
                refine G_goto hO 86 dX6_readText_149 (by decide) ?_
                exact ih86 _ hs
            · replace hs := hs.2 h25
              refine G_aload_n hO 0 dX6_readText_129 rfl rfl ?_
              refine KV_Rv hO (rest := []) [] (fun l => c_X6_readOutside hm hs) cv_X6_readOutside mw_938 ms_24 mw_936 (hm 0 (by decide)) cl6 (by rw [va_us]; exact (md_0 _ _ _)) rfl rfl (Nat.le_of_ble_eq_true rfl) (by decide) rfl rfl (Nat.zero_le _) (Nat.zero_le _) dX6_readText_130 ?_
              intro c24 hs
              refine G_goto hO 86 dX6_readText_133 (by decide) ?_
              exact ih86 _ hs
          · replace hs := hs.2 h27
            refine G_aload_n hO 0 dX6_readText_113 rfl rfl ?_
            refine KV_Rv hO (rest := []) [] (fun l => c_X6_readRoom hm hs) cv_X6_readRoom mw_922 ms_23 mw_920 (hm 0 (by decide)) cl6 (by rw [va_us]; exact (md_0 _ _ _)) rfl rfl (Nat.le_of_ble_eq_true rfl) (by decide) rfl rfl (Nat.zero_le _) (Nat.zero_le _) dX6_readText_114 ?_
            intro c26 hs
            refine G_goto hO 86 dX6_readText_117 (by decide) ?_
            exact ih86 _ hs
  have b59 : ∀ (s0 : Int32) (s1 : Int32) (c : Reg), wX6_readText_L59 P s0 s1 c → G Γ ids ad 0 0 (va_up w 21 (mdSh Λ ad c)) 59 [(0, .ref (ad 21 0))] [.int s0, .int s1] := by
    intro s0 s1 c hs
    unfold wX6_readText_L59 at hs
    refine G_iadd hO dX6_readText_59 ?_
    refine G_istore_n hO [(2, .int (s1 + s0)), (0, .ref (ad 21 0))] dX6_readText_60 rfl (by decide) rfl ?_
    refine G_aload_n hO 1 dX6_readText_61 rfl rfl ?_
    refine G_bipush hO 30 dX6_readText_62 (by decide) ?_
    refine G_bipush hO 80 dX6_readText_64 (by decide) ?_
    refine KV_Ri hO (rest := []) [.int 30, .int 80] (fun l => c_X6_two hm hs) cv_X6_two mw_918 ms_22 mw_916 (hm 0 (by decide)) cl6 (by rw [va_us]; exact (md_0 _ _ _)) rfl rfl (Nat.le_of_ble_eq_true rfl) (by decide) rfl rfl (Nat.zero_le _) (Nat.zero_le _) dX6_readText_66 ?_
    intro r12 c13 hs
    refine G_istore_n hO [(3, .int r12), (2, .int (s1 + s0)), (0, .ref (ad 21 0))] dX6_readText_69 rfl (by decide) rfl ?_
    refine G_aload_n hO 2 dX6_readText_70 rfl rfl ?_
    refine C_getf hO (v := .ref (ad 21 2)) cl6 5 (hm 0 (by decide)) (md_0 _ _ _) (by decide) mw_842 rfl rfl dX6_readText_71 ?_
    refine G_bipush hO 9 dX6_readText_74 (by decide) ?_
    refine G_iload_n hO 1 dX6_readText_76 rfl rfl ?_
    refine C_iast hO (cw_md _ _) 9 (by decide) (hm 2 (by decide)) (md_2 _ _) (vp_lit (by decide)) dX6_readText_77 ?_
    refine G_aload_n hO 2 dX6_readText_78 rfl rfl ?_
    refine C_getf hO (v := .ref (ad 21 2)) cl6 5 (hm 0 (by decide)) (md_0 _ _ _) (by decide) mw_842 rfl rfl dX6_readText_79 ?_
    refine G_bipush hO 10 dX6_readText_82 (by decide) ?_
    refine G_iload_n hO 0 dX6_readText_84 rfl rfl ?_
    refine C_iast hO (cw_md _ _) 10 (by decide) (hm 2 (by decide)) (md_2 _ _) (vp_lit (by decide)) dX6_readText_85 ?_
    obtain ⟨Nf14, hs⟩ := hs
    refine G_lv hO [(0, .ref (ad 21 0))] [2] rfl ?_
    exact b86 Nf14 _ hs
  unfold wX6_readText at hs
  refine G_aload_n hO 0 dX6_readText_0 rfl rfl ?_
  refine G_iconst hO 0 dX6_readText_1 (by decide) ?_
  refine C_putf hO (cw_md _ _) cl6 3 (hm 0 (by decide)) (md_0 _ _ _) (by decide) mw_840 rfl rfl rfl rfl (Nat.le_of_ble_eq_true rfl) (mdP (by decide)) dX6_readText_2 ?_
  refine G_aload_n hO 0 dX6_readText_5 rfl rfl ?_
  refine G_iconst hO 1 dX6_readText_6 (by decide) ?_
  refine C_putf hO (cw_md _ _) cl6 4 (hm 0 (by decide)) (md_0 _ _ _) (by decide) mw_841 rfl rfl rfl rfl (Nat.le_of_ble_eq_true rfl) (mdP (by decide)) dX6_readText_7 ?_
  refine G_aload_n hO 0 dX6_readText_10 rfl rfl ?_
  refine C_getf hO (v := .ref (ad 21 2)) cl6 5 (hm 0 (by decide)) (md_0 _ _ _) (by decide) mw_842 rfl rfl dX6_readText_11 ?_
  refine KS_Rv hO (rest := []) [.ref (ad 21 2)] (fun l => c_X6_clean hm (by decide) hs) cv_X6_clean mw_835 mw_834 rfl rfl (Nat.le_of_ble_eq_true rfl) (by decide) rfl rfl (Nat.zero_le _) (Nat.zero_le _) dX6_readText_14 ?_
  intro c1 hs
  refine G_aload_n hO 0 dX6_readText_17 rfl rfl ?_
  refine G_aload_n hO 0 dX6_readText_18 rfl rfl ?_
  refine G_bipush hO 77 dX6_readText_19 (by decide) ?_
  refine KV_Ri hO (rest := [.ref (ad 21 0)]) [.int 77] (fun l => c_X6_isNext hm hs) cv_X6_isNext mw_904 ms_19 mw_902 (hm 0 (by decide)) cl6 (by rw [va_us]; exact (md_0 _ _ _)) rfl rfl (Nat.le_of_ble_eq_true rfl) (by decide) rfl rfl (Nat.zero_le _) (Nat.zero_le _) dX6_readText_21 ?_
  intro r2 c3 hs
  refine KV_Rv hO (rest := []) [.int r2] (fun l => c_X6_accept hm hs) cv_X6_accept mw_908 ms_20 mw_906 (hm 0 (by decide)) cl6 (by rw [va_us]; exact (md_0 _ _ _)) rfl rfl (Nat.le_of_ble_eq_true rfl) (by decide) rfl rfl (Nat.zero_le _) (Nat.zero_le _) dX6_readText_24 ?_
  intro c4 hs
  refine G_aload_n hO 0 dX6_readText_27 rfl rfl ?_
  refine G_iconst hO 0 dX6_readText_28 (by decide) ?_
  refine G_iconst hO 2 dX6_readText_29 (by decide) ?_
  refine KV_Ri hO (rest := []) [.int 0, .int 2] (fun l => c_X6_digit hm hs) cv_X6_digit mw_912 ms_21 mw_910 (hm 0 (by decide)) cl6 (by rw [va_us]; exact (md_0 _ _ _)) rfl rfl (Nat.le_of_ble_eq_true rfl) (by decide) rfl rfl (Nat.zero_le _) (Nat.zero_le _) dX6_readText_30 ?_
  intro r5 c6 hs
  refine G_istore_n hO [(1, .int r5), (0, .ref (ad 21 0))] dX6_readText_33 rfl (by decide) rfl ?_
  refine G_bipush hO 100 dX6_readText_34 (by decide) ?_
  refine G_iload_n hO 0 dX6_readText_36 rfl rfl ?_
  refine G_imul hO dX6_readText_37 ?_
  refine G_iload_n hO 0 dX6_readText_38 rfl rfl ?_
  refine G_iconst hO 2 dX6_readText_39 (by decide) ?_
  refine G_icmp_ne hO 52 dX6_readText_40 (by decide) (fun h11 => ?_) (fun h11 => ?_)
  · replace hs := hs.1 h11
    refine G_aload_n hO 1 dX6_readText_52 rfl rfl ?_
    refine G_iconst hO 0 dX6_readText_53 (by decide) ?_
    refine G_bipush hO 99 dX6_readText_54 (by decide) ?_
    refine KV_Ri hO (rest := [.int (100 * r5)]) [.int 0, .int 99] (fun l => c_X6_two hm hs) cv_X6_two mw_918 ms_22 mw_916 (hm 0 (by decide)) cl6 (by rw [va_us]; exact (md_0 _ _ _)) rfl rfl (Nat.le_of_ble_eq_true rfl) (by decide) rfl rfl (Nat.zero_le _) (Nat.zero_le _) dX6_readText_56 ?_
    intro r7 c8 hs
    refine G_lv hO [(0, .ref (ad 21 0))] [1] rfl ?_
    exact b59 _ _ _ hs
  · replace hs := hs.2 h11
    refine G_aload_n hO 1 dX6_readText_43 rfl rfl ?_
    refine G_iconst hO 0 dX6_readText_44 (by decide) ?_
    refine G_iconst hO 0 dX6_readText_45 (by decide) ?_
    refine KV_Ri hO (rest := [.int (100 * r5)]) [.int 0, .int 0] (fun l => c_X6_two hm hs) cv_X6_two mw_918 ms_22 mw_916 (hm 0 (by decide)) cl6 (by rw [va_us]; exact (md_0 _ _ _)) rfl rfl (Nat.le_of_ble_eq_true rfl) (by decide) rfl rfl (Nat.zero_le _) (Nat.zero_le _) dX6_readText_46 ?_
    intro r9 c10 hs
    refine G_goto hO 59 dX6_readText_49 (by decide) ?_
    refine G_lv hO [(0, .ref (ad 21 0))] [1] rfl ?_
    exact b59 _ _ _ hs
set_option maxHeartbeats 4000000 in
set_option maxRecDepth 20000 in
theorem c_X6_errorPosition {l : Launch} {Λ : Lay} {B : Nat} {ids : List (Nat × Nat)} {ad : Nat → Nat → Nat} {w : Nat → Nat → va_E} (hm : ∀ j, j < 8 → (21, j) ∈ ids) {c : Reg} {P : Int32 → Reg → Prop} (hs : wX6_errorPosition c P) : CT l yX6_errorPosition cX6_errorPosition 1 (some .int) { frames := 5, cells := 0, slots := 0, locals := 120 } Λ B ids ad (va_up w 21 (mdSh Λ ad c)) [.ref (ad 21 0)] (Ri ids ad w 21 (mdSh Λ ad) P) := by
  refine CT.of RX6 [(0, .ref (ad 21 0))] (plainFor_of_name (by decide +kernel)) rfl (Nat.le_of_ble_eq_true rfl) rfl (fun Γ hO hF => ?_)
  unfold wX6_errorPosition at hs
  refine G_aload_n hO 0 dX6_errorPosition_0 rfl rfl ?_
  refine G_iconst hO 0 dX6_errorPosition_1 (by decide) ?_
  refine C_putf hO (cw_md _ _) cl6 0 (hm 0 (by decide)) (md_0 _ _ _) (by decide) mw_837 rfl rfl rfl rfl (Nat.le_of_ble_eq_true rfl) (mdP (by decide)) dX6_errorPosition_2 ?_
  refine G_aload_n hO 0 dX6_errorPosition_5 rfl rfl ?_
  refine KV_Ri hO (rest := []) [] (fun l => c_X6_readText hm hs) cv_X6_readText mw_900 ms_18 mw_898 (hm 0 (by decide)) cl6 (by rw [va_us]; exact (md_0 _ _ _)) rfl rfl (Nat.le_of_ble_eq_true rfl) (by decide) rfl rfl (Nat.zero_le _) (Nat.zero_le _) dX6_errorPosition_6 ?_
  intro r1 c2 hs
  exact G_iret hO hF rfl (Nat.zero_le _) (Nat.zero_le _) dX6_errorPosition_9 ⟨rfl, rfl, _, _, rfl, rfl, hs⟩
set_option maxHeartbeats 4000000 in
set_option maxRecDepth 20000 in
theorem c_X6_load {l : Launch} {Λ : Lay} {B : Nat} {ids : List (Nat × Nat)} {ad : Nat → Nat → Nat} {w : Nat → Nat → va_E} (hm : ∀ j, j < 8 → (21, j) ∈ ids) {c : Reg} {P : Int32 → Reg → Prop} (hs : wX6_load c P) : CT l yX6_load cX6_load 1 (some .int) { frames := 5, cells := 0, slots := 0, locals := 120 } Λ B ids ad (va_up w 21 (mdSh Λ ad c)) [.ref (ad 21 0)] (Ri ids ad w 21 (mdSh Λ ad) P) := by
  refine CT.of RX6 [(0, .ref (ad 21 0))] (plainFor_of_name (by decide +kernel)) rfl (Nat.le_of_ble_eq_true rfl) rfl (fun Γ hO hF => ?_)
  have b15 : ∀ (s0 : Int32) (c : Reg), wX6_load_L15 P s0 c → G Γ ids ad 0 0 (va_up w 21 (mdSh Λ ad c)) 15 [(0, .ref (ad 21 0))] [.int s0, .ref (ad 21 0)] := by
    intro s0 c hs
    unfold wX6_load_L15 at hs
    refine KV_Ri hO (rest := []) [.int s0] (fun l => c_X6_refused hm hs) cv_X6_refused mw_888 ms_17 mw_886 (hm 0 (by decide)) cl6 (by rw [va_us]; exact (md_0 _ _ _)) rfl rfl (Nat.le_of_ble_eq_true rfl) (by decide) rfl rfl (Nat.zero_le _) (Nat.zero_le _) dX6_load_15 ?_
    intro r4 c5 hs
    refine G_if_eq hO 23 dX6_load_18 (by decide) (fun h7 => ?_) (fun h7 => ?_)
    · replace hs := hs.1 h7
      refine G_aload_n hO 0 dX6_load_23 rfl rfl ?_
      refine C_getf hO (v := .ref (ad 21 2)) cl6 5 (hm 0 (by decide)) (md_0 _ _ _) (by decide) mw_842 rfl rfl dX6_load_24 ?_
      refine G_iconst hO 0 dX6_load_27 (by decide) ?_
      refine G_aload_n hO 0 dX6_load_28 rfl rfl ?_
      refine C_getf hO (v := .ref (ad 21 3)) cl6 6 (hm 0 (by decide)) (md_0 _ _ _) (by decide) mw_843 rfl rfl dX6_load_29 ?_
      refine G_iconst hO 0 dX6_load_32 (by decide) ?_
      refine G_sipush hO 128 dX6_load_33 (by decide) ?_
      refine KS_Rv hO (rest := []) [.ref (ad 21 2), .int 0, .ref (ad 21 3), .int 0, .int 128] (fun l => c_X6_copy hm (by decide) (by decide) hs) cv_X6_copy mw_955 mw_954 rfl rfl (Nat.le_of_ble_eq_true rfl) (by decide) rfl rfl (Nat.zero_le _) (Nat.zero_le _) dX6_load_36 ?_
      intro c6 hs
      refine G_aload_n hO 0 dX6_load_39 rfl rfl ?_
      refine G_iconst hO 0 dX6_load_40 (by decide) ?_
      refine C_putf hO (cw_md _ _) cl6 9 (hm 0 (by decide)) (md_0 _ _ _) (by decide) mw_846 rfl rfl rfl rfl (Nat.le_of_ble_eq_true rfl) (mdP (by decide)) dX6_load_41 ?_
      refine G_aload_n hO 0 dX6_load_44 rfl rfl ?_
      refine C_getf hO (v := .ref (ad 21 7)) cl6 11 (hm 0 (by decide)) (md_0 _ _ _) (by decide) mw_848 rfl rfl dX6_load_45 ?_
      refine G_iconst hO 0 dX6_load_48 (by decide) ?_
      refine G_iconst hO 0 dX6_load_49 (by decide) ?_
      refine C_zast hO (cw_md _ _) 0 (by decide) (hm 7 (by decide)) (md_7 _ _) (vp_lit (by decide)) dX6_load_50 ?_
      refine G_aload_n hO 0 dX6_load_51 rfl rfl ?_
      refine C_getf hO (v := .ref (ad 21 7)) cl6 11 (hm 0 (by decide)) (md_0 _ _ _) (by decide) mw_848 rfl rfl dX6_load_52 ?_
      refine G_iconst hO 1 dX6_load_55 (by decide) ?_
      refine G_iconst hO 0 dX6_load_56 (by decide) ?_
      refine C_zast hO (cw_md _ _) 1 (by decide) (hm 7 (by decide)) (md_7 _ _) (vp_lit (by decide)) dX6_load_57 ?_
      refine G_aload_n hO 0 dX6_load_58 rfl rfl ?_
      refine C_getf hO (v := .ref (ad 21 3)) cl6 6 (hm 0 (by decide)) (md_0 _ _ _) (by decide) mw_843 rfl rfl dX6_load_59 ?_
      refine G_iconst hO 0 dX6_load_62 (by decide) ?_
      refine C_iald hO 0 (by decide) (hm 3 (by decide)) (md_3 _ _ _) (vp_lit (by decide)) dX6_load_63 ?_
      exact G_iret hO hF rfl (Nat.zero_le _) (Nat.zero_le _) dX6_load_64 ⟨rfl, rfl, _, _, rfl, rfl, hs⟩
    · replace hs := hs.2 h7
      refine G_iconst hO 0 dX6_load_21 (by decide) ?_
      exact G_iret hO hF rfl (Nat.zero_le _) (Nat.zero_le _) dX6_load_22 ⟨rfl, rfl, _, _, rfl, rfl, hs⟩
  unfold wX6_load at hs
  refine G_aload_n hO 0 dX6_load_0 rfl rfl ?_
  refine G_aload_n hO 0 dX6_load_1 rfl rfl ?_
  refine KV_Ri hO (rest := [.ref (ad 21 0)]) [] (fun l => c_X6_readText hm hs) cv_X6_readText mw_900 ms_18 mw_898 (hm 0 (by decide)) cl6 (by rw [va_us]; exact (md_0 _ _ _)) rfl rfl (Nat.le_of_ble_eq_true rfl) (by decide) rfl rfl (Nat.zero_le _) (Nat.zero_le _) dX6_load_2 ?_
  intro r1 c2 hs
  refine G_ldc hO mw_914 dX6_load_5 ?_
  refine G_icmp_ne hO 14 dX6_load_7 (by decide) (fun h3 => ?_) (fun h3 => ?_)
  · replace hs := hs.1 h3
    refine G_iconst hO 1 dX6_load_14 (by decide) ?_
    exact b15 _ _ hs
  · replace hs := hs.2 h3
    refine G_iconst hO 0 dX6_load_10 (by decide) ?_
    refine G_goto hO 15 dX6_load_11 (by decide) ?_
    exact b15 _ _ hs
set_option maxHeartbeats 4000000 in
set_option maxRecDepth 20000 in
theorem c_X6_allHeat {l : Launch} {Λ : Lay} {B : Nat} {ids : List (Nat × Nat)} {ad : Nat → Nat → Nat} {w : Nat → Nat → va_E} (hm : ∀ j, j < 8 → (21, j) ∈ ids) {j : Nat} (hj : 2 ≤ j ∧ j ≤ 4) {c : Reg} {P : Int32 → Reg → Prop} (hs : wX6_allHeat j c P) : CT l yX6_allHeat cX6_allHeat 3 (some .int) { frames := 0, cells := 0, slots := 0, locals := 0 } Λ B ids ad (va_up w 21 (mdSh Λ ad c)) [.ref (ad 21 j)] (Ri ids ad w 21 (mdSh Λ ad) P) := by
  refine CT.of RX6 [(0, .ref (ad 21 j))] (plainFor_of_name (by decide +kernel)) rfl (Nat.le_of_ble_eq_true rfl) rfl (fun Γ hO hF => ?_)
  have b4 : ∀ (N4 : Nat) (v1 : Int32) (v2 : Int32) (c : Reg), wX6_allHeat_L4 j P N4 v1 v2 c → G Γ ids ad 0 0 (va_up w 21 (mdSh Λ ad c)) 4 [(0, .ref (ad 21 j)), (1, .int v1), (2, .int v2)] [] := by
    intro N4
    induction N4 with
    | zero => intro v1 v2 c hs; exact False.elim hs
    | succ N4 ih4 =>
      intro v1 v2 c hs
      unfold wX6_allHeat_L4 at hs
      refine G_iload_n hO 2 dX6_allHeat_4 rfl rfl ?_
      refine G_aload_n hO 0 dX6_allHeat_5 rfl rfl ?_
      refine G_iconst hO 0 dX6_allHeat_6 (by decide) ?_
      refine C_iald hO 0 (by decide) (hm _ (by have h9 := hj; omega)) (md_w _ _ hj _) (vp_lit (by decide)) dX6_allHeat_7 ?_
      refine G_iconst hO 2 dX6_allHeat_8 (by decide) ?_
      refine G_iadd hO dX6_allHeat_9 ?_
      refine G_icmp_ge hO 28 dX6_allHeat_10 (by decide) (fun h2 => ?_) (fun h2 => ?_)
      · replace hs := hs.1 h2
        refine G_iload_n hO 1 dX6_allHeat_28 rfl rfl ?_
        exact G_iret hO hF rfl (Nat.zero_le _) (Nat.zero_le _) dX6_allHeat_29 ⟨rfl, rfl, _, _, rfl, rfl, hs⟩
      · replace hs := hs.2 h2
        refine G_iload_n hO 1 dX6_allHeat_13 rfl rfl ?_
        refine G_aload_n hO 0 dX6_allHeat_14 rfl rfl ?_
        refine G_bipush hO 18 dX6_allHeat_15 (by decide) ?_
        refine G_iload_n hO 2 dX6_allHeat_17 rfl rfl ?_
        refine G_iadd hO dX6_allHeat_18 ?_
        refine C_iald hO _ rfl (hm _ (by have h9 := hj; omega)) (md_w _ _ hj _) hs.1 dX6_allHeat_19 ?_
        replace hs := hs.2
        refine G_iadd hO dX6_allHeat_20 ?_
        refine G_istore_n hO [(1, .int (v1 + (c j (Int32.toNatClampNeg (18 + v2))))), (0, .ref (ad 21 j)), (2, .int v2)] dX6_allHeat_21 rfl (by decide) rfl ?_
        refine G_iinc hO 2 (v2 + 1) [(2, .int (v2 + 1)), (1, .int (v1 + (c j (Int32.toNatClampNeg (18 + v2))))), (0, .ref (ad 21 j))] dX6_allHeat_22 rfl rfl (by decide) rfl ?_
        refine G_goto hO 4 dX6_allHeat_25 (by decide) ?_
        refine G_lv hO [(0, .ref (ad 21 j)), (1, .int (v1 + (c j (Int32.toNatClampNeg (18 + v2))))), (2, .int (v2 + 1))] [2, 1, 0] rfl ?_
        exact ih4 _ _ _ hs
  unfold wX6_allHeat at hs
  refine G_iconst hO 0 dX6_allHeat_0 (by decide) ?_
  refine G_istore_n hO [(1, .int 0), (0, .ref (ad 21 j))] dX6_allHeat_1 rfl (by decide) rfl ?_
  refine G_iconst hO 0 dX6_allHeat_2 (by decide) ?_
  refine G_istore_n hO [(2, .int 0), (1, .int 0), (0, .ref (ad 21 j))] dX6_allHeat_3 rfl (by decide) rfl ?_
  obtain ⟨Nf1, hs⟩ := hs
  refine G_lv hO [(0, .ref (ad 21 j)), (1, .int 0), (2, .int 0)] [2, 1, 0] rfl ?_
  exact b4 Nf1 _ _ _ hs
set_option maxHeartbeats 4000000 in
set_option maxRecDepth 20000 in
theorem c_X6_allOf {l : Launch} {Λ : Lay} {B : Nat} {ids : List (Nat × Nat)} {ad : Nat → Nat → Nat} {w : Nat → Nat → va_E} (hm : ∀ j, j < 8 → (21, j) ∈ ids) {j : Nat} (hj : 2 ≤ j ∧ j ≤ 4) {a1 : Int32} {c : Reg} {P : Int32 → Reg → Prop} (hs : wX6_allOf j a1 c P) : CT l yX6_allOf cX6_allOf 4 (some .int) { frames := 1, cells := 0, slots := 0, locals := 21 } Λ B ids ad (va_up w 21 (mdSh Λ ad c)) [.ref (ad 21 j), .int a1] (Ri ids ad w 21 (mdSh Λ ad) P) := by
  refine CT.of RX6 [(0, .ref (ad 21 j)), (1, .int a1)] (plainFor_of_name (by decide +kernel)) rfl (Nat.le_of_ble_eq_true rfl) rfl (fun Γ hO hF => ?_)
  have b4 : ∀ (N4 : Nat) (v2 : Int32) (v3 : Int32) (c : Reg), wX6_allOf_L4 j a1 P N4 v2 v3 c → G Γ ids ad 0 0 (va_up w 21 (mdSh Λ ad c)) 4 [(0, .ref (ad 21 j)), (1, .int a1), (2, .int v2), (3, .int v3)] [] := by
    intro N4
    induction N4 with
    | zero => intro v2 v3 c hs; exact False.elim hs
    | succ N4 ih4 =>
      intro v2 v3 c hs
      unfold wX6_allOf_L4 at hs
      refine G_iload_n hO 3 dX6_allOf_4 rfl rfl ?_
      refine G_aload_n hO 0 dX6_allOf_5 rfl rfl ?_
      refine G_iconst hO 0 dX6_allOf_6 (by decide) ?_
      refine C_iald hO 0 (by decide) (hm _ (by have h9 := hj; omega)) (md_w _ _ hj _) (vp_lit (by decide)) dX6_allOf_7 ?_
      refine G_icmp_ge hO 27 dX6_allOf_8 (by decide) (fun h3 => ?_) (fun h3 => ?_)
      · replace hs := hs.1 h3
        refine G_iload_n hO 2 dX6_allOf_27 rfl rfl ?_
        exact G_iret hO hF rfl (Nat.zero_le _) (Nat.zero_le _) dX6_allOf_28 ⟨rfl, rfl, _, _, rfl, rfl, hs⟩
      · replace hs := hs.2 h3
        refine G_iload_n hO 2 dX6_allOf_11 rfl rfl ?_
        refine G_aload_n hO 0 dX6_allOf_12 rfl rfl ?_
        refine G_iload_n hO 3 dX6_allOf_13 rfl rfl ?_
        refine G_iload_n hO 1 dX6_allOf_14 rfl rfl ?_
        refine KS_Ni hO (rest := [.ref (ad 21 j), .int v2]) [.int v3, .int a1] (fun l => c_X6_cell hs) cv_X6_cell mw_928 mw_927 rfl rfl (Nat.le_of_ble_eq_true rfl) (by decide) rfl rfl (Nat.zero_le _) (Nat.zero_le _) dX6_allOf_15 ?_
        intro r2 hs
        refine C_iald hO _ rfl (hm _ (by have h9 := hj; omega)) (md_w _ _ hj _) hs.1 dX6_allOf_18 ?_
        replace hs := hs.2
        refine G_iadd hO dX6_allOf_19 ?_
        refine G_istore_n hO [(2, .int (v2 + (c j (Int32.toNatClampNeg r2)))), (0, .ref (ad 21 j)), (1, .int a1), (3, .int v3)] dX6_allOf_20 rfl (by decide) rfl ?_
        refine G_iinc hO 3 (v3 + 1) [(3, .int (v3 + 1)), (2, .int (v2 + (c j (Int32.toNatClampNeg r2)))), (0, .ref (ad 21 j)), (1, .int a1)] dX6_allOf_21 rfl rfl (by decide) rfl ?_
        refine G_goto hO 4 dX6_allOf_24 (by decide) ?_
        refine G_lv hO [(0, .ref (ad 21 j)), (1, .int a1), (2, .int (v2 + (c j (Int32.toNatClampNeg r2)))), (3, .int (v3 + 1))] [2, 3, 1, 0] rfl ?_
        exact ih4 _ _ _ hs
  unfold wX6_allOf at hs
  refine G_iconst hO 0 dX6_allOf_0 (by decide) ?_
  refine G_istore_n hO [(2, .int 0), (0, .ref (ad 21 j)), (1, .int a1)] dX6_allOf_1 rfl (by decide) rfl ?_
  refine G_iconst hO 0 dX6_allOf_2 (by decide) ?_
  refine G_istore_n hO [(3, .int 0), (2, .int 0), (0, .ref (ad 21 j)), (1, .int a1)] dX6_allOf_3 rfl (by decide) rfl ?_
  obtain ⟨Nf1, hs⟩ := hs
  refine G_lv hO [(0, .ref (ad 21 j)), (1, .int a1), (2, .int 0), (3, .int 0)] [2, 3, 1, 0] rfl ?_
  exact b4 Nf1 _ _ _ hs
set_option maxHeartbeats 4000000 in
set_option maxRecDepth 20000 in
theorem c_X6_about {l : Launch} {Λ : Lay} {B : Nat} {ids : List (Nat × Nat)} {ad : Nat → Nat → Nat} {w : Nat → Nat → va_E} (hm : ∀ j, j < 8 → (21, j) ∈ ids) {a1 : Int32} {c : Reg} {P : Int32 → Reg → Prop} (hs : wX6_about a1 c P) : CT l yX6_about cX6_about 2 (some .int) { frames := 2, cells := 0, slots := 0, locals := 44 } Λ B ids ad (va_up w 21 (mdSh Λ ad c)) [.ref (ad 21 0), .int a1] (Ri ids ad w 21 (mdSh Λ ad) P) := by
  refine CT.of RX6 [(0, .ref (ad 21 0)), (1, .int a1)] (plainFor_of_name (by decide +kernel)) rfl (Nat.le_of_ble_eq_true rfl) rfl (fun Γ hO hF => ?_)
  have b18 : ∀ (s0 : Int32) (c : Reg), wX6_about_L18 a1 P s0 c → G Γ ids ad 0 0 (va_up w 21 (mdSh Λ ad c)) 18 [(0, .ref (ad 21 0)), (1, .int a1)] [.int s0, .ref (ad 21 0)] := by
    intro s0 c hs
    unfold wX6_about_L18 at hs
    refine KV_Ri hO (rest := []) [.int s0] (fun l => c_X6_refused hm hs) cv_X6_refused mw_888 ms_17 mw_886 (hm 0 (by decide)) cl6 (by rw [va_us]; exact (md_0 _ _ _)) rfl rfl (Nat.le_of_ble_eq_true rfl) (by decide) rfl rfl (Nat.zero_le _) (Nat.zero_le _) dX6_about_18 ?_
    intro r3 c4 hs
    refine G_if_eq hO 26 dX6_about_21 (by decide) (fun h11 => ?_) (fun h11 => ?_)
    · replace hs := hs.1 h11
      refine G_iload_n hO 1 dX6_about_26 rfl rfl ?_
      rcases sw_0_11 a1 with hq | hq
      · replace hs := hs.1 hq
        refine G_tableOut hO 185 dX6_about_27 hq (by decide) ?_
        refine G_aload_n hO 0 dX6_about_185 rfl rfl ?_
        refine C_getf hO (v := .ref (ad 21 3)) cl6 6 (hm 0 (by decide)) (md_0 _ _ _) (by decide) mw_843 rfl rfl dX6_about_186 ?_
        refine G_iconst hO 5 dX6_about_189 (by decide) ?_
        refine KS_Ri hO (rest := []) [.ref (ad 21 3), .int 5] (fun l => c_X6_allOf hm (by decide) hs) cv_X6_allOf mw_969 mw_968 rfl rfl (Nat.le_of_ble_eq_true rfl) (by decide) rfl rfl (Nat.zero_le _) (Nat.zero_le _) dX6_about_190 ?_
        intro r5 c6 hs
        exact G_iret hO hF rfl (Nat.zero_le _) (Nat.zero_le _) dX6_about_193 ⟨rfl, rfl, _, _, rfl, rfl, hs⟩
      · replace hs := hs.2
        rcases hq with hq | hq | hq | hq | hq | hq | hq | hq | hq | hq | hq | hq
        · replace hs := hs.1 hq
          refine G_tableIn hO 88 dX6_about_27 (by rw [hq]; decide) (by rw [hq]; decide) (by rw [hq]; rfl) (by decide) ?_
          refine G_aload_n hO 0 dX6_about_88 rfl rfl ?_
          refine C_getf hO (v := .ref (ad 21 3)) cl6 6 (hm 0 (by decide)) (md_0 _ _ _) (by decide) mw_843 rfl rfl dX6_about_89 ?_
          refine G_iconst hO 0 dX6_about_92 (by decide) ?_
          refine C_iald hO 0 (by decide) (hm 3 (by decide)) (md_3 _ _ _) (vp_lit (by decide)) dX6_about_93 ?_
          exact G_iret hO hF rfl (Nat.zero_le _) (Nat.zero_le _) dX6_about_94 ⟨rfl, rfl, _, _, rfl, rfl, hs⟩
        · replace hs := hs.2.1 hq
          refine G_tableIn hO 95 dX6_about_27 (by rw [hq]; decide) (by rw [hq]; decide) (by rw [hq]; rfl) (by decide) ?_
          refine G_aload_n hO 0 dX6_about_95 rfl rfl ?_
          refine C_getf hO (v := .ref (ad 21 3)) cl6 6 (hm 0 (by decide)) (md_0 _ _ _) (by decide) mw_843 rfl rfl dX6_about_96 ?_
          refine G_iconst hO 1 dX6_about_99 (by decide) ?_
          refine C_iald hO 1 (by decide) (hm 3 (by decide)) (md_3 _ _ _) (vp_lit (by decide)) dX6_about_100 ?_
          exact G_iret hO hF rfl (Nat.zero_le _) (Nat.zero_le _) dX6_about_101 ⟨rfl, rfl, _, _, rfl, rfl, hs⟩
        · replace hs := hs.2.2.1 hq
          refine G_tableIn hO 102 dX6_about_27 (by rw [hq]; decide) (by rw [hq]; decide) (by rw [hq]; rfl) (by decide) ?_
          refine G_aload_n hO 0 dX6_about_102 rfl rfl ?_
          refine C_getf hO (v := .ref (ad 21 3)) cl6 6 (hm 0 (by decide)) (md_0 _ _ _) (by decide) mw_843 rfl rfl dX6_about_103 ?_
          refine G_iconst hO 2 dX6_about_106 (by decide) ?_
          refine C_iald hO 2 (by decide) (hm 3 (by decide)) (md_3 _ _ _) (vp_lit (by decide)) dX6_about_107 ?_
          exact G_iret hO hF rfl (Nat.zero_le _) (Nat.zero_le _) dX6_about_108 ⟨rfl, rfl, _, _, rfl, rfl, hs⟩
        · replace hs := hs.2.2.2.1 hq
          refine G_tableIn hO 109 dX6_about_27 (by rw [hq]; decide) (by rw [hq]; decide) (by rw [hq]; rfl) (by decide) ?_
          refine G_aload_n hO 0 dX6_about_109 rfl rfl ?_
          refine C_getf hO (v := .ref (ad 21 3)) cl6 6 (hm 0 (by decide)) (md_0 _ _ _) (by decide) mw_843 rfl rfl dX6_about_110 ?_
          refine G_iconst hO 3 dX6_about_113 (by decide) ?_
          refine C_iald hO 3 (by decide) (hm 3 (by decide)) (md_3 _ _ _) (vp_lit (by decide)) dX6_about_114 ?_
          exact G_iret hO hF rfl (Nat.zero_le _) (Nat.zero_le _) dX6_about_115 ⟨rfl, rfl, _, _, rfl, rfl, hs⟩
        · replace hs := hs.2.2.2.2.1 hq
          refine G_tableIn hO 116 dX6_about_27 (by rw [hq]; decide) (by rw [hq]; decide) (by rw [hq]; rfl) (by decide) ?_
          refine G_aload_n hO 0 dX6_about_116 rfl rfl ?_
          refine C_getf hO (v := .ref (ad 21 3)) cl6 6 (hm 0 (by decide)) (md_0 _ _ _) (by decide) mw_843 rfl rfl dX6_about_117 ?_
          refine G_iconst hO 1 dX6_about_120 (by decide) ?_
          refine C_iald hO 1 (by decide) (hm 3 (by decide)) (md_3 _ _ _) (vp_lit (by decide)) dX6_about_121 ?_
          refine G_aload_n hO 0 dX6_about_122 rfl rfl ?_
          refine C_getf hO (v := .ref (ad 21 3)) cl6 6 (hm 0 (by decide)) (md_0 _ _ _) (by decide) mw_843 rfl rfl dX6_about_123 ?_
          refine G_iconst hO 4 dX6_about_126 (by decide) ?_
          refine C_iald hO 4 (by decide) (hm 3 (by decide)) (md_3 _ _ _) (vp_lit (by decide)) dX6_about_127 ?_
          refine G_isub hO dX6_about_128 ?_
          exact G_iret hO hF rfl (Nat.zero_le _) (Nat.zero_le _) dX6_about_129 ⟨rfl, rfl, _, _, rfl, rfl, hs⟩
        · replace hs := hs.2.2.2.2.2.1 hq
          refine G_tableIn hO 130 dX6_about_27 (by rw [hq]; decide) (by rw [hq]; decide) (by rw [hq]; rfl) (by decide) ?_
          refine G_aload_n hO 0 dX6_about_130 rfl rfl ?_
          refine C_getf hO (v := .ref (ad 21 3)) cl6 6 (hm 0 (by decide)) (md_0 _ _ _) (by decide) mw_843 rfl rfl dX6_about_131 ?_
          refine G_iconst hO 5 dX6_about_134 (by decide) ?_
          refine C_iald hO 5 (by decide) (hm 3 (by decide)) (md_3 _ _ _) (vp_lit (by decide)) dX6_about_135 ?_
          exact G_iret hO hF rfl (Nat.zero_le _) (Nat.zero_le _) dX6_about_136 ⟨rfl, rfl, _, _, rfl, rfl, hs⟩
        · replace hs := hs.2.2.2.2.2.2.1 hq
          refine G_tableIn hO 137 dX6_about_27 (by rw [hq]; decide) (by rw [hq]; decide) (by rw [hq]; rfl) (by decide) ?_
          refine G_aload_n hO 0 dX6_about_137 rfl rfl ?_
          refine C_getf hO (v := .ref (ad 21 3)) cl6 6 (hm 0 (by decide)) (md_0 _ _ _) (by decide) mw_843 rfl rfl dX6_about_138 ?_
          refine G_bipush hO 6 dX6_about_141 (by decide) ?_
          refine C_iald hO 6 (by decide) (hm 3 (by decide)) (md_3 _ _ _) (vp_lit (by decide)) dX6_about_143 ?_
          exact G_iret hO hF rfl (Nat.zero_le _) (Nat.zero_le _) dX6_about_144 ⟨rfl, rfl, _, _, rfl, rfl, hs⟩
        · replace hs := hs.2.2.2.2.2.2.2.1 hq
          refine G_tableIn hO 145 dX6_about_27 (by rw [hq]; decide) (by rw [hq]; decide) (by rw [hq]; rfl) (by decide) ?_
          refine G_aload_n hO 0 dX6_about_145 rfl rfl ?_
          refine C_getf hO (v := .ref (ad 21 3)) cl6 6 (hm 0 (by decide)) (md_0 _ _ _) (by decide) mw_843 rfl rfl dX6_about_146 ?_
          refine G_bipush hO 7 dX6_about_149 (by decide) ?_
          refine C_iald hO 7 (by decide) (hm 3 (by decide)) (md_3 _ _ _) (vp_lit (by decide)) dX6_about_151 ?_
          exact G_iret hO hF rfl (Nat.zero_le _) (Nat.zero_le _) dX6_about_152 ⟨rfl, rfl, _, _, rfl, rfl, hs⟩
        · replace hs := hs.2.2.2.2.2.2.2.2.1 hq
          refine G_tableIn hO 153 dX6_about_27 (by rw [hq]; decide) (by rw [hq]; decide) (by rw [hq]; rfl) (by decide) ?_
          refine G_aload_n hO 0 dX6_about_153 rfl rfl ?_
          refine C_getf hO (v := .ref (ad 21 3)) cl6 6 (hm 0 (by decide)) (md_0 _ _ _) (by decide) mw_843 rfl rfl dX6_about_154 ?_
          refine KS_Ri hO (rest := []) [.ref (ad 21 3)] (fun l => c_X6_wish hm (by decide) hs) cv_X6_wish mw_963 mw_962 rfl rfl (Nat.le_of_ble_eq_true rfl) (by decide) rfl rfl (Nat.zero_le _) (Nat.zero_le _) dX6_about_157 ?_
          intro r7 c8 hs
          exact G_iret hO hF rfl (Nat.zero_le _) (Nat.zero_le _) dX6_about_160 ⟨rfl, rfl, _, _, rfl, rfl, hs⟩
        · replace hs := hs.2.2.2.2.2.2.2.2.2.1 hq
          refine G_tableIn hO 161 dX6_about_27 (by rw [hq]; decide) (by rw [hq]; decide) (by rw [hq]; rfl) (by decide) ?_
          refine G_aload_n hO 0 dX6_about_161 rfl rfl ?_
          refine C_getf hO (v := .ref (ad 21 3)) cl6 6 (hm 0 (by decide)) (md_0 _ _ _) (by decide) mw_843 rfl rfl dX6_about_162 ?_
          refine G_bipush hO 8 dX6_about_165 (by decide) ?_
          refine C_iald hO 8 (by decide) (hm 3 (by decide)) (md_3 _ _ _) (vp_lit (by decide)) dX6_about_167 ?_
          exact G_iret hO hF rfl (Nat.zero_le _) (Nat.zero_le _) dX6_about_168 ⟨rfl, rfl, _, _, rfl, rfl, hs⟩
        · replace hs := hs.2.2.2.2.2.2.2.2.2.2.1 hq
          refine G_tableIn hO 169 dX6_about_27 (by rw [hq]; decide) (by rw [hq]; decide) (by rw [hq]; rfl) (by decide) ?_
          refine G_aload_n hO 0 dX6_about_169 rfl rfl ?_
          refine C_getf hO (v := .ref (ad 21 3)) cl6 6 (hm 0 (by decide)) (md_0 _ _ _) (by decide) mw_843 rfl rfl dX6_about_170 ?_
          refine KS_Ri hO (rest := []) [.ref (ad 21 3)] (fun l => c_X6_allHeat hm (by decide) hs) cv_X6_allHeat mw_966 mw_965 rfl rfl (Nat.le_of_ble_eq_true rfl) (by decide) rfl rfl (Nat.zero_le _) (Nat.zero_le _) dX6_about_173 ?_
          intro r9 c10 hs
          exact G_iret hO hF rfl (Nat.zero_le _) (Nat.zero_le _) dX6_about_176 ⟨rfl, rfl, _, _, rfl, rfl, hs⟩
        · replace hs := hs.2.2.2.2.2.2.2.2.2.2.2 hq
          refine G_tableIn hO 177 dX6_about_27 (by rw [hq]; decide) (by rw [hq]; decide) (by rw [hq]; rfl) (by decide) ?_
          refine G_aload_n hO 0 dX6_about_177 rfl rfl ?_
          refine C_getf hO (v := .ref (ad 21 3)) cl6 6 (hm 0 (by decide)) (md_0 _ _ _) (by decide) mw_843 rfl rfl dX6_about_178 ?_
          refine G_bipush hO 74 dX6_about_181 (by decide) ?_
          refine C_iald hO 74 (by decide) (hm 3 (by decide)) (md_3 _ _ _) (vp_lit (by decide)) dX6_about_183 ?_
          exact G_iret hO hF rfl (Nat.zero_le _) (Nat.zero_le _) dX6_about_184 ⟨rfl, rfl, _, _, rfl, rfl, hs⟩
    · replace hs := hs.2 h11
      refine G_iconst hO 0 dX6_about_24 (by decide) ?_
      exact G_iret hO hF rfl (Nat.zero_le _) (Nat.zero_le _) dX6_about_25 ⟨rfl, rfl, _, _, rfl, rfl, hs⟩
  unfold wX6_about at hs
  refine G_aload_n hO 0 dX6_about_0 rfl rfl ?_
  refine G_iload_n hO 1 dX6_about_1 rfl rfl ?_
  refine G_i2l hO dX6_about_2 ?_
  refine G_lconst hO 0 dX6_about_3 (by decide) ?_
  refine G_ldc2 hO mw_961 dX6_about_4 ?_
  refine KS_Ni hO (rest := [.ref (ad 21 0)]) [.long (Int32.toInt64 a1), .long 0, .long 12] (fun l => c_X6_in hs) cv_X6_in mw_884 mw_883 rfl rfl (Nat.le_of_ble_eq_true rfl) (by decide) rfl rfl (Nat.zero_le _) (Nat.zero_le _) dX6_about_7 ?_
  intro r1 hs
  refine G_if_eq hO 17 dX6_about_10 (by decide) (fun h2 => ?_) (fun h2 => ?_)
  · replace hs := hs.1 h2
    refine G_iconst hO 1 dX6_about_17 (by decide) ?_
    exact b18 _ _ hs
  · replace hs := hs.2 h2
    refine G_iconst hO 0 dX6_about_13 (by decide) ?_
    refine G_goto hO 18 dX6_about_14 (by decide) ?_
    exact b18 _ _ hs
set_option maxHeartbeats 4000000 in
set_option maxRecDepth 20000 in
theorem c_X6_setting {l : Launch} {Λ : Lay} {B : Nat} {ids : List (Nat × Nat)} {ad : Nat → Nat → Nat} {w : Nat → Nat → va_E} (hm : ∀ j, j < 8 → (21, j) ∈ ids) {a1 : Int32} {c : Reg} {P : Int32 → Reg → Prop} (hs : wX6_setting a1 c P) : CT l yX6_setting cX6_setting 2 (some .int) { frames := 1, cells := 0, slots := 0, locals := 25 } Λ B ids ad (va_up w 21 (mdSh Λ ad c)) [.ref (ad 21 0), .int a1] (Ri ids ad w 21 (mdSh Λ ad) P) := by
  refine CT.of RX6 [(0, .ref (ad 21 0)), (1, .int a1)] (plainFor_of_name (by decide +kernel)) rfl (Nat.le_of_ble_eq_true rfl) rfl (fun Γ hO hF => ?_)
  have b18 : ∀ (s0 : Int32) (c : Reg), wX6_setting_L18 a1 P s0 c → G Γ ids ad 0 0 (va_up w 21 (mdSh Λ ad c)) 18 [(0, .ref (ad 21 0)), (1, .int a1)] [.int s0, .ref (ad 21 0)] := by
    intro s0 c hs
    unfold wX6_setting_L18 at hs
    refine KV_Ri hO (rest := []) [.int s0] (fun l => c_X6_refused hm hs) cv_X6_refused mw_888 ms_17 mw_886 (hm 0 (by decide)) cl6 (by rw [va_us]; exact (md_0 _ _ _)) rfl rfl (Nat.le_of_ble_eq_true rfl) (by decide) rfl rfl (Nat.zero_le _) (Nat.zero_le _) dX6_setting_18 ?_
    intro r3 c4 hs
    refine G_if_eq hO 28 dX6_setting_21 (by decide) (fun h5 => ?_) (fun h5 => ?_)
    · replace hs := hs.1 h5
      refine G_aload_n hO 0 dX6_setting_28 rfl rfl ?_
      refine C_getf hO (v := .ref (ad 21 3)) cl6 6 (hm 0 (by decide)) (md_0 _ _ _) (by decide) mw_843 rfl rfl dX6_setting_29 ?_
      refine G_bipush hO 9 dX6_setting_32 (by decide) ?_
      refine G_iload_n hO 1 dX6_setting_34 rfl rfl ?_
      refine G_iadd hO dX6_setting_35 ?_
      refine C_iald hO _ rfl (hm 3 (by decide)) (md_3 _ _ _) hs.1 dX6_setting_36 ?_
      replace hs := hs.2
      exact G_iret hO hF rfl (Nat.zero_le _) (Nat.zero_le _) dX6_setting_37 ⟨rfl, rfl, _, _, rfl, rfl, hs⟩
    · replace hs := hs.2 h5
      refine G_iconst hO 0 dX6_setting_24 (by decide) ?_
      refine G_goto hO 37 dX6_setting_25 (by decide) ?_
      exact G_iret hO hF rfl (Nat.zero_le _) (Nat.zero_le _) dX6_setting_37 ⟨rfl, rfl, _, _, rfl, rfl, hs⟩
  unfold wX6_setting at hs
  refine G_aload_n hO 0 dX6_setting_0 rfl rfl ?_
  refine G_iload_n hO 1 dX6_setting_1 rfl rfl ?_
  refine G_i2l hO dX6_setting_2 ?_
  refine G_lconst hO 0 dX6_setting_3 (by decide) ?_
  refine G_ldc2 hO mw_975 dX6_setting_4 ?_
  refine KS_Ni hO (rest := [.ref (ad 21 0)]) [.long (Int32.toInt64 a1), .long 0, .long 8] (fun l => c_X6_in hs) cv_X6_in mw_884 mw_883 rfl rfl (Nat.le_of_ble_eq_true rfl) (by decide) rfl rfl (Nat.zero_le _) (Nat.zero_le _) dX6_setting_7 ?_
  intro r1 hs
  refine G_if_eq hO 17 dX6_setting_10 (by decide) (fun h2 => ?_) (fun h2 => ?_)
  · replace hs := hs.1 h2
    refine G_iconst hO 1 dX6_setting_17 (by decide) ?_
    exact b18 _ _ hs
  · replace hs := hs.2 h2
    refine G_iconst hO 0 dX6_setting_13 (by decide) ?_
    refine G_goto hO 18 dX6_setting_14 (by decide) ?_
    exact b18 _ _ hs
set_option maxHeartbeats 4000000 in
set_option maxRecDepth 20000 in
theorem c_X6_place {l : Launch} {Λ : Lay} {B : Nat} {ids : List (Nat × Nat)} {ad : Nat → Nat → Nat} {w : Nat → Nat → va_E} (hm : ∀ j, j < 8 → (21, j) ∈ ids) {a1 : Int32} {a2 : Int32} {c : Reg} {P : Int32 → Reg → Prop} (hs : wX6_place a1 a2 c P) : CT l yX6_place cX6_place 3 (some .int) { frames := 3, cells := 0, slots := 0, locals := 63 } Λ B ids ad (va_up w 21 (mdSh Λ ad c)) [.ref (ad 21 0), .int a1, .int a2] (Ri ids ad w 21 (mdSh Λ ad) P) := by
  refine CT.of RX6 [(0, .ref (ad 21 0)), (1, .int a1), (2, .int a2)] (plainFor_of_name (by decide +kernel)) rfl (Nat.le_of_ble_eq_true rfl) rfl (fun Γ hO hF => ?_)
  have b30 : ∀ (s0 : Int32) (c : Reg), wX6_place_L30 a1 a2 P s0 c → G Γ ids ad 0 0 (va_up w 21 (mdSh Λ ad c)) 30 [(0, .ref (ad 21 0)), (1, .int a1), (2, .int a2)] [.int s0, .ref (ad 21 0)] := by
    intro s0 c hs
    unfold wX6_place_L30 at hs
    refine KV_Ri hO (rest := []) [.int s0] (fun l => c_X6_refused hm hs) cv_X6_refused mw_888 ms_17 mw_886 (hm 0 (by decide)) cl6 (by rw [va_us]; exact (md_0 _ _ _)) rfl rfl (Nat.le_of_ble_eq_true rfl) (by decide) rfl rfl (Nat.zero_le _) (Nat.zero_le _) dX6_place_30 ?_
    intro r6 c7 hs
    refine G_if_eq hO 38 dX6_place_33 (by decide) (fun h14 => ?_) (fun h14 => ?_)
    · replace hs := hs.1 h14
      refine G_iload_n hO 2 dX6_place_38 rfl rfl ?_
      refine G_if_ne hO 54 dX6_place_39 (by decide) (fun h13 => ?_) (fun h13 => ?_)
      · replace hs := hs.1 h13
        refine G_iload_n hO 2 dX6_place_54 rfl rfl ?_
        refine G_iconst hO 1 dX6_place_55 (by decide) ?_
        refine G_icmp_ne hO 70 dX6_place_56 (by decide) (fun h12 => ?_) (fun h12 => ?_)
        · replace hs := hs.1 h12
          refine G_aload_n hO 0 dX6_place_70 rfl rfl ?_
          refine C_getf hO (v := .ref (ad 21 3)) cl6 6 (hm 0 (by decide)) (md_0 _ _ _) (by decide) mw_843 rfl rfl dX6_place_71 ?_
          refine G_iload_n hO 1 dX6_place_74 rfl rfl ?_
          refine KS_Ri hO (rest := []) [.ref (ad 21 3), .int a1] (fun l => c_X6_capacity hm (by decide) hs) cv_X6_capacity mw_989 mw_988 rfl rfl (Nat.le_of_ble_eq_true rfl) (by decide) rfl rfl (Nat.zero_le _) (Nat.zero_le _) dX6_place_75 ?_
          intro r8 c9 hs
          exact G_iret hO hF rfl (Nat.zero_le _) (Nat.zero_le _) dX6_place_78 ⟨rfl, rfl, _, _, rfl, rfl, hs⟩
        · replace hs := hs.2 h12
          refine G_aload_n hO 0 dX6_place_59 rfl rfl ?_
          refine C_getf hO (v := .ref (ad 21 3)) cl6 6 (hm 0 (by decide)) (md_0 _ _ _) (by decide) mw_843 rfl rfl dX6_place_60 ?_
          refine G_iload_n hO 1 dX6_place_63 rfl rfl ?_
          refine KS_Ri hO (rest := []) [.ref (ad 21 3), .int a1] (fun l => c_X6_degrees hm (by decide) hs) cv_X6_degrees mw_986 mw_985 rfl rfl (Nat.le_of_ble_eq_true rfl) (by decide) rfl rfl (Nat.zero_le _) (Nat.zero_le _) dX6_place_64 ?_
          intro r10 c11 hs
          refine G_goto hO 78 dX6_place_67 (by decide) ?_
          exact G_iret hO hF rfl (Nat.zero_le _) (Nat.zero_le _) dX6_place_78 ⟨rfl, rfl, _, _, rfl, rfl, hs⟩
      · replace hs := hs.2 h13
        refine G_aload_n hO 0 dX6_place_42 rfl rfl ?_
        refine C_getf hO (v := .ref (ad 21 3)) cl6 6 (hm 0 (by decide)) (md_0 _ _ _) (by decide) mw_843 rfl rfl dX6_place_43 ?_
        refine G_bipush hO 18 dX6_place_46 (by decide) ?_
        refine G_iload_n hO 1 dX6_place_48 rfl rfl ?_
        refine G_iadd hO dX6_place_49 ?_
        refine C_iald hO _ rfl (hm 3 (by decide)) (md_3 _ _ _) hs.1 dX6_place_50 ?_
        replace hs := hs.2
        refine G_goto hO 78 dX6_place_51 (by decide) ?_
        exact G_iret hO hF rfl (Nat.zero_le _) (Nat.zero_le _) dX6_place_78 ⟨rfl, rfl, _, _, rfl, rfl, hs⟩
    · replace hs := hs.2 h14
      refine G_iconst hO 0 dX6_place_36 (by decide) ?_
      exact G_iret hO hF rfl (Nat.zero_le _) (Nat.zero_le _) dX6_place_37 ⟨rfl, rfl, _, _, rfl, rfl, hs⟩
  unfold wX6_place at hs
  refine G_aload_n hO 0 dX6_place_0 rfl rfl ?_
  refine G_aload_n hO 0 dX6_place_1 rfl rfl ?_
  refine G_iload_n hO 1 dX6_place_2 rfl rfl ?_
  refine KV_Ri hO (rest := [.ref (ad 21 0)]) [.int a1] (fun l => c_X6_isWarmPlace hm hs) cv_X6_isWarmPlace mw_982 ms_26 mw_980 (hm 0 (by decide)) cl6 (by rw [va_us]; exact (md_0 _ _ _)) rfl rfl (Nat.le_of_ble_eq_true rfl) (by decide) rfl rfl (Nat.zero_le _) (Nat.zero_le _) dX6_place_3 ?_
  intro r1 c2 hs
  refine G_if_ne hO 13 dX6_place_6 (by decide) (fun h5 => ?_) (fun h5 => ?_)
  · replace hs := hs.1 h5
    refine G_iload_n hO 2 dX6_place_13 rfl rfl ?_
    refine G_i2l hO dX6_place_14 ?_
    refine G_lconst hO 0 dX6_place_15 (by decide) ?_
    refine G_ldc2 hO mw_984 dX6_place_16 ?_
    refine KS_Ni hO (rest := [.ref (ad 21 0)]) [.long (Int32.toInt64 a2), .long 0, .long 2] (fun l => c_X6_in hs) cv_X6_in mw_884 mw_883 rfl rfl (Nat.le_of_ble_eq_true rfl) (by decide) rfl rfl (Nat.zero_le _) (Nat.zero_le _) dX6_place_19 ?_
    intro r3 hs
    refine G_if_eq hO 29 dX6_place_22 (by decide) (fun h4 => ?_) (fun h4 => ?_)
    · replace hs := hs.1 h4
      refine G_iconst hO 2 dX6_place_29 (by decide) ?_
      exact b30 _ _ hs
    · replace hs := hs.2 h4
      refine G_iconst hO 0 dX6_place_25 (by decide) ?_
      refine G_goto hO 30 dX6_place_26 (by decide) ?_
      exact b30 _ _ hs
  · replace hs := hs.2 h5
    refine G_iconst hO 1 dX6_place_9 (by decide) ?_
    refine G_goto hO 30 dX6_place_10 (by decide) ?_
    exact b30 _ _ hs
set_option maxHeartbeats 4000000 in
set_option maxRecDepth 20000 in
theorem c_X6_room {l : Launch} {Λ : Lay} {B : Nat} {ids : List (Nat × Nat)} {ad : Nat → Nat → Nat} {w : Nat → Nat → va_E} (hm : ∀ j, j < 8 → (21, j) ∈ ids) {a1 : Int32} {a2 : Int32} {c : Reg} {P : Int32 → Reg → Prop} (hs : wX6_room a1 a2 c P) : CT l yX6_room cX6_room 3 (some .int) { frames := 2, cells := 0, slots := 0, locals := 46 } Λ B ids ad (va_up w 21 (mdSh Λ ad c)) [.ref (ad 21 0), .int a1, .int a2] (Ri ids ad w 21 (mdSh Λ ad) P) := by
  refine CT.of RX6 [(0, .ref (ad 21 0)), (1, .int a1), (2, .int a2)] (plainFor_of_name (by decide +kernel)) rfl (Nat.le_of_ble_eq_true rfl) rfl (fun Γ hO hF => ?_)
  have b30 : ∀ (s0 : Int32) (c : Reg), wX6_room_L30 a1 a2 P s0 c → G Γ ids ad 0 0 (va_up w 21 (mdSh Λ ad c)) 30 [(0, .ref (ad 21 0)), (1, .int a1), (2, .int a2)] [.int s0, .ref (ad 21 0)] := by
    intro s0 c hs
    unfold wX6_room_L30 at hs
    refine KV_Ri hO (rest := []) [.int s0] (fun l => c_X6_refused hm hs) cv_X6_refused mw_888 ms_17 mw_886 (hm 0 (by decide)) cl6 (by rw [va_us]; exact (md_0 _ _ _)) rfl rfl (Nat.le_of_ble_eq_true rfl) (by decide) rfl rfl (Nat.zero_le _) (Nat.zero_le _) dX6_room_30 ?_
    intro r6 c7 hs
    refine G_if_eq hO 38 dX6_room_33 (by decide) (fun h9 => ?_) (fun h9 => ?_)
    · replace hs := hs.1 h9
      refine G_aload_n hO 0 dX6_room_38 rfl rfl ?_
      refine C_getf hO (v := .ref (ad 21 3)) cl6 6 (hm 0 (by decide)) (md_0 _ _ _) (by decide) mw_843 rfl rfl dX6_room_39 ?_
      refine G_iload_n hO 1 dX6_room_42 rfl rfl ?_
      refine G_iload_n hO 2 dX6_room_43 rfl rfl ?_
      refine G_iconst hO 1 dX6_room_44 (by decide) ?_
      refine G_iadd hO dX6_room_45 ?_
      refine KS_Ni hO (rest := [.ref (ad 21 3)]) [.int a1, .int (a2 + 1)] (fun l => c_X6_cell hs) cv_X6_cell mw_928 mw_927 rfl rfl (Nat.le_of_ble_eq_true rfl) (by decide) rfl rfl (Nat.zero_le _) (Nat.zero_le _) dX6_room_46 ?_
      intro r8 hs
      refine C_iald hO _ rfl (hm 3 (by decide)) (md_3 _ _ _) hs.1 dX6_room_49 ?_
      replace hs := hs.2
      exact G_iret hO hF rfl (Nat.zero_le _) (Nat.zero_le _) dX6_room_50 ⟨rfl, rfl, _, _, rfl, rfl, hs⟩
    · replace hs := hs.2 h9
      refine G_iconst hO 0 dX6_room_36 (by decide) ?_
      exact G_iret hO hF rfl (Nat.zero_le _) (Nat.zero_le _) dX6_room_37 ⟨rfl, rfl, _, _, rfl, rfl, hs⟩
  unfold wX6_room at hs
  refine G_aload_n hO 0 dX6_room_0 rfl rfl ?_
  refine G_aload_n hO 0 dX6_room_1 rfl rfl ?_
  refine G_iload_n hO 1 dX6_room_2 rfl rfl ?_
  refine KV_Ri hO (rest := [.ref (ad 21 0)]) [.int a1] (fun l => c_X6_isRoom hm hs) cv_X6_isRoom mw_1000 ms_27 mw_998 (hm 0 (by decide)) cl6 (by rw [va_us]; exact (md_0 _ _ _)) rfl rfl (Nat.le_of_ble_eq_true rfl) (by decide) rfl rfl (Nat.zero_le _) (Nat.zero_le _) dX6_room_3 ?_
  intro r1 c2 hs
  refine G_if_ne hO 13 dX6_room_6 (by decide) (fun h5 => ?_) (fun h5 => ?_)
  · replace hs := hs.1 h5
    refine G_iload_n hO 2 dX6_room_13 rfl rfl ?_
    refine G_i2l hO dX6_room_14 ?_
    refine G_lconst hO 0 dX6_room_15 (by decide) ?_
    refine G_ldc2 hO mw_1002 dX6_room_16 ?_
    refine KS_Ni hO (rest := [.ref (ad 21 0)]) [.long (Int32.toInt64 a2), .long 0, .long 6] (fun l => c_X6_in hs) cv_X6_in mw_884 mw_883 rfl rfl (Nat.le_of_ble_eq_true rfl) (by decide) rfl rfl (Nat.zero_le _) (Nat.zero_le _) dX6_room_19 ?_
    intro r3 hs
    refine G_if_eq hO 29 dX6_room_22 (by decide) (fun h4 => ?_) (fun h4 => ?_)
    · replace hs := hs.1 h4
      refine G_iconst hO 2 dX6_room_29 (by decide) ?_
      exact b30 _ _ hs
    · replace hs := hs.2 h4
      refine G_iconst hO 0 dX6_room_25 (by decide) ?_
      refine G_goto hO 30 dX6_room_26 (by decide) ?_
      exact b30 _ _ hs
  · replace hs := hs.2 h5
    refine G_iconst hO 1 dX6_room_9 (by decide) ?_
    refine G_goto hO 30 dX6_room_10 (by decide) ?_
    exact b30 _ _ hs
set_option maxHeartbeats 4000000 in
set_option maxRecDepth 20000 in
theorem c_X6_moved {l : Launch} {Λ : Lay} {B : Nat} {ids : List (Nat × Nat)} {ad : Nat → Nat → Nat} {w : Nat → Nat → va_E} (hm : ∀ j, j < 8 → (21, j) ∈ ids) {a1 : Int32} {a2 : Int32} {c : Reg} {P : Int32 → Reg → Prop} (hs : wX6_moved a1 a2 c P) : CT l yX6_moved cX6_moved 3 (some .int) { frames := 2, cells := 0, slots := 0, locals := 47 } Λ B ids ad (va_up w 21 (mdSh Λ ad c)) [.ref (ad 21 0), .int a1, .int a2] (Ri ids ad w 21 (mdSh Λ ad) P) := by
  refine CT.of RX6 [(0, .ref (ad 21 0)), (1, .int a1), (2, .int a2)] (plainFor_of_name (by decide +kernel)) rfl (Nat.le_of_ble_eq_true rfl) rfl (fun Γ hO hF => ?_)
  have b30 : ∀ (s0 : Int32) (c : Reg), wX6_moved_L30 a1 a2 P s0 c → G Γ ids ad 0 0 (va_up w 21 (mdSh Λ ad c)) 30 [(0, .ref (ad 21 0)), (1, .int a1), (2, .int a2)] [.int s0, .ref (ad 21 0)] := by
    intro s0 c hs
    unfold wX6_moved_L30 at hs
    refine KV_Ri hO (rest := []) [.int s0] (fun l => c_X6_refused hm hs) cv_X6_refused mw_888 ms_17 mw_886 (hm 0 (by decide)) cl6 (by rw [va_us]; exact (md_0 _ _ _)) rfl rfl (Nat.le_of_ble_eq_true rfl) (by decide) rfl rfl (Nat.zero_le _) (Nat.zero_le _) dX6_moved_30 ?_
    intro r5 c6 hs
    refine G_if_eq hO 40 dX6_moved_33 (by decide) (fun h9 => ?_) (fun h9 => ?_)
    · replace hs := hs.1 h9
      refine G_aload_n hO 0 dX6_moved_40 rfl rfl ?_
      refine C_getf hO (v := .ref (ad 21 3)) cl6 6 (hm 0 (by decide)) (md_0 _ _ _) (by decide) mw_843 rfl rfl dX6_moved_41 ?_
      refine G_iload_n hO 1 dX6_moved_44 rfl rfl ?_
      refine G_iload_n hO 2 dX6_moved_45 rfl rfl ?_
      refine KS_Ri hO (rest := []) [.ref (ad 21 3), .int a1, .int a2] (fun l => c_X6_movedOf hm (by decide) hs) cv_X6_movedOf mw_1008 mw_1007 rfl rfl (Nat.le_of_ble_eq_true rfl) (by decide) rfl rfl (Nat.zero_le _) (Nat.zero_le _) dX6_moved_46 ?_
      intro r7 c8 hs
      exact G_iret hO hF rfl (Nat.zero_le _) (Nat.zero_le _) dX6_moved_49 ⟨rfl, rfl, _, _, rfl, rfl, hs⟩
    · replace hs := hs.2 h9
      refine G_iconst hO 0 dX6_moved_36 (by decide) ?_
      refine G_goto hO 49 dX6_moved_37 (by decide) ?_
      exact G_iret hO hF rfl (Nat.zero_le _) (Nat.zero_le _) dX6_moved_49 ⟨rfl, rfl, _, _, rfl, rfl, hs⟩
  have b29 : ∀ (c : Reg), wX6_moved_L29 a1 a2 P c → G Γ ids ad 0 0 (va_up w 21 (mdSh Λ ad c)) 29 [(0, .ref (ad 21 0)), (1, .int a1), (2, .int a2)] [.ref (ad 21 0)] := by
    intro c hs
    unfold wX6_moved_L29 at hs
    refine G_iconst hO 1 dX6_moved_29 (by decide) ?_
    exact b30 _ _ hs
  unfold wX6_moved at hs
  refine G_aload_n hO 0 dX6_moved_0 rfl rfl ?_
  refine G_iload_n hO 1 dX6_moved_1 rfl rfl ?_
  refine G_i2l hO dX6_moved_2 ?_
  refine G_lconst hO 0 dX6_moved_3 (by decide) ?_
  refine G_ldc2 hO mw_915 dX6_moved_4 ?_
  refine KS_Ni hO (rest := [.ref (ad 21 0)]) [.long (Int32.toInt64 a1), .long 0, .long 9] (fun l => c_X6_in hs) cv_X6_in mw_884 mw_883 rfl rfl (Nat.le_of_ble_eq_true rfl) (by decide) rfl rfl (Nat.zero_le _) (Nat.zero_le _) dX6_moved_7 ?_
  intro r1 hs
  refine G_if_eq hO 29 dX6_moved_10 (by decide) (fun h4 => ?_) (fun h4 => ?_)
  · replace hs := hs.1 h4
    exact b29 _ hs
  · replace hs := hs.2 h4
    refine G_iload_n hO 2 dX6_moved_13 rfl rfl ?_
    refine G_i2l hO dX6_moved_14 ?_
    refine G_lconst hO 0 dX6_moved_15 (by decide) ?_
    refine G_ldc2 hO mw_915 dX6_moved_16 ?_
    refine KS_Ni hO (rest := [.ref (ad 21 0)]) [.long (Int32.toInt64 a2), .long 0, .long 9] (fun l => c_X6_in hs) cv_X6_in mw_884 mw_883 rfl rfl (Nat.le_of_ble_eq_true rfl) (by decide) rfl rfl (Nat.zero_le _) (Nat.zero_le _) dX6_moved_19 ?_
    intro r2 hs
    refine G_if_eq hO 29 dX6_moved_22 (by decide) (fun h3 => ?_) (fun h3 => ?_)
    · replace hs := hs.1 h3
      exact b29 _ hs
    · replace hs := hs.2 h3
      refine G_iconst hO 0 dX6_moved_25 (by decide) ?_
      refine G_goto hO 30 dX6_moved_26 (by decide) ?_
      exact b30 _ _ hs
set_option maxHeartbeats 4000000 in
set_option maxRecDepth 20000 in
theorem c_X6_way {l : Launch} {Λ : Lay} {B : Nat} {ids : List (Nat × Nat)} {ad : Nat → Nat → Nat} {w : Nat → Nat → va_E} (hm : ∀ j, j < 8 → (21, j) ∈ ids) {a1 : Int32} {a2 : Int32} {c : Reg} {P : Int32 → Reg → Prop} (hs : wX6_way a1 a2 c P) : CT l yX6_way cX6_way 4 (some .int) { frames := 1, cells := 0, slots := 0, locals := 25 } Λ B ids ad (va_up w 21 (mdSh Λ ad c)) [.ref (ad 21 0), .int a1, .int a2] (Ri ids ad w 21 (mdSh Λ ad) P) := by
  refine CT.of RX6 [(0, .ref (ad 21 0)), (1, .int a1), (2, .int a2)] (plainFor_of_name (by decide +kernel)) rfl (Nat.le_of_ble_eq_true rfl) rfl (fun Γ hO hF => ?_)
  have b41 : ∀ (s0 : Int32) (c : Reg), wX6_way_L41 a1 a2 P s0 c → G Γ ids ad 0 0 (va_up w 21 (mdSh Λ ad c)) 41 [(0, .ref (ad 21 0)), (1, .int a1), (2, .int a2)] [.int s0, .ref (ad 21 0)] := by
    intro s0 c hs
    unfold wX6_way_L41 at hs
    refine KV_Ri hO (rest := []) [.int s0] (fun l => c_X6_refused hm hs) cv_X6_refused mw_888 ms_17 mw_886 (hm 0 (by decide)) cl6 (by rw [va_us]; exact (md_0 _ _ _)) rfl rfl (Nat.le_of_ble_eq_true rfl) (by decide) rfl rfl (Nat.zero_le _) (Nat.zero_le _) dX6_way_41 ?_
    intro r5 c6 hs
    refine G_if_eq hO 49 dX6_way_44 (by decide) (fun h9 => ?_) (fun h9 => ?_)
    · replace hs := hs.1 h9
      refine G_aload_n hO 0 dX6_way_49 rfl rfl ?_
      refine C_getf hO (v := .ref (ad 21 3)) cl6 6 (hm 0 (by decide)) (md_0 _ _ _) (by decide) mw_843 rfl rfl dX6_way_50 ?_
      refine G_bipush hO 75 dX6_way_53 (by decide) ?_
      refine G_iconst hO 2 dX6_way_55 (by decide) ?_
      refine G_iload_n hO 1 dX6_way_56 rfl rfl ?_
      refine G_imul hO dX6_way_57 ?_
      refine G_iadd hO dX6_way_58 ?_
      refine C_iald hO _ rfl (hm 3 (by decide)) (md_3 _ _ _) hs.1 dX6_way_59 ?_
      replace hs := hs.2
      refine G_istore_n hO [(3, .int (c6 3 (Int32.toNatClampNeg (75 + (2 * a1))))), (0, .ref (ad 21 0)), (1, .int a1), (2, .int a2)] dX6_way_60 rfl (by decide) rfl ?_
      refine G_iload_n hO 3 dX6_way_61 rfl rfl ?_
      refine G_if_ne hO 72 dX6_way_62 (by decide) (fun h8 => ?_) (fun h8 => ?_)
      · replace hs := hs.1 h8
        refine G_iload_n hO 3 dX6_way_72 rfl rfl ?_
        refine G_iconst hO 1 dX6_way_73 (by decide) ?_
        refine G_icmp_ne hO 84 dX6_way_74 (by decide) (fun h7 => ?_) (fun h7 => ?_)
        · replace hs := hs.1 h7
          refine G_aload_n hO 1 dX6_way_84 rfl rfl ?_
          refine C_getf hO (v := .ref (ad 21 3)) cl6 6 (hm 0 (by decide)) (md_0 _ _ _) (by decide) mw_843 rfl rfl dX6_way_85 ?_
          refine G_bipush hO 76 dX6_way_88 (by decide) ?_
          refine G_iconst hO 2 dX6_way_90 (by decide) ?_
          refine G_iload_n hO 2 dX6_way_91 rfl rfl ?_
          refine G_imul hO dX6_way_92 ?_
          refine G_iadd hO dX6_way_93 ?_
          refine C_iald hO _ rfl (hm 3 (by decide)) (md_3 _ _ _) hs.1 dX6_way_94 ?_
          replace hs := hs.2
          exact G_iret hO hF rfl (Nat.zero_le _) (Nat.zero_le _) dX6_way_95 ⟨rfl, rfl, _, _, rfl, rfl, hs⟩
        · replace hs := hs.2 h7
          refine G_iload_n hO 0 dX6_way_77 rfl rfl ?_
          refine G_bipush hO 10 dX6_way_78 (by decide) ?_
          refine G_irem hO dX6_way_80 (by decide) ?_
          refine G_goto hO 95 dX6_way_81 (by decide) ?_
          exact G_iret hO hF rfl (Nat.zero_le _) (Nat.zero_le _) dX6_way_95 ⟨rfl, rfl, _, _, rfl, rfl, hs⟩
      · replace hs := hs.2 h8
        refine G_iload_n hO 0 dX6_way_65 rfl rfl ?_
        refine G_bipush hO 10 dX6_way_66 (by decide) ?_
        refine G_idiv hO dX6_way_68 (by decide) ?_
        refine G_goto hO 95 dX6_way_69 (by decide) ?_
        exact G_iret hO hF rfl (Nat.zero_le _) (Nat.zero_le _) dX6_way_95 ⟨rfl, rfl, _, _, rfl, rfl, hs⟩
    · replace hs := hs.2 h9
      refine G_iconst hO 0 dX6_way_47 (by decide) ?_
      exact G_iret hO hF rfl (Nat.zero_le _) (Nat.zero_le _) dX6_way_48 ⟨rfl, rfl, _, _, rfl, rfl, hs⟩
  unfold wX6_way at hs
  refine G_aload_n hO 0 dX6_way_0 rfl rfl ?_
  refine G_iload_n hO 1 dX6_way_1 rfl rfl ?_
  refine G_i2l hO dX6_way_2 ?_
  refine G_lconst hO 0 dX6_way_3 (by decide) ?_
  refine G_aload_n hO 0 dX6_way_4 rfl rfl ?_
  refine C_getf hO (v := .ref (ad 21 3)) cl6 6 (hm 0 (by decide)) (md_0 _ _ _) (by decide) mw_843 rfl rfl dX6_way_5 ?_
  refine G_bipush hO 74 dX6_way_8 (by decide) ?_
  refine C_iald hO 74 (by decide) (hm 3 (by decide)) (md_3 _ _ _) (vp_lit (by decide)) dX6_way_10 ?_
  refine G_iconst hO 1 dX6_way_11 (by decide) ?_
  refine G_isub hO dX6_way_12 ?_
  refine G_i2l hO dX6_way_13 ?_
  refine KS_Ni hO (rest := [.ref (ad 21 0)]) [.long (Int32.toInt64 a1), .long 0, .long (Int32.toInt64 ((c 3 74) - 1))] (fun l => c_X6_in hs) cv_X6_in mw_884 mw_883 rfl rfl (Nat.le_of_ble_eq_true rfl) (by decide) rfl rfl (Nat.zero_le _) (Nat.zero_le _) dX6_way_14 ?_
  intro r1 hs
  refine G_if_ne hO 24 dX6_way_17 (by decide) (fun h4 => ?_) (fun h4 => ?_)
  · replace hs := hs.1 h4
    refine G_iload_n hO 2 dX6_way_24 rfl rfl ?_
    refine G_i2l hO dX6_way_25 ?_
    refine G_lconst hO 0 dX6_way_26 (by decide) ?_
    refine G_ldc2 hO mw_984 dX6_way_27 ?_
    refine KS_Ni hO (rest := [.ref (ad 21 0)]) [.long (Int32.toInt64 a2), .long 0, .long 2] (fun l => c_X6_in hs) cv_X6_in mw_884 mw_883 rfl rfl (Nat.le_of_ble_eq_true rfl) (by decide) rfl rfl (Nat.zero_le _) (Nat.zero_le _) dX6_way_30 ?_
    intro r2 hs
    refine G_if_eq hO 40 dX6_way_33 (by decide) (fun h3 => ?_) (fun h3 => ?_)
    · replace hs := hs.1 h3
      refine G_iconst hO 2 dX6_way_40 (by decide) ?_
      exact b41 _ _ hs
    · replace hs := hs.2 h3
      refine G_iconst hO 0 dX6_way_36 (by decide) ?_
      refine G_goto hO 41 dX6_way_37 (by decide) ?_
      exact b41 _ _ hs
  · replace hs := hs.2 h4
    refine G_iconst hO 1 dX6_way_20 (by decide) ?_
    refine G_goto hO 41 dX6_way_21 (by decide) ?_
    exact b41 _ _ hs
set_option maxHeartbeats 4000000 in
set_option maxRecDepth 20000 in
theorem c_X6_addRoom {l : Launch} {Λ : Lay} {B : Nat} {ids : List (Nat × Nat)} {ad : Nat → Nat → Nat} {w : Nat → Nat → va_E} (hm : ∀ j, j < 8 → (21, j) ∈ ids) {a1 : Int32} {a2 : Int32} {a3 : Int32} {a4 : Int32} {c : Reg} {P : Int32 → Reg → Prop} (hs : wX6_addRoom a1 a2 a3 a4 c P) : CT l yX6_addRoom cX6_addRoom 6 (some .int) { frames := 3, cells := 0, slots := 0, locals := 73 } Λ B ids ad (va_up w 21 (mdSh Λ ad c)) [.ref (ad 21 0), .int a1, .int a2, .int a3, .int a4] (Ri ids ad w 21 (mdSh Λ ad) P) := by
  refine CT.of RX6 [(0, .ref (ad 21 0)), (1, .int a1), (2, .int a2), (3, .int a3), (4, .int a4)] (plainFor_of_name (by decide +kernel)) rfl (Nat.le_of_ble_eq_true rfl) rfl (fun Γ hO hF => ?_)
  have b84 : ∀ (s0 : Int32) (c : Reg), wX6_addRoom_L84 a1 a2 a3 a4 P s0 c → G Γ ids ad 0 0 (va_up w 21 (mdSh Λ ad c)) 84 [(0, .ref (ad 21 0)), (1, .int a1), (2, .int a2), (3, .int a3), (4, .int a4)] [.int s0, .ref (ad 21 0)] := by
    intro s0 c hs
    unfold wX6_addRoom_L84 at hs
    refine KV_Ri hO (rest := []) [.int s0] (fun l => c_X6_refused hm hs) cv_X6_refused mw_888 ms_17 mw_886 (hm 0 (by decide)) cl6 (by rw [va_us]; exact (md_0 _ _ _)) rfl rfl (Nat.le_of_ble_eq_true rfl) (by decide) rfl rfl (Nat.zero_le _) (Nat.zero_le _) dX6_addRoom_84 ?_
    intro r11 c12 hs
    refine G_if_eq hO 92 dX6_addRoom_87 (by decide) (fun h15 => ?_) (fun h15 => ?_)
    · replace hs := hs.1 h15
      refine G_aload_n hO 0 dX6_addRoom_92 rfl rfl ?_
      refine KV_Rv hO (rest := []) [] (fun l => c_X6_note hm hs) cv_X6_note mw_1022 ms_28 mw_1020 (hm 0 (by decide)) cl6 (by rw [va_us]; exact (md_0 _ _ _)) rfl rfl (Nat.le_of_ble_eq_true rfl) (by decide) rfl rfl (Nat.zero_le _) (Nat.zero_le _) dX6_addRoom_93 ?_
      intro c13 hs
      refine G_aload_n hO 0 dX6_addRoom_96 rfl rfl ?_
      refine C_getf hO (v := .ref (ad 21 3)) cl6 6 (hm 0 (by decide)) (md_0 _ _ _) (by decide) mw_843 rfl rfl dX6_addRoom_97 ?_
      refine G_iload_n hO 1 dX6_addRoom_100 rfl rfl ?_
      refine G_iload_n hO 2 dX6_addRoom_101 rfl rfl ?_
      refine G_iload_n hO 3 dX6_addRoom_102 rfl rfl ?_
      refine G_iload hO 4 dX6_addRoom_103 rfl ?_
      refine KS_Rv hO (rest := []) [.ref (ad 21 3), .int a1, .int a2, .int a3, .int a4] (fun l => c_X6_addTo hm (by decide) hs) cv_X6_addTo mw_925 mw_924 rfl rfl (Nat.le_of_ble_eq_true rfl) (by decide) rfl rfl (Nat.zero_le _) (Nat.zero_le _) dX6_addRoom_105 ?_
      intro c14 hs
      refine G_aload_n hO 0 dX6_addRoom_108 rfl rfl ?_
      refine C_getf hO (v := .ref (ad 21 3)) cl6 6 (hm 0 (by decide)) (md_0 _ _ _) (by decide) mw_843 rfl rfl dX6_addRoom_109 ?_
      refine G_iconst hO 0 dX6_addRoom_112 (by decide) ?_
      refine C_iald hO 0 (by decide) (hm 3 (by decide)) (md_3 _ _ _) (vp_lit (by decide)) dX6_addRoom_113 ?_
      refine G_iconst hO 1 dX6_addRoom_114 (by decide) ?_
      refine G_isub hO dX6_addRoom_115 ?_
      exact G_iret hO hF rfl (Nat.zero_le _) (Nat.zero_le _) dX6_addRoom_116 ⟨rfl, rfl, _, _, rfl, rfl, hs⟩
    · replace hs := hs.2 h15
      refine G_iconst hO 0 dX6_addRoom_90 (by decide) ?_
      exact G_iret hO hF rfl (Nat.zero_le _) (Nat.zero_le _) dX6_addRoom_91 ⟨rfl, rfl, _, _, rfl, rfl, hs⟩
  have b56 : ∀ (s0 : Int32) (c : Reg), wX6_addRoom_L56 a1 a2 a3 a4 P s0 c → G Γ ids ad 0 0 (va_up w 21 (mdSh Λ ad c)) 56 [(0, .ref (ad 21 0)), (1, .int a1), (2, .int a2), (3, .int a3), (4, .int a4)] [.int s0] := by
    intro s0 c hs
    unfold wX6_addRoom_L56 at hs
    refine G_istore hO [(5, .int s0), (0, .ref (ad 21 0)), (1, .int a1), (2, .int a2), (3, .int a3), (4, .int a4)] dX6_addRoom_56 (by decide) rfl ?_
    refine G_aload_n hO 1 dX6_addRoom_58 rfl rfl ?_
    refine G_iload hO 0 dX6_addRoom_59 rfl ?_
    refine G_if_ne hO 68 dX6_addRoom_61 (by decide) (fun h10 => ?_) (fun h10 => ?_)
    · replace hs := hs.1 h10
      refine G_aload_n hO 1 dX6_addRoom_68 rfl rfl ?_
      refine C_getf hO (v := .ref (ad 21 3)) cl6 6 (hm 0 (by decide)) (md_0 _ _ _) (by decide) mw_843 rfl rfl dX6_addRoom_69 ?_
      refine G_iconst hO 0 dX6_addRoom_72 (by decide) ?_
      refine C_iald hO 0 (by decide) (hm 3 (by decide)) (md_3 _ _ _) (vp_lit (by decide)) dX6_addRoom_73 ?_
      refine G_bipush hO 6 dX6_addRoom_74 (by decide) ?_
      refine G_icmp_ne hO 83 dX6_addRoom_76 (by decide) (fun h9 => ?_) (fun h9 => ?_)
      · replace hs := hs.1 h9
        refine G_iconst hO 0 dX6_addRoom_83 (by decide) ?_
        refine G_lv hO [(0, .ref (ad 21 0)), (1, .int a1), (2, .int a2), (3, .int a3), (4, .int a4)] [1, 2, 3, 4, 5] rfl ?_
        exact b84 _ _ hs
      · replace hs := hs.2 h9
        refine G_iconst hO 2 dX6_addRoom_79 (by decide) ?_
        refine G_goto hO 84 dX6_addRoom_80 (by decide) ?_
        refine G_lv hO [(0, .ref (ad 21 0)), (1, .int a1), (2, .int a2), (3, .int a3), (4, .int a4)] [1, 2, 3, 4, 5] rfl ?_
        exact b84 _ _ hs
    · replace hs := hs.2 h10
      refine G_iconst hO 1 dX6_addRoom_64 (by decide) ?_
      refine G_goto hO 84 dX6_addRoom_65 (by decide) ?_
      refine G_lv hO [(0, .ref (ad 21 0)), (1, .int a1), (2, .int a2), (3, .int a3), (4, .int a4)] [1, 2, 3, 4, 5] rfl ?_
      exact b84 _ _ hs
  have b55 : ∀ (c : Reg), wX6_addRoom_L55 a1 a2 a3 a4 P c → G Γ ids ad 0 0 (va_up w 21 (mdSh Λ ad c)) 55 [(0, .ref (ad 21 0)), (1, .int a1), (2, .int a2), (3, .int a3), (4, .int a4)] [] := by
    intro c hs
    unfold wX6_addRoom_L55 at hs
    refine G_iconst hO 0 dX6_addRoom_55 (by decide) ?_
    exact b56 _ _ hs
  unfold wX6_addRoom at hs
  refine G_iload_n hO 1 dX6_addRoom_0 rfl rfl ?_
  refine G_i2l hO dX6_addRoom_1 ?_
  refine G_lconst hO 1 dX6_addRoom_2 (by decide) ?_
  refine G_ldc2 hO mw_915 dX6_addRoom_3 ?_
  refine KS_Ni hO (rest := []) [.long (Int32.toInt64 a1), .long 1, .long 9] (fun l => c_X6_in hs) cv_X6_in mw_884 mw_883 rfl rfl (Nat.le_of_ble_eq_true rfl) (by decide) rfl rfl (Nat.zero_le _) (Nat.zero_le _) dX6_addRoom_6 ?_
  intro r1 hs
  refine G_if_eq hO 55 dX6_addRoom_9 (by decide) (fun h8 => ?_) (fun h8 => ?_)
  · replace hs := hs.1 h8
    exact b55 _ hs
  · replace hs := hs.2 h8
    refine G_iload_n hO 2 dX6_addRoom_12 rfl rfl ?_
    refine G_i2l hO dX6_addRoom_13 ?_
    refine G_ldc2 hO mw_1018 dX6_addRoom_14 ?_
    refine G_ldc2 hO mw_1019 dX6_addRoom_17 ?_
    refine KS_Ni hO (rest := []) [.long (Int32.toInt64 a2), .long 10, .long 25] (fun l => c_X6_in hs) cv_X6_in mw_884 mw_883 rfl rfl (Nat.le_of_ble_eq_true rfl) (by decide) rfl rfl (Nat.zero_le _) (Nat.zero_le _) dX6_addRoom_20 ?_
    intro r2 hs
    refine G_if_eq hO 55 dX6_addRoom_23 (by decide) (fun h7 => ?_) (fun h7 => ?_)
    · replace hs := hs.1 h7
      exact b55 _ hs
    · replace hs := hs.2 h7
      refine G_iload_n hO 3 dX6_addRoom_26 rfl rfl ?_
      refine G_i2l hO dX6_addRoom_27 ?_
      refine G_lconst hO 1 dX6_addRoom_28 (by decide) ?_
      refine G_ldc2 hO mw_915 dX6_addRoom_29 ?_
      refine KS_Ni hO (rest := []) [.long (Int32.toInt64 a3), .long 1, .long 9] (fun l => c_X6_in hs) cv_X6_in mw_884 mw_883 rfl rfl (Nat.le_of_ble_eq_true rfl) (by decide) rfl rfl (Nat.zero_le _) (Nat.zero_le _) dX6_addRoom_32 ?_
      intro r3 hs
      refine G_if_eq hO 55 dX6_addRoom_35 (by decide) (fun h6 => ?_) (fun h6 => ?_)
      · replace hs := hs.1 h6
        exact b55 _ hs
      · replace hs := hs.2 h6
        refine G_iload hO 4 dX6_addRoom_38 rfl ?_
        refine G_i2l hO dX6_addRoom_40 ?_
        refine G_lconst hO 0 dX6_addRoom_41 (by decide) ?_
        refine G_ldc2 hO mw_915 dX6_addRoom_42 ?_
        refine KS_Ni hO (rest := []) [.long (Int32.toInt64 a4), .long 0, .long 9] (fun l => c_X6_in hs) cv_X6_in mw_884 mw_883 rfl rfl (Nat.le_of_ble_eq_true rfl) (by decide) rfl rfl (Nat.zero_le _) (Nat.zero_le _) dX6_addRoom_45 ?_
        intro r4 hs
        refine G_if_eq hO 55 dX6_addRoom_48 (by decide) (fun h5 => ?_) (fun h5 => ?_)
        · replace hs := hs.1 h5
          exact b55 _ hs
        · replace hs := hs.2 h5
          refine G_iconst hO 1 dX6_addRoom_51 (by decide) ?_
          refine G_goto hO 56 dX6_addRoom_52 (by decide) ?_
          exact b56 _ _ hs
set_option maxHeartbeats 4000000 in
set_option maxRecDepth 20000 in
theorem c_X6_setRoom {l : Launch} {Λ : Lay} {B : Nat} {ids : List (Nat × Nat)} {ad : Nat → Nat → Nat} {w : Nat → Nat → va_E} (hm : ∀ j, j < 8 → (21, j) ∈ ids) {a1 : Int32} {a2 : Int32} {a3 : Int32} {c : Reg} {P : Int32 → Reg → Prop} (hs : wX6_setRoom a1 a2 a3 c P) : CT l yX6_setRoom cX6_setRoom 6 (some .int) { frames := 2, cells := 0, slots := 0, locals := 46 } Λ B ids ad (va_up w 21 (mdSh Λ ad c)) [.ref (ad 21 0), .int a1, .int a2, .int a3] (Ri ids ad w 21 (mdSh Λ ad) P) := by
  refine CT.of RX6 [(0, .ref (ad 21 0)), (1, .int a1), (2, .int a2), (3, .int a3)] (plainFor_of_name (by decide +kernel)) rfl (Nat.le_of_ble_eq_true rfl) rfl (fun Γ hO hF => ?_)
  have b82 : ∀ (s0 : Int32) (c : Reg), wX6_setRoom_L82 a1 a2 a3 P s0 c → G Γ ids ad 0 0 (va_up w 21 (mdSh Λ ad c)) 82 [(0, .ref (ad 21 0)), (1, .int a1), (2, .int a2), (3, .int a3)] [.int s0, .ref (ad 21 0)] := by
    intro s0 c hs
    unfold wX6_setRoom_L82 at hs
    refine KV_Ri hO (rest := []) [.int s0] (fun l => c_X6_refused hm hs) cv_X6_refused mw_888 ms_17 mw_886 (hm 0 (by decide)) cl6 (by rw [va_us]; exact (md_0 _ _ _)) rfl rfl (Nat.le_of_ble_eq_true rfl) (by decide) rfl rfl (Nat.zero_le _) (Nat.zero_le _) dX6_setRoom_82 ?_
    intro r14 c15 hs
    refine G_if_eq hO 90 dX6_setRoom_85 (by decide) (fun h19 => ?_) (fun h19 => ?_)
    · replace hs := hs.1 h19
      refine G_aload_n hO 0 dX6_setRoom_90 rfl rfl ?_
      refine KV_Rv hO (rest := []) [] (fun l => c_X6_note hm hs) cv_X6_note mw_1022 ms_28 mw_1020 (hm 0 (by decide)) cl6 (by rw [va_us]; exact (md_0 _ _ _)) rfl rfl (Nat.le_of_ble_eq_true rfl) (by decide) rfl rfl (Nat.zero_le _) (Nat.zero_le _) dX6_setRoom_91 ?_
      intro c16 hs
      refine G_aload_n hO 0 dX6_setRoom_94 rfl rfl ?_
      refine C_getf hO (v := .ref (ad 21 3)) cl6 6 (hm 0 (by decide)) (md_0 _ _ _) (by decide) mw_843 rfl rfl dX6_setRoom_95 ?_
      refine G_iload_n hO 1 dX6_setRoom_98 rfl rfl ?_
      refine G_iconst hO 1 dX6_setRoom_99 (by decide) ?_
      refine G_iload_n hO 2 dX6_setRoom_100 rfl rfl ?_
      refine G_iadd hO dX6_setRoom_101 ?_
      refine KS_Ni hO (rest := [.ref (ad 21 3)]) [.int a1, .int (1 + a2)] (fun l => c_X6_cell hs) cv_X6_cell mw_928 mw_927 rfl rfl (Nat.le_of_ble_eq_true rfl) (by decide) rfl rfl (Nat.zero_le _) (Nat.zero_le _) dX6_setRoom_102 ?_
      intro r17 hs
      refine C_iald hO _ rfl (hm 3 (by decide)) (md_3 _ _ _) hs.1 dX6_setRoom_105 ?_
      replace hs := hs.2
      refine G_istore hO [(5, .int (c16 3 (Int32.toNatClampNeg r17))), (0, .ref (ad 21 0)), (1, .int a1), (2, .int a2), (3, .int a3)] dX6_setRoom_106 (by decide) rfl ?_
      refine G_aload_n hO 1 dX6_setRoom_108 rfl rfl ?_
      refine C_getf hO (v := .ref (ad 21 3)) cl6 6 (hm 0 (by decide)) (md_0 _ _ _) (by decide) mw_843 rfl rfl dX6_setRoom_109 ?_
      refine G_iload_n hO 2 dX6_setRoom_112 rfl rfl ?_
      refine G_iconst hO 1 dX6_setRoom_113 (by decide) ?_
      refine G_iload_n hO 3 dX6_setRoom_114 rfl rfl ?_
      refine G_iadd hO dX6_setRoom_115 ?_
      refine KS_Ni hO (rest := [.ref (ad 21 3)]) [.int a1, .int (1 + a2)] (fun l => c_X6_cell hs) cv_X6_cell mw_928 mw_927 rfl rfl (Nat.le_of_ble_eq_true rfl) (by decide) rfl rfl (Nat.zero_le _) (Nat.zero_le _) dX6_setRoom_116 ?_
      intro r18 hs
      refine G_iload_n hO 4 dX6_setRoom_119 rfl rfl ?_
      refine C_iast hO (cw_md _ _) _ rfl (hm 3 (by decide)) (md_3 _ _) hs.1 dX6_setRoom_120 ?_
      replace hs := hs.2
      refine G_iload hO 0 dX6_setRoom_121 rfl ?_
      exact G_iret hO hF rfl (Nat.zero_le _) (Nat.zero_le _) dX6_setRoom_123 ⟨rfl, rfl, _, _, rfl, rfl, hs⟩
    · replace hs := hs.2 h19
      refine G_iconst hO 0 dX6_setRoom_88 (by decide) ?_
      exact G_iret hO hF rfl (Nat.zero_le _) (Nat.zero_le _) dX6_setRoom_89 ⟨rfl, rfl, _, _, rfl, rfl, hs⟩
  have b57 : ∀ (s0 : Int32) (c : Reg), wX6_setRoom_L57 a1 a2 a3 P s0 c → G Γ ids ad 0 0 (va_up w 21 (mdSh Λ ad c)) 57 [(0, .ref (ad 21 0)), (1, .int a1), (2, .int a2), (3, .int a3)] [.int s0] := by
    intro s0 c hs
    unfold wX6_setRoom_L57 at hs
    refine G_istore hO [(4, .int s0), (0, .ref (ad 21 0)), (1, .int a1), (2, .int a2), (3, .int a3)] dX6_setRoom_57 (by decide) rfl ?_
    refine G_aload_n hO 1 dX6_setRoom_59 rfl rfl ?_
    refine G_aload_n hO 1 dX6_setRoom_60 rfl rfl ?_
    refine G_iload_n hO 2 dX6_setRoom_61 rfl rfl ?_
    refine KV_Ri hO (rest := [.ref (ad 21 0)]) [.int a1] (fun l => c_X6_isRoom hm hs) cv_X6_isRoom mw_1000 ms_27 mw_998 (hm 0 (by decide)) cl6 (by rw [va_us]; exact (md_0 _ _ _)) rfl rfl (Nat.le_of_ble_eq_true rfl) (by decide) rfl rfl (Nat.zero_le _) (Nat.zero_le _) dX6_setRoom_62 ?_
    intro r10 c11 hs
    refine G_if_ne hO 72 dX6_setRoom_65 (by decide) (fun h13 => ?_) (fun h13 => ?_)
    · replace hs := hs.1 h13
      refine G_iload hO 0 dX6_setRoom_72 rfl ?_
      refine G_if_eq hO 81 dX6_setRoom_74 (by decide) (fun h12 => ?_) (fun h12 => ?_)
      · replace hs := hs.1 h12
        refine G_iconst hO 2 dX6_setRoom_81 (by decide) ?_
        refine G_lv hO [(0, .ref (ad 21 0)), (1, .int a1), (2, .int a2), (3, .int a3)] [1, 2, 3, 4] rfl ?_
        exact b82 _ _ hs
      · replace hs := hs.2 h12
        refine G_iconst hO 0 dX6_setRoom_77 (by decide) ?_
        refine G_goto hO 82 dX6_setRoom_78 (by decide) ?_
        refine G_lv hO [(0, .ref (ad 21 0)), (1, .int a1), (2, .int a2), (3, .int a3)] [1, 2, 3, 4] rfl ?_
        exact b82 _ _ hs
    · replace hs := hs.2 h13
      refine G_iconst hO 1 dX6_setRoom_68 (by decide) ?_
      refine G_goto hO 82 dX6_setRoom_69 (by decide) ?_
      refine G_lv hO [(0, .ref (ad 21 0)), (1, .int a1), (2, .int a2), (3, .int a3)] [1, 2, 3, 4] rfl ?_
      exact b82 _ _ hs
  have b52 : ∀ (c : Reg), wX6_setRoom_L52 a1 a2 a3 P c → G Γ ids ad 0 0 (va_up w 21 (mdSh Λ ad c)) 52 [(0, .ref (ad 21 0)), (1, .int a1), (2, .int a2), (3, .int a3)] [] := by
    intro c hs
    unfold wX6_setRoom_L52 at hs
    refine G_iconst hO 1 dX6_setRoom_52 (by decide) ?_
    refine G_goto hO 57 dX6_setRoom_53 (by decide) ?_
    exact b57 _ _ hs
  have b56 : ∀ (c : Reg), wX6_setRoom_L56 a1 a2 a3 P c → G Γ ids ad 0 0 (va_up w 21 (mdSh Λ ad c)) 56 [(0, .ref (ad 21 0)), (1, .int a1), (2, .int a2), (3, .int a3)] [] := by
    intro c hs
    unfold wX6_setRoom_L56 at hs
    refine G_iconst hO 0 dX6_setRoom_56 (by decide) ?_
    exact b57 _ _ hs
  have b35 : ∀ (c : Reg), wX6_setRoom_L35 a1 a2 a3 P c → G Γ ids ad 0 0 (va_up w 21 (mdSh Λ ad c)) 35 [(0, .ref (ad 21 0)), (1, .int a1), (2, .int a2), (3, .int a3)] [] := by
    intro c hs
    unfold wX6_setRoom_L35 at hs
    refine G_iload_n hO 2 dX6_setRoom_35 rfl rfl ?_
    refine G_iconst hO 2 dX6_setRoom_36 (by decide) ?_
    refine G_icmp_ne hO 56 dX6_setRoom_37 (by decide) (fun h9 => ?_) (fun h9 => ?_)
    · replace hs := hs.1 h9
      exact b56 _ hs
    · replace hs := hs.2 h9
      refine G_iload_n hO 3 dX6_setRoom_40 rfl rfl ?_
      refine G_i2l hO dX6_setRoom_41 ?_
      refine G_lconst hO 0 dX6_setRoom_42 (by decide) ?_
      refine G_ldc2 hO mw_915 dX6_setRoom_43 ?_
      refine KS_Ni hO (rest := []) [.long (Int32.toInt64 a3), .long 0, .long 9] (fun l => c_X6_in hs) cv_X6_in mw_884 mw_883 rfl rfl (Nat.le_of_ble_eq_true rfl) (by decide) rfl rfl (Nat.zero_le _) (Nat.zero_le _) dX6_setRoom_46 ?_
      intro r7 hs
      refine G_if_eq hO 56 dX6_setRoom_49 (by decide) (fun h8 => ?_) (fun h8 => ?_)
      · replace hs := hs.1 h8
        exact b56 _ hs
      · replace hs := hs.2 h8
        exact b52 _ hs
  have b18 : ∀ (c : Reg), wX6_setRoom_L18 a1 a2 a3 P c → G Γ ids ad 0 0 (va_up w 21 (mdSh Λ ad c)) 18 [(0, .ref (ad 21 0)), (1, .int a1), (2, .int a2), (3, .int a3)] [] := by
    intro c hs
    unfold wX6_setRoom_L18 at hs
    refine G_iload_n hO 2 dX6_setRoom_18 rfl rfl ?_
    refine G_iconst hO 1 dX6_setRoom_19 (by decide) ?_
    refine G_icmp_ne hO 35 dX6_setRoom_20 (by decide) (fun h6 => ?_) (fun h6 => ?_)
    · replace hs := hs.1 h6
      exact b35 _ hs
    · replace hs := hs.2 h6
      refine G_iload_n hO 3 dX6_setRoom_23 rfl rfl ?_
      refine G_i2l hO dX6_setRoom_24 ?_
      refine G_lconst hO 1 dX6_setRoom_25 (by decide) ?_
      refine G_ldc2 hO mw_915 dX6_setRoom_26 ?_
      refine KS_Ni hO (rest := []) [.long (Int32.toInt64 a3), .long 1, .long 9] (fun l => c_X6_in hs) cv_X6_in mw_884 mw_883 rfl rfl (Nat.le_of_ble_eq_true rfl) (by decide) rfl rfl (Nat.zero_le _) (Nat.zero_le _) dX6_setRoom_29 ?_
      intro r4 hs
      refine G_if_ne hO 52 dX6_setRoom_32 (by decide) (fun h5 => ?_) (fun h5 => ?_)
      · replace hs := hs.1 h5
        exact b52 _ hs
      · replace hs := hs.2 h5
        exact b35 _ hs
  unfold wX6_setRoom at hs
  refine G_iload_n hO 2 dX6_setRoom_0 rfl rfl ?_
  refine G_if_ne hO 18 dX6_setRoom_1 (by decide) (fun h3 => ?_) (fun h3 => ?_)
  · replace hs := hs.1 h3
    exact b18 _ hs
  · replace hs := hs.2 h3
    refine G_iload_n hO 3 dX6_setRoom_4 rfl rfl ?_
    refine G_i2l hO dX6_setRoom_5 ?_
    refine G_ldc2 hO mw_1018 dX6_setRoom_6 ?_
    refine G_ldc2 hO mw_1019 dX6_setRoom_9 ?_
    refine KS_Ni hO (rest := []) [.long (Int32.toInt64 a3), .long 10, .long 25] (fun l => c_X6_in hs) cv_X6_in mw_884 mw_883 rfl rfl (Nat.le_of_ble_eq_true rfl) (by decide) rfl rfl (Nat.zero_le _) (Nat.zero_le _) dX6_setRoom_12 ?_
    intro r1 hs
    refine G_if_ne hO 52 dX6_setRoom_15 (by decide) (fun h2 => ?_) (fun h2 => ?_)
    · replace hs := hs.1 h2
      exact b52 _ hs
    · replace hs := hs.2 h2
      exact b18 _ hs
set_option maxHeartbeats 4000000 in
set_option maxRecDepth 20000 in
theorem c_X6_window {l : Launch} {Λ : Lay} {B : Nat} {ids : List (Nat × Nat)} {ad : Nat → Nat → Nat} {w : Nat → Nat → va_E} (hm : ∀ j, j < 8 → (21, j) ∈ ids) {a1 : Int32} {a2 : Int32} {c : Reg} {P : Int32 → Reg → Prop} (hs : wX6_window a1 a2 c P) : CT l yX6_window cX6_window 3 (some .int) { frames := 2, cells := 0, slots := 0, locals := 46 } Λ B ids ad (va_up w 21 (mdSh Λ ad c)) [.ref (ad 21 0), .int a1, .int a2] (Ri ids ad w 21 (mdSh Λ ad) P) := by
  refine CT.of RX6 [(0, .ref (ad 21 0)), (1, .int a1), (2, .int a2)] (plainFor_of_name (by decide +kernel)) rfl (Nat.le_of_ble_eq_true rfl) rfl (fun Γ hO hF => ?_)
  have b14 : ∀ (s0 : Int32) (c : Reg), wX6_window_L14 a1 a2 P s0 c → G Γ ids ad 0 0 (va_up w 21 (mdSh Λ ad c)) 14 [(0, .ref (ad 21 0)), (1, .int a1), (2, .int a2)] [.int s0, .ref (ad 21 0)] := by
    intro s0 c hs
    unfold wX6_window_L14 at hs
    refine KV_Ri hO (rest := []) [.int s0] (fun l => c_X6_refused hm hs) cv_X6_refused mw_888 ms_17 mw_886 (hm 0 (by decide)) cl6 (by rw [va_us]; exact (md_0 _ _ _)) rfl rfl (Nat.le_of_ble_eq_true rfl) (by decide) rfl rfl (Nat.zero_le _) (Nat.zero_le _) dX6_window_14 ?_
    intro r4 c5 hs
    refine G_if_eq hO 22 dX6_window_17 (by decide) (fun h13 => ?_) (fun h13 => ?_)
    · replace hs := hs.1 h13
      refine G_aload_n hO 0 dX6_window_22 rfl rfl ?_
      refine KV_Rv hO (rest := []) [] (fun l => c_X6_note hm hs) cv_X6_note mw_1022 ms_28 mw_1020 (hm 0 (by decide)) cl6 (by rw [va_us]; exact (md_0 _ _ _)) rfl rfl (Nat.le_of_ble_eq_true rfl) (by decide) rfl rfl (Nat.zero_le _) (Nat.zero_le _) dX6_window_23 ?_
      intro c6 hs
      refine G_aload_n hO 0 dX6_window_26 rfl rfl ?_
      refine C_getf hO (v := .ref (ad 21 3)) cl6 6 (hm 0 (by decide)) (md_0 _ _ _) (by decide) mw_843 rfl rfl dX6_window_27 ?_
      refine G_iload_n hO 1 dX6_window_30 rfl rfl ?_
      refine G_iconst hO 4 dX6_window_31 (by decide) ?_
      refine KS_Ni hO (rest := [.ref (ad 21 3)]) [.int a1, .int 4] (fun l => c_X6_cell hs) cv_X6_cell mw_928 mw_927 rfl rfl (Nat.le_of_ble_eq_true rfl) (by decide) rfl rfl (Nat.zero_le _) (Nat.zero_le _) dX6_window_32 ?_
      intro r7 hs
      refine G_iload_n hO 2 dX6_window_35 rfl rfl ?_
      refine G_if_eq hO 43 dX6_window_36 (by decide) (fun h12 => ?_) (fun h12 => ?_)
      · replace hs := hs.1 h12
        refine G_iconst hO 0 dX6_window_43 (by decide) ?_
        refine C_iast hO (cw_md _ _) _ rfl (hm 3 (by decide)) (md_3 _ _) hs.1 dX6_window_44 ?_
        replace hs := hs.2
        refine G_aload_n hO 0 dX6_window_45 rfl rfl ?_
        refine C_getf hO (v := .ref (ad 21 3)) cl6 6 (hm 0 (by decide)) (md_0 _ _ _) (by decide) mw_843 rfl rfl dX6_window_46 ?_
        refine G_iconst hO 4 dX6_window_49 (by decide) ?_
        refine KS_Ri hO (rest := []) [.ref (ad 21 3), .int 4] (fun l => c_X6_allOf hm (by decide) hs) cv_X6_allOf mw_969 mw_968 rfl rfl (Nat.le_of_ble_eq_true rfl) (by decide) rfl rfl (Nat.zero_le _) (Nat.zero_le _) dX6_window_50 ?_
        intro r8 c9 hs
        exact G_iret hO hF rfl (Nat.zero_le _) (Nat.zero_le _) dX6_window_53 ⟨rfl, rfl, _, _, rfl, rfl, hs⟩
      · replace hs := hs.2 h12
        refine G_iconst hO 1 dX6_window_39 (by decide) ?_
        refine G_goto hO 44 dX6_window_40 (by decide) ?_
        refine C_iast hO (cw_md _ _) _ rfl (hm 3 (by decide)) (md_3 _ _) hs.1 dX6_window_44 ?_
        replace hs := hs.2
        refine G_aload_n hO 0 dX6_window_45 rfl rfl ?_
        refine C_getf hO (v := .ref (ad 21 3)) cl6 6 (hm 0 (by decide)) (md_0 _ _ _) (by decide) mw_843 rfl rfl dX6_window_46 ?_
        refine G_iconst hO 4 dX6_window_49 (by decide) ?_
        refine KS_Ri hO (rest := []) [.ref (ad 21 3), .int 4] (fun l => c_X6_allOf hm (by decide) hs) cv_X6_allOf mw_969 mw_968 rfl rfl (Nat.le_of_ble_eq_true rfl) (by decide) rfl rfl (Nat.zero_le _) (Nat.zero_le _) dX6_window_50 ?_
        intro r10 c11 hs
        exact G_iret hO hF rfl (Nat.zero_le _) (Nat.zero_le _) dX6_window_53 ⟨rfl, rfl, _, _, rfl, rfl, hs⟩
    · replace hs := hs.2 h13
      refine G_iconst hO 0 dX6_window_20 (by decide) ?_
      exact G_iret hO hF rfl (Nat.zero_le _) (Nat.zero_le _) dX6_window_21 ⟨rfl, rfl, _, _, rfl, rfl, hs⟩
  unfold wX6_window at hs
  refine G_aload_n hO 0 dX6_window_0 rfl rfl ?_
  refine G_aload_n hO 0 dX6_window_1 rfl rfl ?_
  refine G_iload_n hO 1 dX6_window_2 rfl rfl ?_
  refine KV_Ri hO (rest := [.ref (ad 21 0)]) [.int a1] (fun l => c_X6_isRoom hm hs) cv_X6_isRoom mw_1000 ms_27 mw_998 (hm 0 (by decide)) cl6 (by rw [va_us]; exact (md_0 _ _ _)) rfl rfl (Nat.le_of_ble_eq_true rfl) (by decide) rfl rfl (Nat.zero_le _) (Nat.zero_le _) dX6_window_3 ?_
  intro r1 c2 hs
  refine G_if_eq hO 13 dX6_window_6 (by decide) (fun h3 => ?_) (fun h3 => ?_)
  · replace hs := hs.1 h3
    refine G_iconst hO 1 dX6_window_13 (by decide) ?_
    exact b14 _ _ hs
  · replace hs := hs.2 h3
    refine G_iconst hO 0 dX6_window_9 (by decide) ?_
    refine G_goto hO 14 dX6_window_10 (by decide) ?_
    exact b14 _ _ hs
