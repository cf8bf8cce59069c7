set_option maxHeartbeats 4000000 in
set_option maxRecDepth 20000 in
theorem c_X6_isSetting {l : Launch} {Λ : Lay} {B : Nat} {ids : List (Nat × Nat)} {ad : Nat → Nat → Nat} {w : Nat → Nat → va_E} {a0 : Int32} {a1 : Int32} {P : Int32 → Prop} (hs : wX6_isSetting a0 a1 P) : CT l yX6_isSetting cX6_isSetting 2 (some .boolean) { frames := 1, cells := 0, slots := 0, locals := 25 } Λ B ids ad w [.int a0, .int a1] (Ni ids ad w P) := by
  refine CT.of RX6 [(0, .int a0), (1, .int a1)] (plainFor_of_name (by decide +kernel)) rfl (Nat.le_of_ble_eq_true rfl) rfl (fun Γ hO hF => ?_)
  unfold wX6_isSetting at hs
  refine G_iload_n hO 0 dX6_isSetting_0 rfl rfl ?_
  refine G_i2l hO dX6_isSetting_1 ?_
  refine G_lconst hO 0 dX6_isSetting_2 (by decide) ?_
  refine G_ldc2 hO mw_975 dX6_isSetting_3 ?_
  refine KS_Ni hO (rest := []) [.long (Int32.toInt64 a0), .long 0, .long 8] (fun l => c_X6_in hs) cv_X6_in mw_884 mw_883 rfl rfl (Nat.le_of_ble_eq_true rfl) (by decide) rfl rfl (Nat.zero_le _) (Nat.zero_le _) dX6_isSetting_6 ?_
  intro r1 hs
  refine G_if_eq hO 34 dX6_isSetting_9 (by decide) (fun h6 => ?_) (fun h6 => ?_)
  · replace hs := hs.1 h6
    refine G_iconst hO 0 dX6_isSetting_34 (by decide) ?_
    exact G_zret hO hF rfl (Nat.zero_le _) (Nat.zero_le _) rfl dX6_isSetting_35 ⟨rfl, rfl, rfl, _, rfl, hs⟩
  · replace hs := hs.2 h6
    refine G_iload_n hO 1 dX6_isSetting_12 rfl rfl ?_
    refine G_i2l hO dX6_isSetting_13 ?_
    refine G_iload_n hO 0 dX6_isSetting_14 rfl rfl ?_
    refine KS_Ni hO (rest := [.long (Int32.toInt64 a1)]) [.int a0] (fun l => c_X6_least hs) cv_X6_least mw_945 mw_944 rfl rfl (Nat.le_of_ble_eq_true rfl) (by decide) rfl rfl (Nat.zero_le _) (Nat.zero_le _) dX6_isSetting_15 ?_
    intro r2 hs
    refine G_i2l hO dX6_isSetting_18 ?_
    refine G_iload_n hO 0 dX6_isSetting_19 rfl rfl ?_
    refine KS_Ni hO (rest := [.long (Int32.toInt64 r2), .long (Int32.toInt64 a1)]) [.int a0] (fun l => c_X6_most hs) cv_X6_most mw_948 mw_947 rfl rfl (Nat.le_of_ble_eq_true rfl) (by decide) rfl rfl (Nat.zero_le _) (Nat.zero_le _) dX6_isSetting_20 ?_
    intro r3 hs
    refine G_i2l hO dX6_isSetting_23 ?_
    refine KS_Ni hO (rest := []) [.long (Int32.toInt64 a1), .long (Int32.toInt64 r2), .long (Int32.toInt64 r3)] (fun l => c_X6_in hs) cv_X6_in mw_884 mw_883 rfl rfl (Nat.le_of_ble_eq_true rfl) (by decide) rfl rfl (Nat.zero_le _) (Nat.zero_le _) dX6_isSetting_24 ?_
    intro r4 hs
    refine G_if_eq hO 34 dX6_isSetting_27 (by decide) (fun h5 => ?_) (fun h5 => ?_)
    · replace hs := hs.1 h5
      refine G_iconst hO 0 dX6_isSetting_34 (by decide) ?_
      exact G_zret hO hF rfl (Nat.zero_le _) (Nat.zero_le _) rfl dX6_isSetting_35 ⟨rfl, rfl, rfl, _, rfl, hs⟩
    · replace hs := hs.2 h5
      refine G_iconst hO 1 dX6_isSetting_30 (by decide) ?_
      refine G_goto hO 35 dX6_isSetting_31 (by decide) ?_
      exact G_zret hO hF rfl (Nat.zero_le _) (Nat.zero_le _) rfl dX6_isSetting_35 ⟨rfl, rfl, rfl, _, rfl, hs⟩
set_option maxHeartbeats 4000000 in
set_option maxRecDepth 20000 in
theorem c_X6_set {l : Launch} {Λ : Lay} {B : Nat} {ids : List (Nat × Nat)} {ad : Nat → Nat → Nat} {w : Nat → Nat → va_E} (hm : ∀ j, j < 8 → (21, j) ∈ ids) {a1 : Int32} {a2 : Int32} {c : Reg} {P : Int32 → Reg → Prop} (hs : wX6_set a1 a2 c P) : CT l yX6_set cX6_set 4 (some .int) { frames := 2, cells := 0, slots := 0, locals := 46 } Λ B ids ad (va_up w 21 (mdSh Λ ad c)) [.ref (ad 21 0), .int a1, .int a2] (Ri ids ad w 21 (mdSh Λ ad) P) := by
  refine CT.of RX6 [(0, .ref (ad 21 0)), (1, .int a1), (2, .int a2)] (plainFor_of_name (by decide +kernel)) rfl (Nat.le_of_ble_eq_true rfl) rfl (fun Γ hO hF => ?_)
  have b14 : ∀ (s0 : Int32) (c : Reg), wX6_set_L14 a1 a2 P s0 c → G Γ ids ad 0 0 (va_up w 21 (mdSh Λ ad c)) 14 [(0, .ref (ad 21 0)), (1, .int a1), (2, .int a2)] [.int s0, .ref (ad 21 0)] := by
    intro s0 c hs
    unfold wX6_set_L14 at hs
    refine KV_Ri hO (rest := []) [.int s0] (fun l => c_X6_refused hm hs) cv_X6_refused mw_888 ms_17 mw_886 (hm 0 (by decide)) cl6 (by rw [va_us]; exact (md_0 _ _ _)) rfl rfl (Nat.le_of_ble_eq_true rfl) (by decide) rfl rfl (Nat.zero_le _) (Nat.zero_le _) dX6_set_14 ?_
    intro r3 c4 hs
    refine G_if_eq hO 22 dX6_set_17 (by decide) (fun h6 => ?_) (fun h6 => ?_)
    · replace hs := hs.1 h6
      refine G_aload_n hO 0 dX6_set_22 rfl rfl ?_
      refine KV_Rv hO (rest := []) [] (fun l => c_X6_note hm hs) cv_X6_note mw_1022 ms_28 mw_1020 (hm 0 (by decide)) cl6 (by rw [va_us]; exact (md_0 _ _ _)) rfl rfl (Nat.le_of_ble_eq_true rfl) (by decide) rfl rfl (Nat.zero_le _) (Nat.zero_le _) dX6_set_23 ?_
      intro c5 hs
      refine G_aload_n hO 0 dX6_set_26 rfl rfl ?_
      refine C_getf hO (v := .ref (ad 21 3)) cl6 6 (hm 0 (by decide)) (md_0 _ _ _) (by decide) mw_843 rfl rfl dX6_set_27 ?_
      refine G_bipush hO 9 dX6_set_30 (by decide) ?_
      refine G_iload_n hO 1 dX6_set_32 rfl rfl ?_
      refine G_iadd hO dX6_set_33 ?_
      refine C_iald hO _ rfl (hm 3 (by decide)) (md_3 _ _ _) hs.1 dX6_set_34 ?_
      replace hs := hs.2
      refine G_istore_n hO [(3, .int (c5 3 (Int32.toNatClampNeg (9 + a1)))), (0, .ref (ad 21 0)), (1, .int a1), (2, .int a2)] dX6_set_35 rfl (by decide) rfl ?_
      refine G_aload_n hO 1 dX6_set_36 rfl rfl ?_
      refine C_getf hO (v := .ref (ad 21 3)) cl6 6 (hm 0 (by decide)) (md_0 _ _ _) (by decide) mw_843 rfl rfl dX6_set_37 ?_
      refine G_bipush hO 9 dX6_set_40 (by decide) ?_
      refine G_iload_n hO 2 dX6_set_42 rfl rfl ?_
      refine G_iadd hO dX6_set_43 ?_
      refine G_iload_n hO 3 dX6_set_44 rfl rfl ?_
      refine C_iast hO (cw_md _ _) _ rfl (hm 3 (by decide)) (md_3 _ _) hs.1 dX6_set_45 ?_
      replace hs := hs.2
      refine G_iload_n hO 0 dX6_set_46 rfl rfl ?_
      exact G_iret hO hF rfl (Nat.zero_le _) (Nat.zero_le _) dX6_set_47 ⟨rfl, rfl, _, _, rfl, rfl, hs⟩
    · replace hs := hs.2 h6
      refine G_iconst hO 0 dX6_set_20 (by decide) ?_
      exact G_iret hO hF rfl (Nat.zero_le _) (Nat.zero_le _) dX6_set_21 ⟨rfl, rfl, _, _, rfl, rfl, hs⟩
  unfold wX6_set at hs
  refine G_aload_n hO 0 dX6_set_0 rfl rfl ?_
  refine G_iload_n hO 1 dX6_set_1 rfl rfl ?_
  refine G_iload_n hO 2 dX6_set_2 rfl rfl ?_
  refine KS_Ni hO (rest := [.ref (ad 21 0)]) [.int a1, .int a2] (fun l => c_X6_isSetting hs) cv_X6_isSetting mw_1037 mw_1036 rfl rfl (Nat.le_of_ble_eq_true rfl) (by decide) rfl rfl (Nat.zero_le _) (Nat.zero_le _) dX6_set_3 ?_
  intro r1 hs
  refine G_if_eq hO 13 dX6_set_6 (by decide) (fun h2 => ?_) (fun h2 => ?_)
  · replace hs := hs.1 h2
    refine G_iconst hO 1 dX6_set_13 (by decide) ?_
    exact b14 _ _ hs
  · replace hs := hs.2 h2
    refine G_iconst hO 0 dX6_set_9 (by decide) ?_
    refine G_goto hO 14 dX6_set_10 (by decide) ?_
    exact b14 _ _ hs
set_option maxHeartbeats 4000000 in
set_option maxRecDepth 20000 in
theorem c_X6_isOutside {l : Launch} {Λ : Lay} {B : Nat} {ids : List (Nat × Nat)} {ad : Nat → Nat → Nat} {w : Nat → Nat → va_E} {a0 : Int32} {P : Int32 → Prop} (hs : wX6_isOutside a0 P) : CT l yX6_isOutside cX6_isOutside 1 (some .boolean) { frames := 1, cells := 0, slots := 0, locals := 25 } Λ B ids ad w [.int a0] (Ni ids ad w P) := by
  refine CT.of RX6 [(0, .int a0)] (plainFor_of_name (by decide +kernel)) rfl (Nat.le_of_ble_eq_true rfl) rfl (fun Γ hO hF => ?_)
  unfold wX6_isOutside at hs
  refine G_iload_n hO 0 dX6_isOutside_0 rfl rfl ?_
  refine G_i2l hO dX6_isOutside_1 ?_
  refine G_ldc2 hO mw_1046 dX6_isOutside_2 ?_
  refine G_ldc2 hO mw_1047 dX6_isOutside_5 ?_
  refine KS_Ni hO (rest := []) [.long (Int32.toInt64 a0), .long (-20), .long 40] (fun l => c_X6_in hs) cv_X6_in mw_884 mw_883 rfl rfl (Nat.le_of_ble_eq_true rfl) (by decide) rfl rfl (Nat.zero_le _) (Nat.zero_le _) dX6_isOutside_8 ?_
  intro r1 hs
  have hb := hs.1.nar
  replace hs := hs.2
  exact G_zret hO hF rfl (Nat.zero_le _) (Nat.zero_le _) hb dX6_isOutside_11 ⟨rfl, rfl, rfl, _, rfl, hs⟩
set_option maxHeartbeats 4000000 in
set_option maxRecDepth 20000 in
theorem c_X6_outside {l : Launch} {Λ : Lay} {B : Nat} {ids : List (Nat × Nat)} {ad : Nat → Nat → Nat} {w : Nat → Nat → va_E} (hm : ∀ j, j < 8 → (21, j) ∈ ids) {a1 : Int32} {c : Reg} {P : Int32 → Reg → Prop} (hs : wX6_outside a1 c P) : CT l yX6_outside cX6_outside 3 (some .int) { frames := 2, cells := 0, slots := 0, locals := 45 } Λ B ids ad (va_up w 21 (mdSh Λ ad c)) [.ref (ad 21 0), .int a1] (Ri ids ad w 21 (mdSh Λ ad) P) := by
  refine CT.of RX6 [(0, .ref (ad 21 0)), (1, .int a1)] (plainFor_of_name (by decide +kernel)) rfl (Nat.le_of_ble_eq_true rfl) rfl (fun Γ hO hF => ?_)
  have b13 : ∀ (s0 : Int32) (c : Reg), wX6_outside_L13 a1 P s0 c → G Γ ids ad 0 0 (va_up w 21 (mdSh Λ ad c)) 13 [(0, .ref (ad 21 0)), (1, .int a1)] [.int s0, .ref (ad 21 0)] := by
    intro s0 c hs
    unfold wX6_outside_L13 at hs
    refine KV_Ri hO (rest := []) [.int s0] (fun l => c_X6_refused hm hs) cv_X6_refused mw_888 ms_17 mw_886 (hm 0 (by decide)) cl6 (by rw [va_us]; exact (md_0 _ _ _)) rfl rfl (Nat.le_of_ble_eq_true rfl) (by decide) rfl rfl (Nat.zero_le _) (Nat.zero_le _) dX6_outside_13 ?_
    intro r3 c4 hs
    refine G_if_eq hO 21 dX6_outside_16 (by decide) (fun h6 => ?_) (fun h6 => ?_)
    · replace hs := hs.1 h6
      refine G_aload_n hO 0 dX6_outside_21 rfl rfl ?_
      refine KV_Rv hO (rest := []) [] (fun l => c_X6_note hm hs) cv_X6_note mw_1022 ms_28 mw_1020 (hm 0 (by decide)) cl6 (by rw [va_us]; exact (md_0 _ _ _)) rfl rfl (Nat.le_of_ble_eq_true rfl) (by decide) rfl rfl (Nat.zero_le _) (Nat.zero_le _) dX6_outside_22 ?_
      intro c5 hs
      refine G_aload_n hO 0 dX6_outside_25 rfl rfl ?_
      refine C_getf hO (v := .ref (ad 21 3)) cl6 6 (hm 0 (by decide)) (md_0 _ _ _) (by decide) mw_843 rfl rfl dX6_outside_26 ?_
      refine G_iconst hO 2 dX6_outside_29 (by decide) ?_
      refine C_iald hO 2 (by decide) (hm 3 (by decide)) (md_3 _ _ _) (vp_lit (by decide)) dX6_outside_30 ?_
      refine G_istore_n hO [(2, .int (c5 3 2)), (0, .ref (ad 21 0)), (1, .int a1)] dX6_outside_31 rfl (by decide) rfl ?_
      refine G_aload_n hO 1 dX6_outside_32 rfl rfl ?_
      refine C_getf hO (v := .ref (ad 21 3)) cl6 6 (hm 0 (by decide)) (md_0 _ _ _) (by decide) mw_843 rfl rfl dX6_outside_33 ?_
      refine G_iconst hO 2 dX6_outside_36 (by decide) ?_
      refine G_iload_n hO 2 dX6_outside_37 rfl rfl ?_
      refine C_iast hO (cw_md _ _) 2 (by decide) (hm 3 (by decide)) (md_3 _ _) (vp_lit (by decide)) dX6_outside_38 ?_
      refine G_iload_n hO 0 dX6_outside_39 rfl rfl ?_
      exact G_iret hO hF rfl (Nat.zero_le _) (Nat.zero_le _) dX6_outside_40 ⟨rfl, rfl, _, _, rfl, rfl, hs⟩
    · replace hs := hs.2 h6
      refine G_iconst hO 0 dX6_outside_19 (by decide) ?_
      exact G_iret hO hF rfl (Nat.zero_le _) (Nat.zero_le _) dX6_outside_20 ⟨rfl, rfl, _, _, rfl, rfl, hs⟩
  unfold wX6_outside at hs
  refine G_aload_n hO 0 dX6_outside_0 rfl rfl ?_
  refine G_iload_n hO 1 dX6_outside_1 rfl rfl ?_
  refine KS_Ni hO (rest := [.ref (ad 21 0)]) [.int a1] (fun l => c_X6_isOutside hs) cv_X6_isOutside mw_1044 mw_1043 rfl rfl (Nat.le_of_ble_eq_true rfl) (by decide) rfl rfl (Nat.zero_le _) (Nat.zero_le _) dX6_outside_2 ?_
  intro r1 hs
  refine G_if_eq hO 12 dX6_outside_5 (by decide) (fun h2 => ?_) (fun h2 => ?_)
  · replace hs := hs.1 h2
    refine G_iconst hO 1 dX6_outside_12 (by decide) ?_
    exact b13 _ _ hs
  · replace hs := hs.2 h2
    refine G_iconst hO 0 dX6_outside_8 (by decide) ?_
    refine G_goto hO 13 dX6_outside_9 (by decide) ?_
    exact b13 _ _ hs
set_option maxHeartbeats 4000000 in
set_option maxRecDepth 20000 in
theorem c_X6_pass {l : Launch} {Λ : Lay} {B : Nat} {ids : List (Nat × Nat)} {ad : Nat → Nat → Nat} {w : Nat → Nat → va_E} (hm : ∀ j, j < 8 → (21, j) ∈ ids) {a1 : Int32} {c : Reg} {P : Int32 → Reg → Prop} (hs : wX6_pass a1 c P) : CT l yX6_pass cX6_pass 2 (some .int) { frames := 8, cells := 0, slots := 0, locals := 171 } Λ B ids ad (va_up w 21 (mdSh Λ ad c)) [.ref (ad 21 0), .int a1] (Ri ids ad w 21 (mdSh Λ ad) P) := by
  refine CT.of RX6 [(0, .ref (ad 21 0)), (1, .int a1)] (plainFor_of_name (by decide +kernel)) rfl (Nat.le_of_ble_eq_true rfl) rfl (fun Γ hO hF => ?_)
  have b18 : ∀ (s0 : Int32) (c : Reg), wX6_pass_L18 a1 P s0 c → G Γ ids ad 0 0 (va_up w 21 (mdSh Λ ad c)) 18 [(0, .ref (ad 21 0)), (1, .int a1)] [.int s0, .ref (ad 21 0)] := by
    intro s0 c hs
    unfold wX6_pass_L18 at hs
    refine KV_Ri hO (rest := []) [.int s0] (fun l => c_X6_refused hm hs) cv_X6_refused mw_888 ms_17 mw_886 (hm 0 (by decide)) cl6 (by rw [va_us]; exact (md_0 _ _ _)) rfl rfl (Nat.le_of_ble_eq_true rfl) (by decide) rfl rfl (Nat.zero_le _) (Nat.zero_le _) dX6_pass_18 ?_
    intro r3 c4 hs
    refine G_if_eq hO 26 dX6_pass_21 (by decide) (fun h8 => ?_) (fun h8 => ?_)
    · replace hs := hs.1 h8
      refine G_aload_n hO 0 dX6_pass_26 rfl rfl ?_
      refine KV_Rv hO (rest := []) [] (fun l => c_X6_note hm hs) cv_X6_note mw_1022 ms_28 mw_1020 (hm 0 (by decide)) cl6 (by rw [va_us]; exact (md_0 _ _ _)) rfl rfl (Nat.le_of_ble_eq_true rfl) (by decide) rfl rfl (Nat.zero_le _) (Nat.zero_le _) dX6_pass_27 ?_
      intro c5 hs
      refine G_aload_n hO 0 dX6_pass_30 rfl rfl ?_
      refine C_getf hO (v := .ref (ad 21 3)) cl6 6 (hm 0 (by decide)) (md_0 _ _ _) (by decide) mw_843 rfl rfl dX6_pass_31 ?_
      refine G_iload_n hO 1 dX6_pass_34 rfl rfl ?_
      refine KS_Ri hO (rest := []) [.ref (ad 21 3), .int a1] (fun l => c_X6_goMinutes hm (by decide) hs) cv_X6_goMinutes mw_1054 mw_1053 rfl rfl (Nat.le_of_ble_eq_true rfl) (by decide) rfl rfl (Nat.zero_le _) (Nat.zero_le _) dX6_pass_35 ?_
      intro r6 c7 hs
      exact G_iret hO hF rfl (Nat.zero_le _) (Nat.zero_le _) dX6_pass_38 ⟨rfl, rfl, _, _, rfl, rfl, hs⟩
    · replace hs := hs.2 h8
      refine G_iconst hO 0 dX6_pass_24 (by decide) ?_
      exact G_iret hO hF rfl (Nat.zero_le _) (Nat.zero_le _) dX6_pass_25 ⟨rfl, rfl, _, _, rfl, rfl, hs⟩
  unfold wX6_pass at hs
  refine G_aload_n hO 0 dX6_pass_0 rfl rfl ?_
  refine G_iload_n hO 1 dX6_pass_1 rfl rfl ?_
  refine G_i2l hO dX6_pass_2 ?_
  refine G_lconst hO 1 dX6_pass_3 (by decide) ?_
  refine G_ldc2 hO mw_1052 dX6_pass_4 ?_
  refine KS_Ni hO (rest := [.ref (ad 21 0)]) [.long (Int32.toInt64 a1), .long 1, .long 60] (fun l => c_X6_in hs) cv_X6_in mw_884 mw_883 rfl rfl (Nat.le_of_ble_eq_true rfl) (by decide) rfl rfl (Nat.zero_le _) (Nat.zero_le _) dX6_pass_7 ?_
  intro r1 hs
  refine G_if_eq hO 17 dX6_pass_10 (by decide) (fun h2 => ?_) (fun h2 => ?_)
  · replace hs := hs.1 h2
    refine G_iconst hO 1 dX6_pass_17 (by decide) ?_
    exact b18 _ _ hs
  · replace hs := hs.2 h2
    refine G_iconst hO 0 dX6_pass_13 (by decide) ?_
    refine G_goto hO 18 dX6_pass_14 (by decide) ?_
    exact b18 _ _ hs
set_option maxHeartbeats 4000000 in
set_option maxRecDepth 20000 in
theorem c_X6_undo {l : Launch} {Λ : Lay} {B : Nat} {ids : List (Nat × Nat)} {ad : Nat → Nat → Nat} {w : Nat → Nat → va_E} (hm : ∀ j, j < 8 → (21, j) ∈ ids) {c : Reg} {P : Int32 → Reg → Prop} (hs : wX6_undo c P) : CT l yX6_undo cX6_undo 1 (some .int) { frames := 1, cells := 0, slots := 0, locals := 25 } Λ B ids ad (va_up w 21 (mdSh Λ ad c)) [.ref (ad 21 0)] (Ri ids ad w 21 (mdSh Λ ad) P) := by
  refine CT.of RX6 [(0, .ref (ad 21 0))] (plainFor_of_name (by decide +kernel)) rfl (Nat.le_of_ble_eq_true rfl) rfl (fun Γ hO hF => ?_)
  have b13 : ∀ (s0 : Int32) (c : Reg), wX6_undo_L13 P s0 c → G Γ ids ad 0 0 (va_up w 21 (mdSh Λ ad c)) 13 [(0, .ref (ad 21 0))] [.int s0, .ref (ad 21 0)] := by
    intro s0 c hs
    unfold wX6_undo_L13 at hs
    refine KV_Ri hO (rest := []) [.int s0] (fun l => c_X6_refused hm hs) cv_X6_refused mw_888 ms_17 mw_886 (hm 0 (by decide)) cl6 (by rw [va_us]; exact (md_0 _ _ _)) rfl rfl (Nat.le_of_ble_eq_true rfl) (by decide) rfl rfl (Nat.zero_le _) (Nat.zero_le _) dX6_undo_13 ?_
    intro r2 c3 hs
    refine G_if_eq hO 21 dX6_undo_16 (by decide) (fun h5 => ?_) (fun h5 => ?_)
    · replace hs := hs.1 h5
      refine G_aload_n hO 0 dX6_undo_21 rfl rfl ?_
      refine G_dup hO dX6_undo_22 rfl ?_
      refine C_getf hO (v := .int (c3 0 9)) cl6 9 (hm 0 (by decide)) (md_0 _ _ _) (by decide) mw_846 rfl rfl dX6_undo_23 ?_
      refine G_iconst hO 1 dX6_undo_26 (by decide) ?_
      refine G_isub hO dX6_undo_27 ?_
      refine C_putf hO (cw_md _ _) cl6 9 (hm 0 (by decide)) (md_0 _ _ _) (by decide) mw_846 rfl rfl rfl rfl (Nat.le_of_ble_eq_true rfl) (mdP (by decide)) dX6_undo_28 ?_
      refine G_aload_n hO 0 dX6_undo_31 rfl rfl ?_
      refine C_getf hO (v := .ref (ad 21 5)) cl6 8 (hm 0 (by decide)) (md_0 _ _ _) (by decide) mw_845 rfl rfl dX6_undo_32 ?_
      refine G_sipush hO 128 dX6_undo_35 (by decide) ?_
      refine G_aload_n hO 0 dX6_undo_38 rfl rfl ?_
      refine C_getf hO (v := .int ((cu c3 0 9 ((c3 0 9) - 1)) 0 9)) cl6 9 (hm 0 (by decide)) (md_0 _ _ _) (by decide) mw_846 rfl rfl dX6_undo_39 ?_
      refine G_imul hO dX6_undo_42 ?_
      refine G_aload_n hO 0 dX6_undo_43 rfl rfl ?_
      refine C_getf hO (v := .ref (ad 21 3)) cl6 6 (hm 0 (by decide)) (md_0 _ _ _) (by decide) mw_843 rfl rfl dX6_undo_44 ?_
      refine G_iconst hO 0 dX6_undo_47 (by decide) ?_
      refine G_sipush hO 128 dX6_undo_48 (by decide) ?_
      refine KS_Rv hO (rest := []) [.ref (ad 21 5), .int (128 * ((cu c3 0 9 ((c3 0 9) - 1)) 0 9)), .ref (ad 21 3), .int 0, .int 128] (fun l => c_X6_copy hm (by decide) (by decide) hs) cv_X6_copy mw_955 mw_954 rfl rfl (Nat.le_of_ble_eq_true rfl) (by decide) rfl rfl (Nat.zero_le _) (Nat.zero_le _) dX6_undo_51 ?_
      intro c4 hs
      refine G_aload_n hO 0 dX6_undo_54 rfl rfl ?_
      refine C_getf hO (v := .int (c4 0 9)) cl6 9 (hm 0 (by decide)) (md_0 _ _ _) (by decide) mw_846 rfl rfl dX6_undo_55 ?_
      exact G_iret hO hF rfl (Nat.zero_le _) (Nat.zero_le _) dX6_undo_58 ⟨rfl, rfl, _, _, rfl, rfl, hs⟩
    · replace hs := hs.2 h5
      refine G_iconst hO 0 dX6_undo_19 (by decide) ?_
      exact G_iret hO hF rfl (Nat.zero_le _) (Nat.zero_le _) dX6_undo_20 ⟨rfl, rfl, _, _, rfl, rfl, hs⟩
  unfold wX6_undo at hs
  refine G_aload_n hO 0 dX6_undo_0 rfl rfl ?_
  refine G_aload_n hO 0 dX6_undo_1 rfl rfl ?_
  refine C_getf hO (v := .int (c 0 9)) cl6 9 (hm 0 (by decide)) (md_0 _ _ _) (by decide) mw_846 rfl rfl dX6_undo_2 ?_
  refine G_if_ne hO 12 dX6_undo_5 (by decide) (fun h1 => ?_) (fun h1 => ?_)
  · replace hs := hs.1 h1
    refine G_iconst hO 0 dX6_undo_12 (by decide) ?_
    exact b13 _ _ hs
  · replace hs := hs.2 h1
    refine G_iconst hO 1 dX6_undo_8 (by decide) ?_
    refine G_goto hO 13 dX6_undo_9 (by decide) ?_
    exact b13 _ _ hs
set_option maxHeartbeats 4000000 in
set_option maxRecDepth 20000 in
theorem c_X6_isAhead {l : Launch} {Λ : Lay} {B : Nat} {ids : List (Nat × Nat)} {ad : Nat → Nat → Nat} {w : Nat → Nat → va_E} {a0 : Int32} {P : Int32 → Prop} (hs : wX6_isAhead a0 P) : CT l yX6_isAhead cX6_isAhead 1 (some .boolean) { frames := 1, cells := 0, slots := 0, locals := 25 } Λ B ids ad w [.int a0] (Ni ids ad w P) := by
  refine CT.of RX6 [(0, .int a0)] (plainFor_of_name (by decide +kernel)) rfl (Nat.le_of_ble_eq_true rfl) rfl (fun Γ hO hF => ?_)
  unfold wX6_isAhead at hs
  refine G_iload_n hO 0 dX6_isAhead_0 rfl rfl ?_
  refine G_i2l hO dX6_isAhead_1 ?_
  refine G_lconst hO 0 dX6_isAhead_2 (by decide) ?_
  refine G_ldc2 hO mw_1100 dX6_isAhead_3 ?_
  refine KS_Ni hO (rest := []) [.long (Int32.toInt64 a0), .long 0, .long 240] (fun l => c_X6_in hs) cv_X6_in mw_884 mw_883 rfl rfl (Nat.le_of_ble_eq_true rfl) (by decide) rfl rfl (Nat.zero_le _) (Nat.zero_le _) dX6_isAhead_6 ?_
  intro r1 hs
  have hb := hs.1.nar
  replace hs := hs.2
  exact G_zret hO hF rfl (Nat.zero_le _) (Nat.zero_le _) hb dX6_isAhead_9 ⟨rfl, rfl, rfl, _, rfl, hs⟩
set_option maxHeartbeats 4000000 in
set_option maxRecDepth 20000 in
theorem c_X6_ahead {l : Launch} {Λ : Lay} {B : Nat} {ids : List (Nat × Nat)} {ad : Nat → Nat → Nat} {w : Nat → Nat → va_E} (hm : ∀ j, j < 8 → (21, j) ∈ ids) {a1 : Int32} {a2 : Int32} {c : Reg} {P : Int32 → Reg → Prop} (hs : wX6_ahead a1 a2 c P) : CT l yX6_ahead cX6_ahead 3 (some .int) { frames := 8, cells := 0, slots := 0, locals := 171 } Λ B ids ad (va_up w 21 (mdSh Λ ad c)) [.ref (ad 21 0), .int a1, .int a2] (Ri ids ad w 21 (mdSh Λ ad) P) := by
  refine CT.of RX6 [(0, .ref (ad 21 0)), (1, .int a1), (2, .int a2)] (plainFor_of_name (by decide +kernel)) rfl (Nat.le_of_ble_eq_true rfl) rfl (fun Γ hO hF => ?_)
  have b25 : ∀ (s0 : Int32) (c : Reg), wX6_ahead_L25 a1 a2 P s0 c → G Γ ids ad 0 0 (va_up w 21 (mdSh Λ ad c)) 25 [(0, .ref (ad 21 0)), (1, .int a1), (2, .int a2)] [.int s0, .ref (ad 21 0)] := by
    intro s0 c hs
    unfold wX6_ahead_L25 at hs
    refine KV_Ri hO (rest := []) [.int s0] (fun l => c_X6_refused hm hs) cv_X6_refused mw_888 ms_17 mw_886 (hm 0 (by decide)) cl6 (by rw [va_us]; exact (md_0 _ _ _)) rfl rfl (Nat.le_of_ble_eq_true rfl) (by decide) rfl rfl (Nat.zero_le _) (Nat.zero_le _) dX6_ahead_25 ?_
    intro r6 c7 hs
    refine G_if_eq hO 33 dX6_ahead_28 (by decide) (fun h13 => ?_) (fun h13 => ?_)
    · replace hs := hs.1 h13
      refine G_aload_n hO 0 dX6_ahead_33 rfl rfl ?_
      refine KV_Rv hO (rest := []) [] (fun l => c_X6_begin hm hs) cv_X6_begin mw_1103 ms_29 mw_1101 (hm 0 (by decide)) cl6 (by rw [va_us]; exact (md_0 _ _ _)) rfl rfl (Nat.le_of_ble_eq_true rfl) (by decide) rfl rfl (Nat.zero_le _) (Nat.zero_le _) dX6_ahead_34 ?_
      intro c8 hs
      refine G_aload_n hO 0 dX6_ahead_37 rfl rfl ?_
      refine C_getf hO (v := .ref (ad 21 4)) cl6 7 (hm 0 (by decide)) (md_0 _ _ _) (by decide) mw_844 rfl rfl dX6_ahead_38 ?_
      refine G_iload_n hO 2 dX6_ahead_41 rfl rfl ?_
      refine KS_Ri hO (rest := []) [.ref (ad 21 4), .int a2] (fun l => c_X6_goMinutes hm (by decide) hs) cv_X6_goMinutes mw_1054 mw_1053 rfl rfl (Nat.le_of_ble_eq_true rfl) (by decide) rfl rfl (Nat.zero_le _) (Nat.zero_le _) dX6_ahead_42 ?_
      intro r9 c10 hs
      refine G_pop hO dX6_ahead_45 rfl ?_
      refine G_aload_n hO 0 dX6_ahead_46 rfl rfl ?_
      refine C_getf hO (v := .ref (ad 21 4)) cl6 7 (hm 0 (by decide)) (md_0 _ _ _) (by decide) mw_844 rfl rfl dX6_ahead_47 ?_
      refine G_iload_n hO 1 dX6_ahead_50 rfl rfl ?_
      refine KS_Ri hO (rest := []) [.ref (ad 21 4), .int a1] (fun l => c_X6_degrees hm (by decide) hs) cv_X6_degrees mw_986 mw_985 rfl rfl (Nat.le_of_ble_eq_true rfl) (by decide) rfl rfl (Nat.zero_le _) (Nat.zero_le _) dX6_ahead_51 ?_
      intro r11 c12 hs
      exact G_iret hO hF rfl (Nat.zero_le _) (Nat.zero_le _) dX6_ahead_54 ⟨rfl, rfl, _, _, rfl, rfl, hs⟩
    · replace hs := hs.2 h13
      refine G_iconst hO 0 dX6_ahead_31 (by decide) ?_
      exact G_iret hO hF rfl (Nat.zero_le _) (Nat.zero_le _) dX6_ahead_32 ⟨rfl, rfl, _, _, rfl, rfl, hs⟩
  unfold wX6_ahead at hs
  refine G_aload_n hO 0 dX6_ahead_0 rfl rfl ?_
  refine G_aload_n hO 0 dX6_ahead_1 rfl rfl ?_
  refine G_iload_n hO 1 dX6_ahead_2 rfl rfl ?_
  refine KV_Ri hO (rest := [.ref (ad 21 0)]) [.int a1] (fun l => c_X6_isWarmPlace hm hs) cv_X6_isWarmPlace mw_982 ms_26 mw_980 (hm 0 (by decide)) cl6 (by rw [va_us]; exact (md_0 _ _ _)) rfl rfl (Nat.le_of_ble_eq_true rfl) (by decide) rfl rfl (Nat.zero_le _) (Nat.zero_le _) dX6_ahead_3 ?_
  intro r1 c2 hs
  refine G_if_ne hO 13 dX6_ahead_6 (by decide) (fun h5 => ?_) (fun h5 => ?_)
  · replace hs := hs.1 h5
    refine G_iload_n hO 2 dX6_ahead_13 rfl rfl ?_
    refine KS_Ni hO (rest := [.ref (ad 21 0)]) [.int a2] (fun l => c_X6_isAhead hs) cv_X6_isAhead mw_1098 mw_1097 rfl rfl (Nat.le_of_ble_eq_true rfl) (by decide) rfl rfl (Nat.zero_le _) (Nat.zero_le _) dX6_ahead_14 ?_
    intro r3 hs
    refine G_if_eq hO 24 dX6_ahead_17 (by decide) (fun h4 => ?_) (fun h4 => ?_)
    · replace hs := hs.1 h4
      refine G_iconst hO 2 dX6_ahead_24 (by decide) ?_
      exact b25 _ _ hs
    · replace hs := hs.2 h4
      refine G_iconst hO 0 dX6_ahead_20 (by decide) ?_
      refine G_goto hO 25 dX6_ahead_21 (by decide) ?_
      exact b25 _ _ hs
  · replace hs := hs.2 h5
    refine G_iconst hO 1 dX6_ahead_9 (by decide) ?_
    refine G_goto hO 25 dX6_ahead_10 (by decide) ?_
    exact b25 _ _ hs
set_option maxHeartbeats 4000000 in
set_option maxRecDepth 20000 in
theorem c_X6_minutesTo {l : Launch} {Λ : Lay} {B : Nat} {ids : List (Nat × Nat)} {ad : Nat → Nat → Nat} {w : Nat → Nat → va_E} (hm : ∀ j, j < 8 → (21, j) ∈ ids) {a1 : Int32} {c : Reg} {P : Int32 → Reg → Prop} (hs : wX6_minutesTo a1 c P) : CT l yX6_minutesTo cX6_minutesTo 3 (some .int) { frames := 7, cells := 0, slots := 0, locals := 148 } Λ B ids ad (va_up w 21 (mdSh Λ ad c)) [.ref (ad 21 0), .int a1] (Ri ids ad w 21 (mdSh Λ ad) P) := by
  refine CT.of RX6 [(0, .ref (ad 21 0)), (1, .int a1)] (plainFor_of_name (by decide +kernel)) rfl (Nat.le_of_ble_eq_true rfl) rfl (fun Γ hO hF => ?_)
  have b28 : ∀ (N28 : Nat) (v2 : Int32) (c : Reg), wX6_minutesTo_L28 a1 P N28 v2 c → G Γ ids ad 0 0 (va_up w 21 (mdSh Λ ad c)) 28 [(0, .ref (ad 21 0)), (1, .int a1), (2, .int v2)] [] := by
    intro N28
    induction N28 with
    | zero => intro v2 c hs; exact False.elim hs
    | succ N28 ih28 =>
      intro v2 c hs
      unfold wX6_minutesTo_L28 at hs
      refine G_iload_n hO 2 dX6_minutesTo_28 rfl rfl ?_
      refine G_sipush hO 240 dX6_minutesTo_29 (by decide) ?_
      refine G_icmp_gt hO 74 dX6_minutesTo_32 (by decide) (fun h15 => ?_) (fun h15 => ?_)
      · replace hs := hs.1 h15
        refine G_ldc hO mw_914 dX6_minutesTo_74 ?_
        exact G_iret hO hF rfl (Nat.zero_le _) (Nat.zero_le _) dX6_minutesTo_76 ⟨rfl, rfl, _, _, rfl, rfl, hs⟩
      · replace hs := hs.2 h15
        refine G_aload_n hO 0 dX6_minutesTo_35 rfl rfl ?_
        refine C_getf hO (v := .ref (ad 21 4)) cl6 7 (hm 0 (by decide)) (md_0 _ _ _) (by decide) mw_844 rfl rfl dX6_minutesTo_36 ?_
        refine G_iconst hO 2 dX6_minutesTo_39 (by decide) ?_
        refine G_iload_n hO 1 dX6_minutesTo_40 rfl rfl ?_
        refine G_iadd hO dX6_minutesTo_41 ?_
        refine KS_Ri hO (rest := []) [.ref (ad 21 4), .int (2 + a1)] (fun l => c_X6_degrees hm (by decide) hs) cv_X6_degrees mw_986 mw_985 rfl rfl (Nat.le_of_ble_eq_true rfl) (by decide) rfl rfl (Nat.zero_le _) (Nat.zero_le _) dX6_minutesTo_42 ?_
        intro r9 c10 hs
        refine G_aload_n hO 0 dX6_minutesTo_45 rfl rfl ?_
        refine C_getf hO (v := .ref (ad 21 4)) cl6 7 (hm 0 (by decide)) (md_0 _ _ _) (by decide) mw_844 rfl rfl dX6_minutesTo_46 ?_
        refine G_iload_n hO 1 dX6_minutesTo_49 rfl rfl ?_
        refine G_iconst hO 1 dX6_minutesTo_50 (by decide) ?_
        refine KS_Ni hO (rest := [.ref (ad 21 4), .int r9]) [.int a1, .int 1] (fun l => c_X6_cell hs) cv_X6_cell mw_928 mw_927 rfl rfl (Nat.le_of_ble_eq_true rfl) (by decide) rfl rfl (Nat.zero_le _) (Nat.zero_le _) dX6_minutesTo_51 ?_
        intro r11 hs
        refine C_iald hO _ rfl (hm 4 (by decide)) (md_4 _ _ _) hs.1 dX6_minutesTo_54 ?_
        replace hs := hs.2
        refine G_icmp_lt hO 60 dX6_minutesTo_55 (by decide) (fun h14 => ?_) (fun h14 => ?_)
        · replace hs := hs.1 h14
          refine G_aload_n hO 0 dX6_minutesTo_60 rfl rfl ?_
          refine C_getf hO (v := .ref (ad 21 4)) cl6 7 (hm 0 (by decide)) (md_0 _ _ _) (by decide) mw_844 rfl rfl dX6_minutesTo_61 ?_
          refine KS_Ri hO (rest := []) [.ref (ad 21 4)] (fun l => c_X6_goMinute hm (by decide) hs) cv_X6_goMinute mw_1057 mw_1056 rfl rfl (Nat.le_of_ble_eq_true rfl) (by decide) rfl rfl (Nat.zero_le _) (Nat.zero_le _) dX6_minutesTo_64 ?_
          intro r12 c13 hs
          refine G_pop hO dX6_minutesTo_67 rfl ?_
          refine G_iinc hO 2 (v2 + 1) [(2, .int (v2 + 1)), (0, .ref (ad 21 0)), (1, .int a1)] dX6_minutesTo_68 rfl rfl (by decide) rfl ?_
          refine G_goto hO 28 dX6_minutesTo_71 (by decide) ?_
          refine G_lv hO [(0, .ref (ad 21 0)), (1, .int a1), (2, .int (v2 + 1))] [1, 2, 0] rfl ?_
          exact ih28 _ _ hs
        · replace hs := hs.2 h14
          refine G_iload_n hO 2 dX6_minutesTo_58 rfl rfl ?_
          exact G_iret hO hF rfl (Nat.zero_le _) (Nat.zero_le _) dX6_minutesTo_59 ⟨rfl, rfl, _, _, rfl, rfl, hs⟩
  have b14 : ∀ (s0 : Int32) (c : Reg), wX6_minutesTo_L14 a1 P s0 c → G Γ ids ad 0 0 (va_up w 21 (mdSh Λ ad c)) 14 [(0, .ref (ad 21 0)), (1, .int a1)] [.int s0, .ref (ad 21 0)] := by
    intro s0 c hs
    unfold wX6_minutesTo_L14 at hs
    refine KV_Ri hO (rest := []) [.int s0] (fun l => c_X6_refused hm hs) cv_X6_refused mw_888 ms_17 mw_886 (hm 0 (by decide)) cl6 (by rw [va_us]; exact (md_0 _ _ _)) rfl rfl (Nat.le_of_ble_eq_true rfl) (by decide) rfl rfl (Nat.zero_le _) (Nat.zero_le _) dX6_minutesTo_14 ?_
    intro r4 c5 hs
    refine G_if_eq hO 22 dX6_minutesTo_17 (by decide) (fun h8 => ?_) (fun h8 => ?_)
    · replace hs := hs.1 h8
      refine G_aload_n hO 0 dX6_minutesTo_22 rfl rfl ?_
      refine KV_Rv hO (rest := []) [] (fun l => c_X6_begin hm hs) cv_X6_begin mw_1103 ms_29 mw_1101 (hm 0 (by decide)) cl6 (by rw [va_us]; exact (md_0 _ _ _)) rfl rfl (Nat.le_of_ble_eq_true rfl) (by decide) rfl rfl (Nat.zero_le _) (Nat.zero_le _) dX6_minutesTo_23 ?_
      intro c6 hs
      refine G_iconst hO 0 dX6_minutesTo_26 (by decide) ?_
      refine G_istore_n hO [(2, .int 0), (0, .ref (ad 21 0)), (1, .int a1)] dX6_minutesTo_27 rfl (by decide) rfl ?_
      obtain ⟨Nf7, hs⟩ := hs
      refine G_lv hO [(0, .ref (ad 21 0)), (1, .int a1), (2, .int 0)] [1, 2, 0] rfl ?_
      exact b28 Nf7 _ _ hs
    · replace hs := hs.2 h8
      refine G_iconst hO 0 dX6_minutesTo_20 (by decide) ?_
      exact G_iret hO hF rfl (Nat.zero_le _) (Nat.zero_le _) dX6_minutesTo_21 ⟨rfl, rfl, _, _, rfl, rfl, hs⟩
  unfold wX6_minutesTo at hs
  refine G_aload_n hO 0 dX6_minutesTo_0 rfl rfl ?_
  refine G_aload_n hO 0 dX6_minutesTo_1 rfl rfl ?_
  refine G_iload_n hO 1 dX6_minutesTo_2 rfl rfl ?_
  refine KV_Ri hO (rest := [.ref (ad 21 0)]) [.int a1] (fun l => c_X6_isRoom hm hs) cv_X6_isRoom mw_1000 ms_27 mw_998 (hm 0 (by decide)) cl6 (by rw [va_us]; exact (md_0 _ _ _)) rfl rfl (Nat.le_of_ble_eq_true rfl) (by decide) rfl rfl (Nat.zero_le _) (Nat.zero_le _) dX6_minutesTo_3 ?_
  intro r1 c2 hs
  refine G_if_eq hO 13 dX6_minutesTo_6 (by decide) (fun h3 => ?_) (fun h3 => ?_)
  · replace hs := hs.1 h3
    refine G_iconst hO 1 dX6_minutesTo_13 (by decide) ?_
    exact b14 _ _ hs
  · replace hs := hs.2 h3
    refine G_iconst hO 0 dX6_minutesTo_9 (by decide) ?_
    refine G_goto hO 14 dX6_minutesTo_10 (by decide) ?_
    exact b14 _ _ hs
set_option maxHeartbeats 4000000 in
set_option maxRecDepth 20000 in
theorem c_X6_whyOff {l : Launch} {Λ : Lay} {B : Nat} {ids : List (Nat × Nat)} {ad : Nat → Nat → Nat} {w : Nat → Nat → va_E} (hm : ∀ j, j < 8 → (21, j) ∈ ids) {c : Reg} {P : Int32 → Reg → Prop} (hs : wX6_whyOff c P) : CT l yX6_whyOff cX6_whyOff 1 (some .int) { frames := 4, cells := 0, slots := 0, locals := 86 } Λ B ids ad (va_up w 21 (mdSh Λ ad c)) [.ref (ad 21 0)] (Ri ids ad w 21 (mdSh Λ ad) P) := by
  refine CT.of RX6 [(0, .ref (ad 21 0))] (plainFor_of_name (by decide +kernel)) rfl (Nat.le_of_ble_eq_true rfl) rfl (fun Γ hO hF => ?_)
  unfold wX6_whyOff at hs
  refine G_aload_n hO 0 dX6_whyOff_0 rfl rfl ?_
  refine G_iconst hO 0 dX6_whyOff_1 (by decide) ?_
  refine C_putf hO (cw_md _ _) cl6 0 (hm 0 (by decide)) (md_0 _ _ _) (by decide) mw_837 rfl rfl rfl rfl (Nat.le_of_ble_eq_true rfl) (mdP (by decide)) dX6_whyOff_2 ?_
  refine G_aload_n hO 0 dX6_whyOff_5 rfl rfl ?_
  refine KV_Rv hO (rest := []) [] (fun l => c_X6_begin hm hs) cv_X6_begin mw_1103 ms_29 mw_1101 (hm 0 (by decide)) cl6 (by rw [va_us]; exact (md_0 _ _ _)) rfl rfl (Nat.le_of_ble_eq_true rfl) (by decide) rfl rfl (Nat.zero_le _) (Nat.zero_le _) dX6_whyOff_6 ?_
  intro c1 hs
  refine G_aload_n hO 0 dX6_whyOff_9 rfl rfl ?_
  refine C_getf hO (v := .ref (ad 21 4)) cl6 7 (hm 0 (by decide)) (md_0 _ _ _) (by decide) mw_844 rfl rfl dX6_whyOff_10 ?_
  refine KS_Rv hO (rest := []) [.ref (ad 21 4)] (fun l => c_X6_goSeason hm (by decide) hs) cv_X6_goSeason mw_1060 mw_1059 rfl rfl (Nat.le_of_ble_eq_true rfl) (by decide) rfl rfl (Nat.zero_le _) (Nat.zero_le _) dX6_whyOff_13 ?_
  intro c2 hs
  refine G_aload_n hO 0 dX6_whyOff_16 rfl rfl ?_
  refine C_getf hO (v := .ref (ad 21 4)) cl6 7 (hm 0 (by decide)) (md_0 _ _ _) (by decide) mw_844 rfl rfl dX6_whyOff_17 ?_
  refine KS_Rv hO (rest := []) [.ref (ad 21 4)] (fun l => c_X6_goBoiler hm (by decide) hs) cv_X6_goBoiler mw_1063 mw_1062 rfl rfl (Nat.le_of_ble_eq_true rfl) (by decide) rfl rfl (Nat.zero_le _) (Nat.zero_le _) dX6_whyOff_20 ?_
  intro c3 hs
  refine G_aload_n hO 0 dX6_whyOff_23 rfl rfl ?_
  refine C_getf hO (v := .ref (ad 21 4)) cl6 7 (hm 0 (by decide)) (md_0 _ _ _) (by decide) mw_844 rfl rfl dX6_whyOff_24 ?_
  refine G_iconst hO 3 dX6_whyOff_27 (by decide) ?_
  refine C_iald hO 3 (by decide) (hm 4 (by decide)) (md_4 _ _ _) (vp_lit (by decide)) dX6_whyOff_28 ?_
  refine G_iconst hO 1 dX6_whyOff_29 (by decide) ?_
  refine G_icmp_ne hO 35 dX6_whyOff_30 (by decide) (fun h9 => ?_) (fun h9 => ?_)
  · replace hs := hs.1 h9
    refine G_aload_n hO 0 dX6_whyOff_35 rfl rfl ?_
    refine C_getf hO (v := .ref (ad 21 4)) cl6 7 (hm 0 (by decide)) (md_0 _ _ _) (by decide) mw_844 rfl rfl dX6_whyOff_36 ?_
    refine G_bipush hO 6 dX6_whyOff_39 (by decide) ?_
    refine C_iald hO 6 (by decide) (hm 4 (by decide)) (md_4 _ _ _) (vp_lit (by decide)) dX6_whyOff_41 ?_
    refine G_iconst hO 1 dX6_whyOff_42 (by decide) ?_
    refine G_icmp_ne hO 50 dX6_whyOff_43 (by decide) (fun h8 => ?_) (fun h8 => ?_)
    · replace hs := hs.1 h8
      refine G_aload_n hO 0 dX6_whyOff_50 rfl rfl ?_
      refine C_getf hO (v := .ref (ad 21 4)) cl6 7 (hm 0 (by decide)) (md_0 _ _ _) (by decide) mw_844 rfl rfl dX6_whyOff_51 ?_
      refine G_iconst hO 0 dX6_whyOff_54 (by decide) ?_
      refine KS_Ri hO (rest := []) [.ref (ad 21 4), .int 0] (fun l => c_X6_degrees hm (by decide) hs) cv_X6_degrees mw_986 mw_985 rfl rfl (Nat.le_of_ble_eq_true rfl) (by decide) rfl rfl (Nat.zero_le _) (Nat.zero_le _) dX6_whyOff_55 ?_
      intro r4 c5 hs
      refine G_aload_n hO 0 dX6_whyOff_58 rfl rfl ?_
      refine C_getf hO (v := .ref (ad 21 4)) cl6 7 (hm 0 (by decide)) (md_0 _ _ _) (by decide) mw_844 rfl rfl dX6_whyOff_59 ?_
      refine G_bipush hO 10 dX6_whyOff_62 (by decide) ?_
      refine C_iald hO 10 (by decide) (hm 4 (by decide)) (md_4 _ _ _) (vp_lit (by decide)) dX6_whyOff_64 ?_
      refine G_icmp_lt hO 72 dX6_whyOff_65 (by decide) (fun h7 => ?_) (fun h7 => ?_)
      · replace hs := hs.1 h7
        refine G_aload_n hO 0 dX6_whyOff_72 rfl rfl ?_
        refine C_getf hO (v := .ref (ad 21 4)) cl6 7 (hm 0 (by decide)) (md_0 _ _ _) (by decide) mw_844 rfl rfl dX6_whyOff_73 ?_
        refine G_bipush hO 9 dX6_whyOff_76 (by decide) ?_
        refine C_iald hO 9 (by decide) (hm 4 (by decide)) (md_4 _ _ _) (vp_lit (by decide)) dX6_whyOff_78 ?_
        refine G_if_ne hO 86 dX6_whyOff_79 (by decide) (fun h6 => ?_) (fun h6 => ?_)
        · replace hs := hs.1 h6
          refine G_iconst hO 4 dX6_whyOff_86 (by decide) ?_
          exact G_iret hO hF rfl (Nat.zero_le _) (Nat.zero_le _) dX6_whyOff_87 ⟨rfl, rfl, _, _, rfl, rfl, hs⟩
        · replace hs := hs.2 h6
          refine G_iconst hO 3 dX6_whyOff_82 (by decide) ?_
          refine G_goto hO 87 dX6_whyOff_83 (by decide) ?_
          exact G_iret hO hF rfl (Nat.zero_le _) (Nat.zero_le _) dX6_whyOff_87 ⟨rfl, rfl, _, _, rfl, rfl, hs⟩
      · replace hs := hs.2 h7
        refine G_iconst hO 2 dX6_whyOff_68 (by decide) ?_
        refine G_goto hO 87 dX6_whyOff_69 (by decide) ?_
        exact G_iret hO hF rfl (Nat.zero_le _) (Nat.zero_le _) dX6_whyOff_87 ⟨rfl, rfl, _, _, rfl, rfl, hs⟩
    · replace hs := hs.2 h8
      refine G_iconst hO 1 dX6_whyOff_46 (by decide) ?_
      refine G_goto hO 87 dX6_whyOff_47 (by decide) ?_
      exact G_iret hO hF rfl (Nat.zero_le _) (Nat.zero_le _) dX6_whyOff_87 ⟨rfl, rfl, _, _, rfl, rfl, hs⟩
  · replace hs := hs.2 h9
    refine G_iconst hO 0 dX6_whyOff_33 (by decide) ?_
    exact G_iret hO hF rfl (Nat.zero_le _) (Nat.zero_le _) dX6_whyOff_34 ⟨rfl, rfl, _, _, rfl, rfl, hs⟩
set_option maxHeartbeats 4000000 in
set_option maxRecDepth 20000 in
theorem c_X6_whyShare {l : Launch} {Λ : Lay} {B : Nat} {ids : List (Nat × Nat)} {ad : Nat → Nat → Nat} {w : Nat → Nat → va_E} (hm : ∀ j, j < 8 → (21, j) ∈ ids) {c : Reg} {P : Int32 → Reg → Prop} (hs : wX6_whyShare c P) : CT l yX6_whyShare cX6_whyShare 3 (some .int) { frames := 6, cells := 0, slots := 0, locals := 126 } Λ B ids ad (va_up w 21 (mdSh Λ ad c)) [.ref (ad 21 0)] (Ri ids ad w 21 (mdSh Λ ad) P) := by
  refine CT.of RX6 [(0, .ref (ad 21 0))] (plainFor_of_name (by decide +kernel)) rfl (Nat.le_of_ble_eq_true rfl) rfl (fun Γ hO hF => ?_)
  unfold wX6_whyShare at hs
  refine G_aload_n hO 0 dX6_whyShare_0 rfl rfl ?_
  refine G_iconst hO 0 dX6_whyShare_1 (by decide) ?_
  refine C_putf hO (cw_md _ _) cl6 0 (hm 0 (by decide)) (md_0 _ _ _) (by decide) mw_837 rfl rfl rfl rfl (Nat.le_of_ble_eq_true rfl) (mdP (by decide)) dX6_whyShare_2 ?_
  refine G_aload_n hO 0 dX6_whyShare_5 rfl rfl ?_
  refine KV_Rv hO (rest := []) [] (fun l => c_X6_begin hm hs) cv_X6_begin mw_1103 ms_29 mw_1101 (hm 0 (by decide)) cl6 (by rw [va_us]; exact (md_0 _ _ _)) rfl rfl (Nat.le_of_ble_eq_true rfl) (by decide) rfl rfl (Nat.zero_le _) (Nat.zero_le _) dX6_whyShare_6 ?_
  intro c1 hs
  refine G_aload_n hO 0 dX6_whyShare_9 rfl rfl ?_
  refine C_getf hO (v := .ref (ad 21 4)) cl6 7 (hm 0 (by decide)) (md_0 _ _ _) (by decide) mw_844 rfl rfl dX6_whyShare_10 ?_
  refine KS_Rv hO (rest := []) [.ref (ad 21 4)] (fun l => c_X6_goSeason hm (by decide) hs) cv_X6_goSeason mw_1060 mw_1059 rfl rfl (Nat.le_of_ble_eq_true rfl) (by decide) rfl rfl (Nat.zero_le _) (Nat.zero_le _) dX6_whyShare_13 ?_
  intro c2 hs
  refine G_aload_n hO 0 dX6_whyShare_16 rfl rfl ?_
  refine C_getf hO (v := .ref (ad 21 4)) cl6 7 (hm 0 (by decide)) (md_0 _ _ _) (by decide) mw_844 rfl rfl dX6_whyShare_17 ?_
  refine KS_Rv hO (rest := []) [.ref (ad 21 4)] (fun l => c_X6_goBoiler hm (by decide) hs) cv_X6_goBoiler mw_1063 mw_1062 rfl rfl (Nat.le_of_ble_eq_true rfl) (by decide) rfl rfl (Nat.zero_le _) (Nat.zero_le _) dX6_whyShare_20 ?_
  intro c3 hs
  refine G_aload_n hO 0 dX6_whyShare_23 rfl rfl ?_
  refine C_getf hO (v := .ref (ad 21 4)) cl6 7 (hm 0 (by decide)) (md_0 _ _ _) (by decide) mw_844 rfl rfl dX6_whyShare_24 ?_
  refine KS_Ri hO (rest := []) [.ref (ad 21 4)] (fun l => c_X6_freeTarget hm (by decide) hs) cv_X6_freeTarget mw_1075 mw_1074 rfl rfl (Nat.le_of_ble_eq_true rfl) (by decide) rfl rfl (Nat.zero_le _) (Nat.zero_le _) dX6_whyShare_27 ?_
  intro r4 c5 hs
  refine G_istore_n hO [(1, .int r4), (0, .ref (ad 21 0))] dX6_whyShare_30 rfl (by decide) rfl ?_
  refine G_aload_n hO 1 dX6_whyShare_31 rfl rfl ?_
  refine C_getf hO (v := .ref (ad 21 4)) cl6 7 (hm 0 (by decide)) (md_0 _ _ _) (by decide) mw_844 rfl rfl dX6_whyShare_32 ?_
  refine KS_Ri hO (rest := []) [.ref (ad 21 4)] (fun l => c_X6_isPinched hm (by decide) hs) cv_X6_isPinched mw_1072 mw_1071 rfl rfl (Nat.le_of_ble_eq_true rfl) (by decide) rfl rfl (Nat.zero_le _) (Nat.zero_le _) dX6_whyShare_35 ?_
  intro r6 c7 hs
  refine G_istore_n hO [(2, .int r6), (1, .int r4), (0, .ref (ad 21 0))] dX6_whyShare_38 rfl (by decide) rfl ?_
  refine G_aload_n hO 2 dX6_whyShare_39 rfl rfl ?_
  refine C_getf hO (v := .ref (ad 21 4)) cl6 7 (hm 0 (by decide)) (md_0 _ _ _) (by decide) mw_844 rfl rfl dX6_whyShare_40 ?_
  refine KS_Rv hO (rest := []) [.ref (ad 21 4)] (fun l => c_X6_goValve hm (by decide) hs) cv_X6_goValve mw_1069 mw_1068 rfl rfl (Nat.le_of_ble_eq_true rfl) (by decide) rfl rfl (Nat.zero_le _) (Nat.zero_le _) dX6_whyShare_43 ?_
  intro c8 hs
  refine G_aload_n hO 2 dX6_whyShare_46 rfl rfl ?_
  refine C_getf hO (v := .ref (ad 21 4)) cl6 7 (hm 0 (by decide)) (md_0 _ _ _) (by decide) mw_844 rfl rfl dX6_whyShare_47 ?_
  refine G_iconst hO 5 dX6_whyShare_50 (by decide) ?_
  refine C_iald hO 5 (by decide) (hm 4 (by decide)) (md_4 _ _ _) (vp_lit (by decide)) dX6_whyShare_51 ?_
  refine G_bipush hO 100 dX6_whyShare_52 (by decide) ?_
  refine G_icmp_ne hO 59 dX6_whyShare_54 (by decide) (fun h13 => ?_) (fun h13 => ?_)
  · replace hs := hs.1 h13
    refine G_aload_n hO 2 dX6_whyShare_59 rfl rfl ?_
    refine C_getf hO (v := .ref (ad 21 4)) cl6 7 (hm 0 (by decide)) (md_0 _ _ _) (by decide) mw_844 rfl rfl dX6_whyShare_60 ?_
    refine G_bipush hO 6 dX6_whyShare_63 (by decide) ?_
    refine C_iald hO 6 (by decide) (hm 4 (by decide)) (md_4 _ _ _) (vp_lit (by decide)) dX6_whyShare_65 ?_
    refine G_iconst hO 1 dX6_whyShare_66 (by decide) ?_
    refine G_icmp_ne hO 74 dX6_whyShare_67 (by decide) (fun h12 => ?_) (fun h12 => ?_)
    · replace hs := hs.1 h12
      refine G_iload_n hO 1 dX6_whyShare_74 rfl rfl ?_
      refine G_if_ne hO 82 dX6_whyShare_75 (by decide) (fun h11 => ?_) (fun h11 => ?_)
      · replace hs := hs.1 h11
        refine G_iload_n hO 0 dX6_whyShare_82 rfl rfl ?_
        refine G_if_eq hO 90 dX6_whyShare_83 (by decide) (fun h10 => ?_) (fun h10 => ?_)
        · replace hs := hs.1 h10
          refine G_iload_n hO 1 dX6_whyShare_90 rfl rfl ?_
          refine G_bipush hO 100 dX6_whyShare_91 (by decide) ?_
          refine G_icmp_ge hO 100 dX6_whyShare_93 (by decide) (fun h9 => ?_) (fun h9 => ?_)
          · replace hs := hs.1 h9
            refine G_iconst hO 5 dX6_whyShare_100 (by decide) ?_
            exact G_iret hO hF rfl (Nat.zero_le _) (Nat.zero_le _) dX6_whyShare_101 ⟨rfl, rfl, _, _, rfl, rfl, hs⟩
          · replace hs := hs.2 h9
            refine G_iconst hO 4 dX6_whyShare_96 (by decide) ?_
            refine G_goto hO 101 dX6_whyShare_97 (by decide) ?_
            exact G_iret hO hF rfl (Nat.zero_le _) (Nat.zero_le _) dX6_whyShare_101 ⟨rfl, rfl, _, _, rfl, rfl, hs⟩
        · replace hs := hs.2 h10
          refine G_iconst hO 3 dX6_whyShare_86 (by decide) ?_
          refine G_goto hO 101 dX6_whyShare_87 (by decide) ?_
          exact G_iret hO hF rfl (Nat.zero_le _) (Nat.zero_le _) dX6_whyShare_101 ⟨rfl, rfl, _, _, rfl, rfl, hs⟩
      · replace hs := hs.2 h11
        refine G_iconst hO 2 dX6_whyShare_78 (by decide) ?_
        refine G_goto hO 101 dX6_whyShare_79 (by decide) ?_
        exact G_iret hO hF rfl (Nat.zero_le _) (Nat.zero_le _) dX6_whyShare_101 ⟨rfl, rfl, _, _, rfl, rfl, hs⟩
    · replace hs := hs.2 h12
      refine G_iconst hO 1 dX6_whyShare_70 (by decide) ?_
      refine G_goto hO 101 dX6_whyShare_71 (by decide) ?_
      exact G_iret hO hF rfl (Nat.zero_le _) (Nat.zero_le _) dX6_whyShare_101 ⟨rfl, rfl, _, _, rfl, rfl, hs⟩
  · replace hs := hs.2 h13
    refine G_iconst hO 0 dX6_whyShare_57 (by decide) ?_
    exact G_iret hO hF rfl (Nat.zero_le _) (Nat.zero_le _) dX6_whyShare_58 ⟨rfl, rfl, _, _, rfl, rfl, hs⟩
set_option maxHeartbeats 4000000 in
set_option maxRecDepth 20000 in
theorem c_X6_bestSlope {l : Launch} {Λ : Lay} {B : Nat} {ids : List (Nat × Nat)} {ad : Nat → Nat → Nat} {w : Nat → Nat → va_E} (hm : ∀ j, j < 8 → (21, j) ∈ ids) {a1 : Int32} {c : Reg} {P : Int32 → Reg → Prop} (hs : wX6_bestSlope a1 c P) : CT l yX6_bestSlope cX6_bestSlope 6 (some .int) { frames := 8, cells := 0, slots := 0, locals := 171 } Λ B ids ad (va_up w 21 (mdSh Λ ad c)) [.ref (ad 21 0), .int a1] (Ri ids ad w 21 (mdSh Λ ad) P) := by
  refine CT.of RX6 [(0, .ref (ad 21 0)), (1, .int a1)] (plainFor_of_name (by decide +kernel)) rfl (Nat.le_of_ble_eq_true rfl) rfl (fun Γ hO hF => ?_)
  have b34 : ∀ (N34 : Nat) (v2 : Int32) (v3 : Int32) (v4 : Int32) (c : Reg), wX6_bestSlope_L34 a1 P N34 v2 v3 v4 c → G Γ ids ad 0 0 (va_up w 21 (mdSh Λ ad c)) 34 [(0, .ref (ad 21 0)), (1, .int a1), (2, .int v2), (3, .int v3), (4, .int v4)] [] := by
    intro N34
    induction N34 with
    | zero => intro v2 v3 v4 c hs; exact False.elim hs
    | succ N34 ih34 =>
      intro v2 v3 v4 c hs
      unfold wX6_bestSlope_L34 at hs
      refine G_iload hO 4 dX6_bestSlope_34 rfl ?_
      refine G_bipush hO 30 dX6_bestSlope_36 (by decide) ?_
      refine G_icmp_gt hO 97 dX6_bestSlope_38 (by decide) (fun h13 => ?_) (fun h13 => ?_)
      · replace hs := hs.1 h13
        refine G_iload_n hO 2 dX6_bestSlope_97 rfl rfl ?_
        exact G_iret hO hF rfl (Nat.zero_le _) (Nat.zero_le _) dX6_bestSlope_98 ⟨rfl, rfl, _, _, rfl, rfl, hs⟩
      · replace hs := hs.2 h13
        refine G_aload_n hO 0 dX6_bestSlope_41 rfl rfl ?_
        refine C_getf hO (v := .ref (ad 21 3)) cl6 6 (hm 0 (by decide)) (md_0 _ _ _) (by decide) mw_843 rfl rfl dX6_bestSlope_42 ?_
        refine G_iconst hO 0 dX6_bestSlope_45 (by decide) ?_
        refine C_iald hO 0 (by decide) (hm 3 (by decide)) (md_3 _ _ _) (vp_lit (by decide)) dX6_bestSlope_46 ?_
        refine G_if_le hO 97 dX6_bestSlope_47 (by decide) (fun h12 => ?_) (fun h12 => ?_)
        · replace hs := hs.1 h12
          refine G_iload_n hO 2 dX6_bestSlope_97 rfl rfl ?_
          exact G_iret hO hF rfl (Nat.zero_le _) (Nat.zero_le _) dX6_bestSlope_98 ⟨rfl, rfl, _, _, rfl, rfl, hs⟩
        · replace hs := hs.2 h12
          refine G_aload_n hO 0 dX6_bestSlope_50 rfl rfl ?_
          refine KV_Rv hO (rest := []) [] (fun l => c_X6_begin hm hs) cv_X6_begin mw_1103 ms_29 mw_1101 (hm 0 (by decide)) cl6 (by rw [va_us]; exact (md_0 _ _ _)) rfl rfl (Nat.le_of_ble_eq_true rfl) (by decide) rfl rfl (Nat.zero_le _) (Nat.zero_le _) dX6_bestSlope_51 ?_
          intro c7 hs
          refine G_aload_n hO 0 dX6_bestSlope_54 rfl rfl ?_
          refine C_getf hO (v := .ref (ad 21 4)) cl6 7 (hm 0 (by decide)) (md_0 _ _ _) (by decide) mw_844 rfl rfl dX6_bestSlope_55 ?_
          refine G_bipush hO 13 dX6_bestSlope_58 (by decide) ?_
          refine G_iload hO 4 dX6_bestSlope_60 rfl ?_
          refine C_iast hO (cw_md _ _) 13 (by decide) (hm 4 (by decide)) (md_4 _ _) (vp_lit (by decide)) dX6_bestSlope_62 ?_
          refine G_aload_n hO 0 dX6_bestSlope_63 rfl rfl ?_
          refine C_getf hO (v := .ref (ad 21 4)) cl6 7 (hm 0 (by decide)) (md_0 _ _ _) (by decide) mw_844 rfl rfl dX6_bestSlope_64 ?_
          refine G_iload_n hO 1 dX6_bestSlope_67 rfl rfl ?_
          refine KS_Ri hO (rest := []) [.ref (ad 21 4), .int a1] (fun l => c_X6_goMinutes hm (by decide) hs) cv_X6_goMinutes mw_1054 mw_1053 rfl rfl (Nat.le_of_ble_eq_true rfl) (by decide) rfl rfl (Nat.zero_le _) (Nat.zero_le _) dX6_bestSlope_68 ?_
          intro r8 c9 hs
          refine G_istore hO [(5, .int r8), (0, .ref (ad 21 0)), (1, .int a1), (2, .int v2), (3, .int v3), (4, .int v4)] dX6_bestSlope_71 (by decide) rfl ?_
          refine G_iload_n hO 3 dX6_bestSlope_73 rfl rfl ?_
          refine G_ldc hO mw_914 dX6_bestSlope_74 ?_
          refine G_icmp_eq hO 85 dX6_bestSlope_76 (by decide) (fun h11 => ?_) (fun h11 => ?_)
          · replace hs := hs.1 h11
            refine G_iload hO 5 dX6_bestSlope_85 rfl ?_
            refine G_istore_n hO [(2, .int v4), (5, .int r8), (0, .ref (ad 21 0)), (1, .int a1), (3, .int v3), (4, .int v4)] dX6_bestSlope_87 rfl (by decide) rfl ?_
            refine G_iload hO 1 dX6_bestSlope_88 rfl ?_
            refine G_istore_n hO [(3, .int r8), (2, .int v4), (5, .int r8), (0, .ref (ad 21 0)), (1, .int a1), (4, .int v4)] dX6_bestSlope_90 rfl (by decide) rfl ?_
            refine G_iinc hO 5 (v4 + 1) [(4, .int (v4 + 1)), (3, .int r8), (2, .int v4), (5, .int r8), (0, .ref (ad 21 0)), (1, .int a1)] dX6_bestSlope_91 rfl rfl (by decide) rfl ?_
            refine G_goto hO 34 dX6_bestSlope_94 (by decide) ?_
            refine G_lv hO [(0, .ref (ad 21 0)), (1, .int a1), (2, .int v4), (3, .int r8), (4, .int (v4 + 1))] [4, 5, 2, 1, 0] rfl ?_
            exact ih34 _ _ _ _ hs
          · replace hs := hs.2 h11
            refine G_iload hO 0 dX6_bestSlope_79 rfl ?_
            refine G_iload_n hO 4 dX6_bestSlope_81 rfl rfl ?_
            refine G_icmp_le hO 91 dX6_bestSlope_82 (by decide) (fun h10 => ?_) (fun h10 => ?_)
            · replace hs := hs.1 h10
              refine G_iinc hO 5 (v4 + 1) [(4, .int (v4 + 1)), (5, .int r8), (0, .ref (ad 21 0)), (1, .int a1), (2, .int v2), (3, .int v3)] dX6_bestSlope_91 rfl rfl (by decide) rfl ?_
              refine G_goto hO 34 dX6_bestSlope_94 (by decide) ?_
              refine G_lv hO [(0, .ref (ad 21 0)), (1, .int a1), (2, .int v2), (3, .int v3), (4, .int (v4 + 1))] [2, 3, 4, 5, 0] rfl ?_
              exact ih34 _ _ _ _ hs
            · replace hs := hs.2 h10
              refine G_iload hO 5 dX6_bestSlope_85 rfl ?_
              refine G_istore_n hO [(2, .int v4), (5, .int r8), (0, .ref (ad 21 0)), (1, .int a1), (3, .int v3), (4, .int v4)] dX6_bestSlope_87 rfl (by decide) rfl ?_
              refine G_iload hO 1 dX6_bestSlope_88 rfl ?_
              refine G_istore_n hO [(3, .int r8), (2, .int v4), (5, .int r8), (0, .ref (ad 21 0)), (1, .int a1), (4, .int v4)] dX6_bestSlope_90 rfl (by decide) rfl ?_
              refine G_iinc hO 5 (v4 + 1) [(4, .int (v4 + 1)), (3, .int r8), (2, .int v4), (5, .int r8), (0, .ref (ad 21 0)), (1, .int a1)] dX6_bestSlope_91 rfl rfl (by decide) rfl ?_
              refine G_goto hO 34 dX6_bestSlope_94 (by decide) ?_
              refine G_lv hO [(0, .ref (ad 21 0)), (1, .int a1), (2, .int v4), (3, .int r8), (4, .int (v4 + 1))] [4, 5, 2, 1, 0] rfl ?_
              exact ih34 _ _ _ _ hs
  have b18 : ∀ (s0 : Int32) (c : Reg), wX6_bestSlope_L18 a1 P s0 c → G Γ ids ad 0 0 (va_up w 21 (mdSh Λ ad c)) 18 [(0, .ref (ad 21 0)), (1, .int a1)] [.int s0, .ref (ad 21 0)] := by
    intro s0 c hs
    unfold wX6_bestSlope_L18 at hs
    refine KV_Ri hO (rest := []) [.int s0] (fun l => c_X6_refused hm hs) cv_X6_refused mw_888 ms_17 mw_886 (hm 0 (by decide)) cl6 (by rw [va_us]; exact (md_0 _ _ _)) rfl rfl (Nat.le_of_ble_eq_true rfl) (by decide) rfl rfl (Nat.zero_le _) (Nat.zero_le _) dX6_bestSlope_18 ?_
    intro r3 c4 hs
    refine G_if_eq hO 26 dX6_bestSlope_21 (by decide) (fun h6 => ?_) (fun h6 => ?_)
    · replace hs := hs.1 h6
      refine G_ldc hO mw_914 dX6_bestSlope_26 ?_
      refine G_istore_n hO [(2, .int (-99999)), (0, .ref (ad 21 0)), (1, .int a1)] dX6_bestSlope_28 rfl (by decide) rfl ?_
      refine G_iconst hO 0 dX6_bestSlope_29 (by decide) ?_
      refine G_istore_n hO [(3, .int 0), (2, .int (-99999)), (0, .ref (ad 21 0)), (1, .int a1)] dX6_bestSlope_30 rfl (by decide) rfl ?_
      refine G_iconst hO 0 dX6_bestSlope_31 (by decide) ?_
      refine G_istore hO [(4, .int 0), (3, .int 0), (2, .int (-99999)), (0, .ref (ad 21 0)), (1, .int a1)] dX6_bestSlope_32 (by decide) rfl ?_
      obtain ⟨Nf5, hs⟩ := hs
      refine G_lv hO [(0, .ref (ad 21 0)), (1, .int a1), (2, .int (-99999)), (3, .int 0), (4, .int 0)] [3, 4, 2, 1, 0] rfl ?_
      exact b34 Nf5 _ _ _ _ hs
    · replace hs := hs.2 h6
      refine G_iconst hO 0 dX6_bestSlope_24 (by decide) ?_
      exact G_iret hO hF rfl (Nat.zero_le _) (Nat.zero_le _) dX6_bestSlope_25 ⟨rfl, rfl, _, _, rfl, rfl, hs⟩
  unfold wX6_bestSlope at hs
  refine G_aload_n hO 0 dX6_bestSlope_0 rfl rfl ?_
  refine G_iload_n hO 1 dX6_bestSlope_1 rfl rfl ?_
  refine G_i2l hO dX6_bestSlope_2 ?_
  refine G_lconst hO 1 dX6_bestSlope_3 (by decide) ?_
  refine G_ldc2 hO mw_1100 dX6_bestSlope_4 ?_
  refine KS_Ni hO (rest := [.ref (ad 21 0)]) [.long (Int32.toInt64 a1), .long 1, .long 240] (fun l => c_X6_in hs) cv_X6_in mw_884 mw_883 rfl rfl (Nat.le_of_ble_eq_true rfl) (by decide) rfl rfl (Nat.zero_le _) (Nat.zero_le _) dX6_bestSlope_7 ?_
  intro r1 hs
  refine G_if_eq hO 17 dX6_bestSlope_10 (by decide) (fun h2 => ?_) (fun h2 => ?_)
  · replace hs := hs.1 h2
    refine G_iconst hO 1 dX6_bestSlope_17 (by decide) ?_
    exact b18 _ _ hs
  · replace hs := hs.2 h2
    refine G_iconst hO 0 dX6_bestSlope_13 (by decide) ?_
    refine G_goto hO 18 dX6_bestSlope_14 (by decide) ?_
    exact b18 _ _ hs
set_option maxHeartbeats 4000000 in
set_option maxRecDepth 20000 in
theorem c_X6_allReach {l : Launch} {Λ : Lay} {B : Nat} {ids : List (Nat × Nat)} {ad : Nat → Nat → Nat} {w : Nat → Nat → va_E} (hm : ∀ j, j < 8 → (21, j) ∈ ids) {a1 : Int32} {c : Reg} {P : Int32 → Reg → Prop} (hs : wX6_allReach a1 c P) : CT l yX6_allReach cX6_allReach 5 (some .boolean) { frames := 7, cells := 0, slots := 0, locals := 148 } Λ B ids ad (va_up w 21 (mdSh Λ ad c)) [.ref (ad 21 0), .int a1] (Ri ids ad w 21 (mdSh Λ ad) P) := by
  refine CT.of RX6 [(0, .ref (ad 21 0)), (1, .int a1)] (plainFor_of_name (by decide +kernel)) rfl (Nat.le_of_ble_eq_true rfl) rfl (fun Γ hO hF => ?_)
  have b13 : ∀ (N13 : Nat) (v2 : Int32) (v3 : Int32) (c : Reg), wX6_allReach_L13 a1 P N13 v2 v3 c → G Γ ids ad 0 0 (va_up w 21 (mdSh Λ ad c)) 13 [(0, .ref (ad 21 0)), (1, .int a1), (2, .int v2), (3, .int v3)] [] := by
    intro N13
    induction N13 with
    | zero => intro v2 v3 c hs; exact False.elim hs
    | succ N13 ih13 =>
      have b33 : ∀ (N33 : Nat) (v2 : Int32) (v3 : Int32) (v4 : Int32) (c : Reg), wX6_allReach_L33 a1 P (fun v2' v3' c' => wX6_allReach_L13 a1 P N13 v2' v3' c') N33 v2 v3 v4 c → G Γ ids ad 0 0 (va_up w 21 (mdSh Λ ad c)) 33 [(0, .ref (ad 21 0)), (1, .int a1), (2, .int v2), (3, .int v3), (4, .int v4)] [] := by
        intro N33
        induction N33 with
        | zero => intro v2 v3 v4 c hs; exact False.elim hs
        | succ N33 ih33 =>
          intro v2 v3 v4 c hs
          unfold wX6_allReach_L33 at hs
          refine G_iload hO 4 dX6_allReach_33 rfl ?_
          refine G_aload_n hO 0 dX6_allReach_35 rfl rfl ?_
          refine C_getf hO (v := .ref (ad 21 4)) cl6 7 (hm 0 (by decide)) (md_0 _ _ _) (by decide) mw_844 rfl rfl dX6_allReach_36 ?_
          refine G_iconst hO 0 dX6_allReach_39 (by decide) ?_
          refine C_iald hO 0 (by decide) (hm 4 (by decide)) (md_4 _ _ _) (vp_lit (by decide)) dX6_allReach_40 ?_
          refine G_icmp_ge hO 88 dX6_allReach_41 (by decide) (fun h13 => ?_) (fun h13 => ?_)
          · replace hs := hs.1 h13
            refine G_iload_n hO 2 dX6_allReach_88 rfl rfl ?_
            refine G_if_ne hO 94 dX6_allReach_89 (by decide) (fun h8 => ?_) (fun h8 => ?_)
            · replace hs := hs.1 h8
              refine G_iinc hO 3 (v3 + 1) [(3, .int (v3 + 1)), (0, .ref (ad 21 0)), (1, .int a1), (2, .int v2), (4, .int v4)] dX6_allReach_94 rfl rfl (by decide) rfl ?_
              refine G_goto hO 13 dX6_allReach_97 (by decide) ?_
              refine G_lv hO [(0, .ref (ad 21 0)), (1, .int a1), (2, .int v2), (3, .int (v3 + 1))] [1, 2, 3, 0] rfl ?_
              exact ih13 _ _ _ hs
            · replace hs := hs.2 h8
              refine G_iconst hO 1 dX6_allReach_92 (by decide) ?_
              exact G_zret hO hF rfl (Nat.zero_le _) (Nat.zero_le _) rfl dX6_allReach_93 ⟨rfl, rfl, _, _, rfl, rfl, hs⟩
          · replace hs := hs.2 h13
            refine G_iload_n hO 2 dX6_allReach_44 rfl rfl ?_
            refine G_aload_n hO 0 dX6_allReach_45 rfl rfl ?_
            refine C_getf hO (v := .ref (ad 21 4)) cl6 7 (hm 0 (by decide)) (md_0 _ _ _) (by decide) mw_844 rfl rfl dX6_allReach_46 ?_
            refine G_iconst hO 2 dX6_allReach_49 (by decide) ?_
            refine G_iload hO 4 dX6_allReach_50 rfl ?_
            refine G_iadd hO dX6_allReach_52 ?_
            refine KS_Ri hO (rest := [.int v2]) [.ref (ad 21 4), .int (2 + v4)] (fun l => c_X6_degrees hm (by decide) hs) cv_X6_degrees mw_986 mw_985 rfl rfl (Nat.le_of_ble_eq_true rfl) (by decide) rfl rfl (Nat.zero_le _) (Nat.zero_le _) dX6_allReach_53 ?_
            intro r9 c10 hs
            refine G_aload_n hO 0 dX6_allReach_56 rfl rfl ?_
            refine C_getf hO (v := .ref (ad 21 4)) cl6 7 (hm 0 (by decide)) (md_0 _ _ _) (by decide) mw_844 rfl rfl dX6_allReach_57 ?_
            refine G_iload hO 4 dX6_allReach_60 rfl ?_
            refine G_iconst hO 1 dX6_allReach_62 (by decide) ?_
            refine KS_Ni hO (rest := [.ref (ad 21 4), .int r9, .int v2]) [.int v4, .int 1] (fun l => c_X6_cell hs) cv_X6_cell mw_928 mw_927 rfl rfl (Nat.le_of_ble_eq_true rfl) (by decide) rfl rfl (Nat.zero_le _) (Nat.zero_le _) dX6_allReach_63 ?_
            intro r11 hs
            refine C_iald hO _ rfl (hm 4 (by decide)) (md_4 _ _ _) hs.1 dX6_allReach_66 ?_
            replace hs := hs.2
            refine G_icmp_lt hO 79 dX6_allReach_67 (by decide) (fun h12 => ?_) (fun h12 => ?_)
            · replace hs := hs.1 h12
              refine G_iconst hO (-1) dX6_allReach_79 (by decide) ?_
              refine G_iand hO dX6_allReach_80 ?_
              refine G_istore_n hO [(2, .int (v2 &&& (-1))), (0, .ref (ad 21 0)), (1, .int a1), (3, .int v3), (4, .int v4)] dX6_allReach_81 rfl (by decide) rfl ?_
              refine G_iinc hO 4 (v4 + 1) [(4, .int (v4 + 1)), (2, .int (v2 &&& (-1))), (0, .ref (ad 21 0)), (1, .int a1), (3, .int v3)] dX6_allReach_82 rfl rfl (by decide) rfl ?_
              refine G_goto hO 33 dX6_allReach_85 (by decide) ?_
              refine G_lv hO [(0, .ref (ad 21 0)), (1, .int a1), (2, .int (v2 &&& (-1))), (3, .int v3), (4, .int (v4 + 1))] [2, 3, 1, 4, 0] rfl ?_
              exact ih33 _ _ _ _ hs
            · replace hs := hs.2 h12
              refine G_iconst hO 1 dX6_allReach_70 (by decide) ?_
              refine G_iload hO 4 dX6_allReach_71 rfl ?_
              refine G_ishl hO dX6_allReach_73 ?_
              refine G_iconst hO (-1) dX6_allReach_74 (by decide) ?_
              refine G_ixor hO dX6_allReach_75 ?_
              refine G_goto hO 80 dX6_allReach_76 (by decide) ?_
              refine G_iand hO dX6_allReach_80 ?_
              refine G_istore_n hO [(2, .int (v2 &&& ((1 <<< (v4 &&& 31)) ^^^ (-1)))), (0, .ref (ad 21 0)), (1, .int a1), (3, .int v3), (4, .int v4)] dX6_allReach_81 rfl (by decide) rfl ?_
              refine G_iinc hO 4 (v4 + 1) [(4, .int (v4 + 1)), (2, .int (v2 &&& ((1 <<< (v4 &&& 31)) ^^^ (-1)))), (0, .ref (ad 21 0)), (1, .int a1), (3, .int v3)] dX6_allReach_82 rfl rfl (by decide) rfl ?_
              refine G_goto hO 33 dX6_allReach_85 (by decide) ?_
              refine G_lv hO [(0, .ref (ad 21 0)), (1, .int a1), (2, .int (v2 &&& ((1 <<< (v4 &&& 31)) ^^^ (-1)))), (3, .int v3), (4, .int (v4 + 1))] [2, 3, 1, 4, 0] rfl ?_
              exact ih33 _ _ _ _ hs
      intro v2 v3 c hs
      unfold wX6_allReach_L13 at hs
      refine G_iload_n hO 3 dX6_allReach_13 rfl rfl ?_
      refine G_iload_n hO 1 dX6_allReach_14 rfl rfl ?_
      refine G_icmp_gt hO 100 dX6_allReach_15 (by decide) (fun h7 => ?_) (fun h7 => ?_)
      · replace hs := hs.1 h7
        refine G_iconst hO 0 dX6_allReach_100 (by decide) ?_
        exact G_zret hO hF rfl (Nat.zero_le _) (Nat.zero_le _) rfl dX6_allReach_101 ⟨rfl, rfl, _, _, rfl, rfl, hs⟩
      · replace hs := hs.2 h7
        refine G_iload_n hO 3 dX6_allReach_18 rfl rfl ?_
        refine G_if_le hO 30 dX6_allReach_19 (by decide) (fun h6 => ?_) (fun h6 => ?_)
        · replace hs := hs.1 h6
          refine G_iconst hO 0 dX6_allReach_30 (by decide) ?_
          refine G_istore hO [(4, .int 0), (0, .ref (ad 21 0)), (1, .int a1), (2, .int v2), (3, .int v3)] dX6_allReach_31 (by decide) rfl ?_
          obtain ⟨Nf2, hs⟩ := hs
          refine G_lv hO [(0, .ref (ad 21 0)), (1, .int a1), (2, .int v2), (3, .int v3), (4, .int 0)] [1, 2, 3, 4, 0] rfl ?_
          exact b33 Nf2 _ _ _ _ hs
        · replace hs := hs.2 h6
          refine G_aload_n hO 0 dX6_allReach_22 rfl rfl ?_
          refine C_getf hO (v := .ref (ad 21 4)) cl6 7 (hm 0 (by decide)) (md_0 _ _ _) (by decide) mw_844 rfl rfl dX6_allReach_23 ?_
          refine KS_Ri hO (rest := []) [.ref (ad 21 4)] (fun l => c_X6_goMinute hm (by decide) hs) cv_X6_goMinute mw_1057 mw_1056 rfl rfl (Nat.le_of_ble_eq_true rfl) (by decide) rfl rfl (Nat.zero_le _) (Nat.zero_le _) dX6_allReach_26 ?_
          intro r3 c4 hs
          refine G_pop hO dX6_allReach_29 rfl ?_
          refine G_iconst hO 0 dX6_allReach_30 (by decide) ?_
          refine G_istore hO [(4, .int 0), (0, .ref (ad 21 0)), (1, .int a1), (2, .int v2), (3, .int v3)] dX6_allReach_31 (by decide) rfl ?_
          obtain ⟨Nf5, hs⟩ := hs
          refine G_lv hO [(0, .ref (ad 21 0)), (1, .int a1), (2, .int v2), (3, .int v3), (4, .int 0)] [1, 2, 3, 4, 0] rfl ?_
          exact b33 Nf5 _ _ _ _ hs
  unfold wX6_allReach at hs
  refine G_iconst hO 1 dX6_allReach_0 (by decide) ?_
  refine G_aload_n hO 0 dX6_allReach_1 rfl rfl ?_
  refine C_getf hO (v := .ref (ad 21 4)) cl6 7 (hm 0 (by decide)) (md_0 _ _ _) (by decide) mw_844 rfl rfl dX6_allReach_2 ?_
  refine G_iconst hO 0 dX6_allReach_5 (by decide) ?_
  refine C_iald hO 0 (by decide) (hm 4 (by decide)) (md_4 _ _ _) (vp_lit (by decide)) dX6_allReach_6 ?_
  refine G_ishl hO dX6_allReach_7 ?_
  refine G_iconst hO 1 dX6_allReach_8 (by decide) ?_
  refine G_isub hO dX6_allReach_9 ?_
  refine G_istore_n hO [(2, .int ((1 <<< ((c 4 0) &&& 31)) - 1)), (0, .ref (ad 21 0)), (1, .int a1)] dX6_allReach_10 rfl (by decide) rfl ?_
  refine G_iconst hO 0 dX6_allReach_11 (by decide) ?_
  refine G_istore_n hO [(3, .int 0), (2, .int ((1 <<< ((c 4 0) &&& 31)) - 1)), (0, .ref (ad 21 0)), (1, .int a1)] dX6_allReach_12 rfl (by decide) rfl ?_
  obtain ⟨Nf1, hs⟩ := hs
  refine G_lv hO [(0, .ref (ad 21 0)), (1, .int a1), (2, .int ((1 <<< ((c 4 0) &&& 31)) - 1)), (3, .int 0)] [2, 3, 1, 0] rfl ?_
  exact b13 Nf1 _ _ _ hs
set_option maxHeartbeats 4000000 in
set_option maxRecDepth 20000 in
theorem c_X6_leastPower {l : Launch} {Λ : Lay} {B : Nat} {ids : List (Nat × Nat)} {ad : Nat → Nat → Nat} {w : Nat → Nat → va_E} (hm : ∀ j, j < 8 → (21, j) ∈ ids) {a1 : Int32} {c : Reg} {P : Int32 → Reg → Prop} (hs : wX6_leastPower a1 c P) : CT l yX6_leastPower cX6_leastPower 3 (some .int) { frames := 8, cells := 0, slots := 0, locals := 172 } Λ B ids ad (va_up w 21 (mdSh Λ ad c)) [.ref (ad 21 0), .int a1] (Ri ids ad w 21 (mdSh Λ ad) P) := by
  refine CT.of RX6 [(0, .ref (ad 21 0)), (1, .int a1)] (plainFor_of_name (by decide +kernel)) rfl (Nat.le_of_ble_eq_true rfl) rfl (fun Γ hO hF => ?_)
  have b23 : ∀ (N23 : Nat) (v2 : Int32) (c : Reg), wX6_leastPower_L23 a1 P N23 v2 c → G Γ ids ad 0 0 (va_up w 21 (mdSh Λ ad c)) 23 [(0, .ref (ad 21 0)), (1, .int a1), (2, .int v2)] [] := by
    intro N23
    induction N23 with
    | zero => intro v2 c hs; exact False.elim hs
    | succ N23 ih23 =>
      intro v2 c hs
      unfold wX6_leastPower_L23 at hs
      refine G_iload_n hO 2 dX6_leastPower_23 rfl rfl ?_
      refine G_sipush hO 200 dX6_leastPower_24 (by decide) ?_
      refine G_icmp_gt hO 58 dX6_leastPower_27 (by decide) (fun h11 => ?_) (fun h11 => ?_)
      · replace hs := hs.1 h11
        refine G_ldc hO mw_914 dX6_leastPower_58 ?_
        exact G_iret hO hF rfl (Nat.zero_le _) (Nat.zero_le _) dX6_leastPower_60 ⟨rfl, rfl, _, _, rfl, rfl, hs⟩
      · replace hs := hs.2 h11
        refine G_aload_n hO 0 dX6_leastPower_30 rfl rfl ?_
        refine KV_Rv hO (rest := []) [] (fun l => c_X6_begin hm hs) cv_X6_begin mw_1103 ms_29 mw_1101 (hm 0 (by decide)) cl6 (by rw [va_us]; exact (md_0 _ _ _)) rfl rfl (Nat.le_of_ble_eq_true rfl) (by decide) rfl rfl (Nat.zero_le _) (Nat.zero_le _) dX6_leastPower_31 ?_
        intro c7 hs
        refine G_aload_n hO 0 dX6_leastPower_34 rfl rfl ?_
        refine C_getf hO (v := .ref (ad 21 4)) cl6 7 (hm 0 (by decide)) (md_0 _ _ _) (by decide) mw_844 rfl rfl dX6_leastPower_35 ?_
        refine G_bipush hO 9 dX6_leastPower_38 (by decide) ?_
        refine G_iload_n hO 2 dX6_leastPower_40 rfl rfl ?_
        refine C_iast hO (cw_md _ _) 9 (by decide) (hm 4 (by decide)) (md_4 _ _) (vp_lit (by decide)) dX6_leastPower_41 ?_
        refine G_aload_n hO 0 dX6_leastPower_42 rfl rfl ?_
        refine G_iload_n hO 1 dX6_leastPower_43 rfl rfl ?_
        refine KV_Ri hO (rest := []) [.int a1] (fun l => c_X6_allReach hm hs) cv_X6_allReach mw_1127 ms_30 mw_1125 (hm 0 (by decide)) cl6 (by rw [va_us]; exact (md_0 _ _ _)) rfl rfl (Nat.le_of_ble_eq_true rfl) (by decide) rfl rfl (Nat.zero_le _) (Nat.zero_le _) dX6_leastPower_44 ?_
        intro r8 c9 hs
        refine G_if_eq hO 52 dX6_leastPower_47 (by decide) (fun h10 => ?_) (fun h10 => ?_)
        · replace hs := hs.1 h10
          refine G_iinc hO 2 (v2 + 10) [(2, .int (v2 + 10)), (0, .ref (ad 21 0)), (1, .int a1)] dX6_leastPower_52 rfl rfl (by decide) rfl ?_
          refine G_goto hO 23 dX6_leastPower_55 (by decide) ?_
          refine G_lv hO [(0, .ref (ad 21 0)), (1, .int a1), (2, .int (v2 + 10))] [1, 2, 0] rfl ?_
          exact ih23 _ _ hs
        · replace hs := hs.2 h10
          refine G_iload_n hO 2 dX6_leastPower_50 rfl rfl ?_
          exact G_iret hO hF rfl (Nat.zero_le _) (Nat.zero_le _) dX6_leastPower_51 ⟨rfl, rfl, _, _, rfl, rfl, hs⟩
  have b13 : ∀ (s0 : Int32) (c : Reg), wX6_leastPower_L13 a1 P s0 c → G Γ ids ad 0 0 (va_up w 21 (mdSh Λ ad c)) 13 [(0, .ref (ad 21 0)), (1, .int a1)] [.int s0, .ref (ad 21 0)] := by
    intro s0 c hs
    unfold wX6_leastPower_L13 at hs
    refine KV_Ri hO (rest := []) [.int s0] (fun l => c_X6_refused hm hs) cv_X6_refused mw_888 ms_17 mw_886 (hm 0 (by decide)) cl6 (by rw [va_us]; exact (md_0 _ _ _)) rfl rfl (Nat.le_of_ble_eq_true rfl) (by decide) rfl rfl (Nat.zero_le _) (Nat.zero_le _) dX6_leastPower_13 ?_
    intro r3 c4 hs
    refine G_if_eq hO 21 dX6_leastPower_16 (by decide) (fun h6 => ?_) (fun h6 => ?_)
    · replace hs := hs.1 h6
      refine G_iconst hO 0 dX6_leastPower_21 (by decide) ?_
      refine G_istore_n hO [(2, .int 0), (0, .ref (ad 21 0)), (1, .int a1)] dX6_leastPower_22 rfl (by decide) rfl ?_
      obtain ⟨Nf5, hs⟩ := hs
      refine G_lv hO [(0, .ref (ad 21 0)), (1, .int a1), (2, .int 0)] [1, 2, 0] rfl ?_
      exact b23 Nf5 _ _ hs
    · replace hs := hs.2 h6
      refine G_iconst hO 0 dX6_leastPower_19 (by decide) ?_
      exact G_iret hO hF rfl (Nat.zero_le _) (Nat.zero_le _) dX6_leastPower_20 ⟨rfl, rfl, _, _, rfl, rfl, hs⟩
  unfold wX6_leastPower at hs
  refine G_aload_n hO 0 dX6_leastPower_0 rfl rfl ?_
  refine G_iload_n hO 1 dX6_leastPower_1 rfl rfl ?_
  refine KS_Ni hO (rest := [.ref (ad 21 0)]) [.int a1] (fun l => c_X6_isAhead hs) cv_X6_isAhead mw_1098 mw_1097 rfl rfl (Nat.le_of_ble_eq_true rfl) (by decide) rfl rfl (Nat.zero_le _) (Nat.zero_le _) dX6_leastPower_2 ?_
  intro r1 hs
  refine G_if_eq hO 12 dX6_leastPower_5 (by decide) (fun h2 => ?_) (fun h2 => ?_)
  · replace hs := hs.1 h2
    refine G_iconst hO 1 dX6_leastPower_12 (by decide) ?_
    exact b13 _ _ hs
  · replace hs := hs.2 h2
    refine G_iconst hO 0 dX6_leastPower_8 (by decide) ?_
    refine G_goto hO 13 dX6_leastPower_9 (by decide) ?_
    exact b13 _ _ hs
set_option maxHeartbeats 4000000 in
set_option maxRecDepth 20000 in
theorem c_X6_heatFor {l : Launch} {Λ : Lay} {B : Nat} {ids : List (Nat × Nat)} {ad : Nat → Nat → Nat} {w : Nat → Nat → va_E} (hm : ∀ j, j < 8 → (21, j) ∈ ids) {a1 : Int32} {c : Reg} {P : Int32 → Reg → Prop} (hs : wX6_heatFor a1 c P) : CT l yX6_heatFor cX6_heatFor 2 (some .int) { frames := 8, cells := 0, slots := 0, locals := 171 } Λ B ids ad (va_up w 21 (mdSh Λ ad c)) [.ref (ad 21 0), .int a1] (Ri ids ad w 21 (mdSh Λ ad) P) := by
  refine CT.of RX6 [(0, .ref (ad 21 0)), (1, .int a1)] (plainFor_of_name (by decide +kernel)) rfl (Nat.le_of_ble_eq_true rfl) rfl (fun Γ hO hF => ?_)
  have b13 : ∀ (s0 : Int32) (c : Reg), wX6_heatFor_L13 a1 P s0 c → G Γ ids ad 0 0 (va_up w 21 (mdSh Λ ad c)) 13 [(0, .ref (ad 21 0)), (1, .int a1)] [.int s0, .ref (ad 21 0)] := by
    intro s0 c hs
    unfold wX6_heatFor_L13 at hs
    refine KV_Ri hO (rest := []) [.int s0] (fun l => c_X6_refused hm hs) cv_X6_refused mw_888 ms_17 mw_886 (hm 0 (by decide)) cl6 (by rw [va_us]; exact (md_0 _ _ _)) rfl rfl (Nat.le_of_ble_eq_true rfl) (by decide) rfl rfl (Nat.zero_le _) (Nat.zero_le _) dX6_heatFor_13 ?_
    intro r3 c4 hs
    refine G_if_eq hO 21 dX6_heatFor_16 (by decide) (fun h12 => ?_) (fun h12 => ?_)
    · replace hs := hs.1 h12
      refine G_aload_n hO 0 dX6_heatFor_21 rfl rfl ?_
      refine KV_Rv hO (rest := []) [] (fun l => c_X6_begin hm hs) cv_X6_begin mw_1103 ms_29 mw_1101 (hm 0 (by decide)) cl6 (by rw [va_us]; exact (md_0 _ _ _)) rfl rfl (Nat.le_of_ble_eq_true rfl) (by decide) rfl rfl (Nat.zero_le _) (Nat.zero_le _) dX6_heatFor_22 ?_
      intro c5 hs
      refine G_aload_n hO 0 dX6_heatFor_25 rfl rfl ?_
      refine C_getf hO (v := .ref (ad 21 4)) cl6 7 (hm 0 (by decide)) (md_0 _ _ _) (by decide) mw_844 rfl rfl dX6_heatFor_26 ?_
      refine G_iload_n hO 1 dX6_heatFor_29 rfl rfl ?_
      refine KS_Ri hO (rest := []) [.ref (ad 21 4), .int a1] (fun l => c_X6_goMinutes hm (by decide) hs) cv_X6_goMinutes mw_1054 mw_1053 rfl rfl (Nat.le_of_ble_eq_true rfl) (by decide) rfl rfl (Nat.zero_le _) (Nat.zero_le _) dX6_heatFor_30 ?_
      intro r6 c7 hs
      refine G_pop hO dX6_heatFor_33 rfl ?_
      refine G_aload_n hO 0 dX6_heatFor_34 rfl rfl ?_
      refine C_getf hO (v := .ref (ad 21 4)) cl6 7 (hm 0 (by decide)) (md_0 _ _ _) (by decide) mw_844 rfl rfl dX6_heatFor_35 ?_
      refine G_bipush hO 9 dX6_heatFor_38 (by decide) ?_
      refine G_iconst hO 0 dX6_heatFor_40 (by decide) ?_
      refine KS_Ri hO (rest := []) [.ref (ad 21 4), .int 9, .int 0] (fun l => c_X6_movedOf hm (by decide) hs) cv_X6_movedOf mw_1008 mw_1007 rfl rfl (Nat.le_of_ble_eq_true rfl) (by decide) rfl rfl (Nat.zero_le _) (Nat.zero_le _) dX6_heatFor_41 ?_
      intro r8 c9 hs
      refine G_aload_n hO 0 dX6_heatFor_44 rfl rfl ?_
      refine C_getf hO (v := .ref (ad 21 3)) cl6 6 (hm 0 (by decide)) (md_0 _ _ _) (by decide) mw_843 rfl rfl dX6_heatFor_45 ?_
      refine G_bipush hO 9 dX6_heatFor_48 (by decide) ?_
      refine G_iconst hO 0 dX6_heatFor_50 (by decide) ?_
      refine KS_Ri hO (rest := [.int r8]) [.ref (ad 21 3), .int 9, .int 0] (fun l => c_X6_movedOf hm (by decide) hs) cv_X6_movedOf mw_1008 mw_1007 rfl rfl (Nat.le_of_ble_eq_true rfl) (by decide) rfl rfl (Nat.zero_le _) (Nat.zero_le _) dX6_heatFor_51 ?_
      intro r10 c11 hs
      refine G_isub hO dX6_heatFor_54 ?_
      exact G_iret hO hF rfl (Nat.zero_le _) (Nat.zero_le _) dX6_heatFor_55 ⟨rfl, rfl, _, _, rfl, rfl, hs⟩
    · replace hs := hs.2 h12
      refine G_iconst hO 0 dX6_heatFor_19 (by decide) ?_
      exact G_iret hO hF rfl (Nat.zero_le _) (Nat.zero_le _) dX6_heatFor_20 ⟨rfl, rfl, _, _, rfl, rfl, hs⟩
  unfold wX6_heatFor at hs
  refine G_aload_n hO 0 dX6_heatFor_0 rfl rfl ?_
  refine G_iload_n hO 1 dX6_heatFor_1 rfl rfl ?_
  refine KS_Ni hO (rest := [.ref (ad 21 0)]) [.int a1] (fun l => c_X6_isAhead hs) cv_X6_isAhead mw_1098 mw_1097 rfl rfl (Nat.le_of_ble_eq_true rfl) (by decide) rfl rfl (Nat.zero_le _) (Nat.zero_le _) dX6_heatFor_2 ?_
  intro r1 hs
  refine G_if_eq hO 12 dX6_heatFor_5 (by decide) (fun h2 => ?_) (fun h2 => ?_)
  · replace hs := hs.1 h2
    refine G_iconst hO 1 dX6_heatFor_12 (by decide) ?_
    exact b13 _ _ hs
  · replace hs := hs.2 h2
    refine G_iconst hO 0 dX6_heatFor_8 (by decide) ?_
    refine G_goto hO 13 dX6_heatFor_9 (by decide) ?_
    exact b13 _ _ hs
set_option maxHeartbeats 4000000 in
set_option maxRecDepth 20000 in
theorem c_X6_does {l : Launch} {Λ : Lay} {B : Nat} {ids : List (Nat × Nat)} {ad : Nat → Nat → Nat} {w : Nat → Nat → va_E} (hm : ∀ j, j < 8 → (21, j) ∈ ids) {a1 : Int32} {c : Reg} {P : Int32 → Reg → Prop} (hs : wX6_does a1 c P) : CT l yX6_does cX6_does 7 (some .boolean) { frames := 8, cells := 0, slots := 0, locals := 171 } Λ B ids ad (va_up w 21 (mdSh Λ ad c)) [.ref (ad 21 0), .int a1] (Ri ids ad w 21 (mdSh Λ ad) P) := by
  refine CT.of RX6 [(0, .ref (ad 21 0)), (1, .int a1)] (plainFor_of_name (by decide +kernel)) rfl (Nat.le_of_ble_eq_true rfl) rfl (fun Γ hO hF => ?_)
  have b141 : ∀ (v3 : Int32) (v6 : Int32) (s0 : Int32) (c : Reg), wX6_does_L141 a1 P v3 v6 s0 c → G Γ ids ad 0 0 (va_up w 21 (mdSh Λ ad c)) 141 [(0, .ref (ad 21 0)), (3, .int v3), (6, .int v6)] [.int s0] := by
    intro v3 v6 s0 c hs
    unfold wX6_does_L141 at hs
    refine KS_Ni hO (rest := []) [.int s0] (fun l => c_X6_isOutside hs) cv_X6_isOutside mw_1044 mw_1043 rfl rfl (Nat.le_of_ble_eq_true rfl) (by decide) rfl rfl (Nat.zero_le _) (Nat.zero_le _) dX6_does_141 ?_
    intro r39 hs
    refine G_if_ne hO 149 dX6_does_144 (by decide) (fun h41 => ?_) (fun h41 => ?_)
    · replace hs := hs.1 h41
      refine G_aload_n hO 0 dX6_does_149 rfl rfl ?_
      refine C_getf hO (v := .ref (ad 21 4)) cl6 7 (hm 0 (by decide)) (md_0 _ _ _) (by decide) mw_844 rfl rfl dX6_does_150 ?_
      refine G_iconst hO 2 dX6_does_153 (by decide) ?_
      refine G_iload_n hO 1 dX6_does_154 rfl rfl ?_
      refine G_iconst hO 1 dX6_does_155 (by decide) ?_
      refine G_icmp_ne hO 165 dX6_does_156 (by decide) (fun h40 => ?_) (fun h40 => ?_)
      · replace hs := hs.1 h40
        refine G_iload hO 2 dX6_does_165 rfl ?_
        refine C_iast hO (cw_md _ _) 2 (by decide) (hm 4 (by decide)) (md_4 _ _) (vp_lit (by decide)) dX6_does_167 ?_
        refine G_iconst hO 1 dX6_does_168 (by decide) ?_
        exact G_zret hO hF rfl (Nat.zero_le _) (Nat.zero_le _) rfl dX6_does_169 ⟨rfl, rfl, _, _, rfl, rfl, hs⟩
      · replace hs := hs.2 h40
        refine G_iload hO 2 dX6_does_159 rfl ?_
        refine G_ineg hO dX6_does_161 ?_
        refine G_goto hO 167 dX6_does_162 (by decide) ?_
        refine C_iast hO (cw_md _ _) 2 (by decide) (hm 4 (by decide)) (md_4 _ _) (vp_lit (by decide)) dX6_does_167 ?_
        refine G_iconst hO 1 dX6_does_168 (by decide) ?_
        exact G_zret hO hF rfl (Nat.zero_le _) (Nat.zero_le _) rfl dX6_does_169 ⟨rfl, rfl, _, _, rfl, rfl, hs⟩
    · replace hs := hs.2 h41
      refine G_iconst hO 0 dX6_does_147 (by decide) ?_
      exact G_zret hO hF rfl (Nat.zero_le _) (Nat.zero_le _) rfl dX6_does_148 ⟨rfl, rfl, _, _, rfl, rfl, hs⟩
  unfold wX6_does at hs
  refine G_iload_n hO 1 dX6_does_0 rfl rfl ?_
  refine G_sipush hO 1000 dX6_does_1 (by decide) ?_
  refine G_idiv hO dX6_does_4 (by decide) ?_
  refine G_istore_n hO [(2, .int (a1 / 1000)), (0, .ref (ad 21 0)), (1, .int a1)] dX6_does_5 rfl (by decide) rfl ?_
  refine G_iload_n hO 2 dX6_does_6 rfl rfl ?_
  refine G_bipush hO 100 dX6_does_7 (by decide) ?_
  refine G_idiv hO dX6_does_9 (by decide) ?_
  refine G_bipush hO 10 dX6_does_10 (by decide) ?_
  refine G_irem hO dX6_does_12 (by decide) ?_
  refine G_istore_n hO [(3, .int ((a1 / 100) - (a1 / 100) / 10 * 10)), (2, .int (a1 / 1000)), (0, .ref (ad 21 0)), (1, .int a1)] dX6_does_13 rfl (by decide) rfl ?_
  refine G_iload_n hO 3 dX6_does_14 rfl rfl ?_
  refine G_bipush hO 10 dX6_does_15 (by decide) ?_
  refine G_idiv hO dX6_does_17 (by decide) ?_
  refine G_bipush hO 10 dX6_does_18 (by decide) ?_
  refine G_irem hO dX6_does_20 (by decide) ?_
  refine G_istore hO [(4, .int ((a1 / 10) - (a1 / 10) / 10 * 10)), (3, .int ((a1 / 100) - (a1 / 100) / 10 * 10)), (2, .int (a1 / 1000)), (0, .ref (ad 21 0)), (1, .int a1)] dX6_does_21 (by decide) rfl ?_
  refine G_iload_n hO 4 dX6_does_23 rfl rfl ?_
  refine G_bipush hO 10 dX6_does_24 (by decide) ?_
  refine G_irem hO dX6_does_26 (by decide) ?_
  refine G_istore hO [(5, .int (a1 - a1 / 10 * 10)), (4, .int ((a1 / 10) - (a1 / 10) / 10 * 10)), (3, .int ((a1 / 100) - (a1 / 100) / 10 * 10)), (2, .int (a1 / 1000)), (0, .ref (ad 21 0)), (1, .int a1)] dX6_does_27 (by decide) rfl ?_
  refine G_bipush hO 10 dX6_does_29 (by decide) ?_
  refine G_iload hO 1 dX6_does_31 rfl ?_
  refine G_imul hO dX6_does_33 ?_
  refine G_iload hO 0 dX6_does_34 rfl ?_
  refine G_iadd hO dX6_does_36 ?_
  refine G_istore hO [(6, .int ((10 * ((a1 / 10) - (a1 / 10) / 10 * 10)) + (a1 - a1 / 10 * 10))), (5, .int (a1 - a1 / 10 * 10)), (4, .int ((a1 / 10) - (a1 / 10) / 10 * 10)), (3, .int ((a1 / 100) - (a1 / 100) / 10 * 10)), (2, .int (a1 / 1000)), (0, .ref (ad 21 0)), (1, .int a1)] dX6_does_37 (by decide) rfl ?_
  refine G_iload_n hO 4 dX6_does_39 rfl rfl ?_
  rcases sw_1_9 (a1 / 1000) with hq | hq
  · replace hs := hs.1 hq
    refine G_tableOut hO 377 dX6_does_40 hq (by decide) ?_
    refine G_iconst hO 0 dX6_does_377 (by decide) ?_
    exact G_zret hO hF rfl (Nat.zero_le _) (Nat.zero_le _) rfl dX6_does_378 ⟨rfl, rfl, _, _, rfl, rfl, hs⟩
  · replace hs := hs.2
    rcases hq with hq | hq | hq | hq | hq | hq | hq | hq | hq
    · replace hs := hs.1 hq
      refine G_tableIn hO 92 dX6_does_40 (by rw [hq]; decide) (by rw [hq]; decide) (by rw [hq]; rfl) (by decide) ?_
      refine G_iload_n hO 3 dX6_does_92 rfl rfl ?_
      refine G_if_ne hO 109 dX6_does_93 (by decide) (fun h5 => ?_) (fun h5 => ?_)
      · replace hs := hs.1 h5
        refine G_iconst hO 0 dX6_does_109 (by decide) ?_
        exact G_zret hO hF rfl (Nat.zero_le _) (Nat.zero_le _) rfl dX6_does_110 ⟨rfl, rfl, _, _, rfl, rfl, hs⟩
      · replace hs := hs.2 h5
        refine G_iload hO 0 dX6_does_96 rfl ?_
        refine G_i2l hO dX6_does_98 ?_
        refine G_lconst hO 1 dX6_does_99 (by decide) ?_
        refine G_ldc2 hO mw_1052 dX6_does_100 ?_
        refine KS_Ni hO (rest := []) [.long (Int32.toInt64 ((10 * ((a1 / 10) - (a1 / 10) / 10 * 10)) + (a1 - a1 / 10 * 10))), .long 1, .long 60] (fun l => c_X6_in hs) cv_X6_in mw_884 mw_883 rfl rfl (Nat.le_of_ble_eq_true rfl) (by decide) rfl rfl (Nat.zero_le _) (Nat.zero_le _) dX6_does_103 ?_
        intro r1 hs
        refine G_if_ne hO 111 dX6_does_106 (by decide) (fun h4 => ?_) (fun h4 => ?_)
        · replace hs := hs.1 h4
          refine G_aload_n hO 5 dX6_does_111 rfl rfl ?_
          refine C_getf hO (v := .ref (ad 21 4)) cl6 7 (hm 0 (by decide)) (md_0 _ _ _) (by decide) mw_844 rfl rfl dX6_does_112 ?_
          refine G_iload hO 0 dX6_does_115 rfl ?_
          refine KS_Ri hO (rest := []) [.ref (ad 21 4), .int ((10 * ((a1 / 10) - (a1 / 10) / 10 * 10)) + (a1 - a1 / 10 * 10))] (fun l => c_X6_goMinutes hm (by decide) hs) cv_X6_goMinutes mw_1054 mw_1053 rfl rfl (Nat.le_of_ble_eq_true rfl) (by decide) rfl rfl (Nat.zero_le _) (Nat.zero_le _) dX6_does_117 ?_
          intro r2 c3 hs
          refine G_pop hO dX6_does_120 rfl ?_
          refine G_iconst hO 1 dX6_does_121 (by decide) ?_
          exact G_zret hO hF rfl (Nat.zero_le _) (Nat.zero_le _) rfl dX6_does_122 ⟨rfl, rfl, _, _, rfl, rfl, hs⟩
        · replace hs := hs.2 h4
          refine G_iconst hO 0 dX6_does_109 (by decide) ?_
          exact G_zret hO hF rfl (Nat.zero_le _) (Nat.zero_le _) rfl dX6_does_110 ⟨rfl, rfl, _, _, rfl, rfl, hs⟩
    · replace hs := hs.2.1 hq
      refine G_tableIn hO 123 dX6_does_40 (by rw [hq]; decide) (by rw [hq]; decide) (by rw [hq]; rfl) (by decide) ?_
      refine G_iload_n hO 3 dX6_does_123 rfl rfl ?_
      refine G_iconst hO 1 dX6_does_124 (by decide) ?_
      refine G_icmp_gt hO 147 dX6_does_125 (by decide) (fun h7 => ?_) (fun h7 => ?_)
      · replace hs := hs.1 h7
        refine G_iconst hO 0 dX6_does_147 (by decide) ?_
        exact G_zret hO hF rfl (Nat.zero_le _) (Nat.zero_le _) rfl dX6_does_148 ⟨rfl, rfl, _, _, rfl, rfl, hs⟩
      · replace hs := hs.2 h7
        refine G_iload_n hO 3 dX6_does_128 rfl rfl ?_
        refine G_iconst hO 1 dX6_does_129 (by decide) ?_
        refine G_icmp_ne hO 139 dX6_does_130 (by decide) (fun h6 => ?_) (fun h6 => ?_)
        · replace hs := hs.1 h6
          refine G_iload hO 0 dX6_does_139 rfl ?_
          refine G_lv hO [(0, .ref (ad 21 0)), (3, .int ((a1 / 100) - (a1 / 100) / 10 * 10)), (6, .int ((10 * ((a1 / 10) - (a1 / 10) / 10 * 10)) + (a1 - a1 / 10 * 10)))] [5, 3, 0] rfl ?_
          exact b141 _ _ _ _ hs
        · replace hs := hs.2 h6
          refine G_iload hO 0 dX6_does_133 rfl ?_
          refine G_ineg hO dX6_does_135 ?_
          refine G_goto hO 141 dX6_does_136 (by decide) ?_
          refine G_lv hO [(0, .ref (ad 21 0)), (3, .int ((a1 / 100) - (a1 / 100) / 10 * 10)), (6, .int ((10 * ((a1 / 10) - (a1 / 10) / 10 * 10)) + (a1 - a1 / 10 * 10)))] [5, 3, 0] rfl ?_
          exact b141 _ _ _ _ hs
    · replace hs := hs.2.2.1 hq
      refine G_tableIn hO 170 dX6_does_40 (by rw [hq]; decide) (by rw [hq]; decide) (by rw [hq]; rfl) (by decide) ?_
      refine G_iload_n hO 3 dX6_does_170 rfl rfl ?_
      refine G_iload hO 0 dX6_does_171 rfl ?_
      refine KS_Ni hO (rest := []) [.int ((a1 / 100) - (a1 / 100) / 10 * 10), .int ((10 * ((a1 / 10) - (a1 / 10) / 10 * 10)) + (a1 - a1 / 10 * 10))] (fun l => c_X6_isSetting hs) cv_X6_isSetting mw_1037 mw_1036 rfl rfl (Nat.le_of_ble_eq_true rfl) (by decide) rfl rfl (Nat.zero_le _) (Nat.zero_le _) dX6_does_173 ?_
      intro r8 hs
      refine G_if_ne hO 181 dX6_does_176 (by decide) (fun h9 => ?_) (fun h9 => ?_)
      · replace hs := hs.1 h9
        refine G_aload_n hO 5 dX6_does_181 rfl rfl ?_
        refine C_getf hO (v := .ref (ad 21 4)) cl6 7 (hm 0 (by decide)) (md_0 _ _ _) (by decide) mw_844 rfl rfl dX6_does_182 ?_
        refine G_bipush hO 9 dX6_does_185 (by decide) ?_
        refine G_iload_n hO 3 dX6_does_187 rfl rfl ?_
        refine G_iadd hO dX6_does_188 ?_
        refine G_iload hO 0 dX6_does_189 rfl ?_
        refine C_iast hO (cw_md _ _) _ rfl (hm 4 (by decide)) (md_4 _ _) hs.1 dX6_does_191 ?_
        replace hs := hs.2
        refine G_iconst hO 1 dX6_does_192 (by decide) ?_
        exact G_zret hO hF rfl (Nat.zero_le _) (Nat.zero_le _) rfl dX6_does_193 ⟨rfl, rfl, _, _, rfl, rfl, hs⟩
      · replace hs := hs.2 h9
        refine G_iconst hO 0 dX6_does_179 (by decide) ?_
        exact G_zret hO hF rfl (Nat.zero_le _) (Nat.zero_le _) rfl dX6_does_180 ⟨rfl, rfl, _, _, rfl, rfl, hs⟩
    · replace hs := hs.2.2.2.1 hq
      refine G_tableIn hO 194 dX6_does_40 (by rw [hq]; decide) (by rw [hq]; decide) (by rw [hq]; rfl) (by decide) ?_
      refine G_aload_n hO 5 dX6_does_194 rfl rfl ?_
      refine G_iload_n hO 3 dX6_does_195 rfl rfl ?_
      refine KV_Ri hO (rest := []) [.int ((a1 / 100) - (a1 / 100) / 10 * 10)] (fun l => c_X6_isRoom hm hs) cv_X6_isRoom mw_1000 ms_27 mw_998 (hm 0 (by decide)) cl6 (by rw [va_us]; exact (md_0 _ _ _)) rfl rfl (Nat.le_of_ble_eq_true rfl) (by decide) rfl rfl (Nat.zero_le _) (Nat.zero_le _) dX6_does_196 ?_
      intro r10 c11 hs
      refine G_if_eq hO 213 dX6_does_199 (by decide) (fun h15 => ?_) (fun h15 => ?_)
      · replace hs := hs.1 h15
        refine G_iconst hO 0 dX6_does_213 (by decide) ?_
        exact G_zret hO hF rfl (Nat.zero_le _) (Nat.zero_le _) rfl dX6_does_214 ⟨rfl, rfl, _, _, rfl, rfl, hs⟩
      · replace hs := hs.2 h15
        refine G_iload hO 2 dX6_does_202 rfl ?_
        refine G_if_ne hO 213 dX6_does_204 (by decide) (fun h14 => ?_) (fun h14 => ?_)
        · replace hs := hs.1 h14
          refine G_iconst hO 0 dX6_does_213 (by decide) ?_
          exact G_zret hO hF rfl (Nat.zero_le _) (Nat.zero_le _) rfl dX6_does_214 ⟨rfl, rfl, _, _, rfl, rfl, hs⟩
        · replace hs := hs.2 h14
          refine G_iload hO 1 dX6_does_207 rfl ?_
          refine G_iconst hO 1 dX6_does_209 (by decide) ?_
          refine G_icmp_le hO 215 dX6_does_210 (by decide) (fun h13 => ?_) (fun h13 => ?_)
          · replace hs := hs.1 h13
            refine G_aload_n hO 5 dX6_does_215 rfl rfl ?_
            refine C_getf hO (v := .ref (ad 21 4)) cl6 7 (hm 0 (by decide)) (md_0 _ _ _) (by decide) mw_844 rfl rfl dX6_does_216 ?_
            refine G_iload_n hO 3 dX6_does_219 rfl rfl ?_
            refine G_iconst hO 4 dX6_does_220 (by decide) ?_
            refine KS_Ni hO (rest := [.ref (ad 21 4)]) [.int ((a1 / 100) - (a1 / 100) / 10 * 10), .int 4] (fun l => c_X6_cell hs) cv_X6_cell mw_928 mw_927 rfl rfl (Nat.le_of_ble_eq_true rfl) (by decide) rfl rfl (Nat.zero_le _) (Nat.zero_le _) dX6_does_221 ?_
            intro r12 hs
            refine G_iload hO 1 dX6_does_224 rfl ?_
            refine C_iast hO (cw_md _ _) _ rfl (hm 4 (by decide)) (md_4 _ _) hs.1 dX6_does_226 ?_
            replace hs := hs.2
            refine G_iconst hO 1 dX6_does_227 (by decide) ?_
            exact G_zret hO hF rfl (Nat.zero_le _) (Nat.zero_le _) rfl dX6_does_228 ⟨rfl, rfl, _, _, rfl, rfl, hs⟩
          · replace hs := hs.2 h13
            refine G_iconst hO 0 dX6_does_213 (by decide) ?_
            exact G_zret hO hF rfl (Nat.zero_le _) (Nat.zero_le _) rfl dX6_does_214 ⟨rfl, rfl, _, _, rfl, rfl, hs⟩
    · replace hs := hs.2.2.2.2.1 hq
      refine G_tableIn hO 229 dX6_does_40 (by rw [hq]; decide) (by rw [hq]; decide) (by rw [hq]; rfl) (by decide) ?_
      refine G_aload_n hO 5 dX6_does_229 rfl rfl ?_
      refine G_iload_n hO 3 dX6_does_230 rfl rfl ?_
      refine KV_Ri hO (rest := []) [.int ((a1 / 100) - (a1 / 100) / 10 * 10)] (fun l => c_X6_isRoom hm hs) cv_X6_isRoom mw_1000 ms_27 mw_998 (hm 0 (by decide)) cl6 (by rw [va_us]; exact (md_0 _ _ _)) rfl rfl (Nat.le_of_ble_eq_true rfl) (by decide) rfl rfl (Nat.zero_le _) (Nat.zero_le _) dX6_does_231 ?_
      intro r16 c17 hs
      refine G_if_eq hO 252 dX6_does_234 (by decide) (fun h21 => ?_) (fun h21 => ?_)
      · replace hs := hs.1 h21
        refine G_iconst hO 0 dX6_does_252 (by decide) ?_
        exact G_zret hO hF rfl (Nat.zero_le _) (Nat.zero_le _) rfl dX6_does_253 ⟨rfl, rfl, _, _, rfl, rfl, hs⟩
      · replace hs := hs.2 h21
        refine G_iload hO 0 dX6_does_237 rfl ?_
        refine G_i2l hO dX6_does_239 ?_
        refine G_ldc2 hO mw_1018 dX6_does_240 ?_
        refine G_ldc2 hO mw_1019 dX6_does_243 ?_
        refine KS_Ni hO (rest := []) [.long (Int32.toInt64 ((10 * ((a1 / 10) - (a1 / 10) / 10 * 10)) + (a1 - a1 / 10 * 10))), .long 10, .long 25] (fun l => c_X6_in hs) cv_X6_in mw_884 mw_883 rfl rfl (Nat.le_of_ble_eq_true rfl) (by decide) rfl rfl (Nat.zero_le _) (Nat.zero_le _) dX6_does_246 ?_
        intro r18 hs
        refine G_if_ne hO 254 dX6_does_249 (by decide) (fun h20 => ?_) (fun h20 => ?_)
        · replace hs := hs.1 h20
          refine G_aload_n hO 5 dX6_does_254 rfl rfl ?_
          refine C_getf hO (v := .ref (ad 21 4)) cl6 7 (hm 0 (by decide)) (md_0 _ _ _) (by decide) mw_844 rfl rfl dX6_does_255 ?_
          refine G_iload_n hO 3 dX6_does_258 rfl rfl ?_
          refine G_iconst hO 1 dX6_does_259 (by decide) ?_
          refine KS_Ni hO (rest := [.ref (ad 21 4)]) [.int ((a1 / 100) - (a1 / 100) / 10 * 10), .int 1] (fun l => c_X6_cell hs) cv_X6_cell mw_928 mw_927 rfl rfl (Nat.le_of_ble_eq_true rfl) (by decide) rfl rfl (Nat.zero_le _) (Nat.zero_le _) dX6_does_260 ?_
          intro r19 hs
          refine G_iload hO 0 dX6_does_263 rfl ?_
          refine C_iast hO (cw_md _ _) _ rfl (hm 4 (by decide)) (md_4 _ _) hs.1 dX6_does_265 ?_
          replace hs := hs.2
          refine G_iconst hO 1 dX6_does_266 (by decide) ?_
          exact G_zret hO hF rfl (Nat.zero_le _) (Nat.zero_le _) rfl dX6_does_267 ⟨rfl, rfl, _, _, rfl, rfl, hs⟩
        · replace hs := hs.2 h20
          refine G_iconst hO 0 dX6_does_252 (by decide) ?_
          exact G_zret hO hF rfl (Nat.zero_le _) (Nat.zero_le _) rfl dX6_does_253 ⟨rfl, rfl, _, _, rfl, rfl, hs⟩
    · replace hs := hs.2.2.2.2.2.1 hq
      refine G_tableIn hO 268 dX6_does_40 (by rw [hq]; decide) (by rw [hq]; decide) (by rw [hq]; rfl) (by decide) ?_
      refine G_aload_n hO 5 dX6_does_268 rfl rfl ?_
      refine G_iload_n hO 3 dX6_does_269 rfl rfl ?_
      refine KV_Ri hO (rest := []) [.int ((a1 / 100) - (a1 / 100) / 10 * 10)] (fun l => c_X6_isWarmPlace hm hs) cv_X6_isWarmPlace mw_982 ms_26 mw_980 (hm 0 (by decide)) cl6 (by rw [va_us]; exact (md_0 _ _ _)) rfl rfl (Nat.le_of_ble_eq_true rfl) (by decide) rfl rfl (Nat.zero_le _) (Nat.zero_le _) dX6_does_270 ?_
      intro r22 c23 hs
      refine G_if_eq hO 293 dX6_does_273 (by decide) (fun h27 => ?_) (fun h27 => ?_)
      · replace hs := hs.1 h27
        refine G_iconst hO 0 dX6_does_293 (by decide) ?_
        exact G_zret hO hF rfl (Nat.zero_le _) (Nat.zero_le _) rfl dX6_does_294 ⟨rfl, rfl, _, _, rfl, rfl, hs⟩
      · replace hs := hs.2 h27
        refine G_aload_n hO 5 dX6_does_276 rfl rfl ?_
        refine C_getf hO (v := .ref (ad 21 4)) cl6 7 (hm 0 (by decide)) (md_0 _ _ _) (by decide) mw_844 rfl rfl dX6_does_277 ?_
        refine G_iload_n hO 3 dX6_does_280 rfl rfl ?_
        refine KS_Ri hO (rest := []) [.ref (ad 21 4), .int ((a1 / 100) - (a1 / 100) / 10 * 10)] (fun l => c_X6_degrees hm (by decide) hs) cv_X6_degrees mw_986 mw_985 rfl rfl (Nat.le_of_ble_eq_true rfl) (by decide) rfl rfl (Nat.zero_le _) (Nat.zero_le _) dX6_does_281 ?_
        intro r24 c25 hs
        refine G_iload hO 0 dX6_does_284 rfl ?_
        refine G_icmp_lt hO 293 dX6_does_286 (by decide) (fun h26 => ?_) (fun h26 => ?_)
        · replace hs := hs.1 h26
          refine G_iconst hO 0 dX6_does_293 (by decide) ?_
          exact G_zret hO hF rfl (Nat.zero_le _) (Nat.zero_le _) rfl dX6_does_294 ⟨rfl, rfl, _, _, rfl, rfl, hs⟩
        · replace hs := hs.2 h26
          refine G_iconst hO 1 dX6_does_289 (by decide) ?_
          refine G_goto hO 294 dX6_does_290 (by decide) ?_
          exact G_zret hO hF rfl (Nat.zero_le _) (Nat.zero_le _) rfl dX6_does_294 ⟨rfl, rfl, _, _, rfl, rfl, hs⟩
    · replace hs := hs.2.2.2.2.2.2.1 hq
      refine G_tableIn hO 295 dX6_does_40 (by rw [hq]; decide) (by rw [hq]; decide) (by rw [hq]; rfl) (by decide) ?_
      refine G_iload_n hO 3 dX6_does_295 rfl rfl ?_
      refine G_if_ne hO 314 dX6_does_296 (by decide) (fun h29 => ?_) (fun h29 => ?_)
      · replace hs := hs.1 h29
        refine G_iconst hO 0 dX6_does_314 (by decide) ?_
        exact G_zret hO hF rfl (Nat.zero_le _) (Nat.zero_le _) rfl dX6_does_315 ⟨rfl, rfl, _, _, rfl, rfl, hs⟩
      · replace hs := hs.2 h29
        refine G_aload_n hO 5 dX6_does_299 rfl rfl ?_
        refine C_getf hO (v := .ref (ad 21 4)) cl6 7 (hm 0 (by decide)) (md_0 _ _ _) (by decide) mw_844 rfl rfl dX6_does_300 ?_
        refine G_iconst hO 5 dX6_does_303 (by decide) ?_
        refine C_iald hO 5 (by decide) (hm 4 (by decide)) (md_4 _ _ _) (vp_lit (by decide)) dX6_does_304 ?_
        refine G_iload hO 0 dX6_does_305 rfl ?_
        refine G_icmp_lt hO 314 dX6_does_307 (by decide) (fun h28 => ?_) (fun h28 => ?_)
        · replace hs := hs.1 h28
          refine G_iconst hO 0 dX6_does_314 (by decide) ?_
          exact G_zret hO hF rfl (Nat.zero_le _) (Nat.zero_le _) rfl dX6_does_315 ⟨rfl, rfl, _, _, rfl, rfl, hs⟩
        · replace hs := hs.2 h28
          refine G_iconst hO 1 dX6_does_310 (by decide) ?_
          refine G_goto hO 315 dX6_does_311 (by decide) ?_
          exact G_zret hO hF rfl (Nat.zero_le _) (Nat.zero_le _) rfl dX6_does_315 ⟨rfl, rfl, _, _, rfl, rfl, hs⟩
    · replace hs := hs.2.2.2.2.2.2.2.1 hq
      refine G_tableIn hO 316 dX6_does_40 (by rw [hq]; decide) (by rw [hq]; decide) (by rw [hq]; rfl) (by decide) ?_
      refine G_aload_n hO 5 dX6_does_316 rfl rfl ?_
      refine G_iload_n hO 3 dX6_does_317 rfl rfl ?_
      refine KV_Ri hO (rest := []) [.int ((a1 / 100) - (a1 / 100) / 10 * 10)] (fun l => c_X6_isRoom hm hs) cv_X6_isRoom mw_1000 ms_27 mw_998 (hm 0 (by decide)) cl6 (by rw [va_us]; exact (md_0 _ _ _)) rfl rfl (Nat.le_of_ble_eq_true rfl) (by decide) rfl rfl (Nat.zero_le _) (Nat.zero_le _) dX6_does_318 ?_
      intro r30 c31 hs
      refine G_if_eq hO 343 dX6_does_321 (by decide) (fun h34 => ?_) (fun h34 => ?_)
      · replace hs := hs.1 h34
        refine G_iconst hO 0 dX6_does_343 (by decide) ?_
        exact G_zret hO hF rfl (Nat.zero_le _) (Nat.zero_le _) rfl dX6_does_344 ⟨rfl, rfl, _, _, rfl, rfl, hs⟩
      · replace hs := hs.2 h34
        refine G_aload_n hO 5 dX6_does_324 rfl rfl ?_
        refine C_getf hO (v := .ref (ad 21 4)) cl6 7 (hm 0 (by decide)) (md_0 _ _ _) (by decide) mw_844 rfl rfl dX6_does_325 ?_
        refine G_iload_n hO 3 dX6_does_328 rfl rfl ?_
        refine G_iconst hO 5 dX6_does_329 (by decide) ?_
        refine KS_Ni hO (rest := [.ref (ad 21 4)]) [.int ((a1 / 100) - (a1 / 100) / 10 * 10), .int 5] (fun l => c_X6_cell hs) cv_X6_cell mw_928 mw_927 rfl rfl (Nat.le_of_ble_eq_true rfl) (by decide) rfl rfl (Nat.zero_le _) (Nat.zero_le _) dX6_does_330 ?_
        intro r32 hs
        refine C_iald hO _ rfl (hm 4 (by decide)) (md_4 _ _ _) hs.1 dX6_does_333 ?_
        replace hs := hs.2
        refine G_iload hO 0 dX6_does_334 rfl ?_
        refine G_icmp_lt hO 343 dX6_does_336 (by decide) (fun h33 => ?_) (fun h33 => ?_)
        · replace hs := hs.1 h33
          refine G_iconst hO 0 dX6_does_343 (by decide) ?_
          exact G_zret hO hF rfl (Nat.zero_le _) (Nat.zero_le _) rfl dX6_does_344 ⟨rfl, rfl, _, _, rfl, rfl, hs⟩
        · replace hs := hs.2 h33
          refine G_iconst hO 1 dX6_does_339 (by decide) ?_
          refine G_goto hO 344 dX6_does_340 (by decide) ?_
          exact G_zret hO hF rfl (Nat.zero_le _) (Nat.zero_le _) rfl dX6_does_344 ⟨rfl, rfl, _, _, rfl, rfl, hs⟩
    · replace hs := hs.2.2.2.2.2.2.2.2 hq
      refine G_tableIn hO 345 dX6_does_40 (by rw [hq]; decide) (by rw [hq]; decide) (by rw [hq]; rfl) (by decide) ?_
      refine G_iload_n hO 3 dX6_does_345 rfl rfl ?_
      refine G_if_ne hO 375 dX6_does_346 (by decide) (fun h38 => ?_) (fun h38 => ?_)
      · replace hs := hs.1 h38
        refine G_iconst hO 0 dX6_does_375 (by decide) ?_
        exact G_zret hO hF rfl (Nat.zero_le _) (Nat.zero_le _) rfl dX6_does_376 ⟨rfl, rfl, _, _, rfl, rfl, hs⟩
      · replace hs := hs.2 h38
        refine G_iload hO 2 dX6_does_349 rfl ?_
        refine G_if_ne hO 375 dX6_does_351 (by decide) (fun h37 => ?_) (fun h37 => ?_)
        · replace hs := hs.1 h37
          refine G_iconst hO 0 dX6_does_375 (by decide) ?_
          exact G_zret hO hF rfl (Nat.zero_le _) (Nat.zero_le _) rfl dX6_does_376 ⟨rfl, rfl, _, _, rfl, rfl, hs⟩
        · replace hs := hs.2 h37
          refine G_iload hO 1 dX6_does_354 rfl ?_
          refine G_iconst hO 2 dX6_does_356 (by decide) ?_
          refine G_icmp_ge hO 375 dX6_does_357 (by decide) (fun h36 => ?_) (fun h36 => ?_)
          · replace hs := hs.1 h36
            refine G_iconst hO 0 dX6_does_375 (by decide) ?_
            exact G_zret hO hF rfl (Nat.zero_le _) (Nat.zero_le _) rfl dX6_does_376 ⟨rfl, rfl, _, _, rfl, rfl, hs⟩
          · replace hs := hs.2 h36
            refine G_aload_n hO 5 dX6_does_360 rfl rfl ?_
            refine C_getf hO (v := .ref (ad 21 4)) cl6 7 (hm 0 (by decide)) (md_0 _ _ _) (by decide) mw_844 rfl rfl dX6_does_361 ?_
            refine G_iconst hO 3 dX6_does_364 (by decide) ?_
            refine C_iald hO 3 (by decide) (hm 4 (by decide)) (md_4 _ _ _) (vp_lit (by decide)) dX6_does_365 ?_
            refine G_iload hO 1 dX6_does_366 rfl ?_
            refine G_icmp_ne hO 375 dX6_does_368 (by decide) (fun h35 => ?_) (fun h35 => ?_)
            · replace hs := hs.1 h35
              refine G_iconst hO 0 dX6_does_375 (by decide) ?_
              exact G_zret hO hF rfl (Nat.zero_le _) (Nat.zero_le _) rfl dX6_does_376 ⟨rfl, rfl, _, _, rfl, rfl, hs⟩
            · replace hs := hs.2 h35
              refine G_iconst hO 1 dX6_does_371 (by decide) ?_
              refine G_goto hO 376 dX6_does_372 (by decide) ?_
              exact G_zret hO hF rfl (Nat.zero_le _) (Nat.zero_le _) rfl dX6_does_376 ⟨rfl, rfl, _, _, rfl, rfl, hs⟩
set_option maxHeartbeats 4000000 in
set_option maxRecDepth 20000 in
theorem c_X6_runScript {l : Launch} {Λ : Lay} {B : Nat} {ids : List (Nat × Nat)} {ad : Nat → Nat → Nat} {w : Nat → Nat → va_E} (hm : ∀ j, j < 8 → (21, j) ∈ ids) {a1 : Int32} {a2 : Int64} {c : Reg} {P : Int32 → Reg → Prop} (hs : wX6_runScript a1 a2 c P) : CT l yX6_runScript cX6_runScript 6 (some .int) { frames := 9, cells := 0, slots := 0, locals := 197 } Λ B ids ad (va_up w 21 (mdSh Λ ad c)) [.ref (ad 21 0), .int a1, .long a2] (Ri ids ad w 21 (mdSh Λ ad) P) := by
  refine CT.of RX6 [(0, .ref (ad 21 0)), (1, .int a1), (2, .long a2)] (plainFor_of_name (by decide +kernel)) rfl (Nat.le_of_ble_eq_true rfl) rfl (fun Γ hO hF => ?_)
  have b62 : ∀ (N62 : Nat) (v5 : Int32) (c : Reg), wX6_runScript_L62 a1 a2 P N62 v5 c → G Γ ids ad 0 0 (va_up w 21 (mdSh Λ ad c)) 62 [(0, .ref (ad 21 0)), (1, .int a1), (2, .long a2), (5, .int v5)] [] := by
    intro N62
    induction N62 with
    | zero => intro v5 c hs; exact False.elim hs
    | succ N62 ih62 =>
      intro v5 c hs
      unfold wX6_runScript_L62 at hs
      refine G_iload hO 3 dX6_runScript_62 rfl ?_
      refine G_iload_n hO 1 dX6_runScript_64 rfl rfl ?_
      refine G_icmp_ge hO 102 dX6_runScript_65 (by decide) (fun h16 => ?_) (fun h16 => ?_)
      · replace hs := hs.1 h16
        refine G_ldc hO mw_914 dX6_runScript_102 ?_
        exact G_iret hO hF rfl (Nat.zero_le _) (Nat.zero_le _) dX6_runScript_104 ⟨rfl, rfl, _, _, rfl, rfl, hs⟩
      · replace hs := hs.2 h16
        refine G_aload_n hO 0 dX6_runScript_68 rfl rfl ?_
        refine G_lload_n hO 2 dX6_runScript_69 rfl rfl ?_
        refine G_iconst hO 4 dX6_runScript_70 (by decide) ?_
        refine G_iload_n hO 1 dX6_runScript_71 rfl rfl ?_
        refine G_iconst hO 1 dX6_runScript_72 (by decide) ?_
        refine G_isub hO dX6_runScript_73 ?_
        refine G_iload hO 3 dX6_runScript_74 rfl ?_
        refine G_isub hO dX6_runScript_76 ?_
        refine G_imul hO dX6_runScript_77 ?_
        refine KS_Nl hO (rest := [.long a2, .ref (ad 21 0)]) [.int (4 * ((a1 - 1) - v5))] (fun l => c_X6_tenTo hs) cv_X6_tenTo mw_1139 mw_1138 rfl rfl (Nat.le_of_ble_eq_true rfl) (by decide) rfl rfl (Nat.zero_le _) (Nat.zero_le _) dX6_runScript_78 ?_
        intro r12 hs
        refine G_ldiv hO dX6_runScript_81 hs.1 ?_
        replace hs := hs.2
        refine G_ldc2 hO mw_1141 dX6_runScript_82 ?_
        refine G_lrem hO dX6_runScript_85 (by decide) ?_
        refine G_l2i hO dX6_runScript_86 ?_
        refine KV_Ri hO (rest := []) [.int (Int64.toInt32 ((a2 / r12) - (a2 / r12) / 10000 * 10000))] (fun l => c_X6_does hm hs) cv_X6_does mw_1144 ms_31 mw_1142 (hm 0 (by decide)) cl6 (by rw [va_us]; exact (md_0 _ _ _)) rfl rfl (Nat.le_of_ble_eq_true rfl) (by decide) rfl rfl (Nat.zero_le _) (Nat.zero_le _) dX6_runScript_87 ?_
        intro r13 c14 hs
        refine G_if_ne hO 96 dX6_runScript_90 (by decide) (fun h15 => ?_) (fun h15 => ?_)
        · replace hs := hs.1 h15
          refine G_iinc hO 3 (v5 + 1) [(5, .int (v5 + 1)), (0, .ref (ad 21 0)), (1, .int a1), (2, .long a2)] dX6_runScript_96 rfl rfl (by decide) rfl ?_
          refine G_goto hO 62 dX6_runScript_99 (by decide) ?_
          refine G_lv hO [(0, .ref (ad 21 0)), (1, .int a1), (2, .long a2), (5, .int (v5 + 1))] [1, 2, 3, 0] rfl ?_
          exact ih62 _ _ hs
        · replace hs := hs.2 h15
          refine G_iload hO 3 dX6_runScript_93 rfl ?_
          exact G_iret hO hF rfl (Nat.zero_le _) (Nat.zero_le _) dX6_runScript_95 ⟨rfl, rfl, _, _, rfl, rfl, hs⟩
  have b47 : ∀ (s0 : Int32) (c : Reg), wX6_runScript_L47 a1 a2 P s0 c → G Γ ids ad 0 0 (va_up w 21 (mdSh Λ ad c)) 47 [(0, .ref (ad 21 0)), (1, .int a1), (2, .long a2)] [.int s0, .ref (ad 21 0)] := by
    intro s0 c hs
    unfold wX6_runScript_L47 at hs
    refine KV_Ri hO (rest := []) [.int s0] (fun l => c_X6_refused hm hs) cv_X6_refused mw_888 ms_17 mw_886 (hm 0 (by decide)) cl6 (by rw [va_us]; exact (md_0 _ _ _)) rfl rfl (Nat.le_of_ble_eq_true rfl) (by decide) rfl rfl (Nat.zero_le _) (Nat.zero_le _) dX6_runScript_47 ?_
    intro r7 c8 hs
    refine G_if_eq hO 55 dX6_runScript_50 (by decide) (fun h11 => ?_) (fun h11 => ?_)
    · replace hs := hs.1 h11
      refine G_aload_n hO 0 dX6_runScript_55 rfl rfl ?_
      refine KV_Rv hO (rest := []) [] (fun l => c_X6_begin hm hs) cv_X6_begin mw_1103 ms_29 mw_1101 (hm 0 (by decide)) cl6 (by rw [va_us]; exact (md_0 _ _ _)) rfl rfl (Nat.le_of_ble_eq_true rfl) (by decide) rfl rfl (Nat.zero_le _) (Nat.zero_le _) dX6_runScript_56 ?_
      intro c9 hs
      refine G_iconst hO 0 dX6_runScript_59 (by decide) ?_
      refine G_istore hO [(5, .int 0), (0, .ref (ad 21 0)), (1, .int a1), (2, .long a2)] dX6_runScript_60 (by decide) rfl ?_
      obtain ⟨Nf10, hs⟩ := hs
      refine G_lv hO [(0, .ref (ad 21 0)), (1, .int a1), (2, .long a2), (5, .int 0)] [1, 2, 3, 0] rfl ?_
      exact b62 Nf10 _ _ hs
    · replace hs := hs.2 h11
      refine G_iconst hO 0 dX6_runScript_53 (by decide) ?_
      exact G_iret hO hF rfl (Nat.zero_le _) (Nat.zero_le _) dX6_runScript_54 ⟨rfl, rfl, _, _, rfl, rfl, hs⟩
  have b46 : ∀ (c : Reg), wX6_runScript_L46 a1 a2 P c → G Γ ids ad 0 0 (va_up w 21 (mdSh Λ ad c)) 46 [(0, .ref (ad 21 0)), (1, .int a1), (2, .long a2)] [.ref (ad 21 0)] := by
    intro c hs
    unfold wX6_runScript_L46 at hs
    refine G_iconst hO 1 dX6_runScript_46 (by decide) ?_
    exact b47 _ _ hs
  have b31 : ∀ (s0 : Int32) (s1 : Int64) (s2 : Int64) (c : Reg), wX6_runScript_L31 a1 a2 P s0 s1 s2 c → G Γ ids ad 0 0 (va_up w 21 (mdSh Λ ad c)) 31 [(0, .ref (ad 21 0)), (1, .int a1), (2, .long a2)] [.int s0, .long s1, .long s2, .ref (ad 21 0)] := by
    intro s0 s1 s2 c hs
    unfold wX6_runScript_L31 at hs
    refine KS_Nl hO (rest := [.long s1, .long s2, .ref (ad 21 0)]) [.int s0] (fun l => c_X6_tenTo hs) cv_X6_tenTo mw_1139 mw_1138 rfl rfl (Nat.le_of_ble_eq_true rfl) (by decide) rfl rfl (Nat.zero_le _) (Nat.zero_le _) dX6_runScript_31 ?_
    intro r4 hs
    refine G_lconst hO 1 dX6_runScript_34 (by decide) ?_
    refine G_lsub hO dX6_runScript_35 ?_
    refine KS_Ni hO (rest := [.ref (ad 21 0)]) [.long s2, .long s1, .long (r4 - 1)] (fun l => c_X6_in hs) cv_X6_in mw_884 mw_883 rfl rfl (Nat.le_of_ble_eq_true rfl) (by decide) rfl rfl (Nat.zero_le _) (Nat.zero_le _) dX6_runScript_36 ?_
    intro r5 hs
    refine G_if_eq hO 46 dX6_runScript_39 (by decide) (fun h6 => ?_) (fun h6 => ?_)
    · replace hs := hs.1 h6
      exact b46 _ hs
    · replace hs := hs.2 h6
      refine G_iconst hO 0 dX6_runScript_42 (by decide) ?_
      refine G_goto hO 47 dX6_runScript_43 (by decide) ?_
      exact b47 _ _ hs
  unfold wX6_runScript at hs
  refine G_iload_n hO 1 dX6_runScript_0 rfl rfl ?_
  refine G_i2l hO dX6_runScript_1 ?_
  refine G_lconst hO 1 dX6_runScript_2 (by decide) ?_
  refine G_ldc2 hO mw_1137 dX6_runScript_3 ?_
  refine KS_Ni hO (rest := []) [.long (Int32.toInt64 a1), .long 1, .long 4] (fun l => c_X6_in hs) cv_X6_in mw_884 mw_883 rfl rfl (Nat.le_of_ble_eq_true rfl) (by decide) rfl rfl (Nat.zero_le _) (Nat.zero_le _) dX6_runScript_6 ?_
  intro r1 hs
  refine G_istore hO [(4, .int r1), (0, .ref (ad 21 0)), (1, .int a1), (2, .long a2)] dX6_runScript_9 (by decide) rfl ?_
  refine G_aload_n hO 1 dX6_runScript_11 rfl rfl ?_
  refine G_iload hO 0 dX6_runScript_12 rfl ?_
  refine G_if_eq hO 46 dX6_runScript_14 (by decide) (fun h3 => ?_) (fun h3 => ?_)
  · replace hs := hs.1 h3
    refine G_lv hO [(0, .ref (ad 21 0)), (1, .int a1), (2, .long a2)] [1, 2, 3] rfl ?_
    exact b46 _ hs
  · replace hs := hs.2 h3
    refine G_lload_n hO 3 dX6_runScript_17 rfl rfl ?_
    refine G_lconst hO 0 dX6_runScript_18 (by decide) ?_
    refine G_iload hO 0 dX6_runScript_19 rfl ?_
    refine G_if_eq hO 30 dX6_runScript_21 (by decide) (fun h2 => ?_) (fun h2 => ?_)
    · replace hs := hs.1 h2
      refine G_iconst hO 0 dX6_runScript_30 (by decide) ?_
      refine G_lv hO [(0, .ref (ad 21 0)), (1, .int a1), (2, .long a2)] [1, 2, 3] rfl ?_
      exact b31 _ _ _ _ hs
    · replace hs := hs.2 h2
      refine G_iconst hO 4 dX6_runScript_24 (by decide) ?_
      refine G_iload_n hO 2 dX6_runScript_25 rfl rfl ?_
      refine G_imul hO dX6_runScript_26 ?_
      refine G_goto hO 31 dX6_runScript_27 (by decide) ?_
      refine G_lv hO [(0, .ref (ad 21 0)), (1, .int a1), (2, .long a2)] [1, 2, 3] rfl ?_
      exact b31 _ _ _ _ hs
set_option maxHeartbeats 4000000 in
set_option maxRecDepth 20000 in
theorem c_X6_simulate {l : Launch} {Λ : Lay} {B : Nat} {ids : List (Nat × Nat)} {ad : Nat → Nat → Nat} {w : Nat → Nat → va_E} (hm : ∀ j, j < 8 → (21, j) ∈ ids) {a1 : Int64} {a3 : Int32} {c : Reg} {P : Int64 → Reg → Prop} (hs : wX6_simulate a1 a3 c P) : CT l yX6_simulate cX6_simulate 10 (some .long) { frames := 8, cells := 0, slots := 0, locals := 171 } Λ B ids ad (va_up w 21 (mdSh Λ ad c)) [.ref (ad 21 0), .long a1, .int a3] (Rl ids ad w 21 (mdSh Λ ad) P) := by
  refine CT.of RX6 [(0, .ref (ad 21 0)), (1, .long a1), (3, .int a3)] (plainFor_of_name (by decide +kernel)) rfl (Nat.le_of_ble_eq_true rfl) rfl (fun Γ hO hF => ?_)
  have b39 : ∀ (N39 : Nat) (v4 : Int64) (v6 : Int64) (v8 : Int32) (c : Reg), wX6_simulate_L39 a1 a3 P N39 v4 v6 v8 c → G Γ ids ad 0 0 (va_up w 21 (mdSh Λ ad c)) 39 [(0, .ref (ad 21 0)), (3, .int a3), (4, .long v4), (6, .long v6), (8, .int v8)] [] := by
    intro N39
    induction N39 with
    | zero => intro v4 v6 v8 c hs; exact False.elim hs
    | succ N39 ih39 =>
      have b125 : ∀ (v4 : Int64) (v6 : Int64) (v8 : Int32) (c : Reg), wX6_simulate_L125 a1 a3 P (fun v4' v6' v8' c' => wX6_simulate_L39 a1 a3 P N39 v4' v6' v8' c') v4 v6 v8 c → G Γ ids ad 0 0 (va_up w 21 (mdSh Λ ad c)) 125 [(0, .ref (ad 21 0)), (3, .int a3), (4, .long v4), (6, .long v6), (8, .int v8)] [] := by
        intro v4 v6 v8 c hs
        unfold wX6_simulate_L125 at hs
        refine G_lload hO 3 dX6_simulate_125 rfl ?_
        refine G_aload_n hO 0 dX6_simulate_127 rfl rfl ?_
        refine C_getf hO (v := .ref (ad 21 4)) cl6 7 (hm 0 (by decide)) (md_0 _ _ _) (by decide) mw_844 rfl rfl dX6_simulate_128 ?_
        refine G_bipush hO 10 dX6_simulate_131 (by decide) ?_
        refine KS_Ri hO (rest := [.long v6]) [.ref (ad 21 4), .int 10] (fun l => c_X6_goMinutes hm (by decide) hs) cv_X6_goMinutes mw_1054 mw_1053 rfl rfl (Nat.le_of_ble_eq_true rfl) (by decide) rfl rfl (Nat.zero_le _) (Nat.zero_le _) dX6_simulate_133 ?_
        intro r16 c17 hs
        refine G_i2l hO dX6_simulate_136 ?_
        refine G_ladd hO dX6_simulate_137 ?_
        refine G_lstore hO [(6, .long (v6 + (Int32.toInt64 r16))), (0, .ref (ad 21 0)), (3, .int a3), (4, .long v4), (8, .int v8)] dX6_simulate_138 (by decide) rfl ?_
        refine G_iinc hO 4 (v8 + 1) [(8, .int (v8 + 1)), (6, .long (v6 + (Int32.toInt64 r16))), (0, .ref (ad 21 0)), (3, .int a3), (4, .long v4)] dX6_simulate_140 rfl rfl (by decide) rfl ?_
        refine G_goto hO 39 dX6_simulate_143 (by decide) ?_
        refine G_lv hO [(0, .ref (ad 21 0)), (3, .int a3), (4, .long v4), (6, .long (v6 + (Int32.toInt64 r16))), (8, .int (v8 + 1))] [2, 3, 4, 1, 0] rfl ?_
        exact ih39 _ _ _ _ hs
      have b124 : ∀ (v4 : Int64) (v6 : Int64) (v8 : Int32) (s0 : Int32) (s1 : Int32) (c : Reg), wX6_simulate_L124 a1 a3 P (fun v4' v6' v8' c' => wX6_simulate_L39 a1 a3 P N39 v4' v6' v8' c') v4 v6 v8 s0 s1 c → G Γ ids ad 0 0 (va_up w 21 (mdSh Λ ad c)) 124 [(0, .ref (ad 21 0)), (3, .int a3), (4, .long v4), (6, .long v6), (8, .int v8)] [.int s0, .int s1, .ref (ad 21 4)] := by
        intro v4 v6 v8 s0 s1 c hs
        unfold wX6_simulate_L124 at hs
        refine C_iast hO (cw_md _ _) _ rfl (hm 4 (by decide)) (md_4 _ _) hs.1 dX6_simulate_124 ?_
        replace hs := hs.2
        exact b125 _ _ _ _ hs
      intro v4 v6 v8 c hs
      unfold wX6_simulate_L39 at hs
      refine G_iload hO 4 dX6_simulate_39 rfl ?_
      refine G_iload_n hO 1 dX6_simulate_41 rfl rfl ?_
      refine G_icmp_ge hO 146 dX6_simulate_42 (by decide) (fun h15 => ?_) (fun h15 => ?_)
      · replace hs := hs.1 h15
        refine G_ldc2 hO mw_1152 dX6_simulate_146 ?_
        refine G_lload hO 3 dX6_simulate_149 rfl ?_
        refine G_lmul hO dX6_simulate_151 ?_
        refine G_aload_n hO 0 dX6_simulate_152 rfl rfl ?_
        refine C_getf hO (v := .ref (ad 21 4)) cl6 7 (hm 0 (by decide)) (md_0 _ _ _) (by decide) mw_844 rfl rfl dX6_simulate_153 ?_
        refine G_bipush hO 9 dX6_simulate_156 (by decide) ?_
        refine G_iconst hO 0 dX6_simulate_158 (by decide) ?_
        refine KS_Ri hO (rest := [.long (1000000 * v6)]) [.ref (ad 21 4), .int 9, .int 0] (fun l => c_X6_movedOf hm (by decide) hs) cv_X6_movedOf mw_1008 mw_1007 rfl rfl (Nat.le_of_ble_eq_true rfl) (by decide) rfl rfl (Nat.zero_le _) (Nat.zero_le _) dX6_simulate_159 ?_
        intro r8 c9 hs
        refine G_i2l hO dX6_simulate_162 ?_
        refine G_ladd hO dX6_simulate_163 ?_
        refine G_aload_n hO 0 dX6_simulate_164 rfl rfl ?_
        refine C_getf hO (v := .ref (ad 21 3)) cl6 6 (hm 0 (by decide)) (md_0 _ _ _) (by decide) mw_843 rfl rfl dX6_simulate_165 ?_
        refine G_bipush hO 9 dX6_simulate_168 (by decide) ?_
        refine G_iconst hO 0 dX6_simulate_170 (by decide) ?_
        refine KS_Ri hO (rest := [.long ((1000000 * v6) + (Int32.toInt64 r8))]) [.ref (ad 21 3), .int 9, .int 0] (fun l => c_X6_movedOf hm (by decide) hs) cv_X6_movedOf mw_1008 mw_1007 rfl rfl (Nat.le_of_ble_eq_true rfl) (by decide) rfl rfl (Nat.zero_le _) (Nat.zero_le _) dX6_simulate_171 ?_
        intro r10 c11 hs
        refine G_i2l hO dX6_simulate_174 ?_
        refine G_lsub hO dX6_simulate_175 ?_
        exact G_lret hO hF rfl (Nat.zero_le _) (Nat.zero_le _) dX6_simulate_176 ⟨rfl, rfl, _, _, rfl, rfl, hs⟩
      · replace hs := hs.2 h15
        refine G_lload hO 2 dX6_simulate_45 rfl ?_
        refine G_ldc2 hO mw_1150 dX6_simulate_47 ?_
        refine G_lmul hO dX6_simulate_50 ?_
        refine G_ldc2 hO mw_1151 dX6_simulate_51 ?_
        refine G_ladd hO dX6_simulate_54 ?_
        refine G_lstore hO [(4, .long ((v4 * 6364136223846793005) + 1442695040888963407)), (0, .ref (ad 21 0)), (3, .int a3), (6, .long v6), (8, .int v8)] dX6_simulate_55 (by decide) rfl ?_
        refine G_lload hO 0 dX6_simulate_57 rfl ?_
        refine G_bipush hO 33 dX6_simulate_59 (by decide) ?_
        refine G_lushr hO dX6_simulate_61 ?_
        refine G_l2i hO dX6_simulate_62 ?_
        refine G_istore hO [(9, .int (Int64.toInt32 ((Int64.toUInt64 ((v4 * 6364136223846793005) + 1442695040888963407) >>> ((Int32.toInt64 33).toUInt64 &&& Int64.toUInt64 63)).toInt64))), (4, .long ((v4 * 6364136223846793005) + 1442695040888963407)), (0, .ref (ad 21 0)), (3, .int a3), (6, .long v6), (8, .int v8)] dX6_simulate_63 (by decide) rfl ?_
        refine G_aload_n hO 2 dX6_simulate_65 rfl rfl ?_
        refine C_getf hO (v := .ref (ad 21 4)) cl6 7 (hm 0 (by decide)) (md_0 _ _ _) (by decide) mw_844 rfl rfl dX6_simulate_66 ?_
        refine G_iconst hO 2 dX6_simulate_69 (by decide) ?_
        refine G_iload hO 0 dX6_simulate_70 rfl ?_
        refine G_bipush hO 61 dX6_simulate_72 (by decide) ?_
        refine G_irem hO dX6_simulate_74 (by decide) ?_
        refine G_bipush hO 20 dX6_simulate_75 (by decide) ?_
        refine G_isub hO dX6_simulate_77 ?_
        refine C_iast hO (cw_md _ _) 2 (by decide) (hm 4 (by decide)) (md_4 _ _) (vp_lit (by decide)) dX6_simulate_78 ?_
        refine G_aload_n hO 2 dX6_simulate_79 rfl rfl ?_
        refine C_getf hO (v := .ref (ad 21 4)) cl6 7 (hm 0 (by decide)) (md_0 _ _ _) (by decide) mw_844 rfl rfl dX6_simulate_80 ?_
        refine G_iconst hO 0 dX6_simulate_83 (by decide) ?_
        refine C_iald hO 0 (by decide) (hm 4 (by decide)) (md_4 _ _ _) (vp_lit (by decide)) dX6_simulate_84 ?_
        refine G_if_le hO 125 dX6_simulate_85 (by decide) (fun h14 => ?_) (fun h14 => ?_)
        · replace hs := hs.1 h14
          refine G_lv hO [(0, .ref (ad 21 0)), (3, .int a3), (4, .long ((v4 * 6364136223846793005) + 1442695040888963407)), (6, .long v6), (8, .int v8)] [2, 3, 1, 4, 5] rfl ?_
          exact b125 _ _ _ _ hs
        · replace hs := hs.2 h14
          refine G_aload_n hO 2 dX6_simulate_88 rfl rfl ?_
          refine C_getf hO (v := .ref (ad 21 4)) cl6 7 (hm 0 (by decide)) (md_0 _ _ _) (by decide) mw_844 rfl rfl dX6_simulate_89 ?_
          refine G_iload hO 0 dX6_simulate_92 rfl ?_
          refine G_bipush hO 64 dX6_simulate_94 (by decide) ?_
          refine G_idiv hO dX6_simulate_96 (by decide) ?_
          refine G_aload_n hO 2 dX6_simulate_97 rfl rfl ?_
          refine C_getf hO (v := .ref (ad 21 4)) cl6 7 (hm 0 (by decide)) (md_0 _ _ _) (by decide) mw_844 rfl rfl dX6_simulate_98 ?_
          refine G_iconst hO 0 dX6_simulate_101 (by decide) ?_
          refine C_iald hO 0 (by decide) (hm 4 (by decide)) (md_4 _ _ _) (vp_lit (by decide)) dX6_simulate_102 ?_
          refine G_irem hO dX6_simulate_103 hs.1 ?_
          replace hs := hs.2
          refine G_iconst hO 4 dX6_simulate_104 (by decide) ?_
          refine KS_Ni hO (rest := [.ref (ad 21 4)]) [.int (((Int64.toInt32 ((Int64.toUInt64 ((v4 * 6364136223846793005) + 1442695040888963407) >>> ((Int32.toInt64 33).toUInt64 &&& Int64.toUInt64 63)).toInt64)) / 64) - ((Int64.toInt32 ((Int64.toUInt64 ((v4 * 6364136223846793005) + 1442695040888963407) >>> ((Int32.toInt64 33).toUInt64 &&& Int64.toUInt64 63)).toInt64)) / 64) / ((cu c 4 2 (((Int64.toInt32 ((Int64.toUInt64 ((v4 * 6364136223846793005) + 1442695040888963407) >>> ((Int32.toInt64 33).toUInt64 &&& Int64.toUInt64 63)).toInt64)) - (Int64.toInt32 ((Int64.toUInt64 ((v4 * 6364136223846793005) + 1442695040888963407) >>> ((Int32.toInt64 33).toUInt64 &&& Int64.toUInt64 63)).toInt64)) / 61 * 61) - 20)) 4 0) * ((cu c 4 2 (((Int64.toInt32 ((Int64.toUInt64 ((v4 * 6364136223846793005) + 1442695040888963407) >>> ((Int32.toInt64 33).toUInt64 &&& Int64.toUInt64 63)).toInt64)) - (Int64.toInt32 ((Int64.toUInt64 ((v4 * 6364136223846793005) + 1442695040888963407) >>> ((Int32.toInt64 33).toUInt64 &&& Int64.toUInt64 63)).toInt64)) / 61 * 61) - 20)) 4 0)), .int 4] (fun l => c_X6_cell hs) cv_X6_cell mw_928 mw_927 rfl rfl (Nat.le_of_ble_eq_true rfl) (by decide) rfl rfl (Nat.zero_le _) (Nat.zero_le _) dX6_simulate_105 ?_
          intro r12 hs
          refine G_iload hO 0 dX6_simulate_108 rfl ?_
          refine G_sipush hO 512 dX6_simulate_110 (by decide) ?_
          refine G_idiv hO dX6_simulate_113 (by decide) ?_
          refine G_iconst hO 4 dX6_simulate_114 (by decide) ?_
          refine G_irem hO dX6_simulate_115 (by decide) ?_
          refine G_if_ne hO 123 dX6_simulate_116 (by decide) (fun h13 => ?_) (fun h13 => ?_)
          · replace hs := hs.1 h13
            refine G_iconst hO 0 dX6_simulate_123 (by decide) ?_
            refine G_lv hO [(0, .ref (ad 21 0)), (3, .int a3), (4, .long ((v4 * 6364136223846793005) + 1442695040888963407)), (6, .long v6), (8, .int v8)] [2, 3, 1, 4, 5] rfl ?_
            exact b124 _ _ _ _ _ _ hs
          · replace hs := hs.2 h13
            refine G_iconst hO 1 dX6_simulate_119 (by decide) ?_
            refine G_goto hO 124 dX6_simulate_120 (by decide) ?_
            refine G_lv hO [(0, .ref (ad 21 0)), (3, .int a3), (4, .long ((v4 * 6364136223846793005) + 1442695040888963407)), (6, .long v6), (8, .int v8)] [2, 3, 1, 4, 5] rfl ?_
            exact b124 _ _ _ _ _ _ hs
  have b18 : ∀ (s0 : Int32) (c : Reg), wX6_simulate_L18 a1 a3 P s0 c → G Γ ids ad 0 0 (va_up w 21 (mdSh Λ ad c)) 18 [(0, .ref (ad 21 0)), (1, .long a1), (3, .int a3)] [.int s0, .ref (ad 21 0)] := by
    intro s0 c hs
    unfold wX6_simulate_L18 at hs
    refine KV_Ri hO (rest := []) [.int s0] (fun l => c_X6_refused hm hs) cv_X6_refused mw_888 ms_17 mw_886 (hm 0 (by decide)) cl6 (by rw [va_us]; exact (md_0 _ _ _)) rfl rfl (Nat.le_of_ble_eq_true rfl) (by decide) rfl rfl (Nat.zero_le _) (Nat.zero_le _) dX6_simulate_18 ?_
    intro r3 c4 hs
    refine G_if_eq hO 26 dX6_simulate_21 (by decide) (fun h7 => ?_) (fun h7 => ?_)
    · replace hs := hs.1 h7
      refine G_aload_n hO 0 dX6_simulate_26 rfl rfl ?_
      refine KV_Rv hO (rest := []) [] (fun l => c_X6_begin hm hs) cv_X6_begin mw_1103 ms_29 mw_1101 (hm 0 (by decide)) cl6 (by rw [va_us]; exact (md_0 _ _ _)) rfl rfl (Nat.le_of_ble_eq_true rfl) (by decide) rfl rfl (Nat.zero_le _) (Nat.zero_le _) dX6_simulate_27 ?_
      intro c5 hs
      refine G_lload_n hO 1 dX6_simulate_30 rfl rfl ?_
      refine G_lstore hO [(4, .long a1), (0, .ref (ad 21 0)), (1, .long a1), (3, .int a3)] dX6_simulate_31 (by decide) rfl ?_
      refine G_lconst hO 0 dX6_simulate_33 (by decide) ?_
      refine G_lstore hO [(6, .long 0), (4, .long a1), (0, .ref (ad 21 0)), (1, .long a1), (3, .int a3)] dX6_simulate_34 (by decide) rfl ?_
      refine G_iconst hO 0 dX6_simulate_36 (by decide) ?_
      refine G_istore hO [(8, .int 0), (6, .long 0), (4, .long a1), (0, .ref (ad 21 0)), (1, .long a1), (3, .int a3)] dX6_simulate_37 (by decide) rfl ?_
      obtain ⟨Nf6, hs⟩ := hs
      refine G_lv hO [(0, .ref (ad 21 0)), (3, .int a3), (4, .long a1), (6, .long 0), (8, .int 0)] [3, 5, 2, 1, 0] rfl ?_
      exact b39 Nf6 _ _ _ _ hs
    · replace hs := hs.2 h7
      refine G_lconst hO 0 dX6_simulate_24 (by decide) ?_
      exact G_lret hO hF rfl (Nat.zero_le _) (Nat.zero_le _) dX6_simulate_25 ⟨rfl, rfl, _, _, rfl, rfl, hs⟩
  unfold wX6_simulate at hs
  refine G_aload_n hO 0 dX6_simulate_0 rfl rfl ?_
  refine G_iload_n hO 2 dX6_simulate_1 rfl rfl ?_
  refine G_i2l hO dX6_simulate_2 ?_
  refine G_lconst hO 1 dX6_simulate_3 (by decide) ?_
  refine G_ldc2 hO mw_1052 dX6_simulate_4 ?_
  refine KS_Ni hO (rest := [.ref (ad 21 0)]) [.long (Int32.toInt64 a3), .long 1, .long 60] (fun l => c_X6_in hs) cv_X6_in mw_884 mw_883 rfl rfl (Nat.le_of_ble_eq_true rfl) (by decide) rfl rfl (Nat.zero_le _) (Nat.zero_le _) dX6_simulate_7 ?_
  intro r1 hs
  refine G_if_eq hO 17 dX6_simulate_10 (by decide) (fun h2 => ?_) (fun h2 => ?_)
  · replace hs := hs.1 h2
    refine G_iconst hO 1 dX6_simulate_17 (by decide) ?_
    exact b18 _ _ hs
  · replace hs := hs.2 h2
    refine G_iconst hO 0 dX6_simulate_13 (by decide) ?_
    refine G_goto hO 18 dX6_simulate_14 (by decide) ?_
    exact b18 _ _ hs
set_option maxHeartbeats 4000000 in
set_option maxRecDepth 20000 in
theorem c_X6_save {l : Launch} {Λ : Lay} {B : Nat} {ids : List (Nat × Nat)} {ad : Nat → Nat → Nat} {w : Nat → Nat → va_E} (hm : ∀ j, j < 8 → (21, j) ∈ ids) {a1 : Int32} {c : Reg} {P : Int32 → Reg → Prop} (hs : wX6_save a1 c P) : CT l yX6_save cX6_save 2 (some .int) { frames := 1, cells := 0, slots := 0, locals := 25 } Λ B ids ad (va_up w 21 (mdSh Λ ad c)) [.ref (ad 21 0), .int a1] (Ri ids ad w 21 (mdSh Λ ad) P) := by
  refine CT.of RX6 [(0, .ref (ad 21 0)), (1, .int a1)] (plainFor_of_name (by decide +kernel)) rfl (Nat.le_of_ble_eq_true rfl) rfl (fun Γ hO hF => ?_)
  have b16 : ∀ (s0 : Int32) (c : Reg), wX6_save_L16 a1 P s0 c → G Γ ids ad 0 0 (va_up w 21 (mdSh Λ ad c)) 16 [(0, .ref (ad 21 0)), (1, .int a1)] [.int s0, .ref (ad 21 0)] := by
    intro s0 c hs
    unfold wX6_save_L16 at hs
    refine KV_Ri hO (rest := []) [.int s0] (fun l => c_X6_refused hm hs) cv_X6_refused mw_888 ms_17 mw_886 (hm 0 (by decide)) cl6 (by rw [va_us]; exact (md_0 _ _ _)) rfl rfl (Nat.le_of_ble_eq_true rfl) (by decide) rfl rfl (Nat.zero_le _) (Nat.zero_le _) dX6_save_16 ?_
    intro r3 c4 hs
    refine G_if_eq hO 24 dX6_save_19 (by decide) (fun h6 => ?_) (fun h6 => ?_)
    · replace hs := hs.1 h6
      refine G_aload_n hO 0 dX6_save_24 rfl rfl ?_
      refine C_getf hO (v := .ref (ad 21 3)) cl6 6 (hm 0 (by decide)) (md_0 _ _ _) (by decide) mw_843 rfl rfl dX6_save_25 ?_
      refine G_iconst hO 0 dX6_save_28 (by decide) ?_
      refine G_aload_n hO 0 dX6_save_29 rfl rfl ?_
      refine C_getf hO (v := .ref (ad 21 6)) cl6 10 (hm 0 (by decide)) (md_0 _ _ _) (by decide) mw_847 rfl rfl dX6_save_30 ?_
      refine G_sipush hO 128 dX6_save_33 (by decide) ?_
      refine G_iload_n hO 1 dX6_save_36 rfl rfl ?_
      refine G_imul hO dX6_save_37 ?_
      refine G_sipush hO 128 dX6_save_38 (by decide) ?_
      refine KS_Rv hO (rest := []) [.ref (ad 21 3), .int 0, .ref (ad 21 6), .int (128 * a1), .int 128] (fun l => c_X6_copy hm (by decide) (by decide) hs) cv_X6_copy mw_955 mw_954 rfl rfl (Nat.le_of_ble_eq_true rfl) (by decide) rfl rfl (Nat.zero_le _) (Nat.zero_le _) dX6_save_41 ?_
      intro c5 hs
      refine G_aload_n hO 0 dX6_save_44 rfl rfl ?_
      refine C_getf hO (v := .ref (ad 21 7)) cl6 11 (hm 0 (by decide)) (md_0 _ _ _) (by decide) mw_848 rfl rfl dX6_save_45 ?_
      refine G_iload_n hO 1 dX6_save_48 rfl rfl ?_
      refine G_iconst hO 1 dX6_save_49 (by decide) ?_
      refine C_zast hO (cw_md _ _) _ rfl (hm 7 (by decide)) (md_7 _ _) hs.1 dX6_save_50 ?_
      replace hs := hs.2
      refine G_aload_n hO 0 dX6_save_51 rfl rfl ?_
      refine C_getf hO (v := .ref (ad 21 3)) cl6 6 (hm 0 (by decide)) (md_0 _ _ _) (by decide) mw_843 rfl rfl dX6_save_52 ?_
      refine G_iconst hO 1 dX6_save_55 (by decide) ?_
      refine C_iald hO 1 (by decide) (hm 3 (by decide)) (md_3 _ _ _) (vp_lit (by decide)) dX6_save_56 ?_
      exact G_iret hO hF rfl (Nat.zero_le _) (Nat.zero_le _) dX6_save_57 ⟨rfl, rfl, _, _, rfl, rfl, hs⟩
    · replace hs := hs.2 h6
      refine G_iconst hO 0 dX6_save_22 (by decide) ?_
      exact G_iret hO hF rfl (Nat.zero_le _) (Nat.zero_le _) dX6_save_23 ⟨rfl, rfl, _, _, rfl, rfl, hs⟩
  unfold wX6_save at hs
  refine G_aload_n hO 0 dX6_save_0 rfl rfl ?_
  refine G_iload_n hO 1 dX6_save_1 rfl rfl ?_
  refine G_i2l hO dX6_save_2 ?_
  refine G_lconst hO 0 dX6_save_3 (by decide) ?_
  refine G_lconst hO 1 dX6_save_4 (by decide) ?_
  refine KS_Ni hO (rest := [.ref (ad 21 0)]) [.long (Int32.toInt64 a1), .long 0, .long 1] (fun l => c_X6_in hs) cv_X6_in mw_884 mw_883 rfl rfl (Nat.le_of_ble_eq_true rfl) (by decide) rfl rfl (Nat.zero_le _) (Nat.zero_le _) dX6_save_5 ?_
  intro r1 hs
  refine G_if_eq hO 15 dX6_save_8 (by decide) (fun h2 => ?_) (fun h2 => ?_)
  · replace hs := hs.1 h2
    refine G_iconst hO 1 dX6_save_15 (by decide) ?_
    exact b16 _ _ hs
  · replace hs := hs.2 h2
    refine G_iconst hO 0 dX6_save_11 (by decide) ?_
    refine G_goto hO 16 dX6_save_12 (by decide) ?_
    exact b16 _ _ hs
set_option maxHeartbeats 4000000 in
set_option maxRecDepth 20000 in
theorem c_X6_restore {l : Launch} {Λ : Lay} {B : Nat} {ids : List (Nat × Nat)} {ad : Nat → Nat → Nat} {w : Nat → Nat → va_E} (hm : ∀ j, j < 8 → (21, j) ∈ ids) {a1 : Int32} {c : Reg} {P : Int32 → Reg → Prop} (hs : wX6_restore a1 c P) : CT l yX6_restore cX6_restore 2 (some .int) { frames := 1, cells := 0, slots := 0, locals := 25 } Λ B ids ad (va_up w 21 (mdSh Λ ad c)) [.ref (ad 21 0), .int a1] (Ri ids ad w 21 (mdSh Λ ad) P) := by
  refine CT.of RX6 [(0, .ref (ad 21 0)), (1, .int a1)] (plainFor_of_name (by decide +kernel)) rfl (Nat.le_of_ble_eq_true rfl) rfl (fun Γ hO hF => ?_)
  have b29 : ∀ (s0 : Int32) (c : Reg), wX6_restore_L29 a1 P s0 c → G Γ ids ad 0 0 (va_up w 21 (mdSh Λ ad c)) 29 [(0, .ref (ad 21 0)), (1, .int a1)] [.int s0, .ref (ad 21 0)] := by
    intro s0 c hs
    unfold wX6_restore_L29 at hs
    refine KV_Ri hO (rest := []) [.int s0] (fun l => c_X6_refused hm hs) cv_X6_refused mw_888 ms_17 mw_886 (hm 0 (by decide)) cl6 (by rw [va_us]; exact (md_0 _ _ _)) rfl rfl (Nat.le_of_ble_eq_true rfl) (by decide) rfl rfl (Nat.zero_le _) (Nat.zero_le _) dX6_restore_29 ?_
    intro r4 c5 hs
    refine G_if_eq hO 37 dX6_restore_32 (by decide) (fun h7 => ?_) (fun h7 => ?_)
    · replace hs := hs.1 h7
      refine G_aload_n hO 0 dX6_restore_37 rfl rfl ?_
      refine C_getf hO (v := .ref (ad 21 6)) cl6 10 (hm 0 (by decide)) (md_0 _ _ _) (by decide) mw_847 rfl rfl dX6_restore_38 ?_
      refine G_sipush hO 128 dX6_restore_41 (by decide) ?_
      refine G_iload_n hO 1 dX6_restore_44 rfl rfl ?_
      refine G_imul hO dX6_restore_45 ?_
      refine G_aload_n hO 0 dX6_restore_46 rfl rfl ?_
      refine C_getf hO (v := .ref (ad 21 3)) cl6 6 (hm 0 (by decide)) (md_0 _ _ _) (by decide) mw_843 rfl rfl dX6_restore_47 ?_
      refine G_iconst hO 0 dX6_restore_50 (by decide) ?_
      refine G_sipush hO 128 dX6_restore_51 (by decide) ?_
      refine KS_Rv hO (rest := []) [.ref (ad 21 6), .int (128 * a1), .ref (ad 21 3), .int 0, .int 128] (fun l => c_X6_copy hm (by decide) (by decide) hs) cv_X6_copy mw_955 mw_954 rfl rfl (Nat.le_of_ble_eq_true rfl) (by decide) rfl rfl (Nat.zero_le _) (Nat.zero_le _) dX6_restore_54 ?_
      intro c6 hs
      refine G_aload_n hO 0 dX6_restore_57 rfl rfl ?_
      refine G_iconst hO 0 dX6_restore_58 (by decide) ?_
      refine C_putf hO (cw_md _ _) cl6 9 (hm 0 (by decide)) (md_0 _ _ _) (by decide) mw_846 rfl rfl rfl rfl (Nat.le_of_ble_eq_true rfl) (mdP (by decide)) dX6_restore_59 ?_
      refine G_aload_n hO 0 dX6_restore_62 rfl rfl ?_
      refine C_getf hO (v := .ref (ad 21 3)) cl6 6 (hm 0 (by decide)) (md_0 _ _ _) (by decide) mw_843 rfl rfl dX6_restore_63 ?_
      refine G_iconst hO 1 dX6_restore_66 (by decide) ?_
      refine C_iald hO 1 (by decide) (hm 3 (by decide)) (md_3 _ _ _) (vp_lit (by decide)) dX6_restore_67 ?_
      exact G_iret hO hF rfl (Nat.zero_le _) (Nat.zero_le _) dX6_restore_68 ⟨rfl, rfl, _, _, rfl, rfl, hs⟩
    · replace hs := hs.2 h7
      refine G_iconst hO 0 dX6_restore_35 (by decide) ?_
      exact G_iret hO hF rfl (Nat.zero_le _) (Nat.zero_le _) dX6_restore_36 ⟨rfl, rfl, _, _, rfl, rfl, hs⟩
  unfold wX6_restore at hs
  refine G_aload_n hO 0 dX6_restore_0 rfl rfl ?_
  refine G_iload_n hO 1 dX6_restore_1 rfl rfl ?_
  refine G_i2l hO dX6_restore_2 ?_
  refine G_lconst hO 0 dX6_restore_3 (by decide) ?_
  refine G_lconst hO 1 dX6_restore_4 (by decide) ?_
  refine KS_Ni hO (rest := [.ref (ad 21 0)]) [.long (Int32.toInt64 a1), .long 0, .long 1] (fun l => c_X6_in hs) cv_X6_in mw_884 mw_883 rfl rfl (Nat.le_of_ble_eq_true rfl) (by decide) rfl rfl (Nat.zero_le _) (Nat.zero_le _) dX6_restore_5 ?_
  intro r1 hs
  refine G_if_ne hO 15 dX6_restore_8 (by decide) (fun h3 => ?_) (fun h3 => ?_)
  · replace hs := hs.1 h3
    refine G_aload_n hO 0 dX6_restore_15 rfl rfl ?_
    refine C_getf hO (v := .ref (ad 21 7)) cl6 11 (hm 0 (by decide)) (md_0 _ _ _) (by decide) mw_848 rfl rfl dX6_restore_16 ?_
    refine G_iload_n hO 1 dX6_restore_19 rfl rfl ?_
    refine C_zald hO _ rfl (hm 7 (by decide)) (md_7 _ _ _) hs.1 dX6_restore_20 ?_
    replace hs := hs.2
    refine G_if_eq hO 28 dX6_restore_21 (by decide) (fun h2 => ?_) (fun h2 => ?_)
    · replace hs := hs.1 h2
      refine G_iconst hO 2 dX6_restore_28 (by decide) ?_
      exact b29 _ _ hs
    · replace hs := hs.2 h2
      refine G_iconst hO 0 dX6_restore_24 (by decide) ?_
      refine G_goto hO 29 dX6_restore_25 (by decide) ?_
      exact b29 _ _ hs
  · replace hs := hs.2 h3
    refine G_iconst hO 1 dX6_restore_11 (by decide) ?_
    refine G_goto hO 29 dX6_restore_12 (by decide) ?_
    exact b29 _ _ hs
