set_option maxHeartbeats 4000000 in
set_option maxRecDepth 20000 in
theorem c_X3_isPinched {l : Launch} {Λ : Lay} {B : Zn} {ids : List (Nat × Nat)} {ad : Nat → Nat → Nat} {w : Nat → Nat → va_E} {n : Nat} (hm : ∀ j, j < 15 → (n, j) ∈ ids) {c : Reg} {P : Int32 → Reg → Prop} (hs : wX3_isPinched c P) : CT l yX3_isPinched cX3_isPinched 1 (some .boolean) { frames := 2, cells := 0, slots := 0, locals := 43 } Λ B ids ad (va_up w n (stSh Λ ad n c)) [.ref (ad n 0)] (Ri ids ad w n (stSh Λ ad n) P) := by
  refine CT.of RX3 [(0, .ref (ad n 0))] (plainFor_of_name (by decide +kernel)) rfl (Nat.le_of_ble_eq_true rfl) rfl (fun Γ hO hF => ?_)
  unfold wX3_isPinched at hs
  refine G_aload_n hO 0 dX3_isPinched_0 rfl rfl ?_
  refine G_iconst hO 0 dX3_isPinched_1 (by decide) ?_
  refine KV_Ri hO (rest := []) [.int 0] (fun l => c_X3_degrees hm hs) cv_X3_degrees mw_503 mw_504 mw_656 (hm 0 (by decide)) cl3 (by rw [va_us]; exact (st_0 _ _ _ _)) rfl rfl (Nat.le_of_ble_eq_true rfl) (by decide) rfl rfl (Nat.zero_le _) (Nat.zero_le _) dX3_isPinched_2 ?_
  intro r1 c2 hs
  refine G_aload_n hO 0 dX3_isPinched_5 rfl rfl ?_
  refine G_bipush hO 7 dX3_isPinched_6 (by decide) ?_
  refine KV_Ri hO (rest := [.int r1]) [.int 7] (fun l => c_X3_settingOf hm hs) cv_X3_settingOf mw_441 mw_442 mw_440 (hm 0 (by decide)) cl3 (by rw [va_us]; exact (st_0 _ _ _ _)) rfl rfl (Nat.le_of_ble_eq_true rfl) (by decide) rfl rfl (Nat.zero_le _) (Nat.zero_le _) dX3_isPinched_8 ?_
  intro r3 c4 hs
  refine G_icmp_ge hO 18 dX3_isPinched_11 (by decide) (fun h5 => ?_) (fun h5 => ?_)
  · replace hs := hs.1 h5
    refine G_iconst hO 0 dX3_isPinched_18 (by decide) ?_
    exact G_zret hO hF rfl (Nat.zero_le _) (Nat.zero_le _) rfl dX3_isPinched_19 ⟨rfl, rfl, _, _, rfl, rfl, hs⟩
  · replace hs := hs.2 h5
    refine G_iconst hO 1 dX3_isPinched_14 (by decide) ?_
    refine G_goto hO 19 dX3_isPinched_15 (by decide) ?_
    exact G_zret hO hF rfl (Nat.zero_le _) (Nat.zero_le _) rfl dX3_isPinched_19 ⟨rfl, rfl, _, _, rfl, rfl, hs⟩
set_option maxHeartbeats 4000000 in
set_option maxRecDepth 20000 in
theorem c_X3_moveValve {l : Launch} {Λ : Lay} {B : Zn} {ids : List (Nat × Nat)} {ad : Nat → Nat → Nat} {w : Nat → Nat → va_E} {n : Nat} (hm : ∀ j, j < 15 → (n, j) ∈ ids) {c : Reg} {P : Reg → Prop} (hs : wX3_moveValve c P) : CT l yX3_moveValve cX3_moveValve 3 none { frames := 3, cells := 0, slots := 0, locals := 64 } Λ B ids ad (va_up w n (stSh Λ ad n c)) [.ref (ad n 0)] (Rv ids ad w n (stSh Λ ad n) P) := by
  refine CT.of RX3 [(0, .ref (ad n 0))] (plainFor_of_name (by decide +kernel)) rfl (Nat.le_of_ble_eq_true rfl) rfl (fun Γ hO hF => ?_)
  have b47 : ∀ (v1 : Int32) (c : Reg), wX3_moveValve_L47 P v1 c → G Γ ids ad 0 0 (va_up w n (stSh Λ ad n c)) 47 [(0, .ref (ad n 0)), (1, .int v1)] [] := by
    intro v1 c hs
    unfold wX3_moveValve_L47 at hs
    refine G_aload_n hO 0 dX3_moveValve_47 rfl rfl ?_
    refine G_iconst hO 5 dX3_moveValve_48 (by decide) ?_
    refine KV_Ri hO (rest := []) [.int 5] (fun l => c_X3_settingOf hm hs) cv_X3_settingOf mw_441 mw_442 mw_440 (hm 0 (by decide)) cl3 (by rw [va_us]; exact (st_0 _ _ _ _)) rfl rfl (Nat.le_of_ble_eq_true rfl) (by decide) rfl rfl (Nat.zero_le _) (Nat.zero_le _) dX3_moveValve_49 ?_
    intro r8 c9 hs
    refine G_istore_n hO [(2, .int r8), (0, .ref (ad n 0)), (1, .int v1)] dX3_moveValve_52 rfl (by decide) rfl ?_
    refine G_aload_n hO 1 dX3_moveValve_53 rfl rfl ?_
    refine G_iload_n hO 2 dX3_moveValve_54 rfl rfl ?_
    refine G_aload_n hO 1 dX3_moveValve_55 rfl rfl ?_
    refine C_getf hO (v := .int (c9 0 5)) cl3 5 (hm 0 (by decide)) (st_0 _ _ _ _) (by decide) mw_116 rfl rfl dX3_moveValve_56 ?_
    refine G_icmp_le hO 75 dX3_moveValve_59 (by decide) (fun h10 => ?_) (fun h10 => ?_)
    · replace hs := hs.1 h10
      refine G_iload_n hO 2 dX3_moveValve_75 rfl rfl ?_
      refine G_aload_n hO 1 dX3_moveValve_76 rfl rfl ?_
      refine C_getf hO (v := .int (c9 0 5)) cl3 5 (hm 0 (by decide)) (st_0 _ _ _ _) (by decide) mw_116 rfl rfl dX3_moveValve_77 ?_
      refine G_iload_n hO 0 dX3_moveValve_80 rfl rfl ?_
      refine G_isub hO dX3_moveValve_81 ?_
      refine G_mmax hO mw_670 mw_671 mw_7 mw_672 (by decide) (Nat.le_of_ble_eq_true rfl) (Nat.zero_le _) (Nat.zero_le _) dX3_moveValve_82 ?_
      refine C_putf hO (cw_st _ _ _) cl3 5 (hm 0 (by decide)) (st_0 _ _ _ _) (by decide) mw_116 rfl rfl rfl rfl (Nat.le_of_ble_eq_true rfl) (stP (by decide)) dX3_moveValve_85 ?_
      exact G_vret hO hF rfl (Nat.zero_le _) (Nat.zero_le _) dX3_moveValve_88 ⟨rfl, rfl, _, rfl, rfl, hs⟩
    · replace hs := hs.2 h10
      refine G_iload_n hO 2 dX3_moveValve_62 rfl rfl ?_
      refine G_aload_n hO 1 dX3_moveValve_63 rfl rfl ?_
      refine C_getf hO (v := .int (c9 0 5)) cl3 5 (hm 0 (by decide)) (st_0 _ _ _ _) (by decide) mw_116 rfl rfl dX3_moveValve_64 ?_
      refine G_iload_n hO 0 dX3_moveValve_67 rfl rfl ?_
      refine G_iadd hO dX3_moveValve_68 ?_
      refine G_mmin hO mw_444 mw_445 mw_7 mw_446 (by decide) (Nat.le_of_ble_eq_true rfl) (Nat.zero_le _) (Nat.zero_le _) dX3_moveValve_69 ?_
      refine G_goto hO 85 dX3_moveValve_72 (by decide) ?_
      refine C_putf hO (cw_st _ _ _) cl3 5 (hm 0 (by decide)) (st_0 _ _ _ _) (by decide) mw_116 rfl rfl rfl rfl (Nat.le_of_ble_eq_true rfl) (stP (by decide)) dX3_moveValve_85 ?_
      exact G_vret hO hF rfl (Nat.zero_le _) (Nat.zero_le _) dX3_moveValve_88 ⟨rfl, rfl, _, rfl, rfl, hs⟩
  unfold wX3_moveValve at hs
  refine G_aload_n hO 0 dX3_moveValve_0 rfl rfl ?_
  refine C_getf hO (v := .int (c 0 6)) cl3 6 (hm 0 (by decide)) (st_0 _ _ _ _) (by decide) mw_118 rfl rfl dX3_moveValve_1 ?_
  refine G_if_eq hO 28 dX3_moveValve_4 (by decide) (fun h7 => ?_) (fun h7 => ?_)
  · replace hs := hs.1 h7
    refine G_aload_n hO 0 dX3_moveValve_28 rfl rfl ?_
    refine KV_Ri hO (rest := []) [] (fun l => c_X3_freeTarget hm hs) cv_X3_freeTarget mw_666 mw_667 mw_665 (hm 0 (by decide)) cl3 (by rw [va_us]; exact (st_0 _ _ _ _)) rfl rfl (Nat.le_of_ble_eq_true rfl) (by decide) rfl rfl (Nat.zero_le _) (Nat.zero_le _) dX3_moveValve_29 ?_
    intro r1 c2 hs
    refine G_istore_n hO [(1, .int r1), (0, .ref (ad n 0))] dX3_moveValve_32 rfl (by decide) rfl ?_
    refine G_aload_n hO 1 dX3_moveValve_33 rfl rfl ?_
    refine KV_Ri hO (rest := []) [] (fun l => c_X3_isPinched hm hs) cv_X3_isPinched mw_674 mw_675 mw_673 (hm 0 (by decide)) cl3 (by rw [va_us]; exact (st_0 _ _ _ _)) rfl rfl (Nat.le_of_ble_eq_true rfl) (by decide) rfl rfl (Nat.zero_le _) (Nat.zero_le _) dX3_moveValve_34 ?_
    intro r3 c4 hs
    refine G_if_eq hO 47 dX3_moveValve_37 (by decide) (fun h5 => ?_) (fun h5 => ?_)
    · replace hs := hs.1 h5
      refine G_lv hO [(0, .ref (ad n 0)), (1, .int r1)] [1, 0] rfl ?_
      exact b47 _ _ hs
    · replace hs := hs.2 h5
      refine G_bipush hO 20 dX3_moveValve_40 (by decide) ?_
      refine G_iload_n hO 0 dX3_moveValve_42 rfl rfl ?_
      refine G_mmin hO mw_444 mw_445 mw_7 mw_446 (by decide) (Nat.le_of_ble_eq_true rfl) (Nat.zero_le _) (Nat.zero_le _) dX3_moveValve_43 ?_
      refine G_istore_n hO [(1, .int (if r1 < 20 then r1 else 20)), (0, .ref (ad n 0))] dX3_moveValve_46 rfl (by decide) rfl ?_
      refine G_lv hO [(0, .ref (ad n 0)), (1, .int (if r1 < 20 then r1 else 20))] [1, 0] rfl ?_
      exact b47 _ _ hs
  · replace hs := hs.2 h7
    refine G_aload_n hO 0 dX3_moveValve_7 rfl rfl ?_
    refine G_aload_n hO 0 dX3_moveValve_8 rfl rfl ?_
    refine C_getf hO (v := .int (c 0 0)) cl3 0 (hm 0 (by decide)) (st_0 _ _ _ _) (by decide) mw_105 rfl rfl dX3_moveValve_9 ?_
    refine G_bipush hO 30 dX3_moveValve_12 (by decide) ?_
    refine G_irem hO dX3_moveValve_14 (by decide) ?_
    refine G_if_ne hO 23 dX3_moveValve_15 (by decide) (fun h6 => ?_) (fun h6 => ?_)
    · replace hs := hs.1 h6
      refine G_iconst hO 0 dX3_moveValve_23 (by decide) ?_
      refine C_putf hO (cw_st _ _ _) cl3 5 (hm 0 (by decide)) (st_0 _ _ _ _) (by decide) mw_116 rfl rfl rfl rfl (Nat.le_of_ble_eq_true rfl) (stP (by decide)) dX3_moveValve_24 ?_
      exact G_vret hO hF rfl (Nat.zero_le _) (Nat.zero_le _) dX3_moveValve_27 ⟨rfl, rfl, _, rfl, rfl, hs⟩
    · replace hs := hs.2 h6
      refine G_bipush hO 100 dX3_moveValve_18 (by decide) ?_
      refine G_goto hO 24 dX3_moveValve_20 (by decide) ?_
      refine C_putf hO (cw_st _ _ _) cl3 5 (hm 0 (by decide)) (st_0 _ _ _ _) (by decide) mw_116 rfl rfl rfl rfl (Nat.le_of_ble_eq_true rfl) (stP (by decide)) dX3_moveValve_24 ?_
      exact G_vret hO hF rfl (Nat.zero_le _) (Nat.zero_le _) dX3_moveValve_27 ⟨rfl, rfl, _, rfl, rfl, hs⟩
set_option maxHeartbeats 4000000 in
set_option maxRecDepth 20000 in
theorem c_X3_mayStart {l : Launch} {Λ : Lay} {B : Zn} {ids : List (Nat × Nat)} {ad : Nat → Nat → Nat} {w : Nat → Nat → va_E} {n : Nat} (hm : ∀ j, j < 15 → (n, j) ∈ ids) {c : Reg} {P : Int32 → Reg → Prop} (hs : wX3_mayStart c P) : CT l yX3_mayStart cX3_mayStart 1 (some .boolean) { frames := 2, cells := 0, slots := 0, locals := 43 } Λ B ids ad (va_up w n (stSh Λ ad n c)) [.ref (ad n 0)] (Ri ids ad w n (stSh Λ ad n) P) := by
  refine CT.of RX3 [(0, .ref (ad n 0))] (plainFor_of_name (by decide +kernel)) rfl (Nat.le_of_ble_eq_true rfl) rfl (fun Γ hO hF => ?_)
  unfold wX3_mayStart at hs
  refine G_aload_n hO 0 dX3_mayStart_0 rfl rfl ?_
  refine C_getf hO (v := .int (c 0 3)) cl3 3 (hm 0 (by decide)) (st_0 _ _ _ _) (by decide) mw_112 rfl rfl dX3_mayStart_1 ?_
  refine G_aload_n hO 0 dX3_mayStart_4 rfl rfl ?_
  refine G_iconst hO 3 dX3_mayStart_5 (by decide) ?_
  refine KV_Ri hO (rest := [.int (c 0 3)]) [.int 3] (fun l => c_X3_settingOf hm hs) cv_X3_settingOf mw_441 mw_442 mw_440 (hm 0 (by decide)) cl3 (by rw [va_us]; exact (st_0 _ _ _ _)) rfl rfl (Nat.le_of_ble_eq_true rfl) (by decide) rfl rfl (Nat.zero_le _) (Nat.zero_le _) dX3_mayStart_6 ?_
  intro r1 c2 hs
  refine G_icmp_lt hO 44 dX3_mayStart_9 (by decide) (fun h12 => ?_) (fun h12 => ?_)
  · replace hs := hs.1 h12
    refine G_iconst hO 0 dX3_mayStart_44 (by decide) ?_
    exact G_zret hO hF rfl (Nat.zero_le _) (Nat.zero_le _) rfl dX3_mayStart_45 ⟨rfl, rfl, _, _, rfl, rfl, hs⟩
  · replace hs := hs.2 h12
    refine G_aload_n hO 0 dX3_mayStart_12 rfl rfl ?_
    refine C_getf hO (v := .int (c2 0 6)) cl3 6 (hm 0 (by decide)) (st_0 _ _ _ _) (by decide) mw_118 rfl rfl dX3_mayStart_13 ?_
    refine G_if_ne hO 44 dX3_mayStart_16 (by decide) (fun h11 => ?_) (fun h11 => ?_)
    · replace hs := hs.1 h11
      refine G_iconst hO 0 dX3_mayStart_44 (by decide) ?_
      exact G_zret hO hF rfl (Nat.zero_le _) (Nat.zero_le _) rfl dX3_mayStart_45 ⟨rfl, rfl, _, _, rfl, rfl, hs⟩
    · replace hs := hs.2 h11
      refine G_aload_n hO 0 dX3_mayStart_19 rfl rfl ?_
      refine G_iconst hO 0 dX3_mayStart_20 (by decide) ?_
      refine KV_Ri hO (rest := []) [.int 0] (fun l => c_X3_settingOf hm hs) cv_X3_settingOf mw_441 mw_442 mw_440 (hm 0 (by decide)) cl3 (by rw [va_us]; exact (st_0 _ _ _ _)) rfl rfl (Nat.le_of_ble_eq_true rfl) (by decide) rfl rfl (Nat.zero_le _) (Nat.zero_le _) dX3_mayStart_21 ?_
      intro r3 c4 hs
      refine G_if_eq hO 44 dX3_mayStart_24 (by decide) (fun h10 => ?_) (fun h10 => ?_)
      · replace hs := hs.1 h10
        refine G_iconst hO 0 dX3_mayStart_44 (by decide) ?_
        exact G_zret hO hF rfl (Nat.zero_le _) (Nat.zero_le _) rfl dX3_mayStart_45 ⟨rfl, rfl, _, _, rfl, rfl, hs⟩
      · replace hs := hs.2 h10
        refine G_aload_n hO 0 dX3_mayStart_27 rfl rfl ?_
        refine G_iconst hO 0 dX3_mayStart_28 (by decide) ?_
        refine KV_Ri hO (rest := []) [.int 0] (fun l => c_X3_degrees hm hs) cv_X3_degrees mw_503 mw_504 mw_656 (hm 0 (by decide)) cl3 (by rw [va_us]; exact (st_0 _ _ _ _)) rfl rfl (Nat.le_of_ble_eq_true rfl) (by decide) rfl rfl (Nat.zero_le _) (Nat.zero_le _) dX3_mayStart_29 ?_
        intro r5 c6 hs
        refine G_aload_n hO 0 dX3_mayStart_32 rfl rfl ?_
        refine G_iconst hO 1 dX3_mayStart_33 (by decide) ?_
        refine KV_Ri hO (rest := [.int r5]) [.int 1] (fun l => c_X3_settingOf hm hs) cv_X3_settingOf mw_441 mw_442 mw_440 (hm 0 (by decide)) cl3 (by rw [va_us]; exact (st_0 _ _ _ _)) rfl rfl (Nat.le_of_ble_eq_true rfl) (by decide) rfl rfl (Nat.zero_le _) (Nat.zero_le _) dX3_mayStart_34 ?_
        intro r7 c8 hs
        refine G_icmp_ge hO 44 dX3_mayStart_37 (by decide) (fun h9 => ?_) (fun h9 => ?_)
        · replace hs := hs.1 h9
          refine G_iconst hO 0 dX3_mayStart_44 (by decide) ?_
          exact G_zret hO hF rfl (Nat.zero_le _) (Nat.zero_le _) rfl dX3_mayStart_45 ⟨rfl, rfl, _, _, rfl, rfl, hs⟩
        · replace hs := hs.2 h9
          refine G_iconst hO 1 dX3_mayStart_40 (by decide) ?_
          refine G_goto hO 45 dX3_mayStart_41 (by decide) ?_
          exact G_zret hO hF rfl (Nat.zero_le _) (Nat.zero_le _) rfl dX3_mayStart_45 ⟨rfl, rfl, _, _, rfl, rfl, hs⟩
set_option maxHeartbeats 4000000 in
set_option maxRecDepth 20000 in
theorem c_X3_mustStop {l : Launch} {Λ : Lay} {B : Zn} {ids : List (Nat × Nat)} {ad : Nat → Nat → Nat} {w : Nat → Nat → va_E} {n : Nat} (hm : ∀ j, j < 15 → (n, j) ∈ ids) {c : Reg} {P : Int32 → Reg → Prop} (hs : wX3_mustStop c P) : CT l yX3_mustStop cX3_mustStop 2 (some .boolean) { frames := 2, cells := 0, slots := 0, locals := 43 } Λ B ids ad (va_up w n (stSh Λ ad n c)) [.ref (ad n 0)] (Ri ids ad w n (stSh Λ ad n) P) := by
  refine CT.of RX3 [(0, .ref (ad n 0))] (plainFor_of_name (by decide +kernel)) rfl (Nat.le_of_ble_eq_true rfl) rfl (fun Γ hO hF => ?_)
  unfold wX3_mustStop at hs
  refine G_aload_n hO 0 dX3_mustStop_0 rfl rfl ?_
  refine G_iconst hO 0 dX3_mustStop_1 (by decide) ?_
  refine KV_Ri hO (rest := []) [.int 0] (fun l => c_X3_degrees hm hs) cv_X3_degrees mw_503 mw_504 mw_656 (hm 0 (by decide)) cl3 (by rw [va_us]; exact (st_0 _ _ _ _)) rfl rfl (Nat.le_of_ble_eq_true rfl) (by decide) rfl rfl (Nat.zero_le _) (Nat.zero_le _) dX3_mustStop_2 ?_
  intro r1 c2 hs
  refine G_istore_n hO [(1, .int r1), (0, .ref (ad n 0))] dX3_mustStop_5 rfl (by decide) rfl ?_
  refine G_iload_n hO 0 dX3_mustStop_6 rfl rfl ?_
  refine G_bipush hO 90 dX3_mustStop_7 (by decide) ?_
  refine G_icmp_lt hO 14 dX3_mustStop_9 (by decide) (fun h10 => ?_) (fun h10 => ?_)
  · replace hs := hs.1 h10
    refine G_aload_n hO 1 dX3_mustStop_14 rfl rfl ?_
    refine C_getf hO (v := .int (c2 0 3)) cl3 3 (hm 0 (by decide)) (st_0 _ _ _ _) (by decide) mw_112 rfl rfl dX3_mustStop_15 ?_
    refine G_aload_n hO 1 dX3_mustStop_18 rfl rfl ?_
    refine G_iconst hO 2 dX3_mustStop_19 (by decide) ?_
    refine KV_Ri hO (rest := [.int (c2 0 3)]) [.int 2] (fun l => c_X3_settingOf hm hs) cv_X3_settingOf mw_441 mw_442 mw_440 (hm 0 (by decide)) cl3 (by rw [va_us]; exact (st_0 _ _ _ _)) rfl rfl (Nat.le_of_ble_eq_true rfl) (by decide) rfl rfl (Nat.zero_le _) (Nat.zero_le _) dX3_mustStop_20 ?_
    intro r3 c4 hs
    refine G_icmp_lt hO 48 dX3_mustStop_23 (by decide) (fun h9 => ?_) (fun h9 => ?_)
    · replace hs := hs.1 h9
      refine G_iconst hO 0 dX3_mustStop_48 (by decide) ?_
      exact G_zret hO hF rfl (Nat.zero_le _) (Nat.zero_le _) rfl dX3_mustStop_49 ⟨rfl, rfl, _, _, rfl, rfl, hs⟩
    · replace hs := hs.2 h9
      refine G_aload_n hO 1 dX3_mustStop_26 rfl rfl ?_
      refine C_getf hO (v := .int (c4 0 6)) cl3 6 (hm 0 (by decide)) (st_0 _ _ _ _) (by decide) mw_118 rfl rfl dX3_mustStop_27 ?_
      refine G_if_ne hO 44 dX3_mustStop_30 (by decide) (fun h8 => ?_) (fun h8 => ?_)
      · replace hs := hs.1 h8
        refine G_iconst hO 1 dX3_mustStop_44 (by decide) ?_
        refine G_goto hO 49 dX3_mustStop_45 (by decide) ?_
        exact G_zret hO hF rfl (Nat.zero_le _) (Nat.zero_le _) rfl dX3_mustStop_49 ⟨rfl, rfl, _, _, rfl, rfl, hs⟩
      · replace hs := hs.2 h8
        refine G_iload_n hO 0 dX3_mustStop_33 rfl rfl ?_
        refine G_aload_n hO 1 dX3_mustStop_34 rfl rfl ?_
        refine G_iconst hO 1 dX3_mustStop_35 (by decide) ?_
        refine KV_Ri hO (rest := [.int r1]) [.int 1] (fun l => c_X3_settingOf hm hs) cv_X3_settingOf mw_441 mw_442 mw_440 (hm 0 (by decide)) cl3 (by rw [va_us]; exact (st_0 _ _ _ _)) rfl rfl (Nat.le_of_ble_eq_true rfl) (by decide) rfl rfl (Nat.zero_le _) (Nat.zero_le _) dX3_mustStop_36 ?_
        intro r5 c6 hs
        refine G_iconst hO 5 dX3_mustStop_39 (by decide) ?_
        refine G_iadd hO dX3_mustStop_40 ?_
        refine G_icmp_lt hO 48 dX3_mustStop_41 (by decide) (fun h7 => ?_) (fun h7 => ?_)
        · replace hs := hs.1 h7
          refine G_iconst hO 0 dX3_mustStop_48 (by decide) ?_
          exact G_zret hO hF rfl (Nat.zero_le _) (Nat.zero_le _) rfl dX3_mustStop_49 ⟨rfl, rfl, _, _, rfl, rfl, hs⟩
        · replace hs := hs.2 h7
          refine G_iconst hO 1 dX3_mustStop_44 (by decide) ?_
          refine G_goto hO 49 dX3_mustStop_45 (by decide) ?_
          exact G_zret hO hF rfl (Nat.zero_le _) (Nat.zero_le _) rfl dX3_mustStop_49 ⟨rfl, rfl, _, _, rfl, rfl, hs⟩
  · replace hs := hs.2 h10
    refine G_iconst hO 1 dX3_mustStop_12 (by decide) ?_
    exact G_zret hO hF rfl (Nat.zero_le _) (Nat.zero_le _) rfl dX3_mustStop_13 ⟨rfl, rfl, _, _, rfl, rfl, hs⟩
set_option maxHeartbeats 4000000 in
set_option maxRecDepth 20000 in
theorem c_X3_runBoiler {l : Launch} {Λ : Lay} {B : Zn} {ids : List (Nat × Nat)} {ad : Nat → Nat → Nat} {w : Nat → Nat → va_E} {n : Nat} (hm : ∀ j, j < 15 → (n, j) ∈ ids) {c : Reg} {P : Reg → Prop} (hs : wX3_runBoiler c P) : CT l yX3_runBoiler cX3_runBoiler 1 none { frames := 3, cells := 0, slots := 0, locals := 64 } Λ B ids ad (va_up w n (stSh Λ ad n c)) [.ref (ad n 0)] (Rv ids ad w n (stSh Λ ad n) P) := by
  refine CT.of RX3 [(0, .ref (ad n 0))] (plainFor_of_name (by decide +kernel)) rfl (Nat.le_of_ble_eq_true rfl) rfl (fun Γ hO hF => ?_)
  have b54 : ∀ (c : Reg), wX3_runBoiler_L54 P c → G Γ ids ad 0 0 (va_up w n (stSh Λ ad n c)) 54 [(0, .ref (ad n 0))] [] := by
    intro c hs
    unfold wX3_runBoiler_L54 at hs
    refine G_aload_n hO 0 dX3_runBoiler_54 rfl rfl ?_
    refine C_getf hO (v := .int (c 0 2)) cl3 2 (hm 0 (by decide)) (st_0 _ _ _ _) (by decide) mw_110 rfl rfl dX3_runBoiler_55 ?_
    refine G_if_eq hO 73 dX3_runBoiler_58 (by decide) (fun h11 => ?_) (fun h11 => ?_)
    · replace hs := hs.1 h11
      exact G_vret hO hF rfl (Nat.zero_le _) (Nat.zero_le _) dX3_runBoiler_73 ⟨rfl, rfl, _, rfl, rfl, hs⟩
    · replace hs := hs.2 h11
      refine G_aload_n hO 0 dX3_runBoiler_61 rfl rfl ?_
      refine G_bipush hO 9 dX3_runBoiler_62 (by decide) ?_
      refine G_iconst hO 0 dX3_runBoiler_64 (by decide) ?_
      refine G_aload_n hO 0 dX3_runBoiler_65 rfl rfl ?_
      refine G_iconst hO 0 dX3_runBoiler_66 (by decide) ?_
      refine KV_Ri hO (rest := [.int 0, .int 9, .ref (ad n 0)]) [.int 0] (fun l => c_X3_settingOf hm hs) cv_X3_settingOf mw_441 mw_442 mw_440 (hm 0 (by decide)) cl3 (by rw [va_us]; exact (st_0 _ _ _ _)) rfl rfl (Nat.le_of_ble_eq_true rfl) (by decide) rfl rfl (Nat.zero_le _) (Nat.zero_le _) dX3_runBoiler_67 ?_
      intro r8 c9 hs
      refine KV_Rv hO (rest := []) [.int 9, .int 0, .int r8] (fun l => c_X3_move hm hs) cv_X3_move mw_287 ms_6 mw_285 (hm 0 (by decide)) cl3 (by rw [va_us]; exact (st_0 _ _ _ _)) rfl rfl (Nat.le_of_ble_eq_true rfl) (by decide) rfl rfl (Nat.zero_le _) (Nat.zero_le _) dX3_runBoiler_70 ?_
      intro c10 hs
      exact G_vret hO hF rfl (Nat.zero_le _) (Nat.zero_le _) dX3_runBoiler_73 ⟨rfl, rfl, _, rfl, rfl, hs⟩
  unfold wX3_runBoiler at hs
  refine G_aload_n hO 0 dX3_runBoiler_0 rfl rfl ?_
  refine C_getf hO (v := .int (c 0 2)) cl3 2 (hm 0 (by decide)) (st_0 _ _ _ _) (by decide) mw_110 rfl rfl dX3_runBoiler_1 ?_
  refine G_if_eq hO 27 dX3_runBoiler_4 (by decide) (fun h7 => ?_) (fun h7 => ?_)
  · replace hs := hs.1 h7
    refine G_aload_n hO 0 dX3_runBoiler_27 rfl rfl ?_
    refine KV_Ri hO (rest := []) [] (fun l => c_X3_mayStart hm hs) cv_X3_mayStart mw_659 ms_12 mw_657 (hm 0 (by decide)) cl3 (by rw [va_us]; exact (st_0 _ _ _ _)) rfl rfl (Nat.le_of_ble_eq_true rfl) (by decide) rfl rfl (Nat.zero_le _) (Nat.zero_le _) dX3_runBoiler_28 ?_
    intro r1 c2 hs
    refine G_if_eq hO 54 dX3_runBoiler_31 (by decide) (fun h3 => ?_) (fun h3 => ?_)
    · replace hs := hs.1 h3
      exact b54 _ hs
    · replace hs := hs.2 h3
      refine G_aload_n hO 0 dX3_runBoiler_34 rfl rfl ?_
      refine G_iconst hO 1 dX3_runBoiler_35 (by decide) ?_
      refine C_putf hO (cw_st _ _ _) cl3 2 (hm 0 (by decide)) (st_0 _ _ _ _) (by decide) mw_110 rfl rfl rfl rfl (Nat.le_of_ble_eq_true rfl) (stP (by decide)) dX3_runBoiler_36 ?_
      refine G_aload_n hO 0 dX3_runBoiler_39 rfl rfl ?_
      refine G_iconst hO 0 dX3_runBoiler_40 (by decide) ?_
      refine C_putf hO (cw_st _ _ _) cl3 3 (hm 0 (by decide)) (st_0 _ _ _ _) (by decide) mw_112 rfl rfl rfl rfl (Nat.le_of_ble_eq_true rfl) (stP (by decide)) dX3_runBoiler_41 ?_
      refine G_aload_n hO 0 dX3_runBoiler_44 rfl rfl ?_
      refine G_dup hO dX3_runBoiler_45 rfl ?_
      refine C_getf hO (v := .int ((cu (cu c2 0 2 1) 0 3 0) 0 4)) cl3 4 (hm 0 (by decide)) (st_0 _ _ _ _) (by decide) mw_114 rfl rfl dX3_runBoiler_46 ?_
      refine G_iconst hO 1 dX3_runBoiler_49 (by decide) ?_
      refine G_iadd hO dX3_runBoiler_50 ?_
      refine C_putf hO (cw_st _ _ _) cl3 4 (hm 0 (by decide)) (st_0 _ _ _ _) (by decide) mw_114 rfl rfl rfl rfl (Nat.le_of_ble_eq_true rfl) (stP (by decide)) dX3_runBoiler_51 ?_
      exact b54 _ hs
  · replace hs := hs.2 h7
    refine G_aload_n hO 0 dX3_runBoiler_7 rfl rfl ?_
    refine KV_Ri hO (rest := []) [] (fun l => c_X3_mustStop hm hs) cv_X3_mustStop mw_654 ms_11 mw_652 (hm 0 (by decide)) cl3 (by rw [va_us]; exact (st_0 _ _ _ _)) rfl rfl (Nat.le_of_ble_eq_true rfl) (by decide) rfl rfl (Nat.zero_le _) (Nat.zero_le _) dX3_runBoiler_8 ?_
    intro r4 c5 hs
    refine G_if_eq hO 54 dX3_runBoiler_11 (by decide) (fun h6 => ?_) (fun h6 => ?_)
    · replace hs := hs.1 h6
      exact b54 _ hs
    · replace hs := hs.2 h6
      refine G_aload_n hO 0 dX3_runBoiler_14 rfl rfl ?_
      refine G_iconst hO 0 dX3_runBoiler_15 (by decide) ?_
      refine C_putf hO (cw_st _ _ _) cl3 2 (hm 0 (by decide)) (st_0 _ _ _ _) (by decide) mw_110 rfl rfl rfl rfl (Nat.le_of_ble_eq_true rfl) (stP (by decide)) dX3_runBoiler_16 ?_
      refine G_aload_n hO 0 dX3_runBoiler_19 rfl rfl ?_
      refine G_iconst hO 0 dX3_runBoiler_20 (by decide) ?_
      refine C_putf hO (cw_st _ _ _) cl3 3 (hm 0 (by decide)) (st_0 _ _ _ _) (by decide) mw_112 rfl rfl rfl rfl (Nat.le_of_ble_eq_true rfl) (stP (by decide)) dX3_runBoiler_21 ?_
      refine G_goto hO 54 dX3_runBoiler_24 (by decide) ?_
      exact b54 _ hs
set_option maxHeartbeats 4000000 in
set_option maxRecDepth 20000 in
theorem c_X3_turnSeason {l : Launch} {Λ : Lay} {B : Zn} {ids : List (Nat × Nat)} {ad : Nat → Nat → Nat} {w : Nat → Nat → va_E} {n : Nat} (hm : ∀ j, j < 15 → (n, j) ∈ ids) {c : Reg} {P : Reg → Prop} (hs : wX3_turnSeason c P) : CT l yX3_turnSeason cX3_turnSeason 2 none { frames := 1, cells := 0, slots := 0, locals := 21 } Λ B ids ad (va_up w n (stSh Λ ad n c)) [.ref (ad n 0)] (Rv ids ad w n (stSh Λ ad n) P) := by
  refine CT.of RX3 [(0, .ref (ad n 0))] (plainFor_of_name (by decide +kernel)) rfl (Nat.le_of_ble_eq_true rfl) rfl (fun Γ hO hF => ?_)
  have b38 : ∀ (s0 : Int32) (c : Reg), wX3_turnSeason_L38 P s0 c → G Γ ids ad 0 0 (va_up w n (stSh Λ ad n c)) 38 [(0, .ref (ad n 0))] [.int s0, .ref (ad n 0)] := by
    intro s0 c hs
    unfold wX3_turnSeason_L38 at hs
    refine C_putf hO (cw_st _ _ _) cl3 7 (hm 0 (by decide)) (st_0 _ _ _ _) (by decide) mw_120 rfl rfl rfl rfl (Nat.le_of_ble_eq_true rfl) (stP (by decide)) dX3_turnSeason_38 ?_
    refine G_aload_n hO 0 dX3_turnSeason_41 rfl rfl ?_
    refine C_getf hO (v := .int ((cu c 0 7 s0) 0 7)) cl3 7 (hm 0 (by decide)) (st_0 _ _ _ _) (by decide) mw_120 rfl rfl dX3_turnSeason_42 ?_
    refine G_bipush hO 60 dX3_turnSeason_45 (by decide) ?_
    refine G_icmp_lt hO 71 dX3_turnSeason_47 (by decide) (fun h6 => ?_) (fun h6 => ?_)
    · replace hs := hs.1 h6
      exact G_vret hO hF rfl (Nat.zero_le _) (Nat.zero_le _) dX3_turnSeason_71 ⟨rfl, rfl, _, rfl, rfl, hs⟩
    · replace hs := hs.2 h6
      refine G_aload_n hO 0 dX3_turnSeason_50 rfl rfl ?_
      refine G_aload_n hO 0 dX3_turnSeason_51 rfl rfl ?_
      refine C_getf hO (v := .int ((cu c 0 7 s0) 0 6)) cl3 6 (hm 0 (by decide)) (st_0 _ _ _ _) (by decide) mw_118 rfl rfl dX3_turnSeason_52 ?_
      refine G_if_ne hO 62 dX3_turnSeason_55 (by decide) (fun h5 => ?_) (fun h5 => ?_)
      · replace hs := hs.1 h5
        refine G_iconst hO 0 dX3_turnSeason_62 (by decide) ?_
        refine C_putf hO (cw_st _ _ _) cl3 6 (hm 0 (by decide)) (st_0 _ _ _ _) (by decide) mw_118 rfl rfl rfl rfl (Nat.le_of_ble_eq_true rfl) (stP (by decide)) dX3_turnSeason_63 ?_
        refine G_aload_n hO 0 dX3_turnSeason_66 rfl rfl ?_
        refine G_iconst hO 0 dX3_turnSeason_67 (by decide) ?_
        refine C_putf hO (cw_st _ _ _) cl3 7 (hm 0 (by decide)) (st_0 _ _ _ _) (by decide) mw_120 rfl rfl rfl rfl (Nat.le_of_ble_eq_true rfl) (stP (by decide)) dX3_turnSeason_68 ?_
        exact G_vret hO hF rfl (Nat.zero_le _) (Nat.zero_le _) dX3_turnSeason_71 ⟨rfl, rfl, _, rfl, rfl, hs⟩
      · replace hs := hs.2 h5
        refine G_iconst hO 1 dX3_turnSeason_58 (by decide) ?_
        refine G_goto hO 63 dX3_turnSeason_59 (by decide) ?_
        refine C_putf hO (cw_st _ _ _) cl3 6 (hm 0 (by decide)) (st_0 _ _ _ _) (by decide) mw_118 rfl rfl rfl rfl (Nat.le_of_ble_eq_true rfl) (stP (by decide)) dX3_turnSeason_63 ?_
        refine G_aload_n hO 0 dX3_turnSeason_66 rfl rfl ?_
        refine G_iconst hO 0 dX3_turnSeason_67 (by decide) ?_
        refine C_putf hO (cw_st _ _ _) cl3 7 (hm 0 (by decide)) (st_0 _ _ _ _) (by decide) mw_120 rfl rfl rfl rfl (Nat.le_of_ble_eq_true rfl) (stP (by decide)) dX3_turnSeason_68 ?_
        exact G_vret hO hF rfl (Nat.zero_le _) (Nat.zero_le _) dX3_turnSeason_71 ⟨rfl, rfl, _, rfl, rfl, hs⟩
  have b18 : ∀ (s0 : Int32) (c : Reg), wX3_turnSeason_L18 P s0 c → G Γ ids ad 0 0 (va_up w n (stSh Λ ad n c)) 18 [(0, .ref (ad n 0))] [.int s0] := by
    intro s0 c hs
    unfold wX3_turnSeason_L18 at hs
    refine G_istore_n hO [(1, .int s0), (0, .ref (ad n 0))] dX3_turnSeason_18 rfl (by decide) rfl ?_
    refine G_aload_n hO 1 dX3_turnSeason_19 rfl rfl ?_
    refine G_iload_n hO 0 dX3_turnSeason_20 rfl rfl ?_
    refine G_aload_n hO 1 dX3_turnSeason_21 rfl rfl ?_
    refine C_getf hO (v := .int (c 0 6)) cl3 6 (hm 0 (by decide)) (st_0 _ _ _ _) (by decide) mw_118 rfl rfl dX3_turnSeason_22 ?_
    refine G_icmp_eq hO 37 dX3_turnSeason_25 (by decide) (fun h4 => ?_) (fun h4 => ?_)
    · replace hs := hs.1 h4
      refine G_iconst hO 0 dX3_turnSeason_37 (by decide) ?_
      refine G_lv hO [(0, .ref (ad n 0))] [1] rfl ?_
      exact b38 _ _ hs
    · replace hs := hs.2 h4
      refine G_aload_n hO 1 dX3_turnSeason_28 rfl rfl ?_
      refine C_getf hO (v := .int (c 0 7)) cl3 7 (hm 0 (by decide)) (st_0 _ _ _ _) (by decide) mw_120 rfl rfl dX3_turnSeason_29 ?_
      refine G_iconst hO 1 dX3_turnSeason_32 (by decide) ?_
      refine G_iadd hO dX3_turnSeason_33 ?_
      refine G_goto hO 38 dX3_turnSeason_34 (by decide) ?_
      refine G_lv hO [(0, .ref (ad n 0))] [1] rfl ?_
      exact b38 _ _ hs
  unfold wX3_turnSeason at hs
  refine G_aload_n hO 0 dX3_turnSeason_0 rfl rfl ?_
  refine C_getf hO (v := .int (c 0 1)) cl3 1 (hm 0 (by decide)) (st_0 _ _ _ _) (by decide) mw_107 rfl rfl dX3_turnSeason_1 ?_
  refine G_aload_n hO 0 dX3_turnSeason_4 rfl rfl ?_
  refine G_bipush hO 8 dX3_turnSeason_5 (by decide) ?_
  refine KV_Ri hO (rest := [.int (c 0 1)]) [.int 8] (fun l => c_X3_settingOf hm hs) cv_X3_settingOf mw_441 mw_442 mw_440 (hm 0 (by decide)) cl3 (by rw [va_us]; exact (st_0 _ _ _ _)) rfl rfl (Nat.le_of_ble_eq_true rfl) (by decide) rfl rfl (Nat.zero_le _) (Nat.zero_le _) dX3_turnSeason_7 ?_
  intro r1 c2 hs
  refine G_icmp_lt hO 17 dX3_turnSeason_10 (by decide) (fun h3 => ?_) (fun h3 => ?_)
  · replace hs := hs.1 h3
    refine G_iconst hO 0 dX3_turnSeason_17 (by decide) ?_
    exact b18 _ _ hs
  · replace hs := hs.2 h3
    refine G_iconst hO 1 dX3_turnSeason_13 (by decide) ?_
    refine G_goto hO 18 dX3_turnSeason_14 (by decide) ?_
    exact b18 _ _ hs
set_option maxHeartbeats 4000000 in
set_option maxRecDepth 20000 in
theorem c_X3_advance {l : Launch} {Λ : Lay} {B : Zn} {ids : List (Nat × Nat)} {ad : Nat → Nat → Nat} {w : Nat → Nat → va_E} {n : Nat} (hm : ∀ j, j < 15 → (n, j) ∈ ids) {a1 : Int32} {c : Reg} {P : Reg → Prop} (hs : wX3_advance a1 c P) : CT l yX3_advance cX3_advance 3 none { frames := 4, cells := 0, slots := 0, locals := 86 } Λ B ids ad (va_up w n (stSh Λ ad n c)) [.ref (ad n 0), .int a1] (Rv ids ad w n (stSh Λ ad n) P) := by
  refine CT.of RX3 [(0, .ref (ad n 0)), (1, .int a1)] (plainFor_of_name (by decide +kernel)) rfl (Nat.le_of_ble_eq_true rfl) rfl (fun Γ hO hF => ?_)
  have b2 : ∀ (N2 : Nat) (v2 : Int32) (c : Reg), wX3_advance_L2 a1 P N2 v2 c → G Γ ids ad 0 0 (va_up w n (stSh Λ ad n c)) 2 [(0, .ref (ad n 0)), (1, .int a1), (2, .int v2)] [] := by
    intro N2
    induction N2 with
    | zero => intro v2 c hs; exact False.elim hs
    | succ N2 ih2 =>
      intro v2 c hs
      unfold wX3_advance_L2 at hs
      refine G_iload_n hO 2 dX3_advance_2 rfl rfl ?_
      refine G_iload_n hO 1 dX3_advance_3 rfl rfl ?_
      refine G_icmp_ge hO 61 dX3_advance_4 (by decide) (fun h9 => ?_) (fun h9 => ?_)
      · replace hs := hs.1 h9
        exact G_vret hO hF rfl (Nat.zero_le _) (Nat.zero_le _) dX3_advance_61 ⟨rfl, rfl, _, rfl, rfl, hs⟩
      · replace hs := hs.2 h9
        refine G_aload_n hO 0 dX3_advance_7 rfl rfl ?_
        refine KV_Rv hO (rest := []) [] (fun l => c_X3_turnSeason hm hs) cv_X3_turnSeason mw_645 mw_646 mw_644 (hm 0 (by decide)) cl3 (by rw [va_us]; exact (st_0 _ _ _ _)) rfl rfl (Nat.le_of_ble_eq_true rfl) (by decide) rfl rfl (Nat.zero_le _) (Nat.zero_le _) dX3_advance_8 ?_
        intro c2 hs
        refine G_aload_n hO 0 dX3_advance_11 rfl rfl ?_
        refine KV_Rv hO (rest := []) [] (fun l => c_X3_runBoiler hm hs) cv_X3_runBoiler mw_649 mw_650 mw_648 (hm 0 (by decide)) cl3 (by rw [va_us]; exact (st_0 _ _ _ _)) rfl rfl (Nat.le_of_ble_eq_true rfl) (by decide) rfl rfl (Nat.zero_le _) (Nat.zero_le _) dX3_advance_12 ?_
        intro c3 hs
        refine G_aload_n hO 0 dX3_advance_15 rfl rfl ?_
        refine KV_Rv hO (rest := []) [] (fun l => c_X3_moveValve hm hs) cv_X3_moveValve mw_662 mw_663 mw_661 (hm 0 (by decide)) cl3 (by rw [va_us]; exact (st_0 _ _ _ _)) rfl rfl (Nat.le_of_ble_eq_true rfl) (by decide) rfl rfl (Nat.zero_le _) (Nat.zero_le _) dX3_advance_16 ?_
        intro c4 hs
        refine G_aload_n hO 0 dX3_advance_19 rfl rfl ?_
        refine KV_Rv hO (rest := []) [] (fun l => c_X3_mix hm hs) cv_X3_mix mw_679 ms_13 mw_677 (hm 0 (by decide)) cl3 (by rw [va_us]; exact (st_0 _ _ _ _)) rfl rfl (Nat.le_of_ble_eq_true rfl) (by decide) rfl rfl (Nat.zero_le _) (Nat.zero_le _) dX3_advance_20 ?_
        intro c5 hs
        refine G_aload_n hO 0 dX3_advance_23 rfl rfl ?_
        refine KV_Rv hO (rest := []) [] (fun l => c_X3_heatRooms hm hs) cv_X3_heatRooms mw_683 ms_14 mw_681 (hm 0 (by decide)) cl3 (by rw [va_us]; exact (st_0 _ _ _ _)) rfl rfl (Nat.le_of_ble_eq_true rfl) (by decide) rfl rfl (Nat.zero_le _) (Nat.zero_le _) dX3_advance_24 ?_
        intro c6 hs
        refine G_aload_n hO 0 dX3_advance_27 rfl rfl ?_
        refine KV_Rv hO (rest := []) [] (fun l => c_X3_leakRooms hm hs) cv_X3_leakRooms mw_687 ms_15 mw_685 (hm 0 (by decide)) cl3 (by rw [va_us]; exact (st_0 _ _ _ _)) rfl rfl (Nat.le_of_ble_eq_true rfl) (by decide) rfl rfl (Nat.zero_le _) (Nat.zero_le _) dX3_advance_28 ?_
        intro c7 hs
        refine G_aload_n hO 0 dX3_advance_31 rfl rfl ?_
        refine KV_Rv hO (rest := []) [] (fun l => c_X3_judgeRooms hm hs) cv_X3_judgeRooms mw_691 ms_16 mw_689 (hm 0 (by decide)) cl3 (by rw [va_us]; exact (st_0 _ _ _ _)) rfl rfl (Nat.le_of_ble_eq_true rfl) (by decide) rfl rfl (Nat.zero_le _) (Nat.zero_le _) dX3_advance_32 ?_
        intro c8 hs
        refine G_aload_n hO 0 dX3_advance_35 rfl rfl ?_
        refine G_dup hO dX3_advance_36 rfl ?_
        refine C_getf hO (v := .int (c8 0 0)) cl3 0 (hm 0 (by decide)) (st_0 _ _ _ _) (by decide) mw_105 rfl rfl dX3_advance_37 ?_
        refine G_iconst hO 1 dX3_advance_40 (by decide) ?_
        refine G_iadd hO dX3_advance_41 ?_
        refine C_putf hO (cw_st _ _ _) cl3 0 (hm 0 (by decide)) (st_0 _ _ _ _) (by decide) mw_105 rfl rfl rfl rfl (Nat.le_of_ble_eq_true rfl) (stP (by decide)) dX3_advance_42 ?_
        refine G_aload_n hO 0 dX3_advance_45 rfl rfl ?_
        refine G_dup hO dX3_advance_46 rfl ?_
        refine C_getf hO (v := .int ((cu c8 0 0 ((c8 0 0) + 1)) 0 3)) cl3 3 (hm 0 (by decide)) (st_0 _ _ _ _) (by decide) mw_112 rfl rfl dX3_advance_47 ?_
        refine G_iconst hO 1 dX3_advance_50 (by decide) ?_
        refine G_iadd hO dX3_advance_51 ?_
        refine C_putf hO (cw_st _ _ _) cl3 3 (hm 0 (by decide)) (st_0 _ _ _ _) (by decide) mw_112 rfl rfl rfl rfl (Nat.le_of_ble_eq_true rfl) (stP (by decide)) dX3_advance_52 ?_
        refine G_iinc hO 2 (v2 + 1) [(2, .int (v2 + 1)), (0, .ref (ad n 0)), (1, .int a1)] dX3_advance_55 rfl rfl (by decide) rfl ?_
        refine G_goto hO 2 dX3_advance_58 (by decide) ?_
        refine G_lv hO [(0, .ref (ad n 0)), (1, .int a1), (2, .int (v2 + 1))] [1, 2, 0] rfl ?_
        exact ih2 _ _ hs
  unfold wX3_advance at hs
  refine G_iconst hO 0 dX3_advance_0 (by decide) ?_
  refine G_istore_n hO [(2, .int 0), (0, .ref (ad n 0)), (1, .int a1)] dX3_advance_1 rfl (by decide) rfl ?_
  obtain ⟨Nf1, hs⟩ := hs
  refine G_lv hO [(0, .ref (ad n 0)), (1, .int a1), (2, .int 0)] [1, 2, 0] rfl ?_
  exact b2 Nf1 _ _ hs
