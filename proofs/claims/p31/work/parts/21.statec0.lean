set_option maxHeartbeats 4000000 in
set_option maxRecDepth 20000 in
theorem c_X1_copyFrom {l : Launch} {Λ : Lay} {B : Zn} {ids : List (Nat × Nat)} {ad : Nat → Nat → Nat} {w : Nat → Nat → va_E} {n : Nat} (hm : ∀ j, j < 15 → (n, j) ∈ ids) {n2 : Nat} (hne : n2 ≠ n) (hm2 : ∀ j, j < 15 → (n2, j) ∈ ids) {c2 : Reg} (hw2 : w n2 = stSh Λ ad n2 c2) {c : Reg} {P : Reg → Prop} (hs : wX1_copyFrom c2 c P) : CT l yX1_copyFrom cX1_copyFrom 2 none { frames := 1, cells := 0, slots := 0, locals := 48 } Λ B ids ad (va_up w n (stSh Λ ad n c)) [.ref (ad n 5), .ref (ad n2 5)] (Rv ids ad w n (stSh Λ ad n) P) := by
  refine CT.of RX1 [(0, .ref (ad n 5)), (1, .ref (ad n2 5))] (plainFor_of_name (by decide +kernel)) rfl (Nat.le_of_ble_eq_true rfl) rfl (fun Γ hO hF => ?_)
  unfold wX1_copyFrom at hs
  refine G_aload_n hO 1 dX1_copyFrom_0 rfl rfl ?_
  refine D_getf hO hne hw2 (v := .ref (ad n2 6)) cl1 0 (hm2 5 (by decide)) (st_5 _ _ _ _) (by decide) mw_37 rfl rfl dX1_copyFrom_1 ?_
  refine G_iconst hO 0 dX1_copyFrom_4 (by decide) ?_
  refine G_aload_n hO 0 dX1_copyFrom_5 rfl rfl ?_
  refine C_getf hO (v := .ref (ad n 6)) cl1 0 (hm 5 (by decide)) (st_5 _ _ _ _) (by decide) mw_37 rfl rfl dX1_copyFrom_6 ?_
  refine G_iconst hO 0 dX1_copyFrom_9 (by decide) ?_
  refine G_bipush hO 26 dX1_copyFrom_10 (by decide) ?_
  refine C_acopy hO mw_377 mw_104 mw_103 mw_5 (cw_st Λ ad n) 0 0 26 (by decide) (by decide) (by decide) (hm2 6 (by decide)) (oth hne hw2 (st_6 _ _ _ _)) (hm 6 (by decide)) (st_6 _ _ _) (by decide) (by decide) (by decide) (by decide) (by decide) (by decide) (Nat.le_of_ble_eq_true rfl) dX1_copyFrom_12 ?_
  refine G_aload_n hO 1 dX1_copyFrom_15 rfl rfl ?_
  refine D_getf hO hne hw2 (v := .ref (ad n2 7)) cl1 1 (hm2 5 (by decide)) (st_5 _ _ _ _) (by decide) mw_39 rfl rfl dX1_copyFrom_16 ?_
  refine G_iconst hO 0 dX1_copyFrom_19 (by decide) ?_
  refine G_aload_n hO 0 dX1_copyFrom_20 rfl rfl ?_
  refine C_getf hO (v := .ref (ad n 7)) cl1 1 (hm 5 (by decide)) (st_5 _ _ _ _) (by decide) mw_39 rfl rfl dX1_copyFrom_21 ?_
  refine G_iconst hO 0 dX1_copyFrom_24 (by decide) ?_
  refine G_bipush hO 26 dX1_copyFrom_25 (by decide) ?_
  refine C_acopy hO mw_377 mw_104 mw_103 mw_5 (cw_st Λ ad n) 0 0 26 (by decide) (by decide) (by decide) (hm2 7 (by decide)) (oth hne hw2 (st_7 _ _ _ _)) (hm 7 (by decide)) (st_7 _ _ _) (by decide) (by decide) (by decide) (by decide) (by decide) (by decide) (Nat.le_of_ble_eq_true rfl) dX1_copyFrom_27 ?_
  refine G_aload_n hO 1 dX1_copyFrom_30 rfl rfl ?_
  refine D_getf hO hne hw2 (v := .ref (ad n2 8)) cl1 2 (hm2 5 (by decide)) (st_5 _ _ _ _) (by decide) mw_41 rfl rfl dX1_copyFrom_31 ?_
  refine G_iconst hO 0 dX1_copyFrom_34 (by decide) ?_
  refine G_aload_n hO 0 dX1_copyFrom_35 rfl rfl ?_
  refine C_getf hO (v := .ref (ad n 8)) cl1 2 (hm 5 (by decide)) (st_5 _ _ _ _) (by decide) mw_41 rfl rfl dX1_copyFrom_36 ?_
  refine G_iconst hO 0 dX1_copyFrom_39 (by decide) ?_
  refine G_bipush hO 26 dX1_copyFrom_40 (by decide) ?_
  refine C_acopy hO mw_377 mw_104 mw_103 mw_5 (cw_st Λ ad n) 0 0 26 (by decide) (by decide) (by decide) (hm2 8 (by decide)) (oth hne hw2 (st_8 _ _ _ _)) (hm 8 (by decide)) (st_8 _ _ _) (by decide) (by decide) (by decide) (by decide) (by decide) (by decide) (Nat.le_of_ble_eq_true rfl) dX1_copyFrom_42 ?_
  refine G_aload_n hO 0 dX1_copyFrom_45 rfl rfl ?_
  refine G_aload_n hO 1 dX1_copyFrom_46 rfl rfl ?_
  refine D_getf hO hne hw2 (v := .int (c2 5 3)) cl1 3 (hm2 5 (by decide)) (st_5 _ _ _ _) (by decide) mw_43 rfl rfl dX1_copyFrom_47 ?_
  refine C_putf hO (cw_st _ _ _) cl1 3 (hm 5 (by decide)) (st_5 _ _ _ _) (by decide) mw_43 rfl rfl rfl rfl (Nat.le_of_ble_eq_true rfl) leP dX1_copyFrom_50 ?_
  exact G_vret hO hF rfl (Nat.zero_le _) (Nat.zero_le _) dX1_copyFrom_53 ⟨rfl, rfl, _, rfl, rfl, hs⟩
set_option maxHeartbeats 4000000 in
set_option maxRecDepth 20000 in
theorem c_X2_copyFrom {l : Launch} {Λ : Lay} {B : Zn} {ids : List (Nat × Nat)} {ad : Nat → Nat → Nat} {w : Nat → Nat → va_E} {n : Nat} (hm : ∀ j, j < 15 → (n, j) ∈ ids) {n2 : Nat} (hne : n2 ≠ n) (hm2 : ∀ j, j < 15 → (n2, j) ∈ ids) {c2 : Reg} (hw2 : w n2 = stSh Λ ad n2 c2) {r r2 : Nat} (hr : r < 6) (hr2 : r2 < 6) {c : Reg} {P : Reg → Prop} (hs : wX2_copyFrom r r2 c2 c P) : CT l yX2_copyFrom cX2_copyFrom 2 none { frames := 0, cells := 0, slots := 0, locals := 0 } Λ B ids ad (va_up w n (stSh Λ ad n c)) [.ref (ad n (r + 9)), .ref (ad n2 (r2 + 9))] (Rv ids ad w n (stSh Λ ad n) P) := by
  refine CT.of RX2 [(0, .ref (ad n (r + 9))), (1, .ref (ad n2 (r2 + 9)))] (plainFor_of_name (by decide +kernel)) rfl (Nat.le_of_ble_eq_true rfl) rfl (fun Γ hO hF => ?_)
  unfold wX2_copyFrom at hs
  refine G_aload_n hO 0 dX2_copyFrom_0 rfl rfl ?_
  refine G_aload_n hO 1 dX2_copyFrom_1 rfl rfl ?_
  refine D_getf hO hne hw2 (v := .int (c2 (r2 + 9) 0)) cl2 0 (hm2 _ (l15_9 hr2)) (st_r _ _ _ _ _) (by decide) mw_62 rfl rfl dX2_copyFrom_2 ?_
  refine C_putf hO (cw_st _ _ _) cl2 0 (hm _ (l15_9 hr)) (st_r _ _ _ _ _) (by decide) mw_62 rfl rfl rfl rfl (Nat.le_of_ble_eq_true rfl) (rmP (by decide)) dX2_copyFrom_5 ?_
  refine G_aload_n hO 0 dX2_copyFrom_8 rfl rfl ?_
  refine G_aload_n hO 1 dX2_copyFrom_9 rfl rfl ?_
  refine D_getf hO hne hw2 (v := .int (c2 (r2 + 9) 1)) cl2 1 (hm2 _ (l15_9 hr2)) (st_r _ _ _ _ _) (by decide) mw_65 rfl rfl dX2_copyFrom_10 ?_
  refine C_putf hO (cw_st _ _ _) cl2 1 (hm _ (l15_9 hr)) (st_r _ _ _ _ _) (by decide) mw_65 rfl rfl rfl rfl (Nat.le_of_ble_eq_true rfl) (rmP (by decide)) dX2_copyFrom_13 ?_
  refine G_aload_n hO 0 dX2_copyFrom_16 rfl rfl ?_
  refine G_aload_n hO 1 dX2_copyFrom_17 rfl rfl ?_
  refine D_getf hO hne hw2 (v := .int (c2 (r2 + 9) 2)) cl2 2 (hm2 _ (l15_9 hr2)) (st_r _ _ _ _ _) (by decide) mw_68 rfl rfl dX2_copyFrom_18 ?_
  refine C_putf hO (cw_st _ _ _) cl2 2 (hm _ (l15_9 hr)) (st_r _ _ _ _ _) (by decide) mw_68 rfl rfl rfl rfl (Nat.le_of_ble_eq_true rfl) (rmP (by decide)) dX2_copyFrom_21 ?_
  refine G_aload_n hO 0 dX2_copyFrom_24 rfl rfl ?_
  refine G_aload_n hO 1 dX2_copyFrom_25 rfl rfl ?_
  refine D_getf hO hne hw2 (v := .int (c2 (r2 + 9) 3)) cl2 3 (hm2 _ (l15_9 hr2)) (st_r _ _ _ _ _) (by decide) mw_71 rfl rfl dX2_copyFrom_26 ?_
  refine C_putf hO (cw_st _ _ _) cl2 3 (hm _ (l15_9 hr)) (st_r _ _ _ _ _) (by decide) mw_71 rfl rfl hs.1.nar hs.1.fit (Nat.le_of_ble_eq_true rfl) (rmP (by decide)) dX2_copyFrom_29 ?_
  replace hs := hs.2
  refine G_aload_n hO 0 dX2_copyFrom_32 rfl rfl ?_
  refine G_aload_n hO 1 dX2_copyFrom_33 rfl rfl ?_
  refine D_getf hO hne hw2 (v := .int (c2 (r2 + 9) 4)) cl2 4 (hm2 _ (l15_9 hr2)) (st_r _ _ _ _ _) (by decide) mw_74 rfl rfl dX2_copyFrom_34 ?_
  refine C_putf hO (cw_st _ _ _) cl2 4 (hm _ (l15_9 hr)) (st_r _ _ _ _ _) (by decide) mw_74 rfl rfl rfl rfl (Nat.le_of_ble_eq_true rfl) (rmP (by decide)) dX2_copyFrom_37 ?_
  refine G_aload_n hO 0 dX2_copyFrom_40 rfl rfl ?_
  refine G_aload_n hO 1 dX2_copyFrom_41 rfl rfl ?_
  refine D_getf hO hne hw2 (v := .int (c2 (r2 + 9) 5)) cl2 5 (hm2 _ (l15_9 hr2)) (st_r _ _ _ _ _) (by decide) mw_77 rfl rfl dX2_copyFrom_42 ?_
  refine C_putf hO (cw_st _ _ _) cl2 5 (hm _ (l15_9 hr)) (st_r _ _ _ _ _) (by decide) mw_77 rfl rfl rfl rfl (Nat.le_of_ble_eq_true rfl) (rmP (by decide)) dX2_copyFrom_45 ?_
  refine G_aload_n hO 0 dX2_copyFrom_48 rfl rfl ?_
  refine G_aload_n hO 1 dX2_copyFrom_49 rfl rfl ?_
  refine D_getf hO hne hw2 (v := .int (c2 (r2 + 9) 6)) cl2 6 (hm2 _ (l15_9 hr2)) (st_r _ _ _ _ _) (by decide) mw_79 rfl rfl dX2_copyFrom_50 ?_
  refine C_putf hO (cw_st _ _ _) cl2 6 (hm _ (l15_9 hr)) (st_r _ _ _ _ _) (by decide) mw_79 rfl rfl rfl rfl (Nat.le_of_ble_eq_true rfl) (rmP (by decide)) dX2_copyFrom_53 ?_
  exact G_vret hO hF rfl (Nat.zero_le _) (Nat.zero_le _) dX2_copyFrom_56 ⟨rfl, rfl, _, rfl, rfl, hs⟩
set_option maxHeartbeats 4000000 in
set_option maxRecDepth 20000 in
theorem c_X3_copyFrom {l : Launch} {Λ : Lay} {B : Zn} {ids : List (Nat × Nat)} {ad : Nat → Nat → Nat} {w : Nat → Nat → va_E} {n : Nat} (hm : ∀ j, j < 15 → (n, j) ∈ ids) {n2 : Nat} (hne : n2 ≠ n) (hm2 : ∀ j, j < 15 → (n2, j) ∈ ids) {c2 : Reg} (hw2 : w n2 = stSh Λ ad n2 c2) {c : Reg} {P : Reg → Prop} (hs : wX3_copyFrom c2 c P) : CT l yX3_copyFrom cX3_copyFrom 3 none { frames := 2, cells := 0, slots := 0, locals := 69 } Λ B ids ad (va_up w n (stSh Λ ad n c)) [.ref (ad n 0), .ref (ad n2 0)] (Rv ids ad w n (stSh Λ ad n) P) := by
  refine CT.of RX3 [(0, .ref (ad n 0)), (1, .ref (ad n2 0))] (plainFor_of_name (by decide +kernel)) rfl (Nat.le_of_ble_eq_true rfl) rfl (fun Γ hO hF => ?_)
  have b130 : ∀ (N130 : Nat) (v2 : Int32) (c : Reg), wX3_copyFrom_L130 c2 P N130 v2 c → G Γ ids ad 0 0 (va_up w n (stSh Λ ad n c)) 130 [(0, .ref (ad n 0)), (1, .ref (ad n2 0)), (2, .int v2)] [] := by
    intro N130
    induction N130 with
    | zero => intro v2 c hs; exact False.elim hs
    | succ N130 ih130 =>
      intro v2 c hs
      unfold wX3_copyFrom_L130 at hs
      refine G_iload_n hO 2 dX3_copyFrom_130 rfl rfl ?_
      refine G_aload_n hO 0 dX3_copyFrom_131 rfl rfl ?_
      refine C_getf hO (v := .int (c 0 8)) cl3 8 (hm 0 (by decide)) (st_0 _ _ _ _) (by decide) mw_122 rfl rfl dX3_copyFrom_132 ?_
      refine G_icmp_ge hO 165 dX3_copyFrom_135 (by decide) (fun h7 => ?_) (fun h7 => ?_)
      · replace hs := hs.1 h7
        exact G_vret hO hF rfl (Nat.zero_le _) (Nat.zero_le _) dX3_copyFrom_165 ⟨rfl, rfl, _, rfl, rfl, hs⟩
      · replace hs := hs.2 h7
        refine G_iload_n hO 2 dX3_copyFrom_138 rfl rfl ?_
        refine G_bipush hO 6 dX3_copyFrom_139 (by decide) ?_
        refine G_icmp_ge hO 165 dX3_copyFrom_141 (by decide) (fun h6 => ?_) (fun h6 => ?_)
        · replace hs := hs.1 h6
          exact G_vret hO hF rfl (Nat.zero_le _) (Nat.zero_le _) dX3_copyFrom_165 ⟨rfl, rfl, _, rfl, rfl, hs⟩
        · replace hs := hs.2 h6
          refine G_aload_n hO 0 dX3_copyFrom_144 rfl rfl ?_
          refine C_getf hO (v := .ref (ad n 4)) cl3 12 (hm 0 (by decide)) (st_0 _ _ _ _) (by decide) mw_127 rfl rfl dX3_copyFrom_145 ?_
          refine G_iload_n hO 2 dX3_copyFrom_148 rfl rfl ?_
          have hr3 : Int32.toNatClampNeg v2 < 6 := lt_in hs.1
          refine C_aaldR hO (v := .ref (ad n ((Int32.toNatClampNeg v2) + 9))) (hm 4 (by decide)) (st_4 _ _ _ _) hs.1 rfl dX3_copyFrom_149 ?_
          replace hs := hs.2
          refine G_aload_n hO 1 dX3_copyFrom_150 rfl rfl ?_
          refine D_getf hO hne hw2 (v := .ref (ad n2 4)) cl3 12 (hm2 0 (by decide)) (st_0 _ _ _ _) (by decide) mw_127 rfl rfl dX3_copyFrom_151 ?_
          refine G_iload_n hO 2 dX3_copyFrom_154 rfl rfl ?_
          have hr4 : Int32.toNatClampNeg v2 < 6 := lt_in hs.1
          refine D_aaldR hO hne hw2 (v := .ref (ad n2 ((Int32.toNatClampNeg v2) + 9))) (hm2 4 (by decide)) (st_4 _ _ _ _) hs.1 rfl dX3_copyFrom_155 ?_
          replace hs := hs.2
          refine KV_Rv hO (rest := []) [.ref (ad n2 ((Int32.toNatClampNeg v2) + 9))] (fun l => c_X2_copyFrom hm hne hm2 hw2 hr3 hr4 hs) cv_X2_copyFrom mw_379 mw_380 mw_378 (hm _ (l15_9 hr3)) cl2 (by rw [va_us]; exact (st_r _ _ _ _ _)) rfl rfl (Nat.le_of_ble_eq_true rfl) (by decide) rfl rfl (Nat.zero_le _) (Nat.zero_le _) dX3_copyFrom_156 ?_
          intro c5 hs
          refine G_iinc hO 2 (v2 + 1) [(2, .int (v2 + 1)), (0, .ref (ad n 0)), (1, .ref (ad n2 0))] dX3_copyFrom_159 rfl rfl (by decide) rfl ?_
          refine G_goto hO 130 dX3_copyFrom_162 (by decide) ?_
          refine G_lv hO [(0, .ref (ad n 0)), (1, .ref (ad n2 0)), (2, .int (v2 + 1))] [1, 2, 0] rfl ?_
          exact ih130 _ _ hs
  unfold wX3_copyFrom at hs
  refine G_aload_n hO 0 dX3_copyFrom_0 rfl rfl ?_
  refine G_aload_n hO 1 dX3_copyFrom_1 rfl rfl ?_
  refine D_getf hO hne hw2 (v := .int (c2 0 0)) cl3 0 (hm2 0 (by decide)) (st_0 _ _ _ _) (by decide) mw_105 rfl rfl dX3_copyFrom_2 ?_
  refine C_putf hO (cw_st _ _ _) cl3 0 (hm 0 (by decide)) (st_0 _ _ _ _) (by decide) mw_105 rfl rfl rfl rfl (Nat.le_of_ble_eq_true rfl) (stP (by decide)) dX3_copyFrom_5 ?_
  refine G_aload_n hO 0 dX3_copyFrom_8 rfl rfl ?_
  refine G_aload_n hO 1 dX3_copyFrom_9 rfl rfl ?_
  refine D_getf hO hne hw2 (v := .int (c2 0 1)) cl3 1 (hm2 0 (by decide)) (st_0 _ _ _ _) (by decide) mw_107 rfl rfl dX3_copyFrom_10 ?_
  refine C_putf hO (cw_st _ _ _) cl3 1 (hm 0 (by decide)) (st_0 _ _ _ _) (by decide) mw_107 rfl rfl rfl rfl (Nat.le_of_ble_eq_true rfl) (stP (by decide)) dX3_copyFrom_13 ?_
  refine G_aload_n hO 0 dX3_copyFrom_16 rfl rfl ?_
  refine G_aload_n hO 1 dX3_copyFrom_17 rfl rfl ?_
  refine D_getf hO hne hw2 (v := .int (c2 0 2)) cl3 2 (hm2 0 (by decide)) (st_0 _ _ _ _) (by decide) mw_110 rfl rfl dX3_copyFrom_18 ?_
  refine C_putf hO (cw_st _ _ _) cl3 2 (hm 0 (by decide)) (st_0 _ _ _ _) (by decide) mw_110 rfl rfl hs.1.nar hs.1.fit (Nat.le_of_ble_eq_true rfl) (stP (by decide)) dX3_copyFrom_21 ?_
  replace hs := hs.2
  refine G_aload_n hO 0 dX3_copyFrom_24 rfl rfl ?_
  refine G_aload_n hO 1 dX3_copyFrom_25 rfl rfl ?_
  refine D_getf hO hne hw2 (v := .int (c2 0 3)) cl3 3 (hm2 0 (by decide)) (st_0 _ _ _ _) (by decide) mw_112 rfl rfl dX3_copyFrom_26 ?_
  refine C_putf hO (cw_st _ _ _) cl3 3 (hm 0 (by decide)) (st_0 _ _ _ _) (by decide) mw_112 rfl rfl rfl rfl (Nat.le_of_ble_eq_true rfl) (stP (by decide)) dX3_copyFrom_29 ?_
  refine G_aload_n hO 0 dX3_copyFrom_32 rfl rfl ?_
  refine G_aload_n hO 1 dX3_copyFrom_33 rfl rfl ?_
  refine D_getf hO hne hw2 (v := .int (c2 0 4)) cl3 4 (hm2 0 (by decide)) (st_0 _ _ _ _) (by decide) mw_114 rfl rfl dX3_copyFrom_34 ?_
  refine C_putf hO (cw_st _ _ _) cl3 4 (hm 0 (by decide)) (st_0 _ _ _ _) (by decide) mw_114 rfl rfl rfl rfl (Nat.le_of_ble_eq_true rfl) (stP (by decide)) dX3_copyFrom_37 ?_
  refine G_aload_n hO 0 dX3_copyFrom_40 rfl rfl ?_
  refine G_aload_n hO 1 dX3_copyFrom_41 rfl rfl ?_
  refine D_getf hO hne hw2 (v := .int (c2 0 5)) cl3 5 (hm2 0 (by decide)) (st_0 _ _ _ _) (by decide) mw_116 rfl rfl dX3_copyFrom_42 ?_
  refine C_putf hO (cw_st _ _ _) cl3 5 (hm 0 (by decide)) (st_0 _ _ _ _) (by decide) mw_116 rfl rfl rfl rfl (Nat.le_of_ble_eq_true rfl) (stP (by decide)) dX3_copyFrom_45 ?_
  refine G_aload_n hO 0 dX3_copyFrom_48 rfl rfl ?_
  refine G_aload_n hO 1 dX3_copyFrom_49 rfl rfl ?_
  refine D_getf hO hne hw2 (v := .int (c2 0 6)) cl3 6 (hm2 0 (by decide)) (st_0 _ _ _ _) (by decide) mw_118 rfl rfl dX3_copyFrom_50 ?_
  refine C_putf hO (cw_st _ _ _) cl3 6 (hm 0 (by decide)) (st_0 _ _ _ _) (by decide) mw_118 rfl rfl hs.1.nar hs.1.fit (Nat.le_of_ble_eq_true rfl) (stP (by decide)) dX3_copyFrom_53 ?_
  replace hs := hs.2
  refine G_aload_n hO 0 dX3_copyFrom_56 rfl rfl ?_
  refine G_aload_n hO 1 dX3_copyFrom_57 rfl rfl ?_
  refine D_getf hO hne hw2 (v := .int (c2 0 7)) cl3 7 (hm2 0 (by decide)) (st_0 _ _ _ _) (by decide) mw_120 rfl rfl dX3_copyFrom_58 ?_
  refine C_putf hO (cw_st _ _ _) cl3 7 (hm 0 (by decide)) (st_0 _ _ _ _) (by decide) mw_120 rfl rfl rfl rfl (Nat.le_of_ble_eq_true rfl) (stP (by decide)) dX3_copyFrom_61 ?_
  refine G_aload_n hO 0 dX3_copyFrom_64 rfl rfl ?_
  refine G_aload_n hO 1 dX3_copyFrom_65 rfl rfl ?_
  refine D_getf hO hne hw2 (v := .int (c2 0 8)) cl3 8 (hm2 0 (by decide)) (st_0 _ _ _ _) (by decide) mw_122 rfl rfl dX3_copyFrom_66 ?_
  refine C_putf hO (cw_st _ _ _) cl3 8 (hm 0 (by decide)) (st_0 _ _ _ _) (by decide) mw_122 rfl rfl rfl rfl (Nat.le_of_ble_eq_true rfl) (stP (by decide)) dX3_copyFrom_69 ?_
  refine G_aload_n hO 0 dX3_copyFrom_72 rfl rfl ?_
  refine C_getf hO (v := .ref (ad n 5)) cl3 13 (hm 0 (by decide)) (st_0 _ _ _ _) (by decide) mw_129 rfl rfl dX3_copyFrom_73 ?_
  refine G_aload_n hO 1 dX3_copyFrom_76 rfl rfl ?_
  refine D_getf hO hne hw2 (v := .ref (ad n2 5)) cl3 13 (hm2 0 (by decide)) (st_0 _ _ _ _) (by decide) mw_129 rfl rfl dX3_copyFrom_77 ?_
  refine KV_Rv hO (rest := []) [.ref (ad n2 5)] (fun l => c_X1_copyFrom hm hne hm2 hw2 hs) cv_X1_copyFrom mw_374 mw_375 mw_373 (hm 5 (by decide)) cl1 (by rw [va_us]; exact (st_5 _ _ _ _)) rfl rfl (Nat.le_of_ble_eq_true rfl) (by decide) rfl rfl (Nat.zero_le _) (Nat.zero_le _) dX3_copyFrom_80 ?_
  intro c1 hs
  refine G_aload_n hO 1 dX3_copyFrom_83 rfl rfl ?_
  refine D_getf hO hne hw2 (v := .ref (ad n2 1)) cl3 9 (hm2 0 (by decide)) (st_0 _ _ _ _) (by decide) mw_124 rfl rfl dX3_copyFrom_84 ?_
  refine G_iconst hO 0 dX3_copyFrom_87 (by decide) ?_
  refine G_aload_n hO 0 dX3_copyFrom_88 rfl rfl ?_
  refine C_getf hO (v := .ref (ad n 1)) cl3 9 (hm 0 (by decide)) (st_0 _ _ _ _) (by decide) mw_124 rfl rfl dX3_copyFrom_89 ?_
  refine G_iconst hO 0 dX3_copyFrom_92 (by decide) ?_
  refine G_bipush hO 9 dX3_copyFrom_93 (by decide) ?_
  refine C_acopy hO mw_102 mw_104 mw_103 mw_5 (cw_st Λ ad n) 0 0 9 (by decide) (by decide) (by decide) (hm2 1 (by decide)) (oth hne hw2 (st_1 _ _ _ _)) (hm 1 (by decide)) (st_1 _ _ _) (by decide) (by decide) (by decide) (by decide) (by decide) (by decide) (Nat.le_of_ble_eq_true rfl) dX3_copyFrom_95 ?_
  refine G_aload_n hO 1 dX3_copyFrom_98 rfl rfl ?_
  refine D_getf hO hne hw2 (v := .ref (ad n2 2)) cl3 10 (hm2 0 (by decide)) (st_0 _ _ _ _) (by decide) mw_125 rfl rfl dX3_copyFrom_99 ?_
  refine G_iconst hO 0 dX3_copyFrom_102 (by decide) ?_
  refine G_aload_n hO 0 dX3_copyFrom_103 rfl rfl ?_
  refine C_getf hO (v := .ref (ad n 2)) cl3 10 (hm 0 (by decide)) (st_0 _ _ _ _) (by decide) mw_125 rfl rfl dX3_copyFrom_104 ?_
  refine G_iconst hO 0 dX3_copyFrom_107 (by decide) ?_
  refine G_bipush hO 8 dX3_copyFrom_108 (by decide) ?_
  refine C_acopy hO mw_102 mw_104 mw_103 mw_5 (cw_st Λ ad n) 0 0 8 (by decide) (by decide) (by decide) (hm2 2 (by decide)) (oth hne hw2 (st_2 _ _ _ _)) (hm 2 (by decide)) (st_2 _ _ _) (by decide) (by decide) (by decide) (by decide) (by decide) (by decide) (Nat.le_of_ble_eq_true rfl) dX3_copyFrom_110 ?_
  refine G_aload_n hO 1 dX3_copyFrom_113 rfl rfl ?_
  refine D_getf hO hne hw2 (v := .ref (ad n2 3)) cl3 11 (hm2 0 (by decide)) (st_0 _ _ _ _) (by decide) mw_126 rfl rfl dX3_copyFrom_114 ?_
  refine G_iconst hO 0 dX3_copyFrom_117 (by decide) ?_
  refine G_aload_n hO 0 dX3_copyFrom_118 rfl rfl ?_
  refine C_getf hO (v := .ref (ad n 3)) cl3 11 (hm 0 (by decide)) (st_0 _ _ _ _) (by decide) mw_126 rfl rfl dX3_copyFrom_119 ?_
  refine G_iconst hO 0 dX3_copyFrom_122 (by decide) ?_
  refine G_bipush hO 8 dX3_copyFrom_123 (by decide) ?_
  refine C_acopy hO mw_102 mw_104 mw_103 mw_5 (cw_st Λ ad n) 0 0 8 (by decide) (by decide) (by decide) (hm2 3 (by decide)) (oth hne hw2 (st_3 _ _ _ _)) (hm 3 (by decide)) (st_3 _ _ _) (by decide) (by decide) (by decide) (by decide) (by decide) (by decide) (Nat.le_of_ble_eq_true rfl) dX3_copyFrom_125 ?_
  refine G_iconst hO 0 dX3_copyFrom_128 (by decide) ?_
  refine G_istore_n hO [(2, .int 0), (0, .ref (ad n 0)), (1, .ref (ad n2 0))] dX3_copyFrom_129 rfl (by decide) rfl ?_
  obtain ⟨Nf2, hs⟩ := hs
  refine G_lv hO [(0, .ref (ad n 0)), (1, .ref (ad n2 0)), (2, .int 0)] [1, 2, 0] rfl ?_
  exact b130 Nf2 _ _ hs
set_option maxHeartbeats 4000000 in
set_option maxRecDepth 20000 in
theorem c_X1_hasWay {l : Launch} {Λ : Lay} {B : Zn} {ids : List (Nat × Nat)} {ad : Nat → Nat → Nat} {w : Nat → Nat → va_E} {n : Nat} (hm : ∀ j, j < 15 → (n, j) ∈ ids) {a1 : Int32} {c : Reg} {P : Int32 → Reg → Prop} (hs : wX1_hasWay a1 c P) : CT l yX1_hasWay cX1_hasWay 2 (some .boolean) { frames := 0, cells := 0, slots := 0, locals := 0 } Λ B ids ad (va_up w n (stSh Λ ad n c)) [.ref (ad n 5), .int a1] (Ri ids ad w n (stSh Λ ad n) P) := by
  refine CT.of RX1 [(0, .ref (ad n 5)), (1, .int a1)] (plainFor_of_name (by decide +kernel)) rfl (Nat.le_of_ble_eq_true rfl) rfl (fun Γ hO hF => ?_)
  unfold wX1_hasWay at hs
  refine G_iload_n hO 1 dX1_hasWay_0 rfl rfl ?_
  refine G_if_lt hO 22 dX1_hasWay_1 (by decide) (fun h3 => ?_) (fun h3 => ?_)
  · replace hs := hs.1 h3
    refine G_iconst hO 0 dX1_hasWay_22 (by decide) ?_
    exact G_zret hO hF rfl (Nat.zero_le _) (Nat.zero_le _) rfl dX1_hasWay_23 ⟨rfl, rfl, _, _, rfl, rfl, hs⟩
  · replace hs := hs.2 h3
    refine G_iload_n hO 1 dX1_hasWay_4 rfl rfl ?_
    refine G_aload_n hO 0 dX1_hasWay_5 rfl rfl ?_
    refine C_getf hO (v := .int (c 5 3)) cl1 3 (hm 5 (by decide)) (st_5 _ _ _ _) (by decide) mw_43 rfl rfl dX1_hasWay_6 ?_
    refine G_icmp_ge hO 22 dX1_hasWay_9 (by decide) (fun h2 => ?_) (fun h2 => ?_)
    · replace hs := hs.1 h2
      refine G_iconst hO 0 dX1_hasWay_22 (by decide) ?_
      exact G_zret hO hF rfl (Nat.zero_le _) (Nat.zero_le _) rfl dX1_hasWay_23 ⟨rfl, rfl, _, _, rfl, rfl, hs⟩
    · replace hs := hs.2 h2
      refine G_iload_n hO 1 dX1_hasWay_12 rfl rfl ?_
      refine G_bipush hO 26 dX1_hasWay_13 (by decide) ?_
      refine G_icmp_ge hO 22 dX1_hasWay_15 (by decide) (fun h1 => ?_) (fun h1 => ?_)
      · replace hs := hs.1 h1
        refine G_iconst hO 0 dX1_hasWay_22 (by decide) ?_
        exact G_zret hO hF rfl (Nat.zero_le _) (Nat.zero_le _) rfl dX1_hasWay_23 ⟨rfl, rfl, _, _, rfl, rfl, hs⟩
      · replace hs := hs.2 h1
        refine G_iconst hO 1 dX1_hasWay_18 (by decide) ?_
        refine G_goto hO 23 dX1_hasWay_19 (by decide) ?_
        exact G_zret hO hF rfl (Nat.zero_le _) (Nat.zero_le _) rfl dX1_hasWay_23 ⟨rfl, rfl, _, _, rfl, rfl, hs⟩
set_option maxHeartbeats 4000000 in
set_option maxRecDepth 20000 in
theorem c_X1_note {l : Launch} {Λ : Lay} {B : Zn} {ids : List (Nat × Nat)} {ad : Nat → Nat → Nat} {w : Nat → Nat → va_E} {n : Nat} (hm : ∀ j, j < 15 → (n, j) ∈ ids) {a1 : Int32} {a2 : Int32} {a3 : Int32} {c : Reg} {P : Reg → Prop} (hs : wX1_note a1 a2 a3 c P) : CT l yX1_note cX1_note 5 none { frames := 0, cells := 0, slots := 0, locals := 0 } Λ B ids ad (va_up w n (stSh Λ ad n c)) [.ref (ad n 5), .int a1, .int a2, .int a3] (Rv ids ad w n (stSh Λ ad n) P) := by
  refine CT.of RX1 [(0, .ref (ad n 5)), (1, .int a1), (2, .int a2), (3, .int a3)] (plainFor_of_name (by decide +kernel)) rfl (Nat.le_of_ble_eq_true rfl) rfl (fun Γ hO hF => ?_)
  have b59 : ∀ (c : Reg), wX1_note_L59 a1 a2 a3 P c → G Γ ids ad 0 0 (va_up w n (stSh Λ ad n c)) 59 [(0, .ref (ad n 5)), (1, .int a1), (2, .int a2), (3, .int a3)] [] := by
    intro c hs
    unfold wX1_note_L59 at hs
    refine G_aload_n hO 0 dX1_note_59 rfl rfl ?_
    refine C_getf hO (v := .int (c 5 3)) cl1 3 (hm 5 (by decide)) (st_5 _ _ _ _) (by decide) mw_43 rfl rfl dX1_note_60 ?_
    refine G_if_lt hO 115 dX1_note_63 (by decide) (fun h7 => ?_) (fun h7 => ?_)
    · replace hs := hs.1 h7
      exact G_vret hO hF rfl (Nat.zero_le _) (Nat.zero_le _) dX1_note_115 ⟨rfl, rfl, _, rfl, rfl, hs⟩
    · replace hs := hs.2 h7
      refine G_aload_n hO 0 dX1_note_66 rfl rfl ?_
      refine C_getf hO (v := .int (c 5 3)) cl1 3 (hm 5 (by decide)) (st_5 _ _ _ _) (by decide) mw_43 rfl rfl dX1_note_67 ?_
      refine G_bipush hO 26 dX1_note_70 (by decide) ?_
      refine G_icmp_ge hO 115 dX1_note_72 (by decide) (fun h6 => ?_) (fun h6 => ?_)
      · replace hs := hs.1 h6
        exact G_vret hO hF rfl (Nat.zero_le _) (Nat.zero_le _) dX1_note_115 ⟨rfl, rfl, _, rfl, rfl, hs⟩
      · replace hs := hs.2 h6
        refine G_aload_n hO 0 dX1_note_75 rfl rfl ?_
        refine C_getf hO (v := .ref (ad n 6)) cl1 0 (hm 5 (by decide)) (st_5 _ _ _ _) (by decide) mw_37 rfl rfl dX1_note_76 ?_
        refine G_aload_n hO 0 dX1_note_79 rfl rfl ?_
        refine C_getf hO (v := .int (c 5 3)) cl1 3 (hm 5 (by decide)) (st_5 _ _ _ _) (by decide) mw_43 rfl rfl dX1_note_80 ?_
        refine G_iload_n hO 1 dX1_note_83 rfl rfl ?_
        refine C_iast hO (cw_st _ _ _) _ rfl (hm 6 (by decide)) (st_6 _ _ _) hs.1 dX1_note_84 ?_
        replace hs := hs.2
        refine G_aload_n hO 0 dX1_note_85 rfl rfl ?_
        refine C_getf hO (v := .ref (ad n 7)) cl1 1 (hm 5 (by decide)) (st_5 _ _ _ _) (by decide) mw_39 rfl rfl dX1_note_86 ?_
        refine G_aload_n hO 0 dX1_note_89 rfl rfl ?_
        refine C_getf hO (v := .int ((cu c 6 (Int32.toNatClampNeg (c 5 3)) a1) 5 3)) cl1 3 (hm 5 (by decide)) (st_5 _ _ _ _) (by decide) mw_43 rfl rfl dX1_note_90 ?_
        refine G_iload_n hO 2 dX1_note_93 rfl rfl ?_
        refine C_iast hO (cw_st _ _ _) _ rfl (hm 7 (by decide)) (st_7 _ _ _) hs.1 dX1_note_94 ?_
        replace hs := hs.2
        refine G_aload_n hO 0 dX1_note_95 rfl rfl ?_
        refine C_getf hO (v := .ref (ad n 8)) cl1 2 (hm 5 (by decide)) (st_5 _ _ _ _) (by decide) mw_41 rfl rfl dX1_note_96 ?_
        refine G_aload_n hO 0 dX1_note_99 rfl rfl ?_
        refine C_getf hO (v := .int ((cu (cu c 6 (Int32.toNatClampNeg (c 5 3)) a1) 7 (Int32.toNatClampNeg ((cu c 6 (Int32.toNatClampNeg (c 5 3)) a1) 5 3)) a2) 5 3)) cl1 3 (hm 5 (by decide)) (st_5 _ _ _ _) (by decide) mw_43 rfl rfl dX1_note_100 ?_
        refine G_iload_n hO 3 dX1_note_103 rfl rfl ?_
        refine C_iast hO (cw_st _ _ _) _ rfl (hm 8 (by decide)) (st_8 _ _ _) hs.1 dX1_note_104 ?_
        replace hs := hs.2
        refine G_aload_n hO 0 dX1_note_105 rfl rfl ?_
        refine G_dup hO dX1_note_106 rfl ?_
        refine C_getf hO (v := .int ((cu (cu (cu c 6 (Int32.toNatClampNeg (c 5 3)) a1) 7 (Int32.toNatClampNeg ((cu c 6 (Int32.toNatClampNeg (c 5 3)) a1) 5 3)) a2) 8 (Int32.toNatClampNeg ((cu (cu c 6 (Int32.toNatClampNeg (c 5 3)) a1) 7 (Int32.toNatClampNeg ((cu c 6 (Int32.toNatClampNeg (c 5 3)) a1) 5 3)) a2) 5 3)) a3) 5 3)) cl1 3 (hm 5 (by decide)) (st_5 _ _ _ _) (by decide) mw_43 rfl rfl dX1_note_107 ?_
        refine G_iconst hO 1 dX1_note_110 (by decide) ?_
        refine G_iadd hO dX1_note_111 ?_
        refine C_putf hO (cw_st _ _ _) cl1 3 (hm 5 (by decide)) (st_5 _ _ _ _) (by decide) mw_43 rfl rfl rfl rfl (Nat.le_of_ble_eq_true rfl) leP dX1_note_112 ?_
        exact G_vret hO hF rfl (Nat.zero_le _) (Nat.zero_le _) dX1_note_115 ⟨rfl, rfl, _, rfl, rfl, hs⟩
  have b3 : ∀ (N3 : Nat) (v4 : Int32) (c : Reg), wX1_note_L3 a1 a2 a3 P N3 v4 c → G Γ ids ad 0 0 (va_up w n (stSh Λ ad n c)) 3 [(0, .ref (ad n 5)), (1, .int a1), (2, .int a2), (3, .int a3), (4, .int v4)] [] := by
    intro N3
    induction N3 with
    | zero => intro v4 c hs; exact False.elim hs
    | succ N3 ih3 =>
      intro v4 c hs
      unfold wX1_note_L3 at hs
      refine G_iload hO 4 dX1_note_3 rfl ?_
      refine G_aload_n hO 0 dX1_note_5 rfl rfl ?_
      refine C_getf hO (v := .int (c 5 3)) cl1 3 (hm 5 (by decide)) (st_5 _ _ _ _) (by decide) mw_43 rfl rfl dX1_note_6 ?_
      refine G_icmp_ge hO 59 dX1_note_9 (by decide) (fun h5 => ?_) (fun h5 => ?_)
      · replace hs := hs.1 h5
        refine G_lv hO [(0, .ref (ad n 5)), (1, .int a1), (2, .int a2), (3, .int a3)] [0, 1, 2, 3] rfl ?_
        exact b59 _ hs
      · replace hs := hs.2 h5
        refine G_iload hO 4 dX1_note_12 rfl ?_
        refine G_bipush hO 26 dX1_note_14 (by decide) ?_
        refine G_icmp_ge hO 59 dX1_note_16 (by decide) (fun h4 => ?_) (fun h4 => ?_)
        · replace hs := hs.1 h4
          refine G_lv hO [(0, .ref (ad n 5)), (1, .int a1), (2, .int a2), (3, .int a3)] [0, 1, 2, 3] rfl ?_
          exact b59 _ hs
        · replace hs := hs.2 h4
          refine G_aload_n hO 0 dX1_note_19 rfl rfl ?_
          refine C_getf hO (v := .ref (ad n 6)) cl1 0 (hm 5 (by decide)) (st_5 _ _ _ _) (by decide) mw_37 rfl rfl dX1_note_20 ?_
          refine G_iload hO 4 dX1_note_23 rfl ?_
          refine C_iald hO _ rfl (hm 6 (by decide)) (st_6 _ _ _ _) hs.1 dX1_note_25 ?_
          replace hs := hs.2
          refine G_iload_n hO 1 dX1_note_26 rfl rfl ?_
          refine G_icmp_ne hO 53 dX1_note_27 (by decide) (fun h3 => ?_) (fun h3 => ?_)
          · replace hs := hs.1 h3
            refine G_iinc hO 4 (v4 + 1) [(4, .int (v4 + 1)), (0, .ref (ad n 5)), (1, .int a1), (2, .int a2), (3, .int a3)] dX1_note_53 rfl rfl (by decide) rfl ?_
            refine G_goto hO 3 dX1_note_56 (by decide) ?_
            refine G_lv hO [(0, .ref (ad n 5)), (1, .int a1), (2, .int a2), (3, .int a3), (4, .int (v4 + 1))] [1, 2, 3, 4, 0] rfl ?_
            exact ih3 _ _ hs
          · replace hs := hs.2 h3
            refine G_aload_n hO 0 dX1_note_30 rfl rfl ?_
            refine C_getf hO (v := .ref (ad n 7)) cl1 1 (hm 5 (by decide)) (st_5 _ _ _ _) (by decide) mw_39 rfl rfl dX1_note_31 ?_
            refine G_iload hO 4 dX1_note_34 rfl ?_
            refine C_iald hO _ rfl (hm 7 (by decide)) (st_7 _ _ _ _) hs.1 dX1_note_36 ?_
            replace hs := hs.2
            refine G_iload_n hO 2 dX1_note_37 rfl rfl ?_
            refine G_icmp_ne hO 53 dX1_note_38 (by decide) (fun h2 => ?_) (fun h2 => ?_)
            · replace hs := hs.1 h2
              refine G_iinc hO 4 (v4 + 1) [(4, .int (v4 + 1)), (0, .ref (ad n 5)), (1, .int a1), (2, .int a2), (3, .int a3)] dX1_note_53 rfl rfl (by decide) rfl ?_
              refine G_goto hO 3 dX1_note_56 (by decide) ?_
              refine G_lv hO [(0, .ref (ad n 5)), (1, .int a1), (2, .int a2), (3, .int a3), (4, .int (v4 + 1))] [1, 2, 3, 4, 0] rfl ?_
              exact ih3 _ _ hs
            · replace hs := hs.2 h2
              refine G_aload_n hO 0 dX1_note_41 rfl rfl ?_
              refine C_getf hO (v := .ref (ad n 8)) cl1 2 (hm 5 (by decide)) (st_5 _ _ _ _) (by decide) mw_41 rfl rfl dX1_note_42 ?_
              refine G_iload hO 4 dX1_note_45 rfl ?_
              refine G_dup2 hO dX1_note_47 rfl rfl ?_
              refine C_iald hO _ rfl (hm 8 (by decide)) (st_8 _ _ _ _) hs.1 dX1_note_48 ?_
              replace hs := hs.2
              refine G_iload_n hO 3 dX1_note_49 rfl rfl ?_
              refine G_iadd hO dX1_note_50 ?_
              refine C_iast hO (cw_st _ _ _) _ rfl (hm 8 (by decide)) (st_8 _ _ _) hs.1 dX1_note_51 ?_
              replace hs := hs.2
              exact G_vret hO hF rfl (Nat.zero_le _) (Nat.zero_le _) dX1_note_52 ⟨rfl, rfl, _, rfl, rfl, hs⟩
  unfold wX1_note at hs
  refine G_iconst hO 0 dX1_note_0 (by decide) ?_
  refine G_istore hO [(4, .int 0), (0, .ref (ad n 5)), (1, .int a1), (2, .int a2), (3, .int a3)] dX1_note_1 (by decide) rfl ?_
  obtain ⟨Nf1, hs⟩ := hs
  refine G_lv hO [(0, .ref (ad n 5)), (1, .int a1), (2, .int a2), (3, .int a3), (4, .int 0)] [1, 2, 3, 4, 0] rfl ?_
  exact b3 Nf1 _ _ hs
set_option maxHeartbeats 4000000 in
set_option maxRecDepth 20000 in
theorem c_X1_sumBetween {l : Launch} {Λ : Lay} {B : Zn} {ids : List (Nat × Nat)} {ad : Nat → Nat → Nat} {w : Nat → Nat → va_E} {n : Nat} (hm : ∀ j, j < 15 → (n, j) ∈ ids) {a1 : Int32} {a2 : Int32} {c : Reg} {P : Int32 → Reg → Prop} (hs : wX1_sumBetween a1 a2 c P) : CT l yX1_sumBetween cX1_sumBetween 4 (some .int) { frames := 0, cells := 0, slots := 0, locals := 0 } Λ B ids ad (va_up w n (stSh Λ ad n c)) [.ref (ad n 5), .int a1, .int a2] (Ri ids ad w n (stSh Λ ad n) P) := by
  refine CT.of RX1 [(0, .ref (ad n 5)), (1, .int a1), (2, .int a2)] (plainFor_of_name (by decide +kernel)) rfl (Nat.le_of_ble_eq_true rfl) rfl (fun Γ hO hF => ?_)
  have b2 : ∀ (N2 : Nat) (v3 : Int32) (c : Reg), wX1_sumBetween_L2 a1 a2 P N2 v3 c → G Γ ids ad 0 0 (va_up w n (stSh Λ ad n c)) 2 [(0, .ref (ad n 5)), (1, .int a1), (2, .int a2), (3, .int v3)] [] := by
    intro N2
    induction N2 with
    | zero => intro v3 c hs; exact False.elim hs
    | succ N2 ih2 =>
      intro v3 c hs
      unfold wX1_sumBetween_L2 at hs
      refine G_iload_n hO 3 dX1_sumBetween_2 rfl rfl ?_
      refine G_aload_n hO 0 dX1_sumBetween_3 rfl rfl ?_
      refine C_getf hO (v := .int (c 5 3)) cl1 3 (hm 5 (by decide)) (st_5 _ _ _ _) (by decide) mw_43 rfl rfl dX1_sumBetween_4 ?_
      refine G_icmp_ge hO 49 dX1_sumBetween_7 (by decide) (fun h5 => ?_) (fun h5 => ?_)
      · replace hs := hs.1 h5
        refine G_iconst hO 0 dX1_sumBetween_49 (by decide) ?_
        exact G_iret hO hF rfl (Nat.zero_le _) (Nat.zero_le _) dX1_sumBetween_50 ⟨rfl, rfl, _, _, rfl, rfl, hs⟩
      · replace hs := hs.2 h5
        refine G_iload_n hO 3 dX1_sumBetween_10 rfl rfl ?_
        refine G_bipush hO 26 dX1_sumBetween_11 (by decide) ?_
        refine G_icmp_ge hO 49 dX1_sumBetween_13 (by decide) (fun h4 => ?_) (fun h4 => ?_)
        · replace hs := hs.1 h4
          refine G_iconst hO 0 dX1_sumBetween_49 (by decide) ?_
          exact G_iret hO hF rfl (Nat.zero_le _) (Nat.zero_le _) dX1_sumBetween_50 ⟨rfl, rfl, _, _, rfl, rfl, hs⟩
        · replace hs := hs.2 h4
          refine G_aload_n hO 0 dX1_sumBetween_16 rfl rfl ?_
          refine C_getf hO (v := .ref (ad n 6)) cl1 0 (hm 5 (by decide)) (st_5 _ _ _ _) (by decide) mw_37 rfl rfl dX1_sumBetween_17 ?_
          refine G_iload_n hO 3 dX1_sumBetween_20 rfl rfl ?_
          refine C_iald hO _ rfl (hm 6 (by decide)) (st_6 _ _ _ _) hs.1 dX1_sumBetween_21 ?_
          replace hs := hs.2
          refine G_iload_n hO 1 dX1_sumBetween_22 rfl rfl ?_
          refine G_icmp_ne hO 43 dX1_sumBetween_23 (by decide) (fun h3 => ?_) (fun h3 => ?_)
          · replace hs := hs.1 h3
            refine G_iinc hO 3 (v3 + 1) [(3, .int (v3 + 1)), (0, .ref (ad n 5)), (1, .int a1), (2, .int a2)] dX1_sumBetween_43 rfl rfl (by decide) rfl ?_
            refine G_goto hO 2 dX1_sumBetween_46 (by decide) ?_
            refine G_lv hO [(0, .ref (ad n 5)), (1, .int a1), (2, .int a2), (3, .int (v3 + 1))] [1, 2, 3, 0] rfl ?_
            exact ih2 _ _ hs
          · replace hs := hs.2 h3
            refine G_aload_n hO 0 dX1_sumBetween_26 rfl rfl ?_
            refine C_getf hO (v := .ref (ad n 7)) cl1 1 (hm 5 (by decide)) (st_5 _ _ _ _) (by decide) mw_39 rfl rfl dX1_sumBetween_27 ?_
            refine G_iload_n hO 3 dX1_sumBetween_30 rfl rfl ?_
            refine C_iald hO _ rfl (hm 7 (by decide)) (st_7 _ _ _ _) hs.1 dX1_sumBetween_31 ?_
            replace hs := hs.2
            refine G_iload_n hO 2 dX1_sumBetween_32 rfl rfl ?_
            refine G_icmp_ne hO 43 dX1_sumBetween_33 (by decide) (fun h2 => ?_) (fun h2 => ?_)
            · replace hs := hs.1 h2
              refine G_iinc hO 3 (v3 + 1) [(3, .int (v3 + 1)), (0, .ref (ad n 5)), (1, .int a1), (2, .int a2)] dX1_sumBetween_43 rfl rfl (by decide) rfl ?_
              refine G_goto hO 2 dX1_sumBetween_46 (by decide) ?_
              refine G_lv hO [(0, .ref (ad n 5)), (1, .int a1), (2, .int a2), (3, .int (v3 + 1))] [1, 2, 3, 0] rfl ?_
              exact ih2 _ _ hs
            · replace hs := hs.2 h2
              refine G_aload_n hO 0 dX1_sumBetween_36 rfl rfl ?_
              refine C_getf hO (v := .ref (ad n 8)) cl1 2 (hm 5 (by decide)) (st_5 _ _ _ _) (by decide) mw_41 rfl rfl dX1_sumBetween_37 ?_
              refine G_iload_n hO 3 dX1_sumBetween_40 rfl rfl ?_
              refine C_iald hO _ rfl (hm 8 (by decide)) (st_8 _ _ _ _) hs.1 dX1_sumBetween_41 ?_
              replace hs := hs.2
              exact G_iret hO hF rfl (Nat.zero_le _) (Nat.zero_le _) dX1_sumBetween_42 ⟨rfl, rfl, _, _, rfl, rfl, hs⟩
  unfold wX1_sumBetween at hs
  refine G_iconst hO 0 dX1_sumBetween_0 (by decide) ?_
  refine G_istore_n hO [(3, .int 0), (0, .ref (ad n 5)), (1, .int a1), (2, .int a2)] dX1_sumBetween_1 rfl (by decide) rfl ?_
  obtain ⟨Nf1, hs⟩ := hs
  refine G_lv hO [(0, .ref (ad n 5)), (1, .int a1), (2, .int a2), (3, .int 0)] [1, 2, 3, 0] rfl ?_
  exact b2 Nf1 _ _ hs
set_option maxHeartbeats 4000000 in
set_option maxRecDepth 20000 in
theorem c_X2_begin {l : Launch} {Λ : Lay} {B : Zn} {ids : List (Nat × Nat)} {ad : Nat → Nat → Nat} {w : Nat → Nat → va_E} {n : Nat} (hm : ∀ j, j < 15 → (n, j) ∈ ids) {r : Nat} (hr : r < 6) {a1 : Int32} {a2 : Int32} {a3 : Int32} {c : Reg} {P : Reg → Prop} (hs : wX2_begin r a1 a2 a3 c P) : CT l yX2_begin cX2_begin 4 none { frames := 0, cells := 0, slots := 0, locals := 0 } Λ B ids ad (va_up w n (stSh Λ ad n c)) [.ref (ad n (r + 9)), .int a1, .int a2, .int a3] (Rv ids ad w n (stSh Λ ad n) P) := by
  refine CT.of RX2 [(0, .ref (ad n (r + 9))), (1, .int a1), (2, .int a2), (3, .int a3)] (plainFor_of_name (by decide +kernel)) rfl (Nat.le_of_ble_eq_true rfl) rfl (fun Γ hO hF => ?_)
  unfold wX2_begin at hs
  refine G_aload_n hO 0 dX2_begin_0 rfl rfl ?_
  refine G_iload_n hO 1 dX2_begin_1 rfl rfl ?_
  refine C_putf hO (cw_st _ _ _) cl2 0 (hm _ (l15_9 hr)) (st_r _ _ _ _ _) (by decide) mw_62 rfl rfl rfl rfl (Nat.le_of_ble_eq_true rfl) (rmP (by decide)) dX2_begin_2 ?_
  refine G_aload_n hO 0 dX2_begin_5 rfl rfl ?_
  refine G_iload_n hO 2 dX2_begin_6 rfl rfl ?_
  refine C_putf hO (cw_st _ _ _) cl2 1 (hm _ (l15_9 hr)) (st_r _ _ _ _ _) (by decide) mw_65 rfl rfl rfl rfl (Nat.le_of_ble_eq_true rfl) (rmP (by decide)) dX2_begin_7 ?_
  refine G_aload_n hO 0 dX2_begin_10 rfl rfl ?_
  refine G_iload_n hO 3 dX2_begin_11 rfl rfl ?_
  refine C_putf hO (cw_st _ _ _) cl2 2 (hm _ (l15_9 hr)) (st_r _ _ _ _ _) (by decide) mw_68 rfl rfl rfl rfl (Nat.le_of_ble_eq_true rfl) (rmP (by decide)) dX2_begin_12 ?_
  refine G_aload_n hO 0 dX2_begin_15 rfl rfl ?_
  refine G_iconst hO 0 dX2_begin_16 (by decide) ?_
  refine C_putf hO (cw_st _ _ _) cl2 3 (hm _ (l15_9 hr)) (st_r _ _ _ _ _) (by decide) mw_71 rfl rfl rfl rfl (Nat.le_of_ble_eq_true rfl) (rmP (by decide)) dX2_begin_17 ?_
  refine G_aload_n hO 0 dX2_begin_20 rfl rfl ?_
  refine G_iconst hO 0 dX2_begin_21 (by decide) ?_
  refine C_putf hO (cw_st _ _ _) cl2 4 (hm _ (l15_9 hr)) (st_r _ _ _ _ _) (by decide) mw_74 rfl rfl rfl rfl (Nat.le_of_ble_eq_true rfl) (rmP (by decide)) dX2_begin_22 ?_
  refine G_aload_n hO 0 dX2_begin_25 rfl rfl ?_
  refine G_iconst hO 0 dX2_begin_26 (by decide) ?_
  refine C_putf hO (cw_st _ _ _) cl2 5 (hm _ (l15_9 hr)) (st_r _ _ _ _ _) (by decide) mw_77 rfl rfl rfl rfl (Nat.le_of_ble_eq_true rfl) (rmP (by decide)) dX2_begin_27 ?_
  refine G_aload_n hO 0 dX2_begin_30 rfl rfl ?_
  refine G_iconst hO 0 dX2_begin_31 (by decide) ?_
  refine C_putf hO (cw_st _ _ _) cl2 6 (hm _ (l15_9 hr)) (st_r _ _ _ _ _) (by decide) mw_79 rfl rfl rfl rfl (Nat.le_of_ble_eq_true rfl) (rmP (by decide)) dX2_begin_32 ?_
  exact G_vret hO hF rfl (Nat.zero_le _) (Nat.zero_le _) dX2_begin_35 ⟨rfl, rfl, _, rfl, rfl, hs⟩
set_option maxHeartbeats 4000000 in
set_option maxRecDepth 20000 in
theorem c_X2_change {l : Launch} {Λ : Lay} {B : Zn} {ids : List (Nat × Nat)} {ad : Nat → Nat → Nat} {w : Nat → Nat → va_E} {n : Nat} (hm : ∀ j, j < 15 → (n, j) ∈ ids) {r : Nat} (hr : r < 6) {a1 : Int32} {a2 : Int32} {c : Reg} {P : Int32 → Reg → Prop} (hs : wX2_change r a1 a2 c P) : CT l yX2_change cX2_change 4 (some .int) { frames := 0, cells := 0, slots := 0, locals := 0 } Λ B ids ad (va_up w n (stSh Λ ad n c)) [.ref (ad n (r + 9)), .int a1, .int a2] (Ri ids ad w n (stSh Λ ad n) P) := by
  refine CT.of RX2 [(0, .ref (ad n (r + 9))), (1, .int a1), (2, .int a2)] (plainFor_of_name (by decide +kernel)) rfl (Nat.le_of_ble_eq_true rfl) rfl (fun Γ hO hF => ?_)
  unfold wX2_change at hs
  refine G_iload_n hO 1 dX2_change_0 rfl rfl ?_
  refine G_if_ne hO 17 dX2_change_1 (by decide) (fun h2 => ?_) (fun h2 => ?_)
  · replace hs := hs.1 h2
    refine G_iload_n hO 1 dX2_change_17 rfl rfl ?_
    refine G_iconst hO 1 dX2_change_18 (by decide) ?_
    refine G_icmp_ne hO 35 dX2_change_19 (by decide) (fun h1 => ?_) (fun h1 => ?_)
    · replace hs := hs.1 h1
      refine G_aload_n hO 0 dX2_change_35 rfl rfl ?_
      refine C_getf hO (v := .int (c (r + 9) 2)) cl2 2 (hm _ (l15_9 hr)) (st_r _ _ _ _ _) (by decide) mw_68 rfl rfl dX2_change_36 ?_
      refine G_istore_n hO [(3, .int (c (r + 9) 2)), (0, .ref (ad n (r + 9))), (1, .int a1), (2, .int a2)] dX2_change_39 rfl (by decide) rfl ?_
      refine G_aload_n hO 1 dX2_change_40 rfl rfl ?_
      refine G_iload_n hO 3 dX2_change_41 rfl rfl ?_
      refine C_putf hO (cw_st _ _ _) cl2 2 (hm _ (l15_9 hr)) (st_r _ _ _ _ _) (by decide) mw_68 rfl rfl rfl rfl (Nat.le_of_ble_eq_true rfl) (rmP (by decide)) dX2_change_42 ?_
      refine G_iload_n hO 0 dX2_change_45 rfl rfl ?_
      exact G_iret hO hF rfl (Nat.zero_le _) (Nat.zero_le _) dX2_change_46 ⟨rfl, rfl, _, _, rfl, rfl, hs⟩
    · replace hs := hs.2 h1
      refine G_aload_n hO 0 dX2_change_22 rfl rfl ?_
      refine C_getf hO (v := .int (c (r + 9) 1)) cl2 1 (hm _ (l15_9 hr)) (st_r _ _ _ _ _) (by decide) mw_65 rfl rfl dX2_change_23 ?_
      refine G_istore_n hO [(3, .int (c (r + 9) 1)), (0, .ref (ad n (r + 9))), (1, .int a1), (2, .int a2)] dX2_change_26 rfl (by decide) rfl ?_
      refine G_aload_n hO 1 dX2_change_27 rfl rfl ?_
      refine G_iload_n hO 3 dX2_change_28 rfl rfl ?_
      refine C_putf hO (cw_st _ _ _) cl2 1 (hm _ (l15_9 hr)) (st_r _ _ _ _ _) (by decide) mw_65 rfl rfl rfl rfl (Nat.le_of_ble_eq_true rfl) (rmP (by decide)) dX2_change_29 ?_
      refine G_goto hO 45 dX2_change_32 (by decide) ?_
      refine G_iload_n hO 0 dX2_change_45 rfl rfl ?_
      exact G_iret hO hF rfl (Nat.zero_le _) (Nat.zero_le _) dX2_change_46 ⟨rfl, rfl, _, _, rfl, rfl, hs⟩
  · replace hs := hs.2 h2
    refine G_aload_n hO 0 dX2_change_4 rfl rfl ?_
    refine C_getf hO (v := .int (c (r + 9) 0)) cl2 0 (hm _ (l15_9 hr)) (st_r _ _ _ _ _) (by decide) mw_62 rfl rfl dX2_change_5 ?_
    refine G_istore_n hO [(3, .int (c (r + 9) 0)), (0, .ref (ad n (r + 9))), (1, .int a1), (2, .int a2)] dX2_change_8 rfl (by decide) rfl ?_
    refine G_aload_n hO 1 dX2_change_9 rfl rfl ?_
    refine G_iload_n hO 3 dX2_change_10 rfl rfl ?_
    refine C_putf hO (cw_st _ _ _) cl2 0 (hm _ (l15_9 hr)) (st_r _ _ _ _ _) (by decide) mw_62 rfl rfl rfl rfl (Nat.le_of_ble_eq_true rfl) (rmP (by decide)) dX2_change_11 ?_
    refine G_goto hO 45 dX2_change_14 (by decide) ?_
    refine G_iload_n hO 0 dX2_change_45 rfl rfl ?_
    exact G_iret hO hF rfl (Nat.zero_le _) (Nat.zero_le _) dX2_change_46 ⟨rfl, rfl, _, _, rfl, rfl, hs⟩
set_option maxHeartbeats 4000000 in
set_option maxRecDepth 20000 in
theorem c_X2_judge {l : Launch} {Λ : Lay} {B : Zn} {ids : List (Nat × Nat)} {ad : Nat → Nat → Nat} {w : Nat → Nat → va_E} {n : Nat} (hm : ∀ j, j < 15 → (n, j) ∈ ids) {r : Nat} (hr : r < 6) {a1 : Int32} {c : Reg} {P : Reg → Prop} (hs : wX2_judge r a1 c P) : CT l yX2_judge cX2_judge 2 none { frames := 0, cells := 0, slots := 0, locals := 0 } Λ B ids ad (va_up w n (stSh Λ ad n c)) [.ref (ad n (r + 9)), .int a1] (Rv ids ad w n (stSh Λ ad n) P) := by
  refine CT.of RX2 [(0, .ref (ad n (r + 9))), (1, .int a1)] (plainFor_of_name (by decide +kernel)) rfl (Nat.le_of_ble_eq_true rfl) rfl (fun Γ hO hF => ?_)
  unfold wX2_judge at hs
  refine G_iload_n hO 1 dX2_judge_0 rfl rfl ?_
  refine G_aload_n hO 0 dX2_judge_1 rfl rfl ?_
  refine C_getf hO (v := .int (c (r + 9) 0)) cl2 0 (hm _ (l15_9 hr)) (st_r _ _ _ _ _) (by decide) mw_62 rfl rfl dX2_judge_2 ?_
  refine G_iconst hO 1 dX2_judge_5 (by decide) ?_
  refine G_isub hO dX2_judge_6 ?_
  refine G_icmp_ge hO 23 dX2_judge_7 (by decide) (fun h2 => ?_) (fun h2 => ?_)
  · replace hs := hs.1 h2
    refine G_iload_n hO 1 dX2_judge_23 rfl rfl ?_
    refine G_aload_n hO 0 dX2_judge_24 rfl rfl ?_
    refine C_getf hO (v := .int (c (r + 9) 0)) cl2 0 (hm _ (l15_9 hr)) (st_r _ _ _ _ _) (by decide) mw_62 rfl rfl dX2_judge_25 ?_
    refine G_iconst hO 2 dX2_judge_28 (by decide) ?_
    refine G_iadd hO dX2_judge_29 ?_
    refine G_icmp_le hO 46 dX2_judge_30 (by decide) (fun h1 => ?_) (fun h1 => ?_)
    · replace hs := hs.1 h1
      refine G_aload_n hO 0 dX2_judge_46 rfl rfl ?_
      refine G_dup hO dX2_judge_47 rfl ?_
      refine C_getf hO (v := .int (c (r + 9) 4)) cl2 4 (hm _ (l15_9 hr)) (st_r _ _ _ _ _) (by decide) mw_74 rfl rfl dX2_judge_48 ?_
      refine G_iconst hO 1 dX2_judge_51 (by decide) ?_
      refine G_iadd hO dX2_judge_52 ?_
      refine C_putf hO (cw_st _ _ _) cl2 4 (hm _ (l15_9 hr)) (st_r _ _ _ _ _) (by decide) mw_74 rfl rfl rfl rfl (Nat.le_of_ble_eq_true rfl) (rmP (by decide)) dX2_judge_53 ?_
      exact G_vret hO hF rfl (Nat.zero_le _) (Nat.zero_le _) dX2_judge_56 ⟨rfl, rfl, _, rfl, rfl, hs⟩
    · replace hs := hs.2 h1
      refine G_aload_n hO 0 dX2_judge_33 rfl rfl ?_
      refine G_dup hO dX2_judge_34 rfl ?_
      refine C_getf hO (v := .int (c (r + 9) 6)) cl2 6 (hm _ (l15_9 hr)) (st_r _ _ _ _ _) (by decide) mw_79 rfl rfl dX2_judge_35 ?_
      refine G_iconst hO 1 dX2_judge_38 (by decide) ?_
      refine G_iadd hO dX2_judge_39 ?_
      refine C_putf hO (cw_st _ _ _) cl2 6 (hm _ (l15_9 hr)) (st_r _ _ _ _ _) (by decide) mw_79 rfl rfl rfl rfl (Nat.le_of_ble_eq_true rfl) (rmP (by decide)) dX2_judge_40 ?_
      refine G_goto hO 56 dX2_judge_43 (by decide) ?_
      exact G_vret hO hF rfl (Nat.zero_le _) (Nat.zero_le _) dX2_judge_56 ⟨rfl, rfl, _, rfl, rfl, hs⟩
  · replace hs := hs.2 h2
    refine G_aload_n hO 0 dX2_judge_10 rfl rfl ?_
    refine G_dup hO dX2_judge_11 rfl ?_
    refine C_getf hO (v := .int (c (r + 9) 5)) cl2 5 (hm _ (l15_9 hr)) (st_r _ _ _ _ _) (by decide) mw_77 rfl rfl dX2_judge_12 ?_
    refine G_iconst hO 1 dX2_judge_15 (by decide) ?_
    refine G_iadd hO dX2_judge_16 ?_
    refine C_putf hO (cw_st _ _ _) cl2 5 (hm _ (l15_9 hr)) (st_r _ _ _ _ _) (by decide) mw_77 rfl rfl rfl rfl (Nat.le_of_ble_eq_true rfl) (rmP (by decide)) dX2_judge_17 ?_
    refine G_goto hO 56 dX2_judge_20 (by decide) ?_
    exact G_vret hO hF rfl (Nat.zero_le _) (Nat.zero_le _) dX2_judge_56 ⟨rfl, rfl, _, rfl, rfl, hs⟩
set_option maxHeartbeats 4000000 in
set_option maxRecDepth 20000 in
theorem c_X3_beginAnew {l : Launch} {Λ : Lay} {B : Zn} {ids : List (Nat × Nat)} {ad : Nat → Nat → Nat} {w : Nat → Nat → va_E} {n : Nat} (hm : ∀ j, j < 15 → (n, j) ∈ ids) {c : Reg} {P : Reg → Prop} (hs : wX3_beginAnew c P) : CT l yX3_beginAnew cX3_beginAnew 1 none { frames := 1, cells := 0, slots := 0, locals := 48 } Λ B ids ad (va_up w n (stSh Λ ad n c)) [.ref (ad n 0)] (Rv ids ad w n (stSh Λ ad n) P) := by
  refine CT.of RX3 [(0, .ref (ad n 0))] (plainFor_of_name (by decide +kernel)) rfl (Nat.le_of_ble_eq_true rfl) rfl (fun Γ hO hF => ?_)
  unfold wX3_beginAnew at hs
  refine G_aload_n hO 0 dX3_beginAnew_0 rfl rfl ?_
  refine G_iconst hO 0 dX3_beginAnew_1 (by decide) ?_
  refine C_putf hO (cw_st _ _ _) cl3 0 (hm 0 (by decide)) (st_0 _ _ _ _) (by decide) mw_105 rfl rfl rfl rfl (Nat.le_of_ble_eq_true rfl) (stP (by decide)) dX3_beginAnew_2 ?_
  refine G_aload_n hO 0 dX3_beginAnew_5 rfl rfl ?_
  refine G_iconst hO 5 dX3_beginAnew_6 (by decide) ?_
  refine C_putf hO (cw_st _ _ _) cl3 1 (hm 0 (by decide)) (st_0 _ _ _ _) (by decide) mw_107 rfl rfl rfl rfl (Nat.le_of_ble_eq_true rfl) (stP (by decide)) dX3_beginAnew_7 ?_
  refine G_aload_n hO 0 dX3_beginAnew_10 rfl rfl ?_
  refine G_iconst hO 0 dX3_beginAnew_11 (by decide) ?_
  refine C_putf hO (cw_st _ _ _) cl3 2 (hm 0 (by decide)) (st_0 _ _ _ _) (by decide) mw_110 rfl rfl rfl rfl (Nat.le_of_ble_eq_true rfl) (stP (by decide)) dX3_beginAnew_12 ?_
  refine G_aload_n hO 0 dX3_beginAnew_15 rfl rfl ?_
  refine G_iconst hO 0 dX3_beginAnew_16 (by decide) ?_
  refine C_putf hO (cw_st _ _ _) cl3 3 (hm 0 (by decide)) (st_0 _ _ _ _) (by decide) mw_112 rfl rfl rfl rfl (Nat.le_of_ble_eq_true rfl) (stP (by decide)) dX3_beginAnew_17 ?_
  refine G_aload_n hO 0 dX3_beginAnew_20 rfl rfl ?_
  refine G_iconst hO 0 dX3_beginAnew_21 (by decide) ?_
  refine C_putf hO (cw_st _ _ _) cl3 4 (hm 0 (by decide)) (st_0 _ _ _ _) (by decide) mw_114 rfl rfl rfl rfl (Nat.le_of_ble_eq_true rfl) (stP (by decide)) dX3_beginAnew_22 ?_
  refine G_aload_n hO 0 dX3_beginAnew_25 rfl rfl ?_
  refine G_iconst hO 0 dX3_beginAnew_26 (by decide) ?_
  refine C_putf hO (cw_st _ _ _) cl3 5 (hm 0 (by decide)) (st_0 _ _ _ _) (by decide) mw_116 rfl rfl rfl rfl (Nat.le_of_ble_eq_true rfl) (stP (by decide)) dX3_beginAnew_27 ?_
  refine G_aload_n hO 0 dX3_beginAnew_30 rfl rfl ?_
  refine G_iconst hO 0 dX3_beginAnew_31 (by decide) ?_
  refine C_putf hO (cw_st _ _ _) cl3 6 (hm 0 (by decide)) (st_0 _ _ _ _) (by decide) mw_118 rfl rfl rfl rfl (Nat.le_of_ble_eq_true rfl) (stP (by decide)) dX3_beginAnew_32 ?_
  refine G_aload_n hO 0 dX3_beginAnew_35 rfl rfl ?_
  refine G_iconst hO 0 dX3_beginAnew_36 (by decide) ?_
  refine C_putf hO (cw_st _ _ _) cl3 7 (hm 0 (by decide)) (st_0 _ _ _ _) (by decide) mw_120 rfl rfl rfl rfl (Nat.le_of_ble_eq_true rfl) (stP (by decide)) dX3_beginAnew_37 ?_
  refine G_aload_n hO 0 dX3_beginAnew_40 rfl rfl ?_
  refine G_iconst hO 0 dX3_beginAnew_41 (by decide) ?_
  refine C_putf hO (cw_st _ _ _) cl3 8 (hm 0 (by decide)) (st_0 _ _ _ _) (by decide) mw_122 rfl rfl rfl rfl (Nat.le_of_ble_eq_true rfl) (stP (by decide)) dX3_beginAnew_42 ?_
  refine G_aload_n hO 0 dX3_beginAnew_45 rfl rfl ?_
  refine C_getf hO (v := .ref (ad n 5)) cl3 13 (hm 0 (by decide)) (st_0 _ _ _ _) (by decide) mw_129 rfl rfl dX3_beginAnew_46 ?_
  refine G_iconst hO 0 dX3_beginAnew_49 (by decide) ?_
  refine C_putf hO (cw_st _ _ _) cl1 3 (hm 5 (by decide)) (st_5 _ _ _ _) (by decide) mw_44 rfl rfl rfl rfl (Nat.le_of_ble_eq_true rfl) leP dX3_beginAnew_50 ?_
  refine G_getsN hO dX3_beginAnew_53 ?_
  refine G_iconst hO 0 dX3_beginAnew_56 (by decide) ?_
  refine G_aload_n hO 0 dX3_beginAnew_57 rfl rfl ?_
  refine C_getf hO (v := .ref (ad n 1)) cl3 9 (hm 0 (by decide)) (st_0 _ _ _ _) (by decide) mw_124 rfl rfl dX3_beginAnew_58 ?_
  refine G_iconst hO 0 dX3_beginAnew_61 (by decide) ?_
  refine G_bipush hO 9 dX3_beginAnew_62 (by decide) ?_
  refine C_scopy hO mw_102 mw_104 mw_103 mw_5 (cw_st Λ ad n) 0 0 9 (by decide) (by decide) (by decide) (hm 1 (by decide)) (st_1 _ _ _) (by decide) (by decide) (by decide) (by decide) (by decide) (by decide) (Nat.le_of_ble_eq_true rfl) dX3_beginAnew_64 ?_
  refine G_aload_n hO 0 dX3_beginAnew_67 rfl rfl ?_
  refine C_getf hO (v := .ref (ad n 3)) cl3 11 (hm 0 (by decide)) (st_0 _ _ _ _) (by decide) mw_126 rfl rfl dX3_beginAnew_68 ?_
  refine G_iconst hO 0 dX3_beginAnew_71 (by decide) ?_
  refine G_bipush hO 40 dX3_beginAnew_72 (by decide) ?_
  refine C_iast hO (cw_st _ _ _) 0 (by decide) (hm 3 (by decide)) (st_3 _ _ _) (vp_lit (by decide)) dX3_beginAnew_74 ?_
  refine G_aload_n hO 0 dX3_beginAnew_75 rfl rfl ?_
  refine C_getf hO (v := .ref (ad n 2)) cl3 10 (hm 0 (by decide)) (st_0 _ _ _ _) (by decide) mw_125 rfl rfl dX3_beginAnew_76 ?_
  refine G_iconst hO 0 dX3_beginAnew_79 (by decide) ?_
  refine G_sipush hO 800 dX3_beginAnew_80 (by decide) ?_
  refine C_iast hO (cw_st _ _ _) 0 (by decide) (hm 2 (by decide)) (st_2 _ _ _) (vp_lit (by decide)) dX3_beginAnew_83 ?_
  refine G_aload_n hO 0 dX3_beginAnew_84 rfl rfl ?_
  refine C_getf hO (v := .ref (ad n 3)) cl3 11 (hm 0 (by decide)) (st_0 _ _ _ _) (by decide) mw_126 rfl rfl dX3_beginAnew_85 ?_
  refine G_iconst hO 1 dX3_beginAnew_88 (by decide) ?_
  refine G_bipush hO 60 dX3_beginAnew_89 (by decide) ?_
  refine C_iast hO (cw_st _ _ _) 1 (by decide) (hm 3 (by decide)) (st_3 _ _ _) (vp_lit (by decide)) dX3_beginAnew_91 ?_
  refine G_aload_n hO 0 dX3_beginAnew_92 rfl rfl ?_
  refine C_getf hO (v := .ref (ad n 2)) cl3 10 (hm 0 (by decide)) (st_0 _ _ _ _) (by decide) mw_125 rfl rfl dX3_beginAnew_93 ?_
  refine G_iconst hO 1 dX3_beginAnew_96 (by decide) ?_
  refine G_sipush hO 1200 dX3_beginAnew_97 (by decide) ?_
  refine C_iast hO (cw_st _ _ _) 1 (by decide) (hm 2 (by decide)) (st_2 _ _ _) (vp_lit (by decide)) dX3_beginAnew_100 ?_
  exact G_vret hO hF rfl (Nat.zero_le _) (Nat.zero_le _) dX3_beginAnew_101 ⟨rfl, rfl, _, rfl, rfl, hs⟩
set_option maxHeartbeats 4000000 in
set_option maxRecDepth 20000 in
theorem c_X3_hasRoom {l : Launch} {Λ : Lay} {B : Zn} {ids : List (Nat × Nat)} {ad : Nat → Nat → Nat} {w : Nat → Nat → va_E} {n : Nat} (hm : ∀ j, j < 15 → (n, j) ∈ ids) {a1 : Int32} {c : Reg} {P : Int32 → Reg → Prop} (hs : wX3_hasRoom a1 c P) : CT l yX3_hasRoom cX3_hasRoom 2 (some .boolean) { frames := 0, cells := 0, slots := 0, locals := 0 } Λ B ids ad (va_up w n (stSh Λ ad n c)) [.ref (ad n 0), .int a1] (Ri ids ad w n (stSh Λ ad n) P) := by
  refine CT.of RX3 [(0, .ref (ad n 0)), (1, .int a1)] (plainFor_of_name (by decide +kernel)) rfl (Nat.le_of_ble_eq_true rfl) rfl (fun Γ hO hF => ?_)
  unfold wX3_hasRoom at hs
  refine G_iload_n hO 1 dX3_hasRoom_0 rfl rfl ?_
  refine G_if_lt hO 22 dX3_hasRoom_1 (by decide) (fun h3 => ?_) (fun h3 => ?_)
  · replace hs := hs.1 h3
    refine G_iconst hO 0 dX3_hasRoom_22 (by decide) ?_
    exact G_zret hO hF rfl (Nat.zero_le _) (Nat.zero_le _) rfl dX3_hasRoom_23 ⟨rfl, rfl, _, _, rfl, rfl, hs⟩
  · replace hs := hs.2 h3
    refine G_iload_n hO 1 dX3_hasRoom_4 rfl rfl ?_
    refine G_aload_n hO 0 dX3_hasRoom_5 rfl rfl ?_
    refine C_getf hO (v := .int (c 0 8)) cl3 8 (hm 0 (by decide)) (st_0 _ _ _ _) (by decide) mw_122 rfl rfl dX3_hasRoom_6 ?_
    refine G_icmp_ge hO 22 dX3_hasRoom_9 (by decide) (fun h2 => ?_) (fun h2 => ?_)
    · replace hs := hs.1 h2
      refine G_iconst hO 0 dX3_hasRoom_22 (by decide) ?_
      exact G_zret hO hF rfl (Nat.zero_le _) (Nat.zero_le _) rfl dX3_hasRoom_23 ⟨rfl, rfl, _, _, rfl, rfl, hs⟩
    · replace hs := hs.2 h2
      refine G_iload_n hO 1 dX3_hasRoom_12 rfl rfl ?_
      refine G_bipush hO 6 dX3_hasRoom_13 (by decide) ?_
      refine G_icmp_ge hO 22 dX3_hasRoom_15 (by decide) (fun h1 => ?_) (fun h1 => ?_)
      · replace hs := hs.1 h1
        refine G_iconst hO 0 dX3_hasRoom_22 (by decide) ?_
        exact G_zret hO hF rfl (Nat.zero_le _) (Nat.zero_le _) rfl dX3_hasRoom_23 ⟨rfl, rfl, _, _, rfl, rfl, hs⟩
      · replace hs := hs.2 h1
        refine G_iconst hO 1 dX3_hasRoom_18 (by decide) ?_
        refine G_goto hO 23 dX3_hasRoom_19 (by decide) ?_
        exact G_zret hO hF rfl (Nat.zero_le _) (Nat.zero_le _) rfl dX3_hasRoom_23 ⟨rfl, rfl, _, _, rfl, rfl, hs⟩
set_option maxHeartbeats 4000000 in
set_option maxRecDepth 20000 in
theorem c_X3_hasPlace {l : Launch} {Λ : Lay} {B : Zn} {ids : List (Nat × Nat)} {ad : Nat → Nat → Nat} {w : Nat → Nat → va_E} {n : Nat} (hm : ∀ j, j < 15 → (n, j) ∈ ids) {a1 : Int32} {c : Reg} {P : Int32 → Reg → Prop} (hs : wX3_hasPlace a1 c P) : CT l yX3_hasPlace cX3_hasPlace 2 (some .boolean) { frames := 1, cells := 0, slots := 0, locals := 21 } Λ B ids ad (va_up w n (stSh Λ ad n c)) [.ref (ad n 0), .int a1] (Ri ids ad w n (stSh Λ ad n) P) := by
  refine CT.of RX3 [(0, .ref (ad n 0)), (1, .int a1)] (plainFor_of_name (by decide +kernel)) rfl (Nat.le_of_ble_eq_true rfl) rfl (fun Γ hO hF => ?_)
  unfold wX3_hasPlace at hs
  refine G_iload_n hO 1 dX3_hasPlace_0 rfl rfl ?_
  refine G_if_eq hO 19 dX3_hasPlace_1 (by decide) (fun h5 => ?_) (fun h5 => ?_)
  · replace hs := hs.1 h5
    refine G_iconst hO 1 dX3_hasPlace_19 (by decide) ?_
    refine G_goto hO 24 dX3_hasPlace_20 (by decide) ?_
    exact G_zret hO hF rfl (Nat.zero_le _) (Nat.zero_le _) rfl dX3_hasPlace_24 ⟨rfl, rfl, _, _, rfl, rfl, hs⟩
  · replace hs := hs.2 h5
    refine G_iload_n hO 1 dX3_hasPlace_4 rfl rfl ?_
    refine G_iconst hO 1 dX3_hasPlace_5 (by decide) ?_
    refine G_icmp_eq hO 19 dX3_hasPlace_6 (by decide) (fun h4 => ?_) (fun h4 => ?_)
    · replace hs := hs.1 h4
      refine G_iconst hO 1 dX3_hasPlace_19 (by decide) ?_
      refine G_goto hO 24 dX3_hasPlace_20 (by decide) ?_
      exact G_zret hO hF rfl (Nat.zero_le _) (Nat.zero_le _) rfl dX3_hasPlace_24 ⟨rfl, rfl, _, _, rfl, rfl, hs⟩
    · replace hs := hs.2 h4
      refine G_aload_n hO 0 dX3_hasPlace_9 rfl rfl ?_
      refine G_iload_n hO 1 dX3_hasPlace_10 rfl rfl ?_
      refine G_iconst hO 2 dX3_hasPlace_11 (by decide) ?_
      refine G_isub hO dX3_hasPlace_12 ?_
      refine KV_Ri hO (rest := []) [.int (a1 - 2)] (fun l => c_X3_hasRoom hm hs) cv_X3_hasRoom mw_494 mw_495 mw_493 (hm 0 (by decide)) cl3 (by rw [va_us]; exact (st_0 _ _ _ _)) rfl rfl (Nat.le_of_ble_eq_true rfl) (by decide) rfl rfl (Nat.zero_le _) (Nat.zero_le _) dX3_hasPlace_13 ?_
      intro r1 c2 hs
      refine G_if_eq hO 23 dX3_hasPlace_16 (by decide) (fun h3 => ?_) (fun h3 => ?_)
      · replace hs := hs.1 h3
        refine G_iconst hO 0 dX3_hasPlace_23 (by decide) ?_
        exact G_zret hO hF rfl (Nat.zero_le _) (Nat.zero_le _) rfl dX3_hasPlace_24 ⟨rfl, rfl, _, _, rfl, rfl, hs⟩
      · replace hs := hs.2 h3
        refine G_iconst hO 1 dX3_hasPlace_19 (by decide) ?_
        refine G_goto hO 24 dX3_hasPlace_20 (by decide) ?_
        exact G_zret hO hF rfl (Nat.zero_le _) (Nat.zero_le _) rfl dX3_hasPlace_24 ⟨rfl, rfl, _, _, rfl, rfl, hs⟩
set_option maxHeartbeats 4000000 in
set_option maxRecDepth 20000 in
theorem c_X3_isFull {l : Launch} {Λ : Lay} {B : Zn} {ids : List (Nat × Nat)} {ad : Nat → Nat → Nat} {w : Nat → Nat → va_E} {n : Nat} (hm : ∀ j, j < 15 → (n, j) ∈ ids) {c : Reg} {P : Int32 → Reg → Prop} (hs : wX3_isFull c P) : CT l yX3_isFull cX3_isFull 1 (some .boolean) { frames := 0, cells := 0, slots := 0, locals := 0 } Λ B ids ad (va_up w n (stSh Λ ad n c)) [.ref (ad n 0)] (Ri ids ad w n (stSh Λ ad n) P) := by
  refine CT.of RX3 [(0, .ref (ad n 0))] (plainFor_of_name (by decide +kernel)) rfl (Nat.le_of_ble_eq_true rfl) rfl (fun Γ hO hF => ?_)
  unfold wX3_isFull at hs
  refine G_aload_n hO 0 dX3_isFull_0 rfl rfl ?_
  refine C_getf hO (v := .int (c 0 8)) cl3 8 (hm 0 (by decide)) (st_0 _ _ _ _) (by decide) mw_122 rfl rfl dX3_isFull_1 ?_
  refine G_bipush hO 6 dX3_isFull_4 (by decide) ?_
  refine G_icmp_lt hO 13 dX3_isFull_6 (by decide) (fun h1 => ?_) (fun h1 => ?_)
  · replace hs := hs.1 h1
    refine G_iconst hO 0 dX3_isFull_13 (by decide) ?_
    exact G_zret hO hF rfl (Nat.zero_le _) (Nat.zero_le _) rfl dX3_isFull_14 ⟨rfl, rfl, _, _, rfl, rfl, hs⟩
  · replace hs := hs.2 h1
    refine G_iconst hO 1 dX3_isFull_9 (by decide) ?_
    refine G_goto hO 14 dX3_isFull_10 (by decide) ?_
    exact G_zret hO hF rfl (Nat.zero_le _) (Nat.zero_le _) rfl dX3_isFull_14 ⟨rfl, rfl, _, _, rfl, rfl, hs⟩
set_option maxHeartbeats 4000000 in
set_option maxRecDepth 20000 in
theorem c_X3_settingOf {l : Launch} {Λ : Lay} {B : Zn} {ids : List (Nat × Nat)} {ad : Nat → Nat → Nat} {w : Nat → Nat → va_E} {n : Nat} (hm : ∀ j, j < 15 → (n, j) ∈ ids) {a1 : Int32} {c : Reg} {P : Int32 → Reg → Prop} (hs : wX3_settingOf a1 c P) : CT l yX3_settingOf cX3_settingOf 2 (some .int) { frames := 0, cells := 0, slots := 0, locals := 0 } Λ B ids ad (va_up w n (stSh Λ ad n c)) [.ref (ad n 0), .int a1] (Ri ids ad w n (stSh Λ ad n) P) := by
  refine CT.of RX3 [(0, .ref (ad n 0)), (1, .int a1)] (plainFor_of_name (by decide +kernel)) rfl (Nat.le_of_ble_eq_true rfl) rfl (fun Γ hO hF => ?_)
  unfold wX3_settingOf at hs
  refine G_iload_n hO 1 dX3_settingOf_0 rfl rfl ?_
  refine G_if_lt hO 19 dX3_settingOf_1 (by decide) (fun h2 => ?_) (fun h2 => ?_)
  · replace hs := hs.1 h2
    refine G_iconst hO 0 dX3_settingOf_19 (by decide) ?_
    exact G_iret hO hF rfl (Nat.zero_le _) (Nat.zero_le _) dX3_settingOf_20 ⟨rfl, rfl, _, _, rfl, rfl, hs⟩
  · replace hs := hs.2 h2
    refine G_iload_n hO 1 dX3_settingOf_4 rfl rfl ?_
    refine G_bipush hO 9 dX3_settingOf_5 (by decide) ?_
    refine G_icmp_ge hO 19 dX3_settingOf_7 (by decide) (fun h1 => ?_) (fun h1 => ?_)
    · replace hs := hs.1 h1
      refine G_iconst hO 0 dX3_settingOf_19 (by decide) ?_
      exact G_iret hO hF rfl (Nat.zero_le _) (Nat.zero_le _) dX3_settingOf_20 ⟨rfl, rfl, _, _, rfl, rfl, hs⟩
    · replace hs := hs.2 h1
      refine G_aload_n hO 0 dX3_settingOf_10 rfl rfl ?_
      refine C_getf hO (v := .ref (ad n 1)) cl3 9 (hm 0 (by decide)) (st_0 _ _ _ _) (by decide) mw_124 rfl rfl dX3_settingOf_11 ?_
      refine G_iload_n hO 1 dX3_settingOf_14 rfl rfl ?_
      refine C_iald hO _ rfl (hm 1 (by decide)) (st_1 _ _ _ _) hs.1 dX3_settingOf_15 ?_
      replace hs := hs.2
      refine G_goto hO 20 dX3_settingOf_16 (by decide) ?_
      exact G_iret hO hF rfl (Nat.zero_le _) (Nat.zero_le _) dX3_settingOf_20 ⟨rfl, rfl, _, _, rfl, rfl, hs⟩
set_option maxHeartbeats 4000000 in
set_option maxRecDepth 20000 in
theorem c_X3_changeSetting {l : Launch} {Λ : Lay} {B : Zn} {ids : List (Nat × Nat)} {ad : Nat → Nat → Nat} {w : Nat → Nat → va_E} {n : Nat} (hm : ∀ j, j < 15 → (n, j) ∈ ids) {a1 : Int32} {a2 : Int32} {c : Reg} {P : Reg → Prop} (hs : wX3_changeSetting a1 a2 c P) : CT l yX3_changeSetting cX3_changeSetting 3 none { frames := 0, cells := 0, slots := 0, locals := 0 } Λ B ids ad (va_up w n (stSh Λ ad n c)) [.ref (ad n 0), .int a1, .int a2] (Rv ids ad w n (stSh Λ ad n) P) := by
  refine CT.of RX3 [(0, .ref (ad n 0)), (1, .int a1), (2, .int a2)] (plainFor_of_name (by decide +kernel)) rfl (Nat.le_of_ble_eq_true rfl) rfl (fun Γ hO hF => ?_)
  unfold wX3_changeSetting at hs
  refine G_iload_n hO 1 dX3_changeSetting_0 rfl rfl ?_
  refine G_if_lt hO 17 dX3_changeSetting_1 (by decide) (fun h2 => ?_) (fun h2 => ?_)
  · replace hs := hs.1 h2
    exact G_vret hO hF rfl (Nat.zero_le _) (Nat.zero_le _) dX3_changeSetting_17 ⟨rfl, rfl, _, rfl, rfl, hs⟩
  · replace hs := hs.2 h2
    refine G_iload_n hO 1 dX3_changeSetting_4 rfl rfl ?_
    refine G_bipush hO 9 dX3_changeSetting_5 (by decide) ?_
    refine G_icmp_ge hO 17 dX3_changeSetting_7 (by decide) (fun h1 => ?_) (fun h1 => ?_)
    · replace hs := hs.1 h1
      exact G_vret hO hF rfl (Nat.zero_le _) (Nat.zero_le _) dX3_changeSetting_17 ⟨rfl, rfl, _, rfl, rfl, hs⟩
    · replace hs := hs.2 h1
      refine G_aload_n hO 0 dX3_changeSetting_10 rfl rfl ?_
      refine C_getf hO (v := .ref (ad n 1)) cl3 9 (hm 0 (by decide)) (st_0 _ _ _ _) (by decide) mw_124 rfl rfl dX3_changeSetting_11 ?_
      refine G_iload_n hO 1 dX3_changeSetting_14 rfl rfl ?_
      refine G_iload_n hO 2 dX3_changeSetting_15 rfl rfl ?_
      refine C_iast hO (cw_st _ _ _) _ rfl (hm 1 (by decide)) (st_1 _ _ _) hs.1 dX3_changeSetting_16 ?_
      replace hs := hs.2
      exact G_vret hO hF rfl (Nat.zero_le _) (Nat.zero_le _) dX3_changeSetting_17 ⟨rfl, rfl, _, rfl, rfl, hs⟩
set_option maxHeartbeats 4000000 in
set_option maxRecDepth 20000 in
theorem c_X3_turnWindow {l : Launch} {Λ : Lay} {B : Zn} {ids : List (Nat × Nat)} {ad : Nat → Nat → Nat} {w : Nat → Nat → va_E} {n : Nat} (hm : ∀ j, j < 15 → (n, j) ∈ ids) {a1 : Int32} {a2 : Int32} {c : Reg} {P : Reg → Prop} (hs : wX3_turnWindow a1 a2 c P) : CT l yX3_turnWindow cX3_turnWindow 3 none { frames := 1, cells := 0, slots := 0, locals := 21 } Λ B ids ad (va_up w n (stSh Λ ad n c)) [.ref (ad n 0), .int a1, .int a2] (Rv ids ad w n (stSh Λ ad n) P) := by
  refine CT.of RX3 [(0, .ref (ad n 0)), (1, .int a1), (2, .int a2)] (plainFor_of_name (by decide +kernel)) rfl (Nat.le_of_ble_eq_true rfl) rfl (fun Γ hO hF => ?_)
  unfold wX3_turnWindow at hs
  refine G_aload_n hO 0 dX3_turnWindow_0 rfl rfl ?_
  refine G_iload_n hO 1 dX3_turnWindow_1 rfl rfl ?_
  refine KV_Ri hO (rest := []) [.int a1] (fun l => c_X3_hasRoom hm hs) cv_X3_hasRoom mw_494 mw_495 mw_493 (hm 0 (by decide)) cl3 (by rw [va_us]; exact (st_0 _ _ _ _)) rfl rfl (Nat.le_of_ble_eq_true rfl) (by decide) rfl rfl (Nat.zero_le _) (Nat.zero_le _) dX3_turnWindow_2 ?_
  intro r1 c2 hs
  refine G_if_eq hO 18 dX3_turnWindow_5 (by decide) (fun h4 => ?_) (fun h4 => ?_)
  · replace hs := hs.1 h4
    exact G_vret hO hF rfl (Nat.zero_le _) (Nat.zero_le _) dX3_turnWindow_18 ⟨rfl, rfl, _, rfl, rfl, hs⟩
  · replace hs := hs.2 h4
    refine G_aload_n hO 0 dX3_turnWindow_8 rfl rfl ?_
    refine C_getf hO (v := .ref (ad n 4)) cl3 12 (hm 0 (by decide)) (st_0 _ _ _ _) (by decide) mw_127 rfl rfl dX3_turnWindow_9 ?_
    refine G_iload_n hO 1 dX3_turnWindow_12 rfl rfl ?_
    have hr3 : Int32.toNatClampNeg a1 < 6 := lt_in hs.1
    refine C_aaldR hO (v := .ref (ad n ((Int32.toNatClampNeg a1) + 9))) (hm 4 (by decide)) (st_4 _ _ _ _) hs.1 rfl dX3_turnWindow_13 ?_
    replace hs := hs.2
    refine G_iload_n hO 2 dX3_turnWindow_14 rfl rfl ?_
    refine C_putf hO (cw_st _ _ _) cl2 3 (hm _ (l15_9 hr3)) (st_r _ _ _ _ _) (by decide) mw_72 rfl rfl hs.1.nar hs.1.fit (Nat.le_of_ble_eq_true rfl) (rmP (by decide)) dX3_turnWindow_15 ?_
    replace hs := hs.2
    exact G_vret hO hF rfl (Nat.zero_le _) (Nat.zero_le _) dX3_turnWindow_18 ⟨rfl, rfl, _, rfl, rfl, hs⟩
set_option maxHeartbeats 4000000 in
set_option maxRecDepth 20000 in
theorem c_X3_addHeat {l : Launch} {Λ : Lay} {B : Zn} {ids : List (Nat × Nat)} {ad : Nat → Nat → Nat} {w : Nat → Nat → va_E} {n : Nat} (hm : ∀ j, j < 15 → (n, j) ∈ ids) {a1 : Int32} {a2 : Int32} {c : Reg} {P : Reg → Prop} (hs : wX3_addHeat a1 a2 c P) : CT l yX3_addHeat cX3_addHeat 3 none { frames := 0, cells := 0, slots := 0, locals := 0 } Λ B ids ad (va_up w n (stSh Λ ad n c)) [.ref (ad n 0), .int a1, .int a2] (Rv ids ad w n (stSh Λ ad n) P) := by
  refine CT.of RX3 [(0, .ref (ad n 0)), (1, .int a1), (2, .int a2)] (plainFor_of_name (by decide +kernel)) rfl (Nat.le_of_ble_eq_true rfl) rfl (fun Γ hO hF => ?_)
  unfold wX3_addHeat at hs
  refine G_iload_n hO 1 dX3_addHeat_0 rfl rfl ?_
  refine G_if_lt hO 20 dX3_addHeat_1 (by decide) (fun h2 => ?_) (fun h2 => ?_)
  · replace hs := hs.1 h2
    exact G_vret hO hF rfl (Nat.zero_le _) (Nat.zero_le _) dX3_addHeat_20 ⟨rfl, rfl, _, rfl, rfl, hs⟩
  · replace hs := hs.2 h2
    refine G_iload_n hO 1 dX3_addHeat_4 rfl rfl ?_
    refine G_bipush hO 8 dX3_addHeat_5 (by decide) ?_
    refine G_icmp_ge hO 20 dX3_addHeat_7 (by decide) (fun h1 => ?_) (fun h1 => ?_)
    · replace hs := hs.1 h1
      exact G_vret hO hF rfl (Nat.zero_le _) (Nat.zero_le _) dX3_addHeat_20 ⟨rfl, rfl, _, rfl, rfl, hs⟩
    · replace hs := hs.2 h1
      refine G_aload_n hO 0 dX3_addHeat_10 rfl rfl ?_
      refine C_getf hO (v := .ref (ad n 2)) cl3 10 (hm 0 (by decide)) (st_0 _ _ _ _) (by decide) mw_125 rfl rfl dX3_addHeat_11 ?_
      refine G_iload_n hO 1 dX3_addHeat_14 rfl rfl ?_
      refine G_dup2 hO dX3_addHeat_15 rfl rfl ?_
      refine C_iald hO _ rfl (hm 2 (by decide)) (st_2 _ _ _ _) hs.1 dX3_addHeat_16 ?_
      replace hs := hs.2
      refine G_iload_n hO 2 dX3_addHeat_17 rfl rfl ?_
      refine G_iadd hO dX3_addHeat_18 ?_
      refine C_iast hO (cw_st _ _ _) _ rfl (hm 2 (by decide)) (st_2 _ _ _) hs.1 dX3_addHeat_19 ?_
      replace hs := hs.2
      exact G_vret hO hF rfl (Nat.zero_le _) (Nat.zero_le _) dX3_addHeat_20 ⟨rfl, rfl, _, rfl, rfl, hs⟩
set_option maxHeartbeats 4000000 in
set_option maxRecDepth 20000 in
theorem c_X3_move {l : Launch} {Λ : Lay} {B : Zn} {ids : List (Nat × Nat)} {ad : Nat → Nat → Nat} {w : Nat → Nat → va_E} {n : Nat} (hm : ∀ j, j < 15 → (n, j) ∈ ids) {a1 : Int32} {a2 : Int32} {a3 : Int32} {c : Reg} {P : Reg → Prop} (hs : wX3_move a1 a2 a3 c P) : CT l yX3_move cX3_move 4 none { frames := 1, cells := 0, slots := 0, locals := 24 } Λ B ids ad (va_up w n (stSh Λ ad n c)) [.ref (ad n 0), .int a1, .int a2, .int a3] (Rv ids ad w n (stSh Λ ad n) P) := by
  refine CT.of RX3 [(0, .ref (ad n 0)), (1, .int a1), (2, .int a2), (3, .int a3)] (plainFor_of_name (by decide +kernel)) rfl (Nat.le_of_ble_eq_true rfl) rfl (fun Γ hO hF => ?_)
  unfold wX3_move at hs
  refine G_iload_n hO 3 dX3_move_0 rfl rfl ?_
  refine G_if_gt hO 5 dX3_move_1 (by decide) (fun h4 => ?_) (fun h4 => ?_)
  · replace hs := hs.1 h4
    refine G_aload_n hO 0 dX3_move_5 rfl rfl ?_
    refine G_iload_n hO 1 dX3_move_6 rfl rfl ?_
    refine G_iload_n hO 3 dX3_move_7 rfl rfl ?_
    refine G_ineg hO dX3_move_8 ?_
    refine KV_Rv hO (rest := []) [.int a1, .int (-a3)] (fun l => c_X3_addHeat hm hs) cv_X3_addHeat mw_291 ms_7 mw_289 (hm 0 (by decide)) cl3 (by rw [va_us]; exact (st_0 _ _ _ _)) rfl rfl (Nat.le_of_ble_eq_true rfl) (by decide) rfl rfl (Nat.zero_le _) (Nat.zero_le _) dX3_move_9 ?_
    intro c1 hs
    refine G_aload_n hO 0 dX3_move_12 rfl rfl ?_
    refine G_iload_n hO 2 dX3_move_13 rfl rfl ?_
    refine G_iload_n hO 3 dX3_move_14 rfl rfl ?_
    refine KV_Rv hO (rest := []) [.int a2, .int a3] (fun l => c_X3_addHeat hm hs) cv_X3_addHeat mw_291 ms_7 mw_289 (hm 0 (by decide)) cl3 (by rw [va_us]; exact (st_0 _ _ _ _)) rfl rfl (Nat.le_of_ble_eq_true rfl) (by decide) rfl rfl (Nat.zero_le _) (Nat.zero_le _) dX3_move_15 ?_
    intro c2 hs
    refine G_aload_n hO 0 dX3_move_18 rfl rfl ?_
    refine C_getf hO (v := .ref (ad n 5)) cl3 13 (hm 0 (by decide)) (st_0 _ _ _ _) (by decide) mw_129 rfl rfl dX3_move_19 ?_
    refine G_iload_n hO 1 dX3_move_22 rfl rfl ?_
    refine G_iload_n hO 2 dX3_move_23 rfl rfl ?_
    refine G_iload_n hO 3 dX3_move_24 rfl rfl ?_
    refine KV_Rv hO (rest := []) [.int a1, .int a2, .int a3] (fun l => c_X1_note hm hs) cv_X1_note mw_294 mw_295 mw_293 (hm 5 (by decide)) cl1 (by rw [va_us]; exact (st_5 _ _ _ _)) rfl rfl (Nat.le_of_ble_eq_true rfl) (by decide) rfl rfl (Nat.zero_le _) (Nat.zero_le _) dX3_move_25 ?_
    intro c3 hs
    exact G_vret hO hF rfl (Nat.zero_le _) (Nat.zero_le _) dX3_move_28 ⟨rfl, rfl, _, rfl, rfl, hs⟩
  · replace hs := hs.2 h4
    exact G_vret hO hF rfl (Nat.zero_le _) (Nat.zero_le _) dX3_move_4 ⟨rfl, rfl, _, rfl, rfl, hs⟩
set_option maxHeartbeats 4000000 in
set_option maxRecDepth 20000 in
theorem c_X3_buildRoom {l : Launch} {Λ : Lay} {B : Zn} {ids : List (Nat × Nat)} {ad : Nat → Nat → Nat} {w : Nat → Nat → va_E} {n : Nat} (hm : ∀ j, j < 15 → (n, j) ∈ ids) {a1 : Int32} {a2 : Int32} {a3 : Int32} {a4 : Int32} {c : Reg} {P : Reg → Prop} (hs : wX3_buildRoom a1 a2 a3 a4 c P) : CT l yX3_buildRoom cX3_buildRoom 7 none { frames := 2, cells := 0, slots := 0, locals := 47 } Λ B ids ad (va_up w n (stSh Λ ad n c)) [.ref (ad n 0), .int a1, .int a2, .int a3, .int a4] (Rv ids ad w n (stSh Λ ad n) P) := by
  refine CT.of RX3 [(0, .ref (ad n 0)), (1, .int a1), (2, .int a2), (3, .int a3), (4, .int a4)] (plainFor_of_name (by decide +kernel)) rfl (Nat.le_of_ble_eq_true rfl) rfl (fun Γ hO hF => ?_)
  unfold wX3_buildRoom at hs
  refine G_aload_n hO 0 dX3_buildRoom_0 rfl rfl ?_
  refine C_getf hO (v := .int (c 0 8)) cl3 8 (hm 0 (by decide)) (st_0 _ _ _ _) (by decide) mw_122 rfl rfl dX3_buildRoom_1 ?_
  refine G_istore hO [(5, .int (c 0 8)), (0, .ref (ad n 0)), (1, .int a1), (2, .int a2), (3, .int a3), (4, .int a4)] dX3_buildRoom_4 (by decide) rfl ?_
  refine G_iconst hO 2 dX3_buildRoom_6 (by decide) ?_
  refine G_iload hO 0 dX3_buildRoom_7 rfl ?_
  refine G_iadd hO dX3_buildRoom_9 ?_
  refine G_istore hO [(6, .int (2 + (c 0 8))), (5, .int (c 0 8)), (0, .ref (ad n 0)), (1, .int a1), (2, .int a2), (3, .int a3), (4, .int a4)] dX3_buildRoom_10 (by decide) rfl ?_
  refine G_iload hO 1 dX3_buildRoom_12 rfl ?_
  refine G_if_lt hO 24 dX3_buildRoom_14 (by decide) (fun h5 => ?_) (fun h5 => ?_)
  · replace hs := hs.1 h5
    exact G_vret hO hF rfl (Nat.zero_le _) (Nat.zero_le _) dX3_buildRoom_24 ⟨rfl, rfl, _, rfl, rfl, hs⟩
  · replace hs := hs.2 h5
    refine G_iload hO 1 dX3_buildRoom_17 rfl ?_
    refine G_bipush hO 6 dX3_buildRoom_19 (by decide) ?_
    refine G_icmp_lt hO 25 dX3_buildRoom_21 (by decide) (fun h4 => ?_) (fun h4 => ?_)
    · replace hs := hs.1 h4
      refine G_aload_n hO 2 dX3_buildRoom_25 rfl rfl ?_
      refine C_getf hO (v := .ref (ad n 4)) cl3 12 (hm 0 (by decide)) (st_0 _ _ _ _) (by decide) mw_127 rfl rfl dX3_buildRoom_26 ?_
      refine G_iload hO 1 dX3_buildRoom_29 rfl ?_
      have hr1 : Int32.toNatClampNeg (c 0 8) < 6 := lt_in hs.1
      refine C_aaldR hO (v := .ref (ad n ((Int32.toNatClampNeg (c 0 8)) + 9))) (hm 4 (by decide)) (st_4 _ _ _ _) hs.1 rfl dX3_buildRoom_31 ?_
      replace hs := hs.2
      refine G_iload_n hO 4 dX3_buildRoom_32 rfl rfl ?_
      refine G_iload_n hO 5 dX3_buildRoom_33 rfl rfl ?_
      refine G_iload hO 6 dX3_buildRoom_34 rfl ?_
      refine KV_Rv hO (rest := []) [.int a2, .int a3, .int a4] (fun l => c_X2_begin hm hr1 hs) cv_X2_begin mw_282 mw_283 mw_281 (hm _ (l15_9 hr1)) cl2 (by rw [va_us]; exact (st_r _ _ _ _ _)) rfl rfl (Nat.le_of_ble_eq_true rfl) (by decide) rfl rfl (Nat.zero_le _) (Nat.zero_le _) dX3_buildRoom_36 ?_
      intro c2 hs
      refine G_aload_n hO 2 dX3_buildRoom_39 rfl rfl ?_
      refine C_getf hO (v := .ref (ad n 3)) cl3 11 (hm 0 (by decide)) (st_0 _ _ _ _) (by decide) mw_126 rfl rfl dX3_buildRoom_40 ?_
      refine G_iload hO 0 dX3_buildRoom_43 rfl ?_
      refine G_bipush hO 10 dX3_buildRoom_45 (by decide) ?_
      refine G_iload_n hO 3 dX3_buildRoom_47 rfl rfl ?_
      refine G_imul hO dX3_buildRoom_48 ?_
      refine C_iast hO (cw_st _ _ _) _ rfl (hm 3 (by decide)) (st_3 _ _ _) hs.1 dX3_buildRoom_49 ?_
      replace hs := hs.2
      refine G_aload_n hO 2 dX3_buildRoom_50 rfl rfl ?_
      refine C_getf hO (v := .ref (ad n 2)) cl3 10 (hm 0 (by decide)) (st_0 _ _ _ _) (by decide) mw_125 rfl rfl dX3_buildRoom_51 ?_
      refine G_iload hO 0 dX3_buildRoom_54 rfl ?_
      refine G_iconst hO 0 dX3_buildRoom_56 (by decide) ?_
      refine C_iast hO (cw_st _ _ _) _ rfl (hm 2 (by decide)) (st_2 _ _ _) hs.1 dX3_buildRoom_57 ?_
      replace hs := hs.2
      refine G_aload_n hO 2 dX3_buildRoom_58 rfl rfl ?_
      refine G_dup hO dX3_buildRoom_59 rfl ?_
      refine C_getf hO (v := .int ((cu (cu c2 3 (Int32.toNatClampNeg (2 + (c 0 8))) (10 * a1)) 2 (Int32.toNatClampNeg (2 + (c 0 8))) 0) 0 8)) cl3 8 (hm 0 (by decide)) (st_0 _ _ _ _) (by decide) mw_122 rfl rfl dX3_buildRoom_60 ?_
      refine G_iconst hO 1 dX3_buildRoom_63 (by decide) ?_
      refine G_iadd hO dX3_buildRoom_64 ?_
      refine C_putf hO (cw_st _ _ _) cl3 8 (hm 0 (by decide)) (st_0 _ _ _ _) (by decide) mw_122 rfl rfl rfl rfl (Nat.le_of_ble_eq_true rfl) (stP (by decide)) dX3_buildRoom_65 ?_
      refine G_aload_n hO 2 dX3_buildRoom_68 rfl rfl ?_
      refine G_bipush hO 9 dX3_buildRoom_69 (by decide) ?_
      refine G_iload hO 0 dX3_buildRoom_71 rfl ?_
      refine G_bipush hO 15 dX3_buildRoom_73 (by decide) ?_
      refine G_aload_n hO 2 dX3_buildRoom_75 rfl rfl ?_
      refine C_getf hO (v := .ref (ad n 3)) cl3 11 (hm 0 (by decide)) (st_0 _ _ _ _) (by decide) mw_126 rfl rfl dX3_buildRoom_76 ?_
      refine G_iload hO 0 dX3_buildRoom_79 rfl ?_
      refine C_iald hO _ rfl (hm 3 (by decide)) (st_3 _ _ _ _) hs.1 dX3_buildRoom_81 ?_
      replace hs := hs.2
      refine G_imul hO dX3_buildRoom_82 ?_
      refine KV_Rv hO (rest := []) [.int 9, .int (2 + (c 0 8)), .int (15 * ((cu (cu (cu c2 3 (Int32.toNatClampNeg (2 + (c 0 8))) (10 * a1)) 2 (Int32.toNatClampNeg (2 + (c 0 8))) 0) 0 8 (((cu (cu c2 3 (Int32.toNatClampNeg (2 + (c 0 8))) (10 * a1)) 2 (Int32.toNatClampNeg (2 + (c 0 8))) 0) 0 8) + 1)) 3 (Int32.toNatClampNeg (2 + (c 0 8)))))] (fun l => c_X3_move hm hs) cv_X3_move mw_287 ms_6 mw_285 (hm 0 (by decide)) cl3 (by rw [va_us]; exact (st_0 _ _ _ _)) rfl rfl (Nat.le_of_ble_eq_true rfl) (by decide) rfl rfl (Nat.zero_le _) (Nat.zero_le _) dX3_buildRoom_83 ?_
      intro c3 hs
      exact G_vret hO hF rfl (Nat.zero_le _) (Nat.zero_le _) dX3_buildRoom_86 ⟨rfl, rfl, _, rfl, rfl, hs⟩
    · replace hs := hs.2 h4
      exact G_vret hO hF rfl (Nat.zero_le _) (Nat.zero_le _) dX3_buildRoom_24 ⟨rfl, rfl, _, rfl, rfl, hs⟩
set_option maxHeartbeats 4000000 in
set_option maxRecDepth 20000 in
theorem c_X3_heatOf {l : Launch} {Λ : Lay} {B : Zn} {ids : List (Nat × Nat)} {ad : Nat → Nat → Nat} {w : Nat → Nat → va_E} {n : Nat} (hm : ∀ j, j < 15 → (n, j) ∈ ids) {a1 : Int32} {c : Reg} {P : Int32 → Reg → Prop} (hs : wX3_heatOf a1 c P) : CT l yX3_heatOf cX3_heatOf 2 (some .int) { frames := 0, cells := 0, slots := 0, locals := 0 } Λ B ids ad (va_up w n (stSh Λ ad n c)) [.ref (ad n 0), .int a1] (Ri ids ad w n (stSh Λ ad n) P) := by
  refine CT.of RX3 [(0, .ref (ad n 0)), (1, .int a1)] (plainFor_of_name (by decide +kernel)) rfl (Nat.le_of_ble_eq_true rfl) rfl (fun Γ hO hF => ?_)
  unfold wX3_heatOf at hs
  refine G_iload_n hO 1 dX3_heatOf_0 rfl rfl ?_
  refine G_if_lt hO 19 dX3_heatOf_1 (by decide) (fun h2 => ?_) (fun h2 => ?_)
  · replace hs := hs.1 h2
    refine G_iconst hO 0 dX3_heatOf_19 (by decide) ?_
    exact G_iret hO hF rfl (Nat.zero_le _) (Nat.zero_le _) dX3_heatOf_20 ⟨rfl, rfl, _, _, rfl, rfl, hs⟩
  · replace hs := hs.2 h2
    refine G_iload_n hO 1 dX3_heatOf_4 rfl rfl ?_
    refine G_bipush hO 8 dX3_heatOf_5 (by decide) ?_
    refine G_icmp_ge hO 19 dX3_heatOf_7 (by decide) (fun h1 => ?_) (fun h1 => ?_)
    · replace hs := hs.1 h1
      refine G_iconst hO 0 dX3_heatOf_19 (by decide) ?_
      exact G_iret hO hF rfl (Nat.zero_le _) (Nat.zero_le _) dX3_heatOf_20 ⟨rfl, rfl, _, _, rfl, rfl, hs⟩
    · replace hs := hs.2 h1
      refine G_aload_n hO 0 dX3_heatOf_10 rfl rfl ?_
      refine C_getf hO (v := .ref (ad n 2)) cl3 10 (hm 0 (by decide)) (st_0 _ _ _ _) (by decide) mw_125 rfl rfl dX3_heatOf_11 ?_
      refine G_iload_n hO 1 dX3_heatOf_14 rfl rfl ?_
      refine C_iald hO _ rfl (hm 2 (by decide)) (st_2 _ _ _ _) hs.1 dX3_heatOf_15 ?_
      replace hs := hs.2
      refine G_goto hO 20 dX3_heatOf_16 (by decide) ?_
      exact G_iret hO hF rfl (Nat.zero_le _) (Nat.zero_le _) dX3_heatOf_20 ⟨rfl, rfl, _, _, rfl, rfl, hs⟩
set_option maxHeartbeats 4000000 in
set_option maxRecDepth 20000 in
theorem c_X3_capacityOf {l : Launch} {Λ : Lay} {B : Zn} {ids : List (Nat × Nat)} {ad : Nat → Nat → Nat} {w : Nat → Nat → va_E} {n : Nat} (hm : ∀ j, j < 15 → (n, j) ∈ ids) {a1 : Int32} {c : Reg} {P : Int32 → Reg → Prop} (hs : wX3_capacityOf a1 c P) : CT l yX3_capacityOf cX3_capacityOf 2 (some .int) { frames := 0, cells := 0, slots := 0, locals := 0 } Λ B ids ad (va_up w n (stSh Λ ad n c)) [.ref (ad n 0), .int a1] (Ri ids ad w n (stSh Λ ad n) P) := by
  refine CT.of RX3 [(0, .ref (ad n 0)), (1, .int a1)] (plainFor_of_name (by decide +kernel)) rfl (Nat.le_of_ble_eq_true rfl) rfl (fun Γ hO hF => ?_)
  unfold wX3_capacityOf at hs
  refine G_iload_n hO 1 dX3_capacityOf_0 rfl rfl ?_
  refine G_if_lt hO 19 dX3_capacityOf_1 (by decide) (fun h2 => ?_) (fun h2 => ?_)
  · replace hs := hs.1 h2
    refine G_iconst hO 0 dX3_capacityOf_19 (by decide) ?_
    exact G_iret hO hF rfl (Nat.zero_le _) (Nat.zero_le _) dX3_capacityOf_20 ⟨rfl, rfl, _, _, rfl, rfl, hs⟩
  · replace hs := hs.2 h2
    refine G_iload_n hO 1 dX3_capacityOf_4 rfl rfl ?_
    refine G_bipush hO 8 dX3_capacityOf_5 (by decide) ?_
    refine G_icmp_ge hO 19 dX3_capacityOf_7 (by decide) (fun h1 => ?_) (fun h1 => ?_)
    · replace hs := hs.1 h1
      refine G_iconst hO 0 dX3_capacityOf_19 (by decide) ?_
      exact G_iret hO hF rfl (Nat.zero_le _) (Nat.zero_le _) dX3_capacityOf_20 ⟨rfl, rfl, _, _, rfl, rfl, hs⟩
    · replace hs := hs.2 h1
      refine G_aload_n hO 0 dX3_capacityOf_10 rfl rfl ?_
      refine C_getf hO (v := .ref (ad n 3)) cl3 11 (hm 0 (by decide)) (st_0 _ _ _ _) (by decide) mw_126 rfl rfl dX3_capacityOf_11 ?_
      refine G_iload_n hO 1 dX3_capacityOf_14 rfl rfl ?_
      refine C_iald hO _ rfl (hm 3 (by decide)) (st_3 _ _ _ _) hs.1 dX3_capacityOf_15 ?_
      replace hs := hs.2
      refine G_goto hO 20 dX3_capacityOf_16 (by decide) ?_
      exact G_iret hO hF rfl (Nat.zero_le _) (Nat.zero_le _) dX3_capacityOf_20 ⟨rfl, rfl, _, _, rfl, rfl, hs⟩
set_option maxHeartbeats 4000000 in
set_option maxRecDepth 20000 in
theorem c_J9_floorDiv_7cf53 {l : Launch} {Λ : Lay} {B : Zn} {ids : List (Nat × Nat)} {ad : Nat → Nat → Nat} {w : Nat → Nat → va_E} {a0 : Int32} {a1 : Int32} {P : Int32 → Prop} (hs : wJ9_floorDiv_7cf53 a0 a1 P) : CT l yJ9_floorDiv_7cf53 cJ9_floorDiv_7cf53 3 (some .int) { frames := 0, cells := 0, slots := 0, locals := 0 } Λ B ids ad w [.int a0, .int a1] (Ni ids ad w P) := by
  refine CT.of RJ9 [(0, .int a0), (1, .int a1)] (by decide +kernel) rfl (Nat.le_of_ble_eq_true rfl) rfl (fun Γ hO hF => ?_)
  unfold wJ9_floorDiv_7cf53 at hs
  refine G_iload_n hO 0 dJ9_floorDiv_7cf53_0 rfl rfl ?_
  refine G_iload_n hO 1 dJ9_floorDiv_7cf53_1 rfl rfl ?_
  refine G_idiv hO dJ9_floorDiv_7cf53_2 hs.1 ?_
  replace hs := hs.2
  refine G_istore_n hO [(2, .int (a0 / a1)), (0, .int a0), (1, .int a1)] dJ9_floorDiv_7cf53_3 rfl (by decide) rfl ?_
  refine G_iload_n hO 1 dJ9_floorDiv_7cf53_4 rfl rfl ?_
  refine G_iload_n hO 2 dJ9_floorDiv_7cf53_5 rfl rfl ?_
  refine G_ixor hO dJ9_floorDiv_7cf53_6 ?_
  refine G_if_ge hO 21 dJ9_floorDiv_7cf53_7 (by decide) (fun h2 => ?_) (fun h2 => ?_)
  · replace hs := hs.1 h2
    refine G_iload_n hO 0 dJ9_floorDiv_7cf53_21 rfl rfl ?_
    exact G_iret hO hF rfl (Nat.zero_le _) (Nat.zero_le _) dJ9_floorDiv_7cf53_22 ⟨rfl, rfl, rfl, _, rfl, hs⟩
  · replace hs := hs.2 h2
    refine G_iload_n hO 0 dJ9_floorDiv_7cf53_10 rfl rfl ?_
    refine G_iload_n hO 2 dJ9_floorDiv_7cf53_11 rfl rfl ?_
    refine G_imul hO dJ9_floorDiv_7cf53_12 ?_
    refine G_iload_n hO 1 dJ9_floorDiv_7cf53_13 rfl rfl ?_
    refine G_icmp_eq hO 21 dJ9_floorDiv_7cf53_14 (by decide) (fun h1 => ?_) (fun h1 => ?_)
    · replace hs := hs.1 h1
      refine G_iload_n hO 0 dJ9_floorDiv_7cf53_21 rfl rfl ?_
      exact G_iret hO hF rfl (Nat.zero_le _) (Nat.zero_le _) dJ9_floorDiv_7cf53_22 ⟨rfl, rfl, rfl, _, rfl, hs⟩
    · replace hs := hs.2 h1
      refine G_iload_n hO 0 dJ9_floorDiv_7cf53_17 rfl rfl ?_
      refine G_iconst hO 1 dJ9_floorDiv_7cf53_18 (by decide) ?_
      refine G_isub hO dJ9_floorDiv_7cf53_19 ?_
      exact G_iret hO hF rfl (Nat.zero_le _) (Nat.zero_le _) dJ9_floorDiv_7cf53_20 ⟨rfl, rfl, rfl, _, rfl, hs⟩
set_option maxHeartbeats 4000000 in
set_option maxRecDepth 20000 in
theorem c_X3_degrees {l : Launch} {Λ : Lay} {B : Zn} {ids : List (Nat × Nat)} {ad : Nat → Nat → Nat} {w : Nat → Nat → va_E} {n : Nat} (hm : ∀ j, j < 15 → (n, j) ∈ ids) {a1 : Int32} {c : Reg} {P : Int32 → Reg → Prop} (hs : wX3_degrees a1 c P) : CT l yX3_degrees cX3_degrees 2 (some .int) { frames := 1, cells := 0, slots := 0, locals := 22 } Λ B ids ad (va_up w n (stSh Λ ad n c)) [.ref (ad n 0), .int a1] (Ri ids ad w n (stSh Λ ad n) P) := by
  refine CT.of RX3 [(0, .ref (ad n 0)), (1, .int a1)] (plainFor_of_name (by decide +kernel)) rfl (Nat.le_of_ble_eq_true rfl) rfl (fun Γ hO hF => ?_)
  unfold wX3_degrees at hs
  refine G_iload_n hO 1 dX3_degrees_0 rfl rfl ?_
  refine G_if_lt hO 19 dX3_degrees_1 (by decide) (fun h4 => ?_) (fun h4 => ?_)
  · replace hs := hs.1 h4
    refine G_iconst hO 0 dX3_degrees_19 (by decide) ?_
    exact G_iret hO hF rfl (Nat.zero_le _) (Nat.zero_le _) dX3_degrees_20 ⟨rfl, rfl, _, _, rfl, rfl, hs⟩
  · replace hs := hs.2 h4
    refine G_iload_n hO 1 dX3_degrees_4 rfl rfl ?_
    refine G_bipush hO 8 dX3_degrees_5 (by decide) ?_
    refine G_icmp_ge hO 19 dX3_degrees_7 (by decide) (fun h3 => ?_) (fun h3 => ?_)
    · replace hs := hs.1 h3
      refine G_iconst hO 0 dX3_degrees_19 (by decide) ?_
      exact G_iret hO hF rfl (Nat.zero_le _) (Nat.zero_le _) dX3_degrees_20 ⟨rfl, rfl, _, _, rfl, rfl, hs⟩
    · replace hs := hs.2 h3
      refine G_aload_n hO 0 dX3_degrees_10 rfl rfl ?_
      refine C_getf hO (v := .ref (ad n 3)) cl3 11 (hm 0 (by decide)) (st_0 _ _ _ _) (by decide) mw_126 rfl rfl dX3_degrees_11 ?_
      refine G_iload_n hO 1 dX3_degrees_14 rfl rfl ?_
      refine C_iald hO _ rfl (hm 3 (by decide)) (st_3 _ _ _ _) hs.1 dX3_degrees_15 ?_
      replace hs := hs.2
      refine G_if_gt hO 21 dX3_degrees_16 (by decide) (fun h2 => ?_) (fun h2 => ?_)
      · replace hs := hs.1 h2
        refine G_aload_n hO 0 dX3_degrees_21 rfl rfl ?_
        refine C_getf hO (v := .ref (ad n 2)) cl3 10 (hm 0 (by decide)) (st_0 _ _ _ _) (by decide) mw_125 rfl rfl dX3_degrees_22 ?_
        refine G_iload_n hO 1 dX3_degrees_25 rfl rfl ?_
        refine C_iald hO _ rfl (hm 2 (by decide)) (st_2 _ _ _ _) hs.1 dX3_degrees_26 ?_
        replace hs := hs.2
        refine G_aload_n hO 0 dX3_degrees_27 rfl rfl ?_
        refine C_getf hO (v := .ref (ad n 3)) cl3 11 (hm 0 (by decide)) (st_0 _ _ _ _) (by decide) mw_126 rfl rfl dX3_degrees_28 ?_
        refine G_iload_n hO 1 dX3_degrees_31 rfl rfl ?_
        refine C_iald hO _ rfl (hm 3 (by decide)) (st_3 _ _ _ _) hs.1 dX3_degrees_32 ?_
        replace hs := hs.2
        refine KS_Ni hO (rest := []) [.int (c 2 (Int32.toNatClampNeg a1)), .int (c 3 (Int32.toNatClampNeg a1))] (fun l => c_J9_floorDiv_7cf53 hs) cv_J9_floorDiv_7cf53 mw_507 mw_506 rfl rfl (Nat.le_of_ble_eq_true rfl) (by decide) rfl rfl (Nat.zero_le _) (Nat.zero_le _) dX3_degrees_33 ?_
        intro r1 hs
        exact G_iret hO hF rfl (Nat.zero_le _) (Nat.zero_le _) dX3_degrees_36 ⟨rfl, rfl, _, _, rfl, rfl, hs⟩
      · replace hs := hs.2 h2
        refine G_iconst hO 0 dX3_degrees_19 (by decide) ?_
        exact G_iret hO hF rfl (Nat.zero_le _) (Nat.zero_le _) dX3_degrees_20 ⟨rfl, rfl, _, _, rfl, rfl, hs⟩
set_option maxHeartbeats 4000000 in
set_option maxRecDepth 20000 in
theorem c_X3_allHeat {l : Launch} {Λ : Lay} {B : Zn} {ids : List (Nat × Nat)} {ad : Nat → Nat → Nat} {w : Nat → Nat → va_E} {n : Nat} (hm : ∀ j, j < 15 → (n, j) ∈ ids) {c : Reg} {P : Int32 → Reg → Prop} (hs : wX3_allHeat c P) : CT l yX3_allHeat cX3_allHeat 3 (some .int) { frames := 0, cells := 0, slots := 0, locals := 0 } Λ B ids ad (va_up w n (stSh Λ ad n c)) [.ref (ad n 0)] (Ri ids ad w n (stSh Λ ad n) P) := by
  refine CT.of RX3 [(0, .ref (ad n 0))] (plainFor_of_name (by decide +kernel)) rfl (Nat.le_of_ble_eq_true rfl) rfl (fun Γ hO hF => ?_)
  have b4 : ∀ (N4 : Nat) (v1 : Int32) (v2 : Int32) (c : Reg), wX3_allHeat_L4 P N4 v1 v2 c → G Γ ids ad 0 0 (va_up w n (stSh Λ ad n c)) 4 [(0, .ref (ad n 0)), (1, .int v1), (2, .int v2)] [] := by
    intro N4
    induction N4 with
    | zero => intro v1 v2 c hs; exact False.elim hs
    | succ N4 ih4 =>
      intro v1 v2 c hs
      unfold wX3_allHeat_L4 at hs
      refine G_iload_n hO 2 dX3_allHeat_4 rfl rfl ?_
      refine G_iconst hO 2 dX3_allHeat_5 (by decide) ?_
      refine G_aload_n hO 0 dX3_allHeat_6 rfl rfl ?_
      refine C_getf hO (v := .int (c 0 8)) cl3 8 (hm 0 (by decide)) (st_0 _ _ _ _) (by decide) mw_122 rfl rfl dX3_allHeat_7 ?_
      refine G_iadd hO dX3_allHeat_10 ?_
      refine G_icmp_ge hO 35 dX3_allHeat_11 (by decide) (fun h3 => ?_) (fun h3 => ?_)
      · replace hs := hs.1 h3
        refine G_iload_n hO 1 dX3_allHeat_35 rfl rfl ?_
        exact G_iret hO hF rfl (Nat.zero_le _) (Nat.zero_le _) dX3_allHeat_36 ⟨rfl, rfl, _, _, rfl, rfl, hs⟩
      · replace hs := hs.2 h3
        refine G_iload_n hO 2 dX3_allHeat_14 rfl rfl ?_
        refine G_bipush hO 8 dX3_allHeat_15 (by decide) ?_
        refine G_icmp_ge hO 35 dX3_allHeat_17 (by decide) (fun h2 => ?_) (fun h2 => ?_)
        · replace hs := hs.1 h2
          refine G_iload_n hO 1 dX3_allHeat_35 rfl rfl ?_
          exact G_iret hO hF rfl (Nat.zero_le _) (Nat.zero_le _) dX3_allHeat_36 ⟨rfl, rfl, _, _, rfl, rfl, hs⟩
        · replace hs := hs.2 h2
          refine G_iload_n hO 1 dX3_allHeat_20 rfl rfl ?_
          refine G_aload_n hO 0 dX3_allHeat_21 rfl rfl ?_
          refine C_getf hO (v := .ref (ad n 2)) cl3 10 (hm 0 (by decide)) (st_0 _ _ _ _) (by decide) mw_125 rfl rfl dX3_allHeat_22 ?_
          refine G_iload_n hO 2 dX3_allHeat_25 rfl rfl ?_
          refine C_iald hO _ rfl (hm 2 (by decide)) (st_2 _ _ _ _) hs.1 dX3_allHeat_26 ?_
          replace hs := hs.2
          refine G_iadd hO dX3_allHeat_27 ?_
          refine G_istore_n hO [(1, .int (v1 + (c 2 (Int32.toNatClampNeg v2)))), (0, .ref (ad n 0)), (2, .int v2)] dX3_allHeat_28 rfl (by decide) rfl ?_
          refine G_iinc hO 2 (v2 + 1) [(2, .int (v2 + 1)), (1, .int (v1 + (c 2 (Int32.toNatClampNeg v2)))), (0, .ref (ad n 0))] dX3_allHeat_29 rfl rfl (by decide) rfl ?_
          refine G_goto hO 4 dX3_allHeat_32 (by decide) ?_
          refine G_lv hO [(0, .ref (ad n 0)), (1, .int (v1 + (c 2 (Int32.toNatClampNeg v2)))), (2, .int (v2 + 1))] [2, 1, 0] rfl ?_
          exact ih4 _ _ _ hs
  unfold wX3_allHeat at hs
  refine G_iconst hO 0 dX3_allHeat_0 (by decide) ?_
  refine G_istore_n hO [(1, .int 0), (0, .ref (ad n 0))] dX3_allHeat_1 rfl (by decide) rfl ?_
  refine G_iconst hO 0 dX3_allHeat_2 (by decide) ?_
  refine G_istore_n hO [(2, .int 0), (1, .int 0), (0, .ref (ad n 0))] dX3_allHeat_3 rfl (by decide) rfl ?_
  obtain ⟨Nf1, hs⟩ := hs
  refine G_lv hO [(0, .ref (ad n 0)), (1, .int 0), (2, .int 0)] [2, 1, 0] rfl ?_
  exact b4 Nf1 _ _ _ hs
set_option maxHeartbeats 4000000 in
set_option maxRecDepth 20000 in
theorem c_X3_allComfort {l : Launch} {Λ : Lay} {B : Zn} {ids : List (Nat × Nat)} {ad : Nat → Nat → Nat} {w : Nat → Nat → va_E} {n : Nat} (hm : ∀ j, j < 15 → (n, j) ∈ ids) {c : Reg} {P : Int32 → Reg → Prop} (hs : wX3_allComfort c P) : CT l yX3_allComfort cX3_allComfort 3 (some .int) { frames := 0, cells := 0, slots := 0, locals := 0 } Λ B ids ad (va_up w n (stSh Λ ad n c)) [.ref (ad n 0)] (Ri ids ad w n (stSh Λ ad n) P) := by
  refine CT.of RX3 [(0, .ref (ad n 0))] (plainFor_of_name (by decide +kernel)) rfl (Nat.le_of_ble_eq_true rfl) rfl (fun Γ hO hF => ?_)
  have b4 : ∀ (N4 : Nat) (v1 : Int32) (v2 : Int32) (c : Reg), wX3_allComfort_L4 P N4 v1 v2 c → G Γ ids ad 0 0 (va_up w n (stSh Λ ad n c)) 4 [(0, .ref (ad n 0)), (1, .int v1), (2, .int v2)] [] := by
    intro N4
    induction N4 with
    | zero => intro v1 v2 c hs; exact False.elim hs
    | succ N4 ih4 =>
      intro v1 v2 c hs
      unfold wX3_allComfort_L4 at hs
      refine G_iload_n hO 2 dX3_allComfort_4 rfl rfl ?_
      refine G_aload_n hO 0 dX3_allComfort_5 rfl rfl ?_
      refine C_getf hO (v := .int (c 0 8)) cl3 8 (hm 0 (by decide)) (st_0 _ _ _ _) (by decide) mw_122 rfl rfl dX3_allComfort_6 ?_
      refine G_icmp_ge hO 36 dX3_allComfort_9 (by decide) (fun h4 => ?_) (fun h4 => ?_)
      · replace hs := hs.1 h4
        refine G_iload_n hO 1 dX3_allComfort_36 rfl rfl ?_
        exact G_iret hO hF rfl (Nat.zero_le _) (Nat.zero_le _) dX3_allComfort_37 ⟨rfl, rfl, _, _, rfl, rfl, hs⟩
      · replace hs := hs.2 h4
        refine G_iload_n hO 2 dX3_allComfort_12 rfl rfl ?_
        refine G_bipush hO 6 dX3_allComfort_13 (by decide) ?_
        refine G_icmp_ge hO 36 dX3_allComfort_15 (by decide) (fun h3 => ?_) (fun h3 => ?_)
        · replace hs := hs.1 h3
          refine G_iload_n hO 1 dX3_allComfort_36 rfl rfl ?_
          exact G_iret hO hF rfl (Nat.zero_le _) (Nat.zero_le _) dX3_allComfort_37 ⟨rfl, rfl, _, _, rfl, rfl, hs⟩
        · replace hs := hs.2 h3
          refine G_iload_n hO 1 dX3_allComfort_18 rfl rfl ?_
          refine G_aload_n hO 0 dX3_allComfort_19 rfl rfl ?_
          refine C_getf hO (v := .ref (ad n 4)) cl3 12 (hm 0 (by decide)) (st_0 _ _ _ _) (by decide) mw_127 rfl rfl dX3_allComfort_20 ?_
          refine G_iload_n hO 2 dX3_allComfort_23 rfl rfl ?_
          have hr2 : Int32.toNatClampNeg v2 < 6 := lt_in hs.1
          refine C_aaldR hO (v := .ref (ad n ((Int32.toNatClampNeg v2) + 9))) (hm 4 (by decide)) (st_4 _ _ _ _) hs.1 rfl dX3_allComfort_24 ?_
          replace hs := hs.2
          refine C_getf hO (v := .int (c ((Int32.toNatClampNeg v2) + 9) 4)) cl2 4 (hm _ (l15_9 hr2)) (st_r _ _ _ _ _) (by decide) mw_76 rfl rfl dX3_allComfort_25 ?_
          refine G_iadd hO dX3_allComfort_28 ?_
          refine G_istore_n hO [(1, .int (v1 + (c ((Int32.toNatClampNeg v2) + 9) 4))), (0, .ref (ad n 0)), (2, .int v2)] dX3_allComfort_29 rfl (by decide) rfl ?_
          refine G_iinc hO 2 (v2 + 1) [(2, .int (v2 + 1)), (1, .int (v1 + (c ((Int32.toNatClampNeg v2) + 9) 4))), (0, .ref (ad n 0))] dX3_allComfort_30 rfl rfl (by decide) rfl ?_
          refine G_goto hO 4 dX3_allComfort_33 (by decide) ?_
          refine G_lv hO [(0, .ref (ad n 0)), (1, .int (v1 + (c ((Int32.toNatClampNeg v2) + 9) 4))), (2, .int (v2 + 1))] [2, 1, 0] rfl ?_
          exact ih4 _ _ _ hs
  unfold wX3_allComfort at hs
  refine G_iconst hO 0 dX3_allComfort_0 (by decide) ?_
  refine G_istore_n hO [(1, .int 0), (0, .ref (ad n 0))] dX3_allComfort_1 rfl (by decide) rfl ?_
  refine G_iconst hO 0 dX3_allComfort_2 (by decide) ?_
  refine G_istore_n hO [(2, .int 0), (1, .int 0), (0, .ref (ad n 0))] dX3_allComfort_3 rfl (by decide) rfl ?_
  obtain ⟨Nf1, hs⟩ := hs
  refine G_lv hO [(0, .ref (ad n 0)), (1, .int 0), (2, .int 0)] [2, 1, 0] rfl ?_
  exact b4 Nf1 _ _ _ hs
set_option maxHeartbeats 4000000 in
set_option maxRecDepth 20000 in
theorem c_X3_openWindows {l : Launch} {Λ : Lay} {B : Zn} {ids : List (Nat × Nat)} {ad : Nat → Nat → Nat} {w : Nat → Nat → va_E} {n : Nat} (hm : ∀ j, j < 15 → (n, j) ∈ ids) {c : Reg} {P : Int32 → Reg → Prop} (hs : wX3_openWindows c P) : CT l yX3_openWindows cX3_openWindows 3 (some .int) { frames := 0, cells := 0, slots := 0, locals := 0 } Λ B ids ad (va_up w n (stSh Λ ad n c)) [.ref (ad n 0)] (Ri ids ad w n (stSh Λ ad n) P) := by
  refine CT.of RX3 [(0, .ref (ad n 0))] (plainFor_of_name (by decide +kernel)) rfl (Nat.le_of_ble_eq_true rfl) rfl (fun Γ hO hF => ?_)
  have b4 : ∀ (N4 : Nat) (v1 : Int32) (v2 : Int32) (c : Reg), wX3_openWindows_L4 P N4 v1 v2 c → G Γ ids ad 0 0 (va_up w n (stSh Λ ad n c)) 4 [(0, .ref (ad n 0)), (1, .int v1), (2, .int v2)] [] := by
    intro N4
    induction N4 with
    | zero => intro v1 v2 c hs; exact False.elim hs
    | succ N4 ih4 =>
      intro v1 v2 c hs
      unfold wX3_openWindows_L4 at hs
      refine G_iload_n hO 2 dX3_openWindows_4 rfl rfl ?_
      refine G_aload_n hO 0 dX3_openWindows_5 rfl rfl ?_
      refine C_getf hO (v := .int (c 0 8)) cl3 8 (hm 0 (by decide)) (st_0 _ _ _ _) (by decide) mw_122 rfl rfl dX3_openWindows_6 ?_
      refine G_icmp_ge hO 44 dX3_openWindows_9 (by decide) (fun h5 => ?_) (fun h5 => ?_)
      · replace hs := hs.1 h5
        refine G_iload_n hO 1 dX3_openWindows_44 rfl rfl ?_
        exact G_iret hO hF rfl (Nat.zero_le _) (Nat.zero_le _) dX3_openWindows_45 ⟨rfl, rfl, _, _, rfl, rfl, hs⟩
      · replace hs := hs.2 h5
        refine G_iload_n hO 2 dX3_openWindows_12 rfl rfl ?_
        refine G_bipush hO 6 dX3_openWindows_13 (by decide) ?_
        refine G_icmp_ge hO 44 dX3_openWindows_15 (by decide) (fun h4 => ?_) (fun h4 => ?_)
        · replace hs := hs.1 h4
          refine G_iload_n hO 1 dX3_openWindows_44 rfl rfl ?_
          exact G_iret hO hF rfl (Nat.zero_le _) (Nat.zero_le _) dX3_openWindows_45 ⟨rfl, rfl, _, _, rfl, rfl, hs⟩
        · replace hs := hs.2 h4
          refine G_iload_n hO 1 dX3_openWindows_18 rfl rfl ?_
          refine G_aload_n hO 0 dX3_openWindows_19 rfl rfl ?_
          refine C_getf hO (v := .ref (ad n 4)) cl3 12 (hm 0 (by decide)) (st_0 _ _ _ _) (by decide) mw_127 rfl rfl dX3_openWindows_20 ?_
          refine G_iload_n hO 2 dX3_openWindows_23 rfl rfl ?_
          have hr2 : Int32.toNatClampNeg v2 < 6 := lt_in hs.1
          refine C_aaldR hO (v := .ref (ad n ((Int32.toNatClampNeg v2) + 9))) (hm 4 (by decide)) (st_4 _ _ _ _) hs.1 rfl dX3_openWindows_24 ?_
          replace hs := hs.2
          refine C_getf hO (v := .int (c ((Int32.toNatClampNeg v2) + 9) 3)) cl2 3 (hm _ (l15_9 hr2)) (st_r _ _ _ _ _) (by decide) mw_72 rfl rfl dX3_openWindows_25 ?_
          refine G_if_eq hO 35 dX3_openWindows_28 (by decide) (fun h3 => ?_) (fun h3 => ?_)
          · replace hs := hs.1 h3
            refine G_iconst hO 0 dX3_openWindows_35 (by decide) ?_
            refine G_iadd hO dX3_openWindows_36 ?_
            refine G_istore_n hO [(1, .int (v1 + 0)), (0, .ref (ad n 0)), (2, .int v2)] dX3_openWindows_37 rfl (by decide) rfl ?_
            refine G_iinc hO 2 (v2 + 1) [(2, .int (v2 + 1)), (1, .int (v1 + 0)), (0, .ref (ad n 0))] dX3_openWindows_38 rfl rfl (by decide) rfl ?_
            refine G_goto hO 4 dX3_openWindows_41 (by decide) ?_
            refine G_lv hO [(0, .ref (ad n 0)), (1, .int (v1 + 0)), (2, .int (v2 + 1))] [2, 1, 0] rfl ?_
            exact ih4 _ _ _ hs
          · replace hs := hs.2 h3
            refine G_iconst hO 1 dX3_openWindows_31 (by decide) ?_
            refine G_goto hO 36 dX3_openWindows_32 (by decide) ?_
            refine G_iadd hO dX3_openWindows_36 ?_
            refine G_istore_n hO [(1, .int (v1 + 1)), (0, .ref (ad n 0)), (2, .int v2)] dX3_openWindows_37 rfl (by decide) rfl ?_
            refine G_iinc hO 2 (v2 + 1) [(2, .int (v2 + 1)), (1, .int (v1 + 1)), (0, .ref (ad n 0))] dX3_openWindows_38 rfl rfl (by decide) rfl ?_
            refine G_goto hO 4 dX3_openWindows_41 (by decide) ?_
            refine G_lv hO [(0, .ref (ad n 0)), (1, .int (v1 + 1)), (2, .int (v2 + 1))] [2, 1, 0] rfl ?_
            exact ih4 _ _ _ hs
  unfold wX3_openWindows at hs
  refine G_iconst hO 0 dX3_openWindows_0 (by decide) ?_
  refine G_istore_n hO [(1, .int 0), (0, .ref (ad n 0))] dX3_openWindows_1 rfl (by decide) rfl ?_
  refine G_iconst hO 0 dX3_openWindows_2 (by decide) ?_
  refine G_istore_n hO [(2, .int 0), (1, .int 0), (0, .ref (ad n 0))] dX3_openWindows_3 rfl (by decide) rfl ?_
  obtain ⟨Nf1, hs⟩ := hs
  refine G_lv hO [(0, .ref (ad n 0)), (1, .int 0), (2, .int 0)] [2, 1, 0] rfl ?_
  exact b4 Nf1 _ _ _ hs
set_option maxHeartbeats 4000000 in
set_option maxRecDepth 20000 in
theorem c_X3_heatMade {l : Launch} {Λ : Lay} {B : Zn} {ids : List (Nat × Nat)} {ad : Nat → Nat → Nat} {w : Nat → Nat → va_E} {n : Nat} (hm : ∀ j, j < 15 → (n, j) ∈ ids) {c : Reg} {P : Int32 → Reg → Prop} (hs : wX3_heatMade c P) : CT l yX3_heatMade cX3_heatMade 1 (some .int) { frames := 1, cells := 0, slots := 0, locals := 23 } Λ B ids ad (va_up w n (stSh Λ ad n c)) [.ref (ad n 0)] (Ri ids ad w n (stSh Λ ad n) P) := by
  refine CT.of RX3 [(0, .ref (ad n 0))] (plainFor_of_name (by decide +kernel)) rfl (Nat.le_of_ble_eq_true rfl) rfl (fun Γ hO hF => ?_)
  unfold wX3_heatMade at hs
  refine G_aload_n hO 0 dX3_heatMade_0 rfl rfl ?_
  refine C_getf hO (v := .ref (ad n 5)) cl3 13 (hm 0 (by decide)) (st_0 _ _ _ _) (by decide) mw_129 rfl rfl dX3_heatMade_1 ?_
  refine G_bipush hO 9 dX3_heatMade_4 (by decide) ?_
  refine G_iconst hO 0 dX3_heatMade_6 (by decide) ?_
  refine KV_Ri hO (rest := []) [.int 9, .int 0] (fun l => c_X1_sumBetween hm hs) cv_X1_sumBetween mw_546 mw_547 mw_751 (hm 5 (by decide)) cl1 (by rw [va_us]; exact (st_5 _ _ _ _)) rfl rfl (Nat.le_of_ble_eq_true rfl) (by decide) rfl rfl (Nat.zero_le _) (Nat.zero_le _) dX3_heatMade_7 ?_
  intro r1 c2 hs
  exact G_iret hO hF rfl (Nat.zero_le _) (Nat.zero_le _) dX3_heatMade_10 ⟨rfl, rfl, _, _, rfl, rfl, hs⟩
set_option maxHeartbeats 4000000 in
set_option maxRecDepth 20000 in
theorem c_X3_isAsWarmAsWanted {l : Launch} {Λ : Lay} {B : Zn} {ids : List (Nat × Nat)} {ad : Nat → Nat → Nat} {w : Nat → Nat → va_E} {n : Nat} (hm : ∀ j, j < 15 → (n, j) ∈ ids) {a1 : Int32} {c : Reg} {P : Int32 → Reg → Prop} (hs : wX3_isAsWarmAsWanted a1 c P) : CT l yX3_isAsWarmAsWanted cX3_isAsWarmAsWanted 2 (some .boolean) { frames := 2, cells := 0, slots := 0, locals := 43 } Λ B ids ad (va_up w n (stSh Λ ad n c)) [.ref (ad n 0), .int a1] (Ri ids ad w n (stSh Λ ad n) P) := by
  refine CT.of RX3 [(0, .ref (ad n 0)), (1, .int a1)] (plainFor_of_name (by decide +kernel)) rfl (Nat.le_of_ble_eq_true rfl) rfl (fun Γ hO hF => ?_)
  unfold wX3_isAsWarmAsWanted at hs
  refine G_aload_n hO 0 dX3_isAsWarmAsWanted_0 rfl rfl ?_
  refine G_iload_n hO 1 dX3_isAsWarmAsWanted_1 rfl rfl ?_
  refine KV_Ri hO (rest := []) [.int a1] (fun l => c_X3_hasRoom hm hs) cv_X3_hasRoom mw_494 mw_495 mw_493 (hm 0 (by decide)) cl3 (by rw [va_us]; exact (st_0 _ _ _ _)) rfl rfl (Nat.le_of_ble_eq_true rfl) (by decide) rfl rfl (Nat.zero_le _) (Nat.zero_le _) dX3_isAsWarmAsWanted_2 ?_
  intro r1 c2 hs
  refine G_if_eq hO 31 dX3_isAsWarmAsWanted_5 (by decide) (fun h7 => ?_) (fun h7 => ?_)
  · replace hs := hs.1 h7
    refine G_iconst hO 0 dX3_isAsWarmAsWanted_31 (by decide) ?_
    exact G_zret hO hF rfl (Nat.zero_le _) (Nat.zero_le _) rfl dX3_isAsWarmAsWanted_32 ⟨rfl, rfl, _, _, rfl, rfl, hs⟩
  · replace hs := hs.2 h7
    refine G_aload_n hO 0 dX3_isAsWarmAsWanted_8 rfl rfl ?_
    refine G_iconst hO 2 dX3_isAsWarmAsWanted_9 (by decide) ?_
    refine G_iload_n hO 1 dX3_isAsWarmAsWanted_10 rfl rfl ?_
    refine G_iadd hO dX3_isAsWarmAsWanted_11 ?_
    refine KV_Ri hO (rest := []) [.int (2 + a1)] (fun l => c_X3_degrees hm hs) cv_X3_degrees mw_503 mw_504 mw_656 (hm 0 (by decide)) cl3 (by rw [va_us]; exact (st_0 _ _ _ _)) rfl rfl (Nat.le_of_ble_eq_true rfl) (by decide) rfl rfl (Nat.zero_le _) (Nat.zero_le _) dX3_isAsWarmAsWanted_12 ?_
    intro r3 c4 hs
    refine G_aload_n hO 0 dX3_isAsWarmAsWanted_15 rfl rfl ?_
    refine C_getf hO (v := .ref (ad n 4)) cl3 12 (hm 0 (by decide)) (st_0 _ _ _ _) (by decide) mw_127 rfl rfl dX3_isAsWarmAsWanted_16 ?_
    refine G_iload_n hO 1 dX3_isAsWarmAsWanted_19 rfl rfl ?_
    have hr5 : Int32.toNatClampNeg a1 < 6 := lt_in hs.1
    refine C_aaldR hO (v := .ref (ad n ((Int32.toNatClampNeg a1) + 9))) (hm 4 (by decide)) (st_4 _ _ _ _) hs.1 rfl dX3_isAsWarmAsWanted_20 ?_
    replace hs := hs.2
    refine C_getf hO (v := .int (c4 ((Int32.toNatClampNeg a1) + 9) 0)) cl2 0 (hm _ (l15_9 hr5)) (st_r _ _ _ _ _) (by decide) mw_64 rfl rfl dX3_isAsWarmAsWanted_21 ?_
    refine G_icmp_lt hO 31 dX3_isAsWarmAsWanted_24 (by decide) (fun h6 => ?_) (fun h6 => ?_)
    · replace hs := hs.1 h6
      refine G_iconst hO 0 dX3_isAsWarmAsWanted_31 (by decide) ?_
      exact G_zret hO hF rfl (Nat.zero_le _) (Nat.zero_le _) rfl dX3_isAsWarmAsWanted_32 ⟨rfl, rfl, _, _, rfl, rfl, hs⟩
    · replace hs := hs.2 h6
      refine G_iconst hO 1 dX3_isAsWarmAsWanted_27 (by decide) ?_
      refine G_goto hO 32 dX3_isAsWarmAsWanted_28 (by decide) ?_
      exact G_zret hO hF rfl (Nat.zero_le _) (Nat.zero_le _) rfl dX3_isAsWarmAsWanted_32 ⟨rfl, rfl, _, _, rfl, rfl, hs⟩
set_option maxHeartbeats 4000000 in
set_option maxRecDepth 20000 in
theorem c_X3_warmRooms {l : Launch} {Λ : Lay} {B : Zn} {ids : List (Nat × Nat)} {ad : Nat → Nat → Nat} {w : Nat → Nat → va_E} {n : Nat} (hm : ∀ j, j < 15 → (n, j) ∈ ids) {c : Reg} {P : Int32 → Reg → Prop} (hs : wX3_warmRooms c P) : CT l yX3_warmRooms cX3_warmRooms 3 (some .int) { frames := 3, cells := 0, slots := 0, locals := 64 } Λ B ids ad (va_up w n (stSh Λ ad n c)) [.ref (ad n 0)] (Ri ids ad w n (stSh Λ ad n) P) := by
  refine CT.of RX3 [(0, .ref (ad n 0))] (plainFor_of_name (by decide +kernel)) rfl (Nat.le_of_ble_eq_true rfl) rfl (fun Γ hO hF => ?_)
  have b4 : ∀ (N4 : Nat) (v1 : Int32) (v2 : Int32) (c : Reg), wX3_warmRooms_L4 P N4 v1 v2 c → G Γ ids ad 0 0 (va_up w n (stSh Λ ad n c)) 4 [(0, .ref (ad n 0)), (1, .int v1), (2, .int v2)] [] := by
    intro N4
    induction N4 with
    | zero => intro v1 v2 c hs; exact False.elim hs
    | succ N4 ih4 =>
      intro v1 v2 c hs
      unfold wX3_warmRooms_L4 at hs
      refine G_iload_n hO 2 dX3_warmRooms_4 rfl rfl ?_
      refine G_aload_n hO 0 dX3_warmRooms_5 rfl rfl ?_
      refine C_getf hO (v := .int (c 0 8)) cl3 8 (hm 0 (by decide)) (st_0 _ _ _ _) (by decide) mw_122 rfl rfl dX3_warmRooms_6 ?_
      refine G_icmp_ge hO 38 dX3_warmRooms_9 (by decide) (fun h6 => ?_) (fun h6 => ?_)
      · replace hs := hs.1 h6
        refine G_iload_n hO 1 dX3_warmRooms_38 rfl rfl ?_
        exact G_iret hO hF rfl (Nat.zero_le _) (Nat.zero_le _) dX3_warmRooms_39 ⟨rfl, rfl, _, _, rfl, rfl, hs⟩
      · replace hs := hs.2 h6
        refine G_iload_n hO 2 dX3_warmRooms_12 rfl rfl ?_
        refine G_bipush hO 6 dX3_warmRooms_13 (by decide) ?_
        refine G_icmp_ge hO 38 dX3_warmRooms_15 (by decide) (fun h5 => ?_) (fun h5 => ?_)
        · replace hs := hs.1 h5
          refine G_iload_n hO 1 dX3_warmRooms_38 rfl rfl ?_
          exact G_iret hO hF rfl (Nat.zero_le _) (Nat.zero_le _) dX3_warmRooms_39 ⟨rfl, rfl, _, _, rfl, rfl, hs⟩
        · replace hs := hs.2 h5
          refine G_aload_n hO 0 dX3_warmRooms_18 rfl rfl ?_
          refine G_iload_n hO 2 dX3_warmRooms_19 rfl rfl ?_
          refine KV_Ri hO (rest := []) [.int v2] (fun l => c_X3_isAsWarmAsWanted hm hs) cv_X3_isAsWarmAsWanted mw_713 mw_714 mw_739 (hm 0 (by decide)) cl3 (by rw [va_us]; exact (st_0 _ _ _ _)) rfl rfl (Nat.le_of_ble_eq_true rfl) (by decide) rfl rfl (Nat.zero_le _) (Nat.zero_le _) dX3_warmRooms_20 ?_
          intro r2 c3 hs
          refine G_if_eq hO 32 dX3_warmRooms_23 (by decide) (fun h4 => ?_) (fun h4 => ?_)
          · replace hs := hs.1 h4
            refine G_iinc hO 2 (v2 + 1) [(2, .int (v2 + 1)), (0, .ref (ad n 0)), (1, .int v1)] dX3_warmRooms_32 rfl rfl (by decide) rfl ?_
            refine G_goto hO 4 dX3_warmRooms_35 (by decide) ?_
            refine G_lv hO [(0, .ref (ad n 0)), (1, .int v1), (2, .int (v2 + 1))] [1, 2, 0] rfl ?_
            exact ih4 _ _ _ hs
          · replace hs := hs.2 h4
            refine G_iload_n hO 1 dX3_warmRooms_26 rfl rfl ?_
            refine G_iconst hO 1 dX3_warmRooms_27 (by decide) ?_
            refine G_iload_n hO 2 dX3_warmRooms_28 rfl rfl ?_
            refine G_ishl hO dX3_warmRooms_29 ?_
            refine G_ior hO dX3_warmRooms_30 ?_
            refine G_istore_n hO [(1, .int (v1 ||| (1 <<< (v2 &&& 31)))), (0, .ref (ad n 0)), (2, .int v2)] dX3_warmRooms_31 rfl (by decide) rfl ?_
            refine G_iinc hO 2 (v2 + 1) [(2, .int (v2 + 1)), (1, .int (v1 ||| (1 <<< (v2 &&& 31)))), (0, .ref (ad n 0))] dX3_warmRooms_32 rfl rfl (by decide) rfl ?_
            refine G_goto hO 4 dX3_warmRooms_35 (by decide) ?_
            refine G_lv hO [(0, .ref (ad n 0)), (1, .int (v1 ||| (1 <<< (v2 &&& 31)))), (2, .int (v2 + 1))] [2, 1, 0] rfl ?_
            exact ih4 _ _ _ hs
  unfold wX3_warmRooms at hs
  refine G_iconst hO 0 dX3_warmRooms_0 (by decide) ?_
  refine G_istore_n hO [(1, .int 0), (0, .ref (ad n 0))] dX3_warmRooms_1 rfl (by decide) rfl ?_
  refine G_iconst hO 0 dX3_warmRooms_2 (by decide) ?_
  refine G_istore_n hO [(2, .int 0), (1, .int 0), (0, .ref (ad n 0))] dX3_warmRooms_3 rfl (by decide) rfl ?_
  obtain ⟨Nf1, hs⟩ := hs
  refine G_lv hO [(0, .ref (ad n 0)), (1, .int 0), (2, .int 0)] [2, 1, 0] rfl ?_
  exact b4 Nf1 _ _ _ hs
set_option maxHeartbeats 4000000 in
set_option maxRecDepth 20000 in
theorem c_X3_loopShouldHave {l : Launch} {Λ : Lay} {B : Zn} {ids : List (Nat × Nat)} {ad : Nat → Nat → Nat} {w : Nat → Nat → va_E} {n : Nat} (hm : ∀ j, j < 15 → (n, j) ∈ ids) {c : Reg} {P : Int32 → Reg → Prop} (hs : wX3_loopShouldHave c P) : CT l yX3_loopShouldHave cX3_loopShouldHave 1 (some .int) { frames := 1, cells := 0, slots := 0, locals := 21 } Λ B ids ad (va_up w n (stSh Λ ad n c)) [.ref (ad n 0)] (Ri ids ad w n (stSh Λ ad n) P) := by
  refine CT.of RX3 [(0, .ref (ad n 0))] (plainFor_of_name (by decide +kernel)) rfl (Nat.le_of_ble_eq_true rfl) rfl (fun Γ hO hF => ?_)
  unfold wX3_loopShouldHave at hs
  refine G_aload_n hO 0 dX3_loopShouldHave_0 rfl rfl ?_
  refine C_getf hO (v := .int (c 0 1)) cl3 1 (hm 0 (by decide)) (st_0 _ _ _ _) (by decide) mw_107 rfl rfl dX3_loopShouldHave_1 ?_
  refine G_bipush hO 20 dX3_loopShouldHave_4 (by decide) ?_
  refine G_icmp_lt hO 12 dX3_loopShouldHave_6 (by decide) (fun h3 => ?_) (fun h3 => ?_)
  · replace hs := hs.1 h3
    refine G_bipush hO 70 dX3_loopShouldHave_12 (by decide) ?_
    refine G_bipush hO 20 dX3_loopShouldHave_14 (by decide) ?_
    refine G_aload_n hO 0 dX3_loopShouldHave_16 rfl rfl ?_
    refine G_iconst hO 4 dX3_loopShouldHave_17 (by decide) ?_
    refine KV_Ri hO (rest := [.int 20, .int 70]) [.int 4] (fun l => c_X3_settingOf hm hs) cv_X3_settingOf mw_441 mw_442 mw_440 (hm 0 (by decide)) cl3 (by rw [va_us]; exact (st_0 _ _ _ _)) rfl rfl (Nat.le_of_ble_eq_true rfl) (by decide) rfl rfl (Nat.zero_le _) (Nat.zero_le _) dX3_loopShouldHave_18 ?_
    intro r1 c2 hs
    refine G_bipush hO 20 dX3_loopShouldHave_21 (by decide) ?_
    refine G_aload_n hO 0 dX3_loopShouldHave_23 rfl rfl ?_
    refine C_getf hO (v := .int (c2 0 1)) cl3 1 (hm 0 (by decide)) (st_0 _ _ _ _) (by decide) mw_107 rfl rfl dX3_loopShouldHave_24 ?_
    refine G_isub hO dX3_loopShouldHave_27 ?_
    refine G_imul hO dX3_loopShouldHave_28 ?_
    refine G_bipush hO 10 dX3_loopShouldHave_29 (by decide) ?_
    refine G_idiv hO dX3_loopShouldHave_31 (by decide) ?_
    refine G_iadd hO dX3_loopShouldHave_32 ?_
    refine G_mmin hO mw_444 mw_445 mw_7 mw_446 (by decide) (Nat.le_of_ble_eq_true rfl) (Nat.zero_le _) (Nat.zero_le _) dX3_loopShouldHave_33 ?_
    exact G_iret hO hF rfl (Nat.zero_le _) (Nat.zero_le _) dX3_loopShouldHave_36 ⟨rfl, rfl, _, _, rfl, rfl, hs⟩
  · replace hs := hs.2 h3
    refine G_bipush hO 20 dX3_loopShouldHave_9 (by decide) ?_
    exact G_iret hO hF rfl (Nat.zero_le _) (Nat.zero_le _) dX3_loopShouldHave_11 ⟨rfl, rfl, _, _, rfl, rfl, hs⟩
set_option maxHeartbeats 4000000 in
set_option maxRecDepth 20000 in
theorem c_X3_heatRooms {l : Launch} {Λ : Lay} {B : Zn} {ids : List (Nat × Nat)} {ad : Nat → Nat → Nat} {w : Nat → Nat → va_E} {n : Nat} (hm : ∀ j, j < 15 → (n, j) ∈ ids) {c : Reg} {P : Reg → Prop} (hs : wX3_heatRooms c P) : CT l yX3_heatRooms cX3_heatRooms 4 none { frames := 2, cells := 0, slots := 0, locals := 47 } Λ B ids ad (va_up w n (stSh Λ ad n c)) [.ref (ad n 0)] (Rv ids ad w n (stSh Λ ad n) P) := by
  refine CT.of RX3 [(0, .ref (ad n 0))] (plainFor_of_name (by decide +kernel)) rfl (Nat.le_of_ble_eq_true rfl) rfl (fun Γ hO hF => ?_)
  have b2 : ∀ (N2 : Nat) (v1 : Int32) (c : Reg), wX3_heatRooms_L2 P N2 v1 c → G Γ ids ad 0 0 (va_up w n (stSh Λ ad n c)) 2 [(0, .ref (ad n 0)), (1, .int v1)] [] := by
    intro N2
    induction N2 with
    | zero => intro v1 c hs; exact False.elim hs
    | succ N2 ih2 =>
      intro v1 c hs
      unfold wX3_heatRooms_L2 at hs
      refine G_iload_n hO 1 dX3_heatRooms_2 rfl rfl ?_
      refine G_aload_n hO 0 dX3_heatRooms_3 rfl rfl ?_
      refine C_getf hO (v := .int (c 0 8)) cl3 8 (hm 0 (by decide)) (st_0 _ _ _ _) (by decide) mw_122 rfl rfl dX3_heatRooms_4 ?_
      refine G_icmp_ge hO 80 dX3_heatRooms_7 (by decide) (fun h12 => ?_) (fun h12 => ?_)
      · replace hs := hs.1 h12
        exact G_vret hO hF rfl (Nat.zero_le _) (Nat.zero_le _) dX3_heatRooms_80 ⟨rfl, rfl, _, rfl, rfl, hs⟩
      · replace hs := hs.2 h12
        refine G_iload_n hO 1 dX3_heatRooms_10 rfl rfl ?_
        refine G_bipush hO 6 dX3_heatRooms_11 (by decide) ?_
        refine G_icmp_ge hO 80 dX3_heatRooms_13 (by decide) (fun h11 => ?_) (fun h11 => ?_)
        · replace hs := hs.1 h11
          exact G_vret hO hF rfl (Nat.zero_le _) (Nat.zero_le _) dX3_heatRooms_80 ⟨rfl, rfl, _, rfl, rfl, hs⟩
        · replace hs := hs.2 h11
          refine G_aload_n hO 0 dX3_heatRooms_16 rfl rfl ?_
          refine G_iconst hO 2 dX3_heatRooms_17 (by decide) ?_
          refine G_iload_n hO 1 dX3_heatRooms_18 rfl rfl ?_
          refine G_iadd hO dX3_heatRooms_19 ?_
          refine KV_Ri hO (rest := []) [.int (2 + v1)] (fun l => c_X3_degrees hm hs) cv_X3_degrees mw_503 mw_504 mw_656 (hm 0 (by decide)) cl3 (by rw [va_us]; exact (st_0 _ _ _ _)) rfl rfl (Nat.le_of_ble_eq_true rfl) (by decide) rfl rfl (Nat.zero_le _) (Nat.zero_le _) dX3_heatRooms_20 ?_
          intro r2 c3 hs
          refine G_istore_n hO [(2, .int r2), (0, .ref (ad n 0)), (1, .int v1)] dX3_heatRooms_23 rfl (by decide) rfl ?_
          refine G_aload_n hO 1 dX3_heatRooms_24 rfl rfl ?_
          refine G_iconst hO 1 dX3_heatRooms_25 (by decide) ?_
          refine KV_Ri hO (rest := []) [.int 1] (fun l => c_X3_degrees hm hs) cv_X3_degrees mw_503 mw_504 mw_656 (hm 0 (by decide)) cl3 (by rw [va_us]; exact (st_0 _ _ _ _)) rfl rfl (Nat.le_of_ble_eq_true rfl) (by decide) rfl rfl (Nat.zero_le _) (Nat.zero_le _) dX3_heatRooms_26 ?_
          intro r4 c5 hs
          refine G_iload_n hO 0 dX3_heatRooms_29 rfl rfl ?_
          refine G_isub hO dX3_heatRooms_30 ?_
          refine G_istore_n hO [(3, .int (r4 - r2)), (2, .int r2), (0, .ref (ad n 0)), (1, .int v1)] dX3_heatRooms_31 rfl (by decide) rfl ?_
          refine G_iload_n hO 1 dX3_heatRooms_32 rfl rfl ?_
          refine G_aload_n hO 2 dX3_heatRooms_33 rfl rfl ?_
          refine C_getf hO (v := .ref (ad n 4)) cl3 12 (hm 0 (by decide)) (st_0 _ _ _ _) (by decide) mw_127 rfl rfl dX3_heatRooms_34 ?_
          refine G_iload_n hO 3 dX3_heatRooms_37 rfl rfl ?_
          have hr6 : Int32.toNatClampNeg v1 < 6 := lt_in hs.1
          refine C_aaldR hO (v := .ref (ad n ((Int32.toNatClampNeg v1) + 9))) (hm 4 (by decide)) (st_4 _ _ _ _) hs.1 rfl dX3_heatRooms_38 ?_
          replace hs := hs.2
          refine C_getf hO (v := .int (c5 ((Int32.toNatClampNeg v1) + 9) 0)) cl2 0 (hm _ (l15_9 hr6)) (st_r _ _ _ _ _) (by decide) mw_64 rfl rfl dX3_heatRooms_39 ?_
          refine G_icmp_ge hO 74 dX3_heatRooms_42 (by decide) (fun h10 => ?_) (fun h10 => ?_)
          · replace hs := hs.1 h10
            refine G_iinc hO 3 (v1 + 1) [(1, .int (v1 + 1)), (3, .int (r4 - r2)), (2, .int r2), (0, .ref (ad n 0))] dX3_heatRooms_74 rfl rfl (by decide) rfl ?_
            refine G_goto hO 2 dX3_heatRooms_77 (by decide) ?_
            refine G_lv hO [(0, .ref (ad n 0)), (1, .int (v1 + 1))] [3, 0] rfl ?_
            exact ih2 _ _ hs
          · replace hs := hs.2 h10
            refine G_iload_n hO 0 dX3_heatRooms_45 rfl rfl ?_
            refine G_if_le hO 74 dX3_heatRooms_46 (by decide) (fun h9 => ?_) (fun h9 => ?_)
            · replace hs := hs.1 h9
              refine G_iinc hO 3 (v1 + 1) [(1, .int (v1 + 1)), (3, .int (r4 - r2)), (2, .int r2), (0, .ref (ad n 0))] dX3_heatRooms_74 rfl rfl (by decide) rfl ?_
              refine G_goto hO 2 dX3_heatRooms_77 (by decide) ?_
              refine G_lv hO [(0, .ref (ad n 0)), (1, .int (v1 + 1))] [3, 0] rfl ?_
              exact ih2 _ _ hs
            · replace hs := hs.2 h9
              refine G_aload_n hO 2 dX3_heatRooms_49 rfl rfl ?_
              refine G_iconst hO 1 dX3_heatRooms_50 (by decide) ?_
              refine G_iconst hO 2 dX3_heatRooms_51 (by decide) ?_
              refine G_iload_n hO 3 dX3_heatRooms_52 rfl rfl ?_
              refine G_iadd hO dX3_heatRooms_53 ?_
              refine G_iconst hO 1 dX3_heatRooms_54 (by decide) ?_
              refine G_aload_n hO 2 dX3_heatRooms_55 rfl rfl ?_
              refine C_getf hO (v := .ref (ad n 4)) cl3 12 (hm 0 (by decide)) (st_0 _ _ _ _) (by decide) mw_127 rfl rfl dX3_heatRooms_56 ?_
              refine G_iload_n hO 3 dX3_heatRooms_59 rfl rfl ?_
              have hr7 : Int32.toNatClampNeg v1 < 6 := lt_in hs.1
              refine C_aaldR hO (v := .ref (ad n ((Int32.toNatClampNeg v1) + 9))) (hm 4 (by decide)) (st_4 _ _ _ _) hs.1 rfl dX3_heatRooms_60 ?_
              replace hs := hs.2
              refine C_getf hO (v := .int (c5 ((Int32.toNatClampNeg v1) + 9) 1)) cl2 1 (hm _ (l15_9 hr7)) (st_r _ _ _ _ _) (by decide) mw_67 rfl rfl dX3_heatRooms_61 ?_
              refine G_iload_n hO 0 dX3_heatRooms_64 rfl rfl ?_
              refine G_imul hO dX3_heatRooms_65 ?_
              refine G_iconst hO 4 dX3_heatRooms_66 (by decide) ?_
              refine G_idiv hO dX3_heatRooms_67 (by decide) ?_
              refine G_mmax hO mw_670 mw_671 mw_7 mw_672 (by decide) (Nat.le_of_ble_eq_true rfl) (Nat.zero_le _) (Nat.zero_le _) dX3_heatRooms_68 ?_
              refine KV_Rv hO (rest := []) [.int 1, .int (2 + v1), .int (if 1 < (((c5 ((Int32.toNatClampNeg v1) + 9) 1) * (r4 - r2)) / 4) then (((c5 ((Int32.toNatClampNeg v1) + 9) 1) * (r4 - r2)) / 4) else 1)] (fun l => c_X3_move hm hs) cv_X3_move mw_287 ms_6 mw_285 (hm 0 (by decide)) cl3 (by rw [va_us]; exact (st_0 _ _ _ _)) rfl rfl (Nat.le_of_ble_eq_true rfl) (by decide) rfl rfl (Nat.zero_le _) (Nat.zero_le _) dX3_heatRooms_71 ?_
              intro c8 hs
              refine G_iinc hO 3 (v1 + 1) [(1, .int (v1 + 1)), (3, .int (r4 - r2)), (2, .int r2), (0, .ref (ad n 0))] dX3_heatRooms_74 rfl rfl (by decide) rfl ?_
              refine G_goto hO 2 dX3_heatRooms_77 (by decide) ?_
              refine G_lv hO [(0, .ref (ad n 0)), (1, .int (v1 + 1))] [3, 0] rfl ?_
              exact ih2 _ _ hs
  unfold wX3_heatRooms at hs
  refine G_iconst hO 0 dX3_heatRooms_0 (by decide) ?_
  refine G_istore_n hO [(1, .int 0), (0, .ref (ad n 0))] dX3_heatRooms_1 rfl (by decide) rfl ?_
  obtain ⟨Nf1, hs⟩ := hs
  refine G_lv hO [(0, .ref (ad n 0)), (1, .int 0)] [1, 0] rfl ?_
  exact b2 Nf1 _ _ hs
set_option maxHeartbeats 4000000 in
set_option maxRecDepth 20000 in
theorem c_X3_judgeRooms {l : Launch} {Λ : Lay} {B : Zn} {ids : List (Nat × Nat)} {ad : Nat → Nat → Nat} {w : Nat → Nat → va_E} {n : Nat} (hm : ∀ j, j < 15 → (n, j) ∈ ids) {c : Reg} {P : Reg → Prop} (hs : wX3_judgeRooms c P) : CT l yX3_judgeRooms cX3_judgeRooms 2 none { frames := 2, cells := 0, slots := 0, locals := 43 } Λ B ids ad (va_up w n (stSh Λ ad n c)) [.ref (ad n 0)] (Rv ids ad w n (stSh Λ ad n) P) := by
  refine CT.of RX3 [(0, .ref (ad n 0))] (plainFor_of_name (by decide +kernel)) rfl (Nat.le_of_ble_eq_true rfl) rfl (fun Γ hO hF => ?_)
  have b2 : ∀ (N2 : Nat) (v1 : Int32) (c : Reg), wX3_judgeRooms_L2 P N2 v1 c → G Γ ids ad 0 0 (va_up w n (stSh Λ ad n c)) 2 [(0, .ref (ad n 0)), (1, .int v1)] [] := by
    intro N2
    induction N2 with
    | zero => intro v1 c hs; exact False.elim hs
    | succ N2 ih2 =>
      intro v1 c hs
      unfold wX3_judgeRooms_L2 at hs
      refine G_iload_n hO 1 dX3_judgeRooms_2 rfl rfl ?_
      refine G_aload_n hO 0 dX3_judgeRooms_3 rfl rfl ?_
      refine C_getf hO (v := .int (c 0 8)) cl3 8 (hm 0 (by decide)) (st_0 _ _ _ _) (by decide) mw_122 rfl rfl dX3_judgeRooms_4 ?_
      refine G_icmp_ge hO 38 dX3_judgeRooms_7 (by decide) (fun h7 => ?_) (fun h7 => ?_)
      · replace hs := hs.1 h7
        exact G_vret hO hF rfl (Nat.zero_le _) (Nat.zero_le _) dX3_judgeRooms_38 ⟨rfl, rfl, _, rfl, rfl, hs⟩
      · replace hs := hs.2 h7
        refine G_iload_n hO 1 dX3_judgeRooms_10 rfl rfl ?_
        refine G_bipush hO 6 dX3_judgeRooms_11 (by decide) ?_
        refine G_icmp_ge hO 38 dX3_judgeRooms_13 (by decide) (fun h6 => ?_) (fun h6 => ?_)
        · replace hs := hs.1 h6
          exact G_vret hO hF rfl (Nat.zero_le _) (Nat.zero_le _) dX3_judgeRooms_38 ⟨rfl, rfl, _, rfl, rfl, hs⟩
        · replace hs := hs.2 h6
          refine G_aload_n hO 0 dX3_judgeRooms_16 rfl rfl ?_
          refine C_getf hO (v := .ref (ad n 4)) cl3 12 (hm 0 (by decide)) (st_0 _ _ _ _) (by decide) mw_127 rfl rfl dX3_judgeRooms_17 ?_
          refine G_iload_n hO 1 dX3_judgeRooms_20 rfl rfl ?_
          have hr2 : Int32.toNatClampNeg v1 < 6 := lt_in hs.1
          refine C_aaldR hO (v := .ref (ad n ((Int32.toNatClampNeg v1) + 9))) (hm 4 (by decide)) (st_4 _ _ _ _) hs.1 rfl dX3_judgeRooms_21 ?_
          replace hs := hs.2
          refine G_aload_n hO 0 dX3_judgeRooms_22 rfl rfl ?_
          refine G_iconst hO 2 dX3_judgeRooms_23 (by decide) ?_
          refine G_iload_n hO 1 dX3_judgeRooms_24 rfl rfl ?_
          refine G_iadd hO dX3_judgeRooms_25 ?_
          refine KV_Ri hO (rest := [.ref (ad n ((Int32.toNatClampNeg v1) + 9))]) [.int (2 + v1)] (fun l => c_X3_degrees hm hs) cv_X3_degrees mw_503 mw_504 mw_656 (hm 0 (by decide)) cl3 (by rw [va_us]; exact (st_0 _ _ _ _)) rfl rfl (Nat.le_of_ble_eq_true rfl) (by decide) rfl rfl (Nat.zero_le _) (Nat.zero_le _) dX3_judgeRooms_26 ?_
          intro r3 c4 hs
          refine KV_Rv hO (rest := []) [.int r3] (fun l => c_X2_judge hm hr2 hs) cv_X2_judge mw_694 mw_695 mw_693 (hm _ (l15_9 hr2)) cl2 (by rw [va_us]; exact (st_r _ _ _ _ _)) rfl rfl (Nat.le_of_ble_eq_true rfl) (by decide) rfl rfl (Nat.zero_le _) (Nat.zero_le _) dX3_judgeRooms_29 ?_
          intro c5 hs
          refine G_iinc hO 1 (v1 + 1) [(1, .int (v1 + 1)), (0, .ref (ad n 0))] dX3_judgeRooms_32 rfl rfl (by decide) rfl ?_
          refine G_goto hO 2 dX3_judgeRooms_35 (by decide) ?_
          refine G_lv hO [(0, .ref (ad n 0)), (1, .int (v1 + 1))] [1, 0] rfl ?_
          exact ih2 _ _ hs
  unfold wX3_judgeRooms at hs
  refine G_iconst hO 0 dX3_judgeRooms_0 (by decide) ?_
  refine G_istore_n hO [(1, .int 0), (0, .ref (ad n 0))] dX3_judgeRooms_1 rfl (by decide) rfl ?_
  obtain ⟨Nf1, hs⟩ := hs
  refine G_lv hO [(0, .ref (ad n 0)), (1, .int 0)] [1, 0] rfl ?_
  exact b2 Nf1 _ _ hs
set_option maxHeartbeats 4000000 in
set_option maxRecDepth 20000 in
theorem c_X3_leakRooms {l : Launch} {Λ : Lay} {B : Zn} {ids : List (Nat × Nat)} {ad : Nat → Nat → Nat} {w : Nat → Nat → va_E} {n : Nat} (hm : ∀ j, j < 15 → (n, j) ∈ ids) {c : Reg} {P : Reg → Prop} (hs : wX3_leakRooms c P) : CT l yX3_leakRooms cX3_leakRooms 4 none { frames := 2, cells := 0, slots := 0, locals := 47 } Λ B ids ad (va_up w n (stSh Λ ad n c)) [.ref (ad n 0)] (Rv ids ad w n (stSh Λ ad n) P) := by
  refine CT.of RX3 [(0, .ref (ad n 0))] (plainFor_of_name (by decide +kernel)) rfl (Nat.le_of_ble_eq_true rfl) rfl (fun Γ hO hF => ?_)
  have b2 : ∀ (N2 : Nat) (v1 : Int32) (c : Reg), wX3_leakRooms_L2 P N2 v1 c → G Γ ids ad 0 0 (va_up w n (stSh Λ ad n c)) 2 [(0, .ref (ad n 0)), (1, .int v1)] [] := by
    intro N2
    induction N2 with
    | zero => intro v1 c hs; exact False.elim hs
    | succ N2 ih2 =>
      have b51 : ∀ (v1 : Int32) (s0 : Int32) (c : Reg), wX3_leakRooms_L51 P (fun v1' c' => wX3_leakRooms_L2 P N2 v1' c') v1 s0 c → G Γ ids ad 0 0 (va_up w n (stSh Λ ad n c)) 51 [(0, .ref (ad n 0)), (1, .int v1)] [.int s0] := by
        intro v1 s0 c hs
        unfold wX3_leakRooms_L51 at hs
        refine G_istore_n hO [(2, .int s0), (0, .ref (ad n 0)), (1, .int v1)] dX3_leakRooms_51 rfl (by decide) rfl ?_
        refine G_iload_n hO 0 dX3_leakRooms_52 rfl rfl ?_
        refine G_aload_n hO 1 dX3_leakRooms_53 rfl rfl ?_
        refine G_iconst hO 2 dX3_leakRooms_54 (by decide) ?_
        refine G_iload_n hO 2 dX3_leakRooms_55 rfl rfl ?_
        refine G_iadd hO dX3_leakRooms_56 ?_
        refine KV_Ri hO (rest := [.int s0]) [.int (2 + v1)] (fun l => c_X3_degrees hm hs) cv_X3_degrees mw_503 mw_504 mw_656 (hm 0 (by decide)) cl3 (by rw [va_us]; exact (st_0 _ _ _ _)) rfl rfl (Nat.le_of_ble_eq_true rfl) (by decide) rfl rfl (Nat.zero_le _) (Nat.zero_le _) dX3_leakRooms_57 ?_
        intro r8 c9 hs
        refine G_aload_n hO 1 dX3_leakRooms_60 rfl rfl ?_
        refine C_getf hO (v := .int (c9 0 1)) cl3 1 (hm 0 (by decide)) (st_0 _ _ _ _) (by decide) mw_107 rfl rfl dX3_leakRooms_61 ?_
        refine G_isub hO dX3_leakRooms_64 ?_
        refine G_imul hO dX3_leakRooms_65 ?_
        refine G_bipush hO 8 dX3_leakRooms_66 (by decide) ?_
        refine KS_Ni hO (rest := []) [.int (s0 * (r8 - (c9 0 1))), .int 8] (fun l => c_J9_floorDiv_7cf53 hs) cv_J9_floorDiv_7cf53 mw_507 mw_506 rfl rfl (Nat.le_of_ble_eq_true rfl) (by decide) rfl rfl (Nat.zero_le _) (Nat.zero_le _) dX3_leakRooms_68 ?_
        intro r10 hs
        refine G_istore_n hO [(3, .int r10), (2, .int s0), (0, .ref (ad n 0)), (1, .int v1)] dX3_leakRooms_71 rfl (by decide) rfl ?_
        refine G_aload_n hO 2 dX3_leakRooms_72 rfl rfl ?_
        refine G_iconst hO 2 dX3_leakRooms_73 (by decide) ?_
        refine G_iload_n hO 3 dX3_leakRooms_74 rfl rfl ?_
        refine G_iadd hO dX3_leakRooms_75 ?_
        refine G_bipush hO 8 dX3_leakRooms_76 (by decide) ?_
        refine G_iload_n hO 0 dX3_leakRooms_78 rfl rfl ?_
        refine KV_Rv hO (rest := []) [.int (2 + v1), .int 8, .int r10] (fun l => c_X3_move hm hs) cv_X3_move mw_287 ms_6 mw_285 (hm 0 (by decide)) cl3 (by rw [va_us]; exact (st_0 _ _ _ _)) rfl rfl (Nat.le_of_ble_eq_true rfl) (by decide) rfl rfl (Nat.zero_le _) (Nat.zero_le _) dX3_leakRooms_79 ?_
        intro c11 hs
        refine G_aload_n hO 2 dX3_leakRooms_82 rfl rfl ?_
        refine G_bipush hO 8 dX3_leakRooms_83 (by decide) ?_
        refine G_iconst hO 2 dX3_leakRooms_85 (by decide) ?_
        refine G_iload_n hO 3 dX3_leakRooms_86 rfl rfl ?_
        refine G_iadd hO dX3_leakRooms_87 ?_
        refine G_iload_n hO 0 dX3_leakRooms_88 rfl rfl ?_
        refine G_ineg hO dX3_leakRooms_89 ?_
        refine KV_Rv hO (rest := []) [.int 8, .int (2 + v1), .int (-r10)] (fun l => c_X3_move hm hs) cv_X3_move mw_287 ms_6 mw_285 (hm 0 (by decide)) cl3 (by rw [va_us]; exact (st_0 _ _ _ _)) rfl rfl (Nat.le_of_ble_eq_true rfl) (by decide) rfl rfl (Nat.zero_le _) (Nat.zero_le _) dX3_leakRooms_90 ?_
        intro c12 hs
        refine G_iinc hO 3 (v1 + 1) [(1, .int (v1 + 1)), (3, .int r10), (2, .int s0), (0, .ref (ad n 0))] dX3_leakRooms_93 rfl rfl (by decide) rfl ?_
        refine G_goto hO 2 dX3_leakRooms_96 (by decide) ?_
        refine G_lv hO [(0, .ref (ad n 0)), (1, .int (v1 + 1))] [3, 0] rfl ?_
        exact ih2 _ _ hs
      intro v1 c hs
      unfold wX3_leakRooms_L2 at hs
      refine G_iload_n hO 1 dX3_leakRooms_2 rfl rfl ?_
      refine G_aload_n hO 0 dX3_leakRooms_3 rfl rfl ?_
      refine C_getf hO (v := .int (c 0 8)) cl3 8 (hm 0 (by decide)) (st_0 _ _ _ _) (by decide) mw_122 rfl rfl dX3_leakRooms_4 ?_
      refine G_icmp_ge hO 99 dX3_leakRooms_7 (by decide) (fun h7 => ?_) (fun h7 => ?_)
      · replace hs := hs.1 h7
        exact G_vret hO hF rfl (Nat.zero_le _) (Nat.zero_le _) dX3_leakRooms_99 ⟨rfl, rfl, _, rfl, rfl, hs⟩
      · replace hs := hs.2 h7
        refine G_iload_n hO 1 dX3_leakRooms_10 rfl rfl ?_
        refine G_bipush hO 6 dX3_leakRooms_11 (by decide) ?_
        refine G_icmp_ge hO 99 dX3_leakRooms_13 (by decide) (fun h6 => ?_) (fun h6 => ?_)
        · replace hs := hs.1 h6
          exact G_vret hO hF rfl (Nat.zero_le _) (Nat.zero_le _) dX3_leakRooms_99 ⟨rfl, rfl, _, rfl, rfl, hs⟩
        · replace hs := hs.2 h6
          refine G_aload_n hO 0 dX3_leakRooms_16 rfl rfl ?_
          refine C_getf hO (v := .ref (ad n 4)) cl3 12 (hm 0 (by decide)) (st_0 _ _ _ _) (by decide) mw_127 rfl rfl dX3_leakRooms_17 ?_
          refine G_iload_n hO 1 dX3_leakRooms_20 rfl rfl ?_
          have hr2 : Int32.toNatClampNeg v1 < 6 := lt_in hs.1
          refine C_aaldR hO (v := .ref (ad n ((Int32.toNatClampNeg v1) + 9))) (hm 4 (by decide)) (st_4 _ _ _ _) hs.1 rfl dX3_leakRooms_21 ?_
          replace hs := hs.2
          refine C_getf hO (v := .int (c ((Int32.toNatClampNeg v1) + 9) 3)) cl2 3 (hm _ (l15_9 hr2)) (st_r _ _ _ _ _) (by decide) mw_72 rfl rfl dX3_leakRooms_22 ?_
          refine G_if_eq hO 42 dX3_leakRooms_25 (by decide) (fun h5 => ?_) (fun h5 => ?_)
          · replace hs := hs.1 h5
            refine G_aload_n hO 0 dX3_leakRooms_42 rfl rfl ?_
            refine C_getf hO (v := .ref (ad n 4)) cl3 12 (hm 0 (by decide)) (st_0 _ _ _ _) (by decide) mw_127 rfl rfl dX3_leakRooms_43 ?_
            refine G_iload_n hO 1 dX3_leakRooms_46 rfl rfl ?_
            have hr3 : Int32.toNatClampNeg v1 < 6 := lt_in hs.1
            refine C_aaldR hO (v := .ref (ad n ((Int32.toNatClampNeg v1) + 9))) (hm 4 (by decide)) (st_4 _ _ _ _) hs.1 rfl dX3_leakRooms_47 ?_
            replace hs := hs.2
            refine C_getf hO (v := .int (c ((Int32.toNatClampNeg v1) + 9) 2)) cl2 2 (hm _ (l15_9 hr3)) (st_r _ _ _ _ _) (by decide) mw_70 rfl rfl dX3_leakRooms_48 ?_
            exact b51 _ _ _ hs
          · replace hs := hs.2 h5
            refine G_iconst hO 3 dX3_leakRooms_28 (by decide) ?_
            refine G_aload_n hO 0 dX3_leakRooms_29 rfl rfl ?_
            refine C_getf hO (v := .ref (ad n 4)) cl3 12 (hm 0 (by decide)) (st_0 _ _ _ _) (by decide) mw_127 rfl rfl dX3_leakRooms_30 ?_
            refine G_iload_n hO 1 dX3_leakRooms_33 rfl rfl ?_
            have hr4 : Int32.toNatClampNeg v1 < 6 := lt_in hs.1
            refine C_aaldR hO (v := .ref (ad n ((Int32.toNatClampNeg v1) + 9))) (hm 4 (by decide)) (st_4 _ _ _ _) hs.1 rfl dX3_leakRooms_34 ?_
            replace hs := hs.2
            refine C_getf hO (v := .int (c ((Int32.toNatClampNeg v1) + 9) 2)) cl2 2 (hm _ (l15_9 hr4)) (st_r _ _ _ _ _) (by decide) mw_70 rfl rfl dX3_leakRooms_35 ?_
            refine G_imul hO dX3_leakRooms_38 ?_
            refine G_goto hO 51 dX3_leakRooms_39 (by decide) ?_
            exact b51 _ _ _ hs
  unfold wX3_leakRooms at hs
  refine G_iconst hO 0 dX3_leakRooms_0 (by decide) ?_
  refine G_istore_n hO [(1, .int 0), (0, .ref (ad n 0))] dX3_leakRooms_1 rfl (by decide) rfl ?_
  obtain ⟨Nf1, hs⟩ := hs
  refine G_lv hO [(0, .ref (ad n 0)), (1, .int 0)] [1, 0] rfl ?_
  exact b2 Nf1 _ _ hs
set_option maxHeartbeats 4000000 in
set_option maxRecDepth 20000 in
theorem c_X3_mix {l : Launch} {Λ : Lay} {B : Zn} {ids : List (Nat × Nat)} {ad : Nat → Nat → Nat} {w : Nat → Nat → va_E} {n : Nat} (hm : ∀ j, j < 15 → (n, j) ∈ ids) {c : Reg} {P : Reg → Prop} (hs : wX3_mix c P) : CT l yX3_mix cX3_mix 2 none { frames := 2, cells := 0, slots := 0, locals := 47 } Λ B ids ad (va_up w n (stSh Λ ad n c)) [.ref (ad n 0)] (Rv ids ad w n (stSh Λ ad n) P) := by
  refine CT.of RX3 [(0, .ref (ad n 0))] (plainFor_of_name (by decide +kernel)) rfl (Nat.le_of_ble_eq_true rfl) rfl (fun Γ hO hF => ?_)
  unfold wX3_mix at hs
  refine G_aload_n hO 0 dX3_mix_0 rfl rfl ?_
  refine G_iconst hO 0 dX3_mix_1 (by decide) ?_
  refine KV_Ri hO (rest := []) [.int 0] (fun l => c_X3_degrees hm hs) cv_X3_degrees mw_503 mw_504 mw_656 (hm 0 (by decide)) cl3 (by rw [va_us]; exact (st_0 _ _ _ _)) rfl rfl (Nat.le_of_ble_eq_true rfl) (by decide) rfl rfl (Nat.zero_le _) (Nat.zero_le _) dX3_mix_2 ?_
  intro r1 c2 hs
  refine G_aload_n hO 0 dX3_mix_5 rfl rfl ?_
  refine G_iconst hO 1 dX3_mix_6 (by decide) ?_
  refine KV_Ri hO (rest := [.int r1]) [.int 1] (fun l => c_X3_degrees hm hs) cv_X3_degrees mw_503 mw_504 mw_656 (hm 0 (by decide)) cl3 (by rw [va_us]; exact (st_0 _ _ _ _)) rfl rfl (Nat.le_of_ble_eq_true rfl) (by decide) rfl rfl (Nat.zero_le _) (Nat.zero_le _) dX3_mix_7 ?_
  intro r3 c4 hs
  refine G_isub hO dX3_mix_10 ?_
  refine G_istore_n hO [(1, .int (r1 - r3)), (0, .ref (ad n 0))] dX3_mix_11 rfl (by decide) rfl ?_
  refine G_iload_n hO 0 dX3_mix_12 rfl rfl ?_
  refine G_if_le hO 38 dX3_mix_13 (by decide) (fun h8 => ?_) (fun h8 => ?_)
  · replace hs := hs.1 h8
    exact G_vret hO hF rfl (Nat.zero_le _) (Nat.zero_le _) dX3_mix_38 ⟨rfl, rfl, _, rfl, rfl, hs⟩
  · replace hs := hs.2 h8
    refine G_aload_n hO 1 dX3_mix_16 rfl rfl ?_
    refine G_iconst hO 0 dX3_mix_17 (by decide) ?_
    refine G_iconst hO 1 dX3_mix_18 (by decide) ?_
    refine G_aload_n hO 1 dX3_mix_19 rfl rfl ?_
    refine G_bipush hO 6 dX3_mix_20 (by decide) ?_
    refine KV_Ri hO (rest := [.int 1, .int 0, .ref (ad n 0)]) [.int 6] (fun l => c_X3_settingOf hm hs) cv_X3_settingOf mw_441 mw_442 mw_440 (hm 0 (by decide)) cl3 (by rw [va_us]; exact (st_0 _ _ _ _)) rfl rfl (Nat.le_of_ble_eq_true rfl) (by decide) rfl rfl (Nat.zero_le _) (Nat.zero_le _) dX3_mix_22 ?_
    intro r5 c6 hs
    refine G_aload_n hO 1 dX3_mix_25 rfl rfl ?_
    refine C_getf hO (v := .int (c6 0 5)) cl3 5 (hm 0 (by decide)) (st_0 _ _ _ _) (by decide) mw_116 rfl rfl dX3_mix_26 ?_
    refine G_imul hO dX3_mix_29 ?_
    refine G_iload_n hO 0 dX3_mix_30 rfl rfl ?_
    refine G_imul hO dX3_mix_31 ?_
    refine G_bipush hO 100 dX3_mix_32 (by decide) ?_
    refine G_idiv hO dX3_mix_34 (by decide) ?_
    refine KV_Rv hO (rest := []) [.int 0, .int 1, .int (((r5 * (c6 0 5)) * (r1 - r3)) / 100)] (fun l => c_X3_move hm hs) cv_X3_move mw_287 ms_6 mw_285 (hm 0 (by decide)) cl3 (by rw [va_us]; exact (st_0 _ _ _ _)) rfl rfl (Nat.le_of_ble_eq_true rfl) (by decide) rfl rfl (Nat.zero_le _) (Nat.zero_le _) dX3_mix_35 ?_
    intro c7 hs
    exact G_vret hO hF rfl (Nat.zero_le _) (Nat.zero_le _) dX3_mix_38 ⟨rfl, rfl, _, rfl, rfl, hs⟩
set_option maxHeartbeats 4000000 in
set_option maxRecDepth 20000 in
theorem c_X3_freeTarget {l : Launch} {Λ : Lay} {B : Zn} {ids : List (Nat × Nat)} {ad : Nat → Nat → Nat} {w : Nat → Nat → va_E} {n : Nat} (hm : ∀ j, j < 15 → (n, j) ∈ ids) {c : Reg} {P : Int32 → Reg → Prop} (hs : wX3_freeTarget c P) : CT l yX3_freeTarget cX3_freeTarget 2 (some .int) { frames := 2, cells := 0, slots := 0, locals := 43 } Λ B ids ad (va_up w n (stSh Λ ad n c)) [.ref (ad n 0)] (Ri ids ad w n (stSh Λ ad n) P) := by
  refine CT.of RX3 [(0, .ref (ad n 0))] (plainFor_of_name (by decide +kernel)) rfl (Nat.le_of_ble_eq_true rfl) rfl (fun Γ hO hF => ?_)
  unfold wX3_freeTarget at hs
  refine G_aload_n hO 0 dX3_freeTarget_0 rfl rfl ?_
  refine KV_Ri hO (rest := []) [] (fun l => c_X3_loopShouldHave hm hs) cv_X3_loopShouldHave mw_437 mw_438 mw_669 (hm 0 (by decide)) cl3 (by rw [va_us]; exact (st_0 _ _ _ _)) rfl rfl (Nat.le_of_ble_eq_true rfl) (by decide) rfl rfl (Nat.zero_le _) (Nat.zero_le _) dX3_freeTarget_1 ?_
  intro r1 c2 hs
  refine G_aload_n hO 0 dX3_freeTarget_4 rfl rfl ?_
  refine G_iconst hO 1 dX3_freeTarget_5 (by decide) ?_
  refine KV_Ri hO (rest := [.int r1]) [.int 1] (fun l => c_X3_degrees hm hs) cv_X3_degrees mw_503 mw_504 mw_656 (hm 0 (by decide)) cl3 (by rw [va_us]; exact (st_0 _ _ _ _)) rfl rfl (Nat.le_of_ble_eq_true rfl) (by decide) rfl rfl (Nat.zero_le _) (Nat.zero_le _) dX3_freeTarget_6 ?_
  intro r3 c4 hs
  refine G_isub hO dX3_freeTarget_9 ?_
  refine G_istore_n hO [(1, .int (r1 - r3)), (0, .ref (ad n 0))] dX3_freeTarget_10 rfl (by decide) rfl ?_
  refine G_iconst hO 0 dX3_freeTarget_11 (by decide) ?_
  refine G_bipush hO 100 dX3_freeTarget_12 (by decide) ?_
  refine G_bipush hO 10 dX3_freeTarget_14 (by decide) ?_
  refine G_iload_n hO 0 dX3_freeTarget_16 rfl rfl ?_
  refine G_imul hO dX3_freeTarget_17 ?_
  refine G_mmin hO mw_444 mw_445 mw_7 mw_446 (by decide) (Nat.le_of_ble_eq_true rfl) (Nat.zero_le _) (Nat.zero_le _) dX3_freeTarget_18 ?_
  refine G_mmax hO mw_670 mw_671 mw_7 mw_672 (by decide) (Nat.le_of_ble_eq_true rfl) (Nat.zero_le _) (Nat.zero_le _) dX3_freeTarget_21 ?_
  exact G_iret hO hF rfl (Nat.zero_le _) (Nat.zero_le _) dX3_freeTarget_24 ⟨rfl, rfl, _, _, rfl, rfl, hs⟩
