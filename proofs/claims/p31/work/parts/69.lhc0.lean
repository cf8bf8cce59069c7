set_option maxHeartbeats 4000000 in
set_option maxRecDepth 20000 in
theorem c_L_in {l : Launch} {Λ : Lay} {B : Zn} {ids : List (Nat × Nat)} {ad : Nat → Nat → Nat} {w : Nat → Nat → va_E} {a0 : Int64} {a2 : Int64} {a4 : Int64} {P : Int32 → Prop} (hs : wL_in a0 a2 a4 P) : CT l yL_in cL_in 6 (some .boolean) { frames := 0, cells := 0, slots := 0, locals := 0 } Λ B ids ad w [.long a0, .long a2, .long a4] (Ni ids ad w P) := by
  refine CT.of RL [(0, .long a0), (2, .long a2), (4, .long a4)] (plainFor_of_name (by decide +kernel)) rfl (Nat.le_of_ble_eq_true rfl) rfl (fun Γ hO hF => ?_)
  unfold wL_in at hs
  refine G_lload_n hO 0 dL_in_0 rfl rfl ?_
  refine G_lload_n hO 1 dL_in_1 rfl rfl ?_
  refine G_lcmp hO dL_in_2 ?_
  refine G_if_lt hO 17 dL_in_3 (by decide) (fun h2 => ?_) (fun h2 => ?_)
  · replace hs := hs.1 h2
    refine G_iconst hO 0 dL_in_17 (by decide) ?_
    exact G_zret hO hF rfl (Nat.zero_le _) (Nat.zero_le _) rfl dL_in_18 ⟨rfl, rfl, rfl, _, rfl, hs⟩
  · replace hs := hs.2 h2
    refine G_lload_n hO 0 dL_in_6 rfl rfl ?_
    refine G_lload hO 2 dL_in_7 rfl ?_
    refine G_lcmp hO dL_in_9 ?_
    refine G_if_gt hO 17 dL_in_10 (by decide) (fun h1 => ?_) (fun h1 => ?_)
    · replace hs := hs.1 h1
      refine G_iconst hO 0 dL_in_17 (by decide) ?_
      exact G_zret hO hF rfl (Nat.zero_le _) (Nat.zero_le _) rfl dL_in_18 ⟨rfl, rfl, rfl, _, rfl, hs⟩
    · replace hs := hs.2 h1
      refine G_iconst hO 1 dL_in_13 (by decide) ?_
      refine G_goto hO 18 dL_in_14 (by decide) ?_
      exact G_zret hO hF rfl (Nat.zero_le _) (Nat.zero_le _) rfl dL_in_18 ⟨rfl, rfl, rfl, _, rfl, hs⟩
set_option maxHeartbeats 4000000 in
set_option maxRecDepth 20000 in
theorem c_L_now {l : Launch} {Λ : Lay} {B : Zn} {ids : List (Nat × Nat)} {ad : Nat → Nat → Nat} (hm : ∀ q, q ∈ ids0 → q ∈ ids) (hnr : (20, 6) ∉ ids) {M : Mem} {O : Nat → Int64} {P : Int64 → Mem → Prop} (hs : wL_now M P) (hst : l.stackTraces = false) : CY l yL_now cL_now 5 (some .long) { frames := 8, cells := 216, slots := 3456, locals := 136 } Λ B ids ad (sh Λ ad M O) [.ref (ad 20 0)] (Gl Λ ids ad O P) := by
  refine CY.of hst RL [(0, .ref (ad 20 0))] (plainFor_of_name (by decide +kernel)) rfl (Nat.le_of_ble_eq_true rfl) rfl (fun Γ hO hX hF => ?_)
  unfold wL_now at hs
  have b143 : ∀ (N143 k143 : Nat) (v1 : Int64) (v3 : Int32) (M : Mem), k143 + ((4 * N143 + 1)) ≤ 216 → wL_now_L143 P N143 v1 v3 M → G Γ ids ad k143 (16 * k143) (sh Λ ad M O) 143 [(0, .ref (ad 20 0)), (1, .long v1), (3, .int v3)] [] := by
    intro N143
    induction N143 with
    | zero => intro k143 v1 v3 M hk hs; exact False.elim hs
    | succ N143 ih143 =>
      intro k143 v1 v3 M hk hs
      unfold wL_now_L143 at hs
      refine G_iload_n hO 2 dL_now_143 rfl rfl ?_
      refine G_i2l hO dL_now_144 ?_
      refine G_aload_n hO 0 dL_now_145 rfl rfl ?_
      refine G_bipush hO 11 dL_now_146 (by decide) ?_
      refine H_callHl hO (rest := [.long (Int32.toInt64 v3)]) 1 [.ref (ad 20 0), .int 11] hX (fun l h => c_L_about hm hs h) cw_about mw_429 mw_428 rfl rfl (Nat.le_of_ble_eq_true rfl) ⟨by decide, by decide⟩ ⟨by decide, by decide⟩ rfl (by first | (show _ ≤ 216; omega) | (show _ ≤ 3456; omega)) dL_now_148 ?_
      intro r15 M16 hs
      refine G_lcmp hO dL_now_151 ?_
      refine G_if_ge hO 196 dL_now_152 (by decide) (fun h23 => ?_) (fun h23 => ?_)
      · replace hs := hs.1 h23
        refine G_lload_n hO 1 dL_now_196 rfl rfl ?_
        exact G_lret hO hF rfl (by first | (show _ ≤ 216; omega) | (show _ ≤ 3456; omega)) (by first | (show _ ≤ 216; omega) | (show _ ≤ 3456; omega)) dL_now_197 ⟨rfl, rfl, _, _, rfl, rfl, hs⟩
      · replace hs := hs.2 h23
        refine G_ldc2 hO mw_427 dL_now_155 ?_
        refine G_ldc2 hO mw_427 dL_now_158 ?_
        refine G_ldc2 hO mw_427 dL_now_161 ?_
        refine G_lload_n hO 1 dL_now_164 rfl rfl ?_
        refine G_lmul hO dL_now_165 ?_
        refine G_aload_n hO 0 dL_now_166 rfl rfl ?_
        refine G_iload_n hO 2 dL_now_167 rfl rfl ?_
        refine G_iconst hO 0 dL_now_168 (by decide) ?_
        refine H_callHl hO (rest := [.long (31 * v1), .long 31, .long 31]) 1 [.ref (ad 20 0), .int v3, .int 0] hX (fun l h => c_L_way hm hs h) cw_way mw_525 mw_524 rfl rfl (Nat.le_of_ble_eq_true rfl) ⟨by decide, by decide⟩ ⟨by decide, by decide⟩ rfl (by first | (show _ ≤ 216; omega) | (show _ ≤ 3456; omega)) dL_now_169 ?_
        intro r17 M18 hs
        refine G_ladd hO dL_now_172 ?_
        refine G_lmul hO dL_now_173 ?_
        refine G_aload_n hO 0 dL_now_174 rfl rfl ?_
        refine G_iload_n hO 2 dL_now_175 rfl rfl ?_
        refine G_iconst hO 1 dL_now_176 (by decide) ?_
        refine H_callHl hO (rest := [.long (31 * ((31 * v1) + r17)), .long 31]) 1 [.ref (ad 20 0), .int v3, .int 1] hX (fun l h => c_L_way hm hs h) cw_way mw_525 mw_524 rfl rfl (Nat.le_of_ble_eq_true rfl) ⟨by decide, by decide⟩ ⟨by decide, by decide⟩ rfl (by first | (show _ ≤ 216; omega) | (show _ ≤ 3456; omega)) dL_now_177 ?_
        intro r19 M20 hs
        refine G_ladd hO dL_now_180 ?_
        refine G_lmul hO dL_now_181 ?_
        refine G_aload_n hO 0 dL_now_182 rfl rfl ?_
        refine G_iload_n hO 2 dL_now_183 rfl rfl ?_
        refine G_iconst hO 2 dL_now_184 (by decide) ?_
        refine H_callHl hO (rest := [.long (31 * ((31 * ((31 * v1) + r17)) + r19))]) 1 [.ref (ad 20 0), .int v3, .int 2] hX (fun l h => c_L_way hm hs h) cw_way mw_525 mw_524 rfl rfl (Nat.le_of_ble_eq_true rfl) ⟨by decide, by decide⟩ ⟨by decide, by decide⟩ rfl (by first | (show _ ≤ 216; omega) | (show _ ≤ 3456; omega)) dL_now_185 ?_
        intro r21 M22 hs
        refine G_ladd hO dL_now_188 ?_
        refine G_lstore_n hO [(1, .long ((31 * ((31 * ((31 * v1) + r17)) + r19)) + r21)), (0, .ref (ad 20 0)), (3, .int v3)] dL_now_189 rfl (by decide) rfl ?_
        refine G_iinc hO 2 (v3 + 1) [(3, .int (v3 + 1)), (1, .long ((31 * ((31 * ((31 * v1) + r17)) + r19)) + r21)), (0, .ref (ad 20 0))] dL_now_190 rfl rfl (by decide) rfl ?_
        refine G_goto hO 143 dL_now_193 (by decide) ?_
        refine G_lv hO [(0, .ref (ad 20 0)), (1, .long ((31 * ((31 * ((31 * v1) + r17)) + r19)) + r21)), (3, .int (v3 + 1))] [2, 1, 0] rfl ?_
        exact ih143 _ _ _ _ (by omega) hs
  have b94 : ∀ (N94 k94 : Nat) (v1 : Int64) (v3 : Int32) (M : Mem), k94 + ((9 * N94 + 110)) ≤ 216 → wL_now_L94 P N94 v1 v3 M → G Γ ids ad k94 (16 * k94) (sh Λ ad M O) 94 [(0, .ref (ad 20 0)), (1, .long v1), (3, .int v3)] [] := by
    intro N94
    induction N94 with
    | zero => intro k94 v1 v3 M hk hs; exact False.elim hs
    | succ N94 ih94 =>
      have b108 : ∀ (N108 k108 : Nat) (v1 : Int64) (v3 : Int32) (v4 : Int32) (M : Mem), k108 + ((9 * N94 + 110) + (1 * N108 + 0)) ≤ 216 → wL_now_L108 P (fun v1' v3' M' => wL_now_L94 P N94 v1' v3' M') N108 v1 v3 v4 M → G Γ ids ad k108 (16 * k108) (sh Λ ad M O) 108 [(0, .ref (ad 20 0)), (1, .long v1), (3, .int v3), (4, .int v4)] [] := by
        intro N108
        induction N108 with
        | zero => intro k108 v1 v3 v4 M hk hs; exact False.elim hs
        | succ N108 ih108 =>
          intro k108 v1 v3 v4 M hk hs
          unfold wL_now_L108 at hs
          refine G_iload hO 3 dL_now_108 rfl ?_
          refine G_bipush hO 7 dL_now_110 (by decide) ?_
          refine G_icmp_ge hO 135 dL_now_112 (by decide) (fun h26 => ?_) (fun h26 => ?_)
          · replace hs := hs.1 h26
            refine G_iinc hO 2 (v3 + 1) [(3, .int (v3 + 1)), (0, .ref (ad 20 0)), (1, .long v1), (4, .int v4)] dL_now_135 rfl rfl (by decide) rfl ?_
            refine G_goto hO 94 dL_now_138 (by decide) ?_
            refine G_lv hO [(0, .ref (ad 20 0)), (1, .long v1), (3, .int (v3 + 1))] [1, 2, 0] rfl ?_
            exact ih94 _ _ _ _ (by omega) hs
          · replace hs := hs.2 h26
            refine G_ldc2 hO mw_427 dL_now_115 ?_
            refine G_lload_n hO 1 dL_now_118 rfl rfl ?_
            refine G_lmul hO dL_now_119 ?_
            refine G_aload_n hO 0 dL_now_120 rfl rfl ?_
            refine G_iload_n hO 2 dL_now_121 rfl rfl ?_
            refine G_iload hO 3 dL_now_122 rfl ?_
            refine H_callHl hO (rest := [.long (31 * v1)]) 1 [.ref (ad 20 0), .int v3, .int v4] hX (fun l h => c_L_room hm hs h) cw_room mw_515 mw_514 rfl rfl (Nat.le_of_ble_eq_true rfl) ⟨by decide, by decide⟩ ⟨by decide, by decide⟩ rfl (by first | (show _ ≤ 216; omega) | (show _ ≤ 3456; omega)) dL_now_124 ?_
            intro r24 M25 hs
            refine G_ladd hO dL_now_127 ?_
            refine G_lstore_n hO [(1, .long ((31 * v1) + r24)), (0, .ref (ad 20 0)), (3, .int v3), (4, .int v4)] dL_now_128 rfl (by decide) rfl ?_
            refine G_iinc hO 3 (v4 + 1) [(4, .int (v4 + 1)), (1, .long ((31 * v1) + r24)), (0, .ref (ad 20 0)), (3, .int v3)] dL_now_129 rfl rfl (by decide) rfl ?_
            refine G_goto hO 108 dL_now_132 (by decide) ?_
            refine G_lv hO [(0, .ref (ad 20 0)), (1, .long ((31 * v1) + r24)), (3, .int v3), (4, .int (v4 + 1))] [2, 1, 3, 0] rfl ?_
            exact ih108 _ _ _ _ _ (by omega) hs
      intro k94 v1 v3 M hk hs
      unfold wL_now_L94 at hs
      refine G_iload_n hO 2 dL_now_94 rfl rfl ?_
      refine G_i2l hO dL_now_95 ?_
      refine G_aload_n hO 0 dL_now_96 rfl rfl ?_
      refine G_iconst hO 0 dL_now_97 (by decide) ?_
      refine H_callHl hO (rest := [.long (Int32.toInt64 v3)]) 1 [.ref (ad 20 0), .int 0] hX (fun l h => c_L_about hm hs h) cw_about mw_429 mw_428 rfl rfl (Nat.le_of_ble_eq_true rfl) ⟨by decide, by decide⟩ ⟨by decide, by decide⟩ rfl (by first | (show _ ≤ 216; omega) | (show _ ≤ 3456; omega)) dL_now_98 ?_
      intro r12 M13 hs
      refine G_lcmp hO dL_now_101 ?_
      refine G_if_ge hO 141 dL_now_102 (by decide) (fun h14 => ?_) (fun h14 => ?_)
      · replace hs := hs.1 h14
        refine G_iconst hO 0 dL_now_141 (by decide) ?_
        refine G_istore_n hO [(3, .int 0), (0, .ref (ad 20 0)), (1, .long v1)] dL_now_142 rfl (by decide) rfl ?_
        refine G_lv hO [(0, .ref (ad 20 0)), (1, .long v1), (3, .int 0)] [1, 2, 0] rfl ?_
        exact b143 27 _ _ _ _ (by omega) hs
      · replace hs := hs.2 h14
        refine G_iconst hO 0 dL_now_105 (by decide) ?_
        refine G_istore hO [(4, .int 0), (0, .ref (ad 20 0)), (1, .long v1), (3, .int v3)] dL_now_106 (by decide) rfl ?_
        refine G_lv hO [(0, .ref (ad 20 0)), (1, .long v1), (3, .int v3), (4, .int 0)] [1, 2, 3, 0] rfl ?_
        exact b108 8 _ _ _ _ _ (by omega) hs
  have b58 : ∀ (N58 k58 : Nat) (v1 : Int64) (v3 : Int32) (M : Mem), k58 + ((2 * N58 + 174)) ≤ 216 → wL_now_L58 P N58 v1 v3 M → G Γ ids ad k58 (16 * k58) (sh Λ ad M O) 58 [(0, .ref (ad 20 0)), (1, .long v1), (3, .int v3)] [] := by
    intro N58
    induction N58 with
    | zero => intro k58 v1 v3 M hk hs; exact False.elim hs
    | succ N58 ih58 =>
      intro k58 v1 v3 M hk hs
      unfold wL_now_L58 at hs
      refine G_iload_n hO 2 dL_now_58 rfl rfl ?_
      refine G_i2l hO dL_now_59 ?_
      refine G_aload_n hO 0 dL_now_60 rfl rfl ?_
      refine G_iconst hO 0 dL_now_61 (by decide) ?_
      refine H_callHl hO (rest := [.long (Int32.toInt64 v3)]) 1 [.ref (ad 20 0), .int 0] hX (fun l h => c_L_about hm hs h) cw_about mw_429 mw_428 rfl rfl (Nat.le_of_ble_eq_true rfl) ⟨by decide, by decide⟩ ⟨by decide, by decide⟩ rfl (by first | (show _ ≤ 216; omega) | (show _ ≤ 3456; omega)) dL_now_62 ?_
      intro r7 M8 hs
      refine G_ldc2 hO mw_481 dL_now_65 ?_
      refine G_ladd hO dL_now_68 ?_
      refine G_lcmp hO dL_now_69 ?_
      refine G_if_ge hO 92 dL_now_70 (by decide) (fun h11 => ?_) (fun h11 => ?_)
      · replace hs := hs.1 h11
        refine G_iconst hO 0 dL_now_92 (by decide) ?_
        refine G_istore_n hO [(3, .int 0), (0, .ref (ad 20 0)), (1, .long v1)] dL_now_93 rfl (by decide) rfl ?_
        refine G_lv hO [(0, .ref (ad 20 0)), (1, .long v1), (3, .int 0)] [1, 2, 0] rfl ?_
        exact b94 7 _ _ _ _ (by omega) hs
      · replace hs := hs.2 h11
        refine G_ldc2 hO mw_427 dL_now_73 ?_
        refine G_lload_n hO 1 dL_now_76 rfl rfl ?_
        refine G_lmul hO dL_now_77 ?_
        refine G_aload_n hO 0 dL_now_78 rfl rfl ?_
        refine G_iload_n hO 2 dL_now_79 rfl rfl ?_
        refine G_iconst hO 0 dL_now_80 (by decide) ?_
        refine H_callHl hO (rest := [.long (31 * v1)]) 1 [.ref (ad 20 0), .int v3, .int 0] hX (fun l h => c_L_place hm hs h) cw_place mw_483 mw_482 rfl rfl (Nat.le_of_ble_eq_true rfl) ⟨by decide, by decide⟩ ⟨by decide, by decide⟩ rfl (by first | (show _ ≤ 216; omega) | (show _ ≤ 3456; omega)) dL_now_81 ?_
        intro r9 M10 hs
        refine G_ladd hO dL_now_84 ?_
        refine G_lstore_n hO [(1, .long ((31 * v1) + r9)), (0, .ref (ad 20 0)), (3, .int v3)] dL_now_85 rfl (by decide) rfl ?_
        refine G_iinc hO 2 (v3 + 1) [(3, .int (v3 + 1)), (1, .long ((31 * v1) + r9)), (0, .ref (ad 20 0))] dL_now_86 rfl rfl (by decide) rfl ?_
        refine G_goto hO 58 dL_now_89 (by decide) ?_
        refine G_lv hO [(0, .ref (ad 20 0)), (1, .long ((31 * v1) + r9)), (3, .int (v3 + 1))] [2, 1, 0] rfl ?_
        exact ih58 _ _ _ _ (by omega) hs
  have b32 : ∀ (N32 k32 : Nat) (v1 : Int64) (v3 : Int32) (M : Mem), k32 + ((1 * N32 + 192)) ≤ 216 → wL_now_L32 P N32 v1 v3 M → G Γ ids ad k32 (16 * k32) (sh Λ ad M O) 32 [(0, .ref (ad 20 0)), (1, .long v1), (3, .int v3)] [] := by
    intro N32
    induction N32 with
    | zero => intro k32 v1 v3 M hk hs; exact False.elim hs
    | succ N32 ih32 =>
      intro k32 v1 v3 M hk hs
      unfold wL_now_L32 at hs
      refine G_iload_n hO 2 dL_now_32 rfl rfl ?_
      refine G_bipush hO 9 dL_now_33 (by decide) ?_
      refine G_icmp_ge hO 56 dL_now_35 (by decide) (fun h6 => ?_) (fun h6 => ?_)
      · replace hs := hs.1 h6
        refine G_iconst hO 0 dL_now_56 (by decide) ?_
        refine G_istore_n hO [(3, .int 0), (0, .ref (ad 20 0)), (1, .long v1)] dL_now_57 rfl (by decide) rfl ?_
        refine G_lv hO [(0, .ref (ad 20 0)), (1, .long v1), (3, .int 0)] [1, 2, 0] rfl ?_
        exact b58 9 _ _ _ _ (by omega) hs
      · replace hs := hs.2 h6
        refine G_ldc2 hO mw_427 dL_now_38 ?_
        refine G_lload_n hO 1 dL_now_41 rfl rfl ?_
        refine G_lmul hO dL_now_42 ?_
        refine G_aload_n hO 0 dL_now_43 rfl rfl ?_
        refine G_iload_n hO 2 dL_now_44 rfl rfl ?_
        refine H_callHl hO (rest := [.long (31 * v1)]) 1 [.ref (ad 20 0), .int v3] hX (fun l h => c_L_setting hm hs h) cw_setting mw_473 mw_472 rfl rfl (Nat.le_of_ble_eq_true rfl) ⟨by decide, by decide⟩ ⟨by decide, by decide⟩ rfl (by first | (show _ ≤ 216; omega) | (show _ ≤ 3456; omega)) dL_now_45 ?_
        intro r4 M5 hs
        refine G_ladd hO dL_now_48 ?_
        refine G_lstore_n hO [(1, .long ((31 * v1) + r4)), (0, .ref (ad 20 0)), (3, .int v3)] dL_now_49 rfl (by decide) rfl ?_
        refine G_iinc hO 2 (v3 + 1) [(3, .int (v3 + 1)), (1, .long ((31 * v1) + r4)), (0, .ref (ad 20 0))] dL_now_50 rfl rfl (by decide) rfl ?_
        refine G_goto hO 32 dL_now_53 (by decide) ?_
        refine G_lv hO [(0, .ref (ad 20 0)), (1, .long ((31 * v1) + r4)), (3, .int (v3 + 1))] [2, 1, 0] rfl ?_
        exact ih32 _ _ _ _ (by omega) hs
  have b6 : ∀ (N6 k6 : Nat) (v1 : Int64) (v3 : Int32) (M : Mem), k6 + ((1 * N6 + 202)) ≤ 216 → wL_now_L6 P N6 v1 v3 M → G Γ ids ad k6 (16 * k6) (sh Λ ad M O) 6 [(0, .ref (ad 20 0)), (1, .long v1), (3, .int v3)] [] := by
    intro N6
    induction N6 with
    | zero => intro k6 v1 v3 M hk hs; exact False.elim hs
    | succ N6 ih6 =>
      intro k6 v1 v3 M hk hs
      unfold wL_now_L6 at hs
      refine G_iload_n hO 2 dL_now_6 rfl rfl ?_
      refine G_bipush hO 13 dL_now_7 (by decide) ?_
      refine G_icmp_ge hO 30 dL_now_9 (by decide) (fun h3 => ?_) (fun h3 => ?_)
      · replace hs := hs.1 h3
        refine G_iconst hO 0 dL_now_30 (by decide) ?_
        refine G_istore_n hO [(3, .int 0), (0, .ref (ad 20 0)), (1, .long v1)] dL_now_31 rfl (by decide) rfl ?_
        refine G_lv hO [(0, .ref (ad 20 0)), (1, .long v1), (3, .int 0)] [1, 2, 0] rfl ?_
        exact b32 10 _ _ _ _ (by omega) hs
      · replace hs := hs.2 h3
        refine G_ldc2 hO mw_427 dL_now_12 ?_
        refine G_lload_n hO 1 dL_now_15 rfl rfl ?_
        refine G_lmul hO dL_now_16 ?_
        refine G_aload_n hO 0 dL_now_17 rfl rfl ?_
        refine G_iload_n hO 2 dL_now_18 rfl rfl ?_
        refine H_callHl hO (rest := [.long (31 * v1)]) 1 [.ref (ad 20 0), .int v3] hX (fun l h => c_L_about hm hs h) cw_about mw_429 mw_428 rfl rfl (Nat.le_of_ble_eq_true rfl) ⟨by decide, by decide⟩ ⟨by decide, by decide⟩ rfl (by first | (show _ ≤ 216; omega) | (show _ ≤ 3456; omega)) dL_now_19 ?_
        intro r1 M2 hs
        refine G_ladd hO dL_now_22 ?_
        refine G_lstore_n hO [(1, .long ((31 * v1) + r1)), (0, .ref (ad 20 0)), (3, .int v3)] dL_now_23 rfl (by decide) rfl ?_
        refine G_iinc hO 2 (v3 + 1) [(3, .int (v3 + 1)), (1, .long ((31 * v1) + r1)), (0, .ref (ad 20 0))] dL_now_24 rfl rfl (by decide) rfl ?_
        refine G_goto hO 6 dL_now_27 (by decide) ?_
        refine G_lv hO [(0, .ref (ad 20 0)), (1, .long ((31 * v1) + r1)), (3, .int (v3 + 1))] [2, 1, 0] rfl ?_
        exact ih6 _ _ _ _ (by omega) hs
  refine G_ldc2 hO mw_426 dL_now_0 ?_
  refine G_lstore_n hO [(1, .long 17), (0, .ref (ad 20 0))] dL_now_3 rfl (by decide) rfl ?_
  refine G_iconst hO 0 dL_now_4 (by decide) ?_
  refine G_istore_n hO [(3, .int 0), (1, .long 17), (0, .ref (ad 20 0))] dL_now_5 rfl (by decide) rfl ?_
  refine G_lv hO [(0, .ref (ad 20 0)), (1, .long 17), (3, .int 0)] [2, 1, 0] rfl ?_
  exact b6 14 _ _ _ _ (by omega) hs
set_option maxHeartbeats 4000000 in
set_option maxRecDepth 20000 in
theorem c_L_errors {l : Launch} {Λ : Lay} {B : Zn} {ids : List (Nat × Nat)} {ad : Nat → Nat → Nat} (hm : ∀ q, q ∈ ids0 → q ∈ ids) (hnr : (20, 6) ∉ ids) {M : Mem} {O : Nat → Int64} {P : Int32 → Mem → Prop} (hs : wL_errors M P) (hst : l.stackTraces = false) : CY l yL_errors cL_errors 5 (some .boolean) { frames := 9, cells := 474, slots := 7584, locals := 180 } Λ B ids ad (sh Λ ad M O) [.ref (ad 20 0)] (Gi Λ ids ad O P) := by
  refine CY.of hst RL [(0, .ref (ad 20 0))] (plainFor_of_name (by decide +kernel)) rfl (Nat.le_of_ble_eq_true rfl) rfl (fun Γ hO hX hF => ?_)
  unfold wL_errors at hs
  have b443 : ∀ (k443 : Nat) (v1 : Int64) (v3 : Int32) (s0 : Int32) (M : Mem), k443 + ((228)) ≤ 474 → wL_errors_L443 P v1 v3 s0 M → G Γ ids ad k443 (16 * k443) (sh Λ ad M O) 443 [(0, .ref (ad 20 0)), (1, .long v1), (3, .int v3)] [.int s0] := by
    intro k443 v1 v3 s0 M hk hs
    unfold wL_errors_L443 at hs
    refine G_istore hO [(4, .int s0), (0, .ref (ad 20 0)), (1, .long v1), (3, .int v3)] dL_errors_443 (by decide) rfl ?_
    refine G_iload hO 0 dL_errors_445 rfl ?_
    refine G_if_eq hO 620 dL_errors_447 (by decide) (fun h113 => ?_) (fun h113 => ?_)
    · replace hs := hs.1 h113
      refine G_iconst hO 0 dL_errors_620 (by decide) ?_
      exact G_zret hO hF rfl (by first | (show _ ≤ 474; omega) | (show _ ≤ 7584; omega)) (by first | (show _ ≤ 474; omega) | (show _ ≤ 7584; omega)) rfl dL_errors_621 ⟨rfl, rfl, _, _, rfl, rfl, hs⟩
    · replace hs := hs.2 h113
      refine G_aload_n hO 1 dL_errors_450 rfl rfl ?_
      refine G_iload_n hO 3 dL_errors_451 rfl rfl ?_
      refine G_iconst hO 2 dL_errors_452 (by decide) ?_
      refine G_iadd hO dL_errors_453 ?_
      refine G_sipush hO 241 dL_errors_454 (by decide) ?_
      refine H_callHl hO (rest := []) 1 [.ref (ad 20 0), .int (v3 + 2), .int 241] hX (fun l h => c_L_ahead hm hs h) cw_ahead mw_698 mw_697 rfl rfl (Nat.le_of_ble_eq_true rfl) ⟨by decide, by decide⟩ ⟨by decide, by decide⟩ rfl (by first | (show _ ≤ 474; omega) | (show _ ≤ 7584; omega)) dL_errors_457 ?_
      intro r74 M75 hs
      refine G_ldc2 hO mw_411 dL_errors_460 ?_
      refine G_lcmp hO dL_errors_463 ?_
      refine G_if_ne hO 620 dL_errors_464 (by decide) (fun h112 => ?_) (fun h112 => ?_)
      · replace hs := hs.1 h112
        refine G_iconst hO 0 dL_errors_620 (by decide) ?_
        exact G_zret hO hF rfl (by first | (show _ ≤ 474; omega) | (show _ ≤ 7584; omega)) (by first | (show _ ≤ 474; omega) | (show _ ≤ 7584; omega)) rfl dL_errors_621 ⟨rfl, rfl, _, _, rfl, rfl, hs⟩
      · replace hs := hs.2 h112
        refine G_aload_n hO 1 dL_errors_467 rfl rfl ?_
        refine G_iconst hO 0 dL_errors_468 (by decide) ?_
        refine G_iconst hO (-1) dL_errors_469 (by decide) ?_
        refine H_callHl hO (rest := []) 1 [.ref (ad 20 0), .int 0, .int (-1)] hX (fun l h => c_L_ahead hm hs h) cw_ahead mw_698 mw_697 rfl rfl (Nat.le_of_ble_eq_true rfl) ⟨by decide, by decide⟩ ⟨by decide, by decide⟩ rfl (by first | (show _ ≤ 474; omega) | (show _ ≤ 7584; omega)) dL_errors_470 ?_
        intro r76 M77 hs
        refine G_ldc2 hO mw_471 dL_errors_473 ?_
        refine G_lcmp hO dL_errors_476 ?_
        refine G_if_ne hO 620 dL_errors_477 (by decide) (fun h111 => ?_) (fun h111 => ?_)
        · replace hs := hs.1 h111
          refine G_iconst hO 0 dL_errors_620 (by decide) ?_
          exact G_zret hO hF rfl (by first | (show _ ≤ 474; omega) | (show _ ≤ 7584; omega)) (by first | (show _ ≤ 474; omega) | (show _ ≤ 7584; omega)) rfl dL_errors_621 ⟨rfl, rfl, _, _, rfl, rfl, hs⟩
        · replace hs := hs.2 h111
          refine G_aload_n hO 1 dL_errors_480 rfl rfl ?_
          refine G_iconst hO (-1) dL_errors_481 (by decide) ?_
          refine H_callHl hO (rest := []) 1 [.ref (ad 20 0), .int (-1)] hX (fun l h => c_L_minutesTo hm hs h) cw_minutesTo mw_706 mw_705 rfl rfl (Nat.le_of_ble_eq_true rfl) ⟨by decide, by decide⟩ ⟨by decide, by decide⟩ rfl (by first | (show _ ≤ 474; omega) | (show _ ≤ 7584; omega)) dL_errors_482 ?_
          intro r78 M79 hs
          refine G_ldc2 hO mw_411 dL_errors_485 ?_
          refine G_lcmp hO dL_errors_488 ?_
          refine G_if_ne hO 620 dL_errors_489 (by decide) (fun h110 => ?_) (fun h110 => ?_)
          · replace hs := hs.1 h110
            refine G_iconst hO 0 dL_errors_620 (by decide) ?_
            exact G_zret hO hF rfl (by first | (show _ ≤ 474; omega) | (show _ ≤ 7584; omega)) (by first | (show _ ≤ 474; omega) | (show _ ≤ 7584; omega)) rfl dL_errors_621 ⟨rfl, rfl, _, _, rfl, rfl, hs⟩
          · replace hs := hs.2 h110
            refine G_aload_n hO 1 dL_errors_492 rfl rfl ?_
            refine G_iconst hO 0 dL_errors_493 (by decide) ?_
            refine H_callHl hO (rest := []) 1 [.ref (ad 20 0), .int 0] hX (fun l h => c_L_bestSlope hm hs h) cw_bestSlope mw_718 mw_717 rfl rfl (Nat.le_of_ble_eq_true rfl) ⟨by decide, by decide⟩ ⟨by decide, by decide⟩ rfl (by first | (show _ ≤ 474; omega) | (show _ ≤ 7584; omega)) dL_errors_494 ?_
            intro r80 M81 hs
            refine G_ldc2 hO mw_471 dL_errors_497 ?_
            refine G_lcmp hO dL_errors_500 ?_
            refine G_if_ne hO 620 dL_errors_501 (by decide) (fun h109 => ?_) (fun h109 => ?_)
            · replace hs := hs.1 h109
              refine G_iconst hO 0 dL_errors_620 (by decide) ?_
              exact G_zret hO hF rfl (by first | (show _ ≤ 474; omega) | (show _ ≤ 7584; omega)) (by first | (show _ ≤ 474; omega) | (show _ ≤ 7584; omega)) rfl dL_errors_621 ⟨rfl, rfl, _, _, rfl, rfl, hs⟩
            · replace hs := hs.2 h109
              refine G_aload_n hO 1 dL_errors_504 rfl rfl ?_
              refine G_iconst hO (-1) dL_errors_505 (by decide) ?_
              refine H_callHl hO (rest := []) 1 [.ref (ad 20 0), .int (-1)] hX (fun l h => c_L_leastPower hm hs h) cw_leastPower mw_726 mw_725 rfl rfl (Nat.le_of_ble_eq_true rfl) ⟨by decide, by decide⟩ ⟨by decide, by decide⟩ rfl (by first | (show _ ≤ 474; omega) | (show _ ≤ 7584; omega)) dL_errors_506 ?_
              intro r82 M83 hs
              refine G_ldc2 hO mw_471 dL_errors_509 ?_
              refine G_lcmp hO dL_errors_512 ?_
              refine G_if_ne hO 620 dL_errors_513 (by decide) (fun h108 => ?_) (fun h108 => ?_)
              · replace hs := hs.1 h108
                refine G_iconst hO 0 dL_errors_620 (by decide) ?_
                exact G_zret hO hF rfl (by first | (show _ ≤ 474; omega) | (show _ ≤ 7584; omega)) (by first | (show _ ≤ 474; omega) | (show _ ≤ 7584; omega)) rfl dL_errors_621 ⟨rfl, rfl, _, _, rfl, rfl, hs⟩
              · replace hs := hs.2 h108
                refine G_aload_n hO 1 dL_errors_516 rfl rfl ?_
                refine G_sipush hO 241 dL_errors_517 (by decide) ?_
                refine H_callHl hO (rest := []) 1 [.ref (ad 20 0), .int 241] hX (fun l h => c_L_heatFor hm hs h) cw_heatFor mw_741 mw_740 rfl rfl (Nat.le_of_ble_eq_true rfl) ⟨by decide, by decide⟩ ⟨by decide, by decide⟩ rfl (by first | (show _ ≤ 474; omega) | (show _ ≤ 7584; omega)) dL_errors_520 ?_
                intro r84 M85 hs
                refine G_ldc2 hO mw_471 dL_errors_523 ?_
                refine G_lcmp hO dL_errors_526 ?_
                refine G_if_ne hO 620 dL_errors_527 (by decide) (fun h107 => ?_) (fun h107 => ?_)
                · replace hs := hs.1 h107
                  refine G_iconst hO 0 dL_errors_620 (by decide) ?_
                  exact G_zret hO hF rfl (by first | (show _ ≤ 474; omega) | (show _ ≤ 7584; omega)) (by first | (show _ ≤ 474; omega) | (show _ ≤ 7584; omega)) rfl dL_errors_621 ⟨rfl, rfl, _, _, rfl, rfl, hs⟩
                · replace hs := hs.2 h107
                  refine G_aload_n hO 1 dL_errors_530 rfl rfl ?_
                  refine G_iconst hO 0 dL_errors_531 (by decide) ?_
                  refine G_lconst hO 0 dL_errors_532 (by decide) ?_
                  refine H_callHl hO (rest := []) 1 [.ref (ad 20 0), .int 0, .long 0] hX (fun l h => c_L_script hm hs h) cw_script mw_753 mw_752 rfl rfl (Nat.le_of_ble_eq_true rfl) ⟨by decide, by decide⟩ ⟨by decide, by decide⟩ rfl (by first | (show _ ≤ 474; omega) | (show _ ≤ 7584; omega)) dL_errors_533 ?_
                  intro r86 M87 hs
                  refine G_ldc2 hO mw_471 dL_errors_536 ?_
                  refine G_lcmp hO dL_errors_539 ?_
                  refine G_if_ne hO 620 dL_errors_540 (by decide) (fun h106 => ?_) (fun h106 => ?_)
                  · replace hs := hs.1 h106
                    refine G_iconst hO 0 dL_errors_620 (by decide) ?_
                    exact G_zret hO hF rfl (by first | (show _ ≤ 474; omega) | (show _ ≤ 7584; omega)) (by first | (show _ ≤ 474; omega) | (show _ ≤ 7584; omega)) rfl dL_errors_621 ⟨rfl, rfl, _, _, rfl, rfl, hs⟩
                  · replace hs := hs.2 h106
                    refine G_aload_n hO 1 dL_errors_543 rfl rfl ?_
                    refine G_iconst hO 4 dL_errors_544 (by decide) ?_
                    refine G_ldc2 hO mw_787 dL_errors_545 ?_
                    refine H_callHl hO (rest := []) 1 [.ref (ad 20 0), .int 4, .long 10000000000000000] hX (fun l h => c_L_script hm hs h) cw_script mw_753 mw_752 rfl rfl (Nat.le_of_ble_eq_true rfl) ⟨by decide, by decide⟩ ⟨by decide, by decide⟩ rfl (by first | (show _ ≤ 474; omega) | (show _ ≤ 7584; omega)) dL_errors_548 ?_
                    intro r88 M89 hs
                    refine G_ldc2 hO mw_471 dL_errors_551 ?_
                    refine G_lcmp hO dL_errors_554 ?_
                    refine G_if_ne hO 620 dL_errors_555 (by decide) (fun h105 => ?_) (fun h105 => ?_)
                    · replace hs := hs.1 h105
                      refine G_iconst hO 0 dL_errors_620 (by decide) ?_
                      exact G_zret hO hF rfl (by first | (show _ ≤ 474; omega) | (show _ ≤ 7584; omega)) (by first | (show _ ≤ 474; omega) | (show _ ≤ 7584; omega)) rfl dL_errors_621 ⟨rfl, rfl, _, _, rfl, rfl, hs⟩
                    · replace hs := hs.2 h105
                      refine G_aload_n hO 1 dL_errors_558 rfl rfl ?_
                      refine G_lconst hO 1 dL_errors_559 (by decide) ?_
                      refine G_iconst hO 0 dL_errors_560 (by decide) ?_
                      refine H_callHl hO (rest := []) 1 [.ref (ad 20 0), .long 1, .int 0] hX (fun l h => c_L_simulate hm hs h) cw_simulate mw_789 mw_788 rfl rfl (Nat.le_of_ble_eq_true rfl) ⟨by decide, by decide⟩ ⟨by decide, by decide⟩ rfl (by first | (show _ ≤ 474; omega) | (show _ ≤ 7584; omega)) dL_errors_561 ?_
                      intro r90 M91 hs
                      refine G_ldc2 hO mw_471 dL_errors_564 ?_
                      refine G_lcmp hO dL_errors_567 ?_
                      refine G_if_ne hO 620 dL_errors_568 (by decide) (fun h104 => ?_) (fun h104 => ?_)
                      · replace hs := hs.1 h104
                        refine G_iconst hO 0 dL_errors_620 (by decide) ?_
                        exact G_zret hO hF rfl (by first | (show _ ≤ 474; omega) | (show _ ≤ 7584; omega)) (by first | (show _ ≤ 474; omega) | (show _ ≤ 7584; omega)) rfl dL_errors_621 ⟨rfl, rfl, _, _, rfl, rfl, hs⟩
                      · replace hs := hs.2 h104
                        refine G_aload_n hO 1 dL_errors_571 rfl rfl ?_
                        refine G_iconst hO 2 dL_errors_572 (by decide) ?_
                        refine H_callHl hO (rest := []) 1 [.ref (ad 20 0), .int 2] hX (fun l h => c_L_save hm hs h) cw_save mw_388 mw_387 rfl rfl (Nat.le_of_ble_eq_true rfl) ⟨by decide, by decide⟩ ⟨by decide, by decide⟩ rfl (by first | (show _ ≤ 474; omega) | (show _ ≤ 7584; omega)) dL_errors_573 ?_
                        intro r92 M93 hs
                        refine G_ldc2 hO mw_411 dL_errors_576 ?_
                        refine G_lcmp hO dL_errors_579 ?_
                        refine G_if_ne hO 620 dL_errors_580 (by decide) (fun h103 => ?_) (fun h103 => ?_)
                        · replace hs := hs.1 h103
                          refine G_iconst hO 0 dL_errors_620 (by decide) ?_
                          exact G_zret hO hF rfl (by first | (show _ ≤ 474; omega) | (show _ ≤ 7584; omega)) (by first | (show _ ≤ 474; omega) | (show _ ≤ 7584; omega)) rfl dL_errors_621 ⟨rfl, rfl, _, _, rfl, rfl, hs⟩
                        · replace hs := hs.2 h103
                          refine G_aload_n hO 1 dL_errors_583 rfl rfl ?_
                          refine G_iconst hO 2 dL_errors_584 (by decide) ?_
                          refine H_callHl hO (rest := []) 1 [.ref (ad 20 0), .int 2] hX (fun l h => c_L_restore hm hs h) cw_restore mw_413 mw_412 rfl rfl (Nat.le_of_ble_eq_true rfl) ⟨by decide, by decide⟩ ⟨by decide, by decide⟩ rfl (by first | (show _ ≤ 474; omega) | (show _ ≤ 7584; omega)) dL_errors_585 ?_
                          intro r94 M95 hs
                          refine G_ldc2 hO mw_411 dL_errors_588 ?_
                          refine G_lcmp hO dL_errors_591 ?_
                          refine G_if_ne hO 620 dL_errors_592 (by decide) (fun h102 => ?_) (fun h102 => ?_)
                          · replace hs := hs.1 h102
                            refine G_iconst hO 0 dL_errors_620 (by decide) ?_
                            exact G_zret hO hF rfl (by first | (show _ ≤ 474; omega) | (show _ ≤ 7584; omega)) (by first | (show _ ≤ 474; omega) | (show _ ≤ 7584; omega)) rfl dL_errors_621 ⟨rfl, rfl, _, _, rfl, rfl, hs⟩
                          · replace hs := hs.2 h102
                            refine G_aload_n hO 1 dL_errors_595 rfl rfl ?_
                            refine G_iconst hO (-1) dL_errors_596 (by decide) ?_
                            refine H_callHl hO (rest := []) 1 [.ref (ad 20 0), .int (-1)] hX (fun l h => c_L_append hm hs h) cw_append mw_800 mw_799 rfl rfl (Nat.le_of_ble_eq_true rfl) ⟨by decide, by decide⟩ ⟨by decide, by decide⟩ rfl (by first | (show _ ≤ 474; omega) | (show _ ≤ 7584; omega)) dL_errors_597 ?_
                            intro r96 M97 hs
                            refine G_ldc2 hO mw_471 dL_errors_600 ?_
                            refine G_lcmp hO dL_errors_603 ?_
                            refine G_if_ne hO 620 dL_errors_604 (by decide) (fun h101 => ?_) (fun h101 => ?_)
                            · replace hs := hs.1 h101
                              refine G_iconst hO 0 dL_errors_620 (by decide) ?_
                              exact G_zret hO hF rfl (by first | (show _ ≤ 474; omega) | (show _ ≤ 7584; omega)) (by first | (show _ ≤ 474; omega) | (show _ ≤ 7584; omega)) rfl dL_errors_621 ⟨rfl, rfl, _, _, rfl, rfl, hs⟩
                            · replace hs := hs.2 h101
                              refine G_aload_n hO 1 dL_errors_607 rfl rfl ?_
                              refine H_callYl hO (rest := []) 216 [.ref (ad 20 0)] hX (fun l h => c_L_now hm hnr hs h) cv_L_now mw_424 mw_423 rfl rfl (Nat.le_of_ble_eq_true rfl) ⟨by decide, by decide⟩ ⟨by decide, by decide⟩ rfl (by first | (show _ ≤ 474; omega) | (show _ ≤ 7584; omega)) dL_errors_608 ?_
                              intro r98 M99 hs
                              refine G_lload_n hO 2 dL_errors_611 rfl rfl ?_
                              refine G_lcmp hO dL_errors_612 ?_
                              refine G_if_ne hO 620 dL_errors_613 (by decide) (fun h100 => ?_) (fun h100 => ?_)
                              · replace hs := hs.1 h100
                                refine G_iconst hO 0 dL_errors_620 (by decide) ?_
                                exact G_zret hO hF rfl (by first | (show _ ≤ 474; omega) | (show _ ≤ 7584; omega)) (by first | (show _ ≤ 474; omega) | (show _ ≤ 7584; omega)) rfl dL_errors_621 ⟨rfl, rfl, _, _, rfl, rfl, hs⟩
                              · replace hs := hs.2 h100
                                refine G_iconst hO 1 dL_errors_616 (by decide) ?_
                                refine G_goto hO 621 dL_errors_617 (by decide) ?_
                                exact G_zret hO hF rfl (by first | (show _ ≤ 474; omega) | (show _ ≤ 7584; omega)) (by first | (show _ ≤ 474; omega) | (show _ ≤ 7584; omega)) rfl dL_errors_621 ⟨rfl, rfl, _, _, rfl, rfl, hs⟩
  have b442 : ∀ (k442 : Nat) (v1 : Int64) (v3 : Int32) (M : Mem), k442 + ((228)) ≤ 474 → wL_errors_L442 P v1 v3 M → G Γ ids ad k442 (16 * k442) (sh Λ ad M O) 442 [(0, .ref (ad 20 0)), (1, .long v1), (3, .int v3)] [] := by
    intro k442 v1 v3 M hk hs
    unfold wL_errors_L442 at hs
    refine G_iconst hO 0 dL_errors_442 (by decide) ?_
    exact b443 _ _ _ _ _ (by omega) hs
  have b344 : ∀ (k344 : Nat) (v1 : Int64) (v3 : Int32) (M : Mem), k344 + ((235)) ≤ 474 → wL_errors_L344 P v1 v3 M → G Γ ids ad k344 (16 * k344) (sh Λ ad M O) 344 [(0, .ref (ad 20 0)), (1, .long v1), (3, .int v3)] [] := by
    intro k344 v1 v3 M hk hs
    unfold wL_errors_L344 at hs
    refine G_aload_n hO 0 dL_errors_344 rfl rfl ?_
    refine G_iload_n hO 2 dL_errors_345 rfl rfl ?_
    refine G_iconst hO 1 dL_errors_346 (by decide) ?_
    refine H_callHl hO (rest := []) 1 [.ref (ad 20 0), .int v3, .int 1] hX (fun l h => c_L_window hm hs h) cw_window mw_594 mw_593 rfl rfl (Nat.le_of_ble_eq_true rfl) ⟨by decide, by decide⟩ ⟨by decide, by decide⟩ rfl (by first | (show _ ≤ 474; omega) | (show _ ≤ 7584; omega)) dL_errors_347 ?_
    intro r114 M115 hs
    refine G_ldc2 hO mw_411 dL_errors_350 ?_
    refine G_lcmp hO dL_errors_353 ?_
    refine G_if_ne hO 442 dL_errors_354 (by decide) (fun h134 => ?_) (fun h134 => ?_)
    · replace hs := hs.1 h134
      exact b442 _ _ _ _ (by omega) hs
    · replace hs := hs.2 h134
      refine G_aload_n hO 0 dL_errors_357 rfl rfl ?_
      refine G_iconst hO 0 dL_errors_358 (by decide) ?_
      refine G_sipush hO 201 dL_errors_359 (by decide) ?_
      refine H_callHl hO (rest := []) 1 [.ref (ad 20 0), .int 0, .int 201] hX (fun l h => c_L_set hm hs h) cw_set mw_605 mw_604 rfl rfl (Nat.le_of_ble_eq_true rfl) ⟨by decide, by decide⟩ ⟨by decide, by decide⟩ rfl (by first | (show _ ≤ 474; omega) | (show _ ≤ 7584; omega)) dL_errors_362 ?_
      intro r116 M117 hs
      refine G_ldc2 hO mw_471 dL_errors_365 ?_
      refine G_lcmp hO dL_errors_368 ?_
      refine G_if_ne hO 442 dL_errors_369 (by decide) (fun h133 => ?_) (fun h133 => ?_)
      · replace hs := hs.1 h133
        exact b442 _ _ _ _ (by omega) hs
      · replace hs := hs.2 h133
        refine G_aload_n hO 0 dL_errors_372 rfl rfl ?_
        refine G_iconst hO 1 dL_errors_373 (by decide) ?_
        refine G_bipush hO 29 dL_errors_374 (by decide) ?_
        refine H_callHl hO (rest := []) 1 [.ref (ad 20 0), .int 1, .int 29] hX (fun l h => c_L_set hm hs h) cw_set mw_605 mw_604 rfl rfl (Nat.le_of_ble_eq_true rfl) ⟨by decide, by decide⟩ ⟨by decide, by decide⟩ rfl (by first | (show _ ≤ 474; omega) | (show _ ≤ 7584; omega)) dL_errors_376 ?_
        intro r118 M119 hs
        refine G_ldc2 hO mw_471 dL_errors_379 ?_
        refine G_lcmp hO dL_errors_382 ?_
        refine G_if_ne hO 442 dL_errors_383 (by decide) (fun h132 => ?_) (fun h132 => ?_)
        · replace hs := hs.1 h132
          exact b442 _ _ _ _ (by omega) hs
        · replace hs := hs.2 h132
          refine G_aload_n hO 0 dL_errors_386 rfl rfl ?_
          refine G_iconst hO 5 dL_errors_387 (by decide) ?_
          refine G_iconst hO 0 dL_errors_388 (by decide) ?_
          refine H_callHl hO (rest := []) 1 [.ref (ad 20 0), .int 5, .int 0] hX (fun l h => c_L_set hm hs h) cw_set mw_605 mw_604 rfl rfl (Nat.le_of_ble_eq_true rfl) ⟨by decide, by decide⟩ ⟨by decide, by decide⟩ rfl (by first | (show _ ≤ 474; omega) | (show _ ≤ 7584; omega)) dL_errors_389 ?_
          intro r120 M121 hs
          refine G_ldc2 hO mw_471 dL_errors_392 ?_
          refine G_lcmp hO dL_errors_395 ?_
          refine G_if_ne hO 442 dL_errors_396 (by decide) (fun h131 => ?_) (fun h131 => ?_)
          · replace hs := hs.1 h131
            exact b442 _ _ _ _ (by omega) hs
          · replace hs := hs.2 h131
            refine G_aload_n hO 0 dL_errors_399 rfl rfl ?_
            refine G_bipush hO 9 dL_errors_400 (by decide) ?_
            refine G_iconst hO 5 dL_errors_402 (by decide) ?_
            refine H_callHl hO (rest := []) 1 [.ref (ad 20 0), .int 9, .int 5] hX (fun l h => c_L_set hm hs h) cw_set mw_605 mw_604 rfl rfl (Nat.le_of_ble_eq_true rfl) ⟨by decide, by decide⟩ ⟨by decide, by decide⟩ rfl (by first | (show _ ≤ 474; omega) | (show _ ≤ 7584; omega)) dL_errors_403 ?_
            intro r122 M123 hs
            refine G_ldc2 hO mw_471 dL_errors_406 ?_
            refine G_lcmp hO dL_errors_409 ?_
            refine G_if_ne hO 442 dL_errors_410 (by decide) (fun h130 => ?_) (fun h130 => ?_)
            · replace hs := hs.1 h130
              exact b442 _ _ _ _ (by omega) hs
            · replace hs := hs.2 h130
              refine G_aload_n hO 0 dL_errors_413 rfl rfl ?_
              refine G_bipush hO (-21) dL_errors_414 (by decide) ?_
              refine H_callHl hO (rest := []) 1 [.ref (ad 20 0), .int (-21)] hX (fun l h => c_L_outside hm hs h) cw_outside mw_619 mw_618 rfl rfl (Nat.le_of_ble_eq_true rfl) ⟨by decide, by decide⟩ ⟨by decide, by decide⟩ rfl (by first | (show _ ≤ 474; omega) | (show _ ≤ 7584; omega)) dL_errors_416 ?_
              intro r124 M125 hs
              refine G_ldc2 hO mw_471 dL_errors_419 ?_
              refine G_lcmp hO dL_errors_422 ?_
              refine G_if_ne hO 442 dL_errors_423 (by decide) (fun h129 => ?_) (fun h129 => ?_)
              · replace hs := hs.1 h129
                exact b442 _ _ _ _ (by omega) hs
              · replace hs := hs.2 h129
                refine G_aload_n hO 0 dL_errors_426 rfl rfl ?_
                refine G_iconst hO 0 dL_errors_427 (by decide) ?_
                refine H_callHl hO (rest := []) 1 [.ref (ad 20 0), .int 0] hX (fun l h => c_L_pass hm hs h) cw_pass mw_630 mw_629 rfl rfl (Nat.le_of_ble_eq_true rfl) ⟨by decide, by decide⟩ ⟨by decide, by decide⟩ rfl (by first | (show _ ≤ 474; omega) | (show _ ≤ 7584; omega)) dL_errors_428 ?_
                intro r126 M127 hs
                refine G_ldc2 hO mw_471 dL_errors_431 ?_
                refine G_lcmp hO dL_errors_434 ?_
                refine G_if_ne hO 442 dL_errors_435 (by decide) (fun h128 => ?_) (fun h128 => ?_)
                · replace hs := hs.1 h128
                  exact b442 _ _ _ _ (by omega) hs
                · replace hs := hs.2 h128
                  refine G_iconst hO 1 dL_errors_438 (by decide) ?_
                  refine G_goto hO 443 dL_errors_439 (by decide) ?_
                  exact b443 _ _ _ _ _ (by omega) hs
  have b268 : ∀ (k268 : Nat) (v1 : Int64) (v3 : Int32) (M : Mem), k268 + ((240)) ≤ 474 → wL_errors_L268 P v1 v3 M → G Γ ids ad k268 (16 * k268) (sh Λ ad M O) 268 [(0, .ref (ad 20 0)), (1, .long v1), (3, .int v3)] [] := by
    intro k268 v1 v3 M hk hs
    unfold wL_errors_L268 at hs
    refine G_aload_n hO 0 dL_errors_268 rfl rfl ?_
    refine G_iload_n hO 2 dL_errors_269 rfl rfl ?_
    refine G_iconst hO 5 dL_errors_270 (by decide) ?_
    refine G_iconst hO 1 dL_errors_271 (by decide) ?_
    refine H_callHl hO (rest := []) 1 [.ref (ad 20 0), .int v3, .int 5, .int 1] hX (fun l h => c_L_setRoom hm hs h) cw_setRoom mw_579 mw_578 rfl rfl (Nat.le_of_ble_eq_true rfl) ⟨by decide, by decide⟩ ⟨by decide, by decide⟩ rfl (by first | (show _ ≤ 474; omega) | (show _ ≤ 7584; omega)) dL_errors_272 ?_
    intro r58 M59 hs
    refine G_ldc2 hO mw_411 dL_errors_275 ?_
    refine G_lcmp hO dL_errors_278 ?_
    refine G_if_ne hO 442 dL_errors_279 (by decide) (fun h73 => ?_) (fun h73 => ?_)
    · replace hs := hs.1 h73
      exact b442 _ _ _ _ (by omega) hs
    · replace hs := hs.2 h73
      refine G_iload_n hO 2 dL_errors_282 rfl rfl ?_
      refine G_if_eq hO 344 dL_errors_283 (by decide) (fun h72 => ?_) (fun h72 => ?_)
      · replace hs := hs.1 h72
        exact b344 _ _ _ _ (by omega) hs
      · replace hs := hs.2 h72
        refine G_aload_n hO 0 dL_errors_286 rfl rfl ?_
        refine G_iconst hO 0 dL_errors_287 (by decide) ?_
        refine G_iconst hO 3 dL_errors_288 (by decide) ?_
        refine G_iconst hO 1 dL_errors_289 (by decide) ?_
        refine H_callHl hO (rest := []) 1 [.ref (ad 20 0), .int 0, .int 3, .int 1] hX (fun l h => c_L_setRoom hm hs h) cw_setRoom mw_579 mw_578 rfl rfl (Nat.le_of_ble_eq_true rfl) ⟨by decide, by decide⟩ ⟨by decide, by decide⟩ rfl (by first | (show _ ≤ 474; omega) | (show _ ≤ 7584; omega)) dL_errors_290 ?_
        intro r60 M61 hs
        refine G_ldc2 hO mw_471 dL_errors_293 ?_
        refine G_lcmp hO dL_errors_296 ?_
        refine G_if_ne hO 442 dL_errors_297 (by decide) (fun h71 => ?_) (fun h71 => ?_)
        · replace hs := hs.1 h71
          exact b442 _ _ _ _ (by omega) hs
        · replace hs := hs.2 h71
          refine G_aload_n hO 0 dL_errors_300 rfl rfl ?_
          refine G_iconst hO 0 dL_errors_301 (by decide) ?_
          refine G_iconst hO 0 dL_errors_302 (by decide) ?_
          refine G_bipush hO 9 dL_errors_303 (by decide) ?_
          refine H_callHl hO (rest := []) 1 [.ref (ad 20 0), .int 0, .int 0, .int 9] hX (fun l h => c_L_setRoom hm hs h) cw_setRoom mw_579 mw_578 rfl rfl (Nat.le_of_ble_eq_true rfl) ⟨by decide, by decide⟩ ⟨by decide, by decide⟩ rfl (by first | (show _ ≤ 474; omega) | (show _ ≤ 7584; omega)) dL_errors_305 ?_
          intro r62 M63 hs
          refine G_ldc2 hO mw_471 dL_errors_308 ?_
          refine G_lcmp hO dL_errors_311 ?_
          refine G_if_ne hO 442 dL_errors_312 (by decide) (fun h70 => ?_) (fun h70 => ?_)
          · replace hs := hs.1 h70
            exact b442 _ _ _ _ (by omega) hs
          · replace hs := hs.2 h70
            refine G_aload_n hO 0 dL_errors_315 rfl rfl ?_
            refine G_iconst hO 0 dL_errors_316 (by decide) ?_
            refine G_iconst hO 1 dL_errors_317 (by decide) ?_
            refine G_iconst hO 0 dL_errors_318 (by decide) ?_
            refine H_callHl hO (rest := []) 1 [.ref (ad 20 0), .int 0, .int 1, .int 0] hX (fun l h => c_L_setRoom hm hs h) cw_setRoom mw_579 mw_578 rfl rfl (Nat.le_of_ble_eq_true rfl) ⟨by decide, by decide⟩ ⟨by decide, by decide⟩ rfl (by first | (show _ ≤ 474; omega) | (show _ ≤ 7584; omega)) dL_errors_319 ?_
            intro r64 M65 hs
            refine G_ldc2 hO mw_471 dL_errors_322 ?_
            refine G_lcmp hO dL_errors_325 ?_
            refine G_if_ne hO 442 dL_errors_326 (by decide) (fun h69 => ?_) (fun h69 => ?_)
            · replace hs := hs.1 h69
              exact b442 _ _ _ _ (by omega) hs
            · replace hs := hs.2 h69
              refine G_aload_n hO 0 dL_errors_329 rfl rfl ?_
              refine G_iconst hO 0 dL_errors_330 (by decide) ?_
              refine G_iconst hO 2 dL_errors_331 (by decide) ?_
              refine G_bipush hO 10 dL_errors_332 (by decide) ?_
              refine H_callHl hO (rest := []) 1 [.ref (ad 20 0), .int 0, .int 2, .int 10] hX (fun l h => c_L_setRoom hm hs h) cw_setRoom mw_579 mw_578 rfl rfl (Nat.le_of_ble_eq_true rfl) ⟨by decide, by decide⟩ ⟨by decide, by decide⟩ rfl (by first | (show _ ≤ 474; omega) | (show _ ≤ 7584; omega)) dL_errors_334 ?_
              intro r66 M67 hs
              refine G_ldc2 hO mw_471 dL_errors_337 ?_
              refine G_lcmp hO dL_errors_340 ?_
              refine G_if_ne hO 442 dL_errors_341 (by decide) (fun h68 => ?_) (fun h68 => ?_)
              · replace hs := hs.1 h68
                exact b442 _ _ _ _ (by omega) hs
              · replace hs := hs.2 h68
                exact b344 _ _ _ _ (by omega) hs
  have b173 : ∀ (k173 : Nat) (v1 : Int64) (v3 : Int32) (s0 : Int32) (M : Mem), k173 + ((245)) ≤ 474 → wL_errors_L173 P v1 v3 s0 M → G Γ ids ad k173 (16 * k173) (sh Λ ad M O) 173 [(0, .ref (ad 20 0)), (1, .long v1), (3, .int v3)] [.int s0] := by
    intro k173 v1 v3 s0 M hk hs
    unfold wL_errors_L173 at hs
    refine G_istore hO [(4, .int s0), (0, .ref (ad 20 0)), (1, .long v1), (3, .int v3)] dL_errors_173 (by decide) rfl ?_
    refine G_iload hO 0 dL_errors_175 rfl ?_
    refine G_if_eq hO 442 dL_errors_177 (by decide) (fun h57 => ?_) (fun h57 => ?_)
    · replace hs := hs.1 h57
      refine G_lv hO [(0, .ref (ad 20 0)), (1, .long v1), (3, .int v3)] [1, 2, 3] rfl ?_
      exact b442 _ _ _ _ (by omega) hs
    · replace hs := hs.2 h57
      refine G_aload_n hO 1 dL_errors_180 rfl rfl ?_
      refine G_bipush hO 10 dL_errors_181 (by decide) ?_
      refine G_bipush hO 20 dL_errors_183 (by decide) ?_
      refine G_iconst hO 1 dL_errors_185 (by decide) ?_
      refine G_iconst hO 1 dL_errors_186 (by decide) ?_
      refine H_callHl hO (rest := []) 1 [.ref (ad 20 0), .int 10, .int 20, .int 1, .int 1] hX (fun l h => c_L_addRoom hm hs h) cw_addRoom mw_550 mw_549 rfl rfl (Nat.le_of_ble_eq_true rfl) ⟨by decide, by decide⟩ ⟨by decide, by decide⟩ rfl (by first | (show _ ≤ 474; omega) | (show _ ≤ 7584; omega)) dL_errors_187 ?_
      intro r41 M42 hs
      refine G_ldc2 hO mw_471 dL_errors_190 ?_
      refine G_lcmp hO dL_errors_193 ?_
      refine G_if_ne hO 442 dL_errors_194 (by decide) (fun h56 => ?_) (fun h56 => ?_)
      · replace hs := hs.1 h56
        refine G_lv hO [(0, .ref (ad 20 0)), (1, .long v1), (3, .int v3)] [1, 2, 3] rfl ?_
        exact b442 _ _ _ _ (by omega) hs
      · replace hs := hs.2 h56
        refine G_aload_n hO 1 dL_errors_197 rfl rfl ?_
        refine G_iconst hO 1 dL_errors_198 (by decide) ?_
        refine G_bipush hO 9 dL_errors_199 (by decide) ?_
        refine G_iconst hO 1 dL_errors_201 (by decide) ?_
        refine G_iconst hO 1 dL_errors_202 (by decide) ?_
        refine H_callHl hO (rest := []) 1 [.ref (ad 20 0), .int 1, .int 9, .int 1, .int 1] hX (fun l h => c_L_addRoom hm hs h) cw_addRoom mw_550 mw_549 rfl rfl (Nat.le_of_ble_eq_true rfl) ⟨by decide, by decide⟩ ⟨by decide, by decide⟩ rfl (by first | (show _ ≤ 474; omega) | (show _ ≤ 7584; omega)) dL_errors_203 ?_
        intro r43 M44 hs
        refine G_ldc2 hO mw_471 dL_errors_206 ?_
        refine G_lcmp hO dL_errors_209 ?_
        refine G_if_ne hO 442 dL_errors_210 (by decide) (fun h55 => ?_) (fun h55 => ?_)
        · replace hs := hs.1 h55
          refine G_lv hO [(0, .ref (ad 20 0)), (1, .long v1), (3, .int v3)] [1, 2, 3] rfl ?_
          exact b442 _ _ _ _ (by omega) hs
        · replace hs := hs.2 h55
          refine G_aload_n hO 1 dL_errors_213 rfl rfl ?_
          refine G_iconst hO 1 dL_errors_214 (by decide) ?_
          refine G_bipush hO 20 dL_errors_215 (by decide) ?_
          refine G_iconst hO 0 dL_errors_217 (by decide) ?_
          refine G_iconst hO 1 dL_errors_218 (by decide) ?_
          refine H_callHl hO (rest := []) 1 [.ref (ad 20 0), .int 1, .int 20, .int 0, .int 1] hX (fun l h => c_L_addRoom hm hs h) cw_addRoom mw_550 mw_549 rfl rfl (Nat.le_of_ble_eq_true rfl) ⟨by decide, by decide⟩ ⟨by decide, by decide⟩ rfl (by first | (show _ ≤ 474; omega) | (show _ ≤ 7584; omega)) dL_errors_219 ?_
          intro r45 M46 hs
          refine G_ldc2 hO mw_471 dL_errors_222 ?_
          refine G_lcmp hO dL_errors_225 ?_
          refine G_if_ne hO 442 dL_errors_226 (by decide) (fun h54 => ?_) (fun h54 => ?_)
          · replace hs := hs.1 h54
            refine G_lv hO [(0, .ref (ad 20 0)), (1, .long v1), (3, .int v3)] [1, 2, 3] rfl ?_
            exact b442 _ _ _ _ (by omega) hs
          · replace hs := hs.2 h54
            refine G_aload_n hO 1 dL_errors_229 rfl rfl ?_
            refine G_iconst hO 1 dL_errors_230 (by decide) ?_
            refine G_bipush hO 20 dL_errors_231 (by decide) ?_
            refine G_iconst hO 1 dL_errors_233 (by decide) ?_
            refine G_bipush hO 10 dL_errors_234 (by decide) ?_
            refine H_callHl hO (rest := []) 1 [.ref (ad 20 0), .int 1, .int 20, .int 1, .int 10] hX (fun l h => c_L_addRoom hm hs h) cw_addRoom mw_550 mw_549 rfl rfl (Nat.le_of_ble_eq_true rfl) ⟨by decide, by decide⟩ ⟨by decide, by decide⟩ rfl (by first | (show _ ≤ 474; omega) | (show _ ≤ 7584; omega)) dL_errors_236 ?_
            intro r47 M48 hs
            refine G_ldc2 hO mw_471 dL_errors_239 ?_
            refine G_lcmp hO dL_errors_242 ?_
            refine G_if_ne hO 442 dL_errors_243 (by decide) (fun h53 => ?_) (fun h53 => ?_)
            · replace hs := hs.1 h53
              refine G_lv hO [(0, .ref (ad 20 0)), (1, .long v1), (3, .int v3)] [1, 2, 3] rfl ?_
              exact b442 _ _ _ _ (by omega) hs
            · replace hs := hs.2 h53
              refine G_iload_n hO 3 dL_errors_246 rfl rfl ?_
              refine G_bipush hO 6 dL_errors_247 (by decide) ?_
              refine G_icmp_lt hO 268 dL_errors_249 (by decide) (fun h52 => ?_) (fun h52 => ?_)
              · replace hs := hs.1 h52
                refine G_lv hO [(0, .ref (ad 20 0)), (1, .long v1), (3, .int v3)] [1, 2, 3] rfl ?_
                exact b268 _ _ _ _ (by omega) hs
              · replace hs := hs.2 h52
                refine G_aload_n hO 1 dL_errors_252 rfl rfl ?_
                refine G_iconst hO 1 dL_errors_253 (by decide) ?_
                refine G_bipush hO 20 dL_errors_254 (by decide) ?_
                refine G_iconst hO 1 dL_errors_256 (by decide) ?_
                refine G_iconst hO 1 dL_errors_257 (by decide) ?_
                refine H_callHl hO (rest := []) 1 [.ref (ad 20 0), .int 1, .int 20, .int 1, .int 1] hX (fun l h => c_L_addRoom hm hs h) cw_addRoom mw_550 mw_549 rfl rfl (Nat.le_of_ble_eq_true rfl) ⟨by decide, by decide⟩ ⟨by decide, by decide⟩ rfl (by first | (show _ ≤ 474; omega) | (show _ ≤ 7584; omega)) dL_errors_258 ?_
                intro r49 M50 hs
                refine G_ldc2 hO mw_386 dL_errors_261 ?_
                refine G_lcmp hO dL_errors_264 ?_
                refine G_if_ne hO 442 dL_errors_265 (by decide) (fun h51 => ?_) (fun h51 => ?_)
                · replace hs := hs.1 h51
                  refine G_lv hO [(0, .ref (ad 20 0)), (1, .long v1), (3, .int v3)] [1, 2, 3] rfl ?_
                  exact b442 _ _ _ _ (by omega) hs
                · replace hs := hs.2 h51
                  refine G_lv hO [(0, .ref (ad 20 0)), (1, .long v1), (3, .int v3)] [1, 2, 3] rfl ?_
                  exact b268 _ _ _ _ (by omega) hs
  have b168 : ∀ (k168 : Nat) (v1 : Int64) (v3 : Int32) (M : Mem), k168 + ((245)) ≤ 474 → wL_errors_L168 P v1 v3 M → G Γ ids ad k168 (16 * k168) (sh Λ ad M O) 168 [(0, .ref (ad 20 0)), (1, .long v1), (3, .int v3)] [] := by
    intro k168 v1 v3 M hk hs
    unfold wL_errors_L168 at hs
    refine G_iconst hO 1 dL_errors_168 (by decide) ?_
    refine G_goto hO 173 dL_errors_169 (by decide) ?_
    exact b173 _ _ _ _ _ (by omega) hs
  have b172 : ∀ (k172 : Nat) (v1 : Int64) (v3 : Int32) (M : Mem), k172 + ((245)) ≤ 474 → wL_errors_L172 P v1 v3 M → G Γ ids ad k172 (16 * k172) (sh Λ ad M O) 172 [(0, .ref (ad 20 0)), (1, .long v1), (3, .int v3)] [] := by
    intro k172 v1 v3 M hk hs
    unfold wL_errors_L172 at hs
    refine G_iconst hO 0 dL_errors_172 (by decide) ?_
    exact b173 _ _ _ _ _ (by omega) hs
  have b110 : ∀ (k110 : Nat) (v1 : Int64) (v3 : Int32) (M : Mem), k110 + ((250)) ≤ 474 → wL_errors_L110 P v1 v3 M → G Γ ids ad k110 (16 * k110) (sh Λ ad M O) 110 [(0, .ref (ad 20 0)), (1, .long v1), (3, .int v3)] [] := by
    intro k110 v1 v3 M hk hs
    unfold wL_errors_L110 at hs
    refine G_aload_n hO 0 dL_errors_110 rfl rfl ?_
    refine G_iconst hO 0 dL_errors_111 (by decide) ?_
    refine G_bipush hO 10 dL_errors_112 (by decide) ?_
    refine H_callHl hO (rest := []) 1 [.ref (ad 20 0), .int 0, .int 10] hX (fun l h => c_L_moved hm hs h) cw_moved mw_538 mw_537 rfl rfl (Nat.le_of_ble_eq_true rfl) ⟨by decide, by decide⟩ ⟨by decide, by decide⟩ rfl (by first | (show _ ≤ 474; omega) | (show _ ≤ 7584; omega)) dL_errors_114 ?_
    intro r27 M28 hs
    refine G_ldc2 hO mw_471 dL_errors_117 ?_
    refine G_lcmp hO dL_errors_120 ?_
    refine G_if_ne hO 172 dL_errors_121 (by decide) (fun h40 => ?_) (fun h40 => ?_)
    · replace hs := hs.1 h40
      exact b172 _ _ _ _ (by omega) hs
    · replace hs := hs.2 h40
      refine G_aload_n hO 0 dL_errors_124 rfl rfl ?_
      refine G_aload_n hO 0 dL_errors_125 rfl rfl ?_
      refine G_bipush hO 11 dL_errors_126 (by decide) ?_
      refine H_callHl hO (rest := [.ref (ad 20 0)]) 1 [.ref (ad 20 0), .int 11] hX (fun l h => c_L_about hm hs h) cw_about mw_429 mw_428 rfl rfl (Nat.le_of_ble_eq_true rfl) ⟨by decide, by decide⟩ ⟨by decide, by decide⟩ rfl (by first | (show _ ≤ 474; omega) | (show _ ≤ 7584; omega)) dL_errors_128 ?_
      intro r29 M30 hs
      refine G_l2i hO dL_errors_131 ?_
      refine G_bipush hO 9 dL_errors_132 (by decide) ?_
      refine H_callHl hO (rest := []) 1 [.ref (ad 20 0), .int (Int64.toInt32 r29), .int 9] hX (fun l h => c_L_way hm hs h) cw_way mw_525 mw_524 rfl rfl (Nat.le_of_ble_eq_true rfl) ⟨by decide, by decide⟩ ⟨by decide, by decide⟩ rfl (by first | (show _ ≤ 474; omega) | (show _ ≤ 7584; omega)) dL_errors_134 ?_
      intro r31 M32 hs
      refine G_ldc2 hO mw_411 dL_errors_137 ?_
      refine G_lcmp hO dL_errors_140 ?_
      refine G_if_ne hO 172 dL_errors_141 (by decide) (fun h39 => ?_) (fun h39 => ?_)
      · replace hs := hs.1 h39
        exact b172 _ _ _ _ (by omega) hs
      · replace hs := hs.2 h39
        refine G_aload_n hO 0 dL_errors_144 rfl rfl ?_
        refine G_bipush hO 11 dL_errors_145 (by decide) ?_
        refine H_callHl hO (rest := []) 1 [.ref (ad 20 0), .int 11] hX (fun l h => c_L_about hm hs h) cw_about mw_429 mw_428 rfl rfl (Nat.le_of_ble_eq_true rfl) ⟨by decide, by decide⟩ ⟨by decide, by decide⟩ rfl (by first | (show _ ≤ 474; omega) | (show _ ≤ 7584; omega)) dL_errors_147 ?_
        intro r33 M34 hs
        refine G_lconst hO 0 dL_errors_150 (by decide) ?_
        refine G_lcmp hO dL_errors_151 ?_
        refine G_if_eq hO 168 dL_errors_152 (by decide) (fun h38 => ?_) (fun h38 => ?_)
        · replace hs := hs.1 h38
          exact b168 _ _ _ _ (by omega) hs
        · replace hs := hs.2 h38
          refine G_aload_n hO 0 dL_errors_155 rfl rfl ?_
          refine G_iconst hO 0 dL_errors_156 (by decide) ?_
          refine G_iconst hO 3 dL_errors_157 (by decide) ?_
          refine H_callHl hO (rest := []) 1 [.ref (ad 20 0), .int 0, .int 3] hX (fun l h => c_L_way hm hs h) cw_way mw_525 mw_524 rfl rfl (Nat.le_of_ble_eq_true rfl) ⟨by decide, by decide⟩ ⟨by decide, by decide⟩ rfl (by first | (show _ ≤ 474; omega) | (show _ ≤ 7584; omega)) dL_errors_158 ?_
          intro r35 M36 hs
          refine G_ldc2 hO mw_471 dL_errors_161 ?_
          refine G_lcmp hO dL_errors_164 ?_
          refine G_if_ne hO 172 dL_errors_165 (by decide) (fun h37 => ?_) (fun h37 => ?_)
          · replace hs := hs.1 h37
            exact b172 _ _ _ _ (by omega) hs
          · replace hs := hs.2 h37
            exact b168 _ _ _ _ (by omega) hs
  refine G_aload_n hO 0 dL_errors_0 rfl rfl ?_
  refine H_callYl hO (rest := []) 216 [.ref (ad 20 0)] hX (fun l h => c_L_now hm hnr hs h) cv_L_now mw_424 mw_423 rfl rfl (Nat.le_of_ble_eq_true rfl) ⟨by decide, by decide⟩ ⟨by decide, by decide⟩ rfl (by first | (show _ ≤ 474; omega) | (show _ ≤ 7584; omega)) dL_errors_1 ?_
  intro r1 M2 hs
  refine G_lstore_n hO [(1, .long r1), (0, .ref (ad 20 0))] dL_errors_4 rfl (by decide) rfl ?_
  refine G_aload_n hO 1 dL_errors_5 rfl rfl ?_
  refine G_iconst hO 0 dL_errors_6 (by decide) ?_
  refine H_callHl hO (rest := []) 1 [.ref (ad 20 0), .int 0] hX (fun l h => c_L_about hm hs h) cw_about mw_429 mw_428 rfl rfl (Nat.le_of_ble_eq_true rfl) ⟨by decide, by decide⟩ ⟨by decide, by decide⟩ rfl (by first | (show _ ≤ 474; omega) | (show _ ≤ 7584; omega)) dL_errors_7 ?_
  intro r3 M4 hs
  refine G_l2i hO dL_errors_10 ?_
  refine G_istore_n hO [(3, .int (Int64.toInt32 r3)), (1, .long r1), (0, .ref (ad 20 0))] dL_errors_11 rfl (by decide) rfl ?_
  refine G_aload_n hO 2 dL_errors_12 rfl rfl ?_
  refine G_iconst hO (-1) dL_errors_13 (by decide) ?_
  refine H_callHl hO (rest := []) 1 [.ref (ad 20 0), .int (-1)] hX (fun l h => c_L_about hm hs h) cw_about mw_429 mw_428 rfl rfl (Nat.le_of_ble_eq_true rfl) ⟨by decide, by decide⟩ ⟨by decide, by decide⟩ rfl (by first | (show _ ≤ 474; omega) | (show _ ≤ 7584; omega)) dL_errors_14 ?_
  intro r5 M6 hs
  refine G_ldc2 hO mw_471 dL_errors_17 ?_
  refine G_lcmp hO dL_errors_20 ?_
  refine G_if_ne hO 172 dL_errors_21 (by decide) (fun h26 => ?_) (fun h26 => ?_)
  · replace hs := hs.1 h26
    refine G_lv hO [(0, .ref (ad 20 0)), (1, .long r1), (3, .int (Int64.toInt32 r3))] [2, 1, 0] rfl ?_
    exact b172 _ _ _ _ (by omega) hs
  · replace hs := hs.2 h26
    refine G_aload_n hO 2 dL_errors_24 rfl rfl ?_
    refine G_bipush hO 13 dL_errors_25 (by decide) ?_
    refine H_callHl hO (rest := []) 1 [.ref (ad 20 0), .int 13] hX (fun l h => c_L_about hm hs h) cw_about mw_429 mw_428 rfl rfl (Nat.le_of_ble_eq_true rfl) ⟨by decide, by decide⟩ ⟨by decide, by decide⟩ rfl (by first | (show _ ≤ 474; omega) | (show _ ≤ 7584; omega)) dL_errors_27 ?_
    intro r7 M8 hs
    refine G_ldc2 hO mw_471 dL_errors_30 ?_
    refine G_lcmp hO dL_errors_33 ?_
    refine G_if_ne hO 172 dL_errors_34 (by decide) (fun h25 => ?_) (fun h25 => ?_)
    · replace hs := hs.1 h25
      refine G_lv hO [(0, .ref (ad 20 0)), (1, .long r1), (3, .int (Int64.toInt32 r3))] [2, 1, 0] rfl ?_
      exact b172 _ _ _ _ (by omega) hs
    · replace hs := hs.2 h25
      refine G_aload_n hO 2 dL_errors_37 rfl rfl ?_
      refine G_bipush hO 9 dL_errors_38 (by decide) ?_
      refine H_callHl hO (rest := []) 1 [.ref (ad 20 0), .int 9] hX (fun l h => c_L_setting hm hs h) cw_setting mw_473 mw_472 rfl rfl (Nat.le_of_ble_eq_true rfl) ⟨by decide, by decide⟩ ⟨by decide, by decide⟩ rfl (by first | (show _ ≤ 474; omega) | (show _ ≤ 7584; omega)) dL_errors_40 ?_
      intro r9 M10 hs
      refine G_ldc2 hO mw_471 dL_errors_43 ?_
      refine G_lcmp hO dL_errors_46 ?_
      refine G_if_ne hO 172 dL_errors_47 (by decide) (fun h24 => ?_) (fun h24 => ?_)
      · replace hs := hs.1 h24
        refine G_lv hO [(0, .ref (ad 20 0)), (1, .long r1), (3, .int (Int64.toInt32 r3))] [2, 1, 0] rfl ?_
        exact b172 _ _ _ _ (by omega) hs
      · replace hs := hs.2 h24
        refine G_aload_n hO 2 dL_errors_50 rfl rfl ?_
        refine G_iload_n hO 0 dL_errors_51 rfl rfl ?_
        refine G_iconst hO 2 dL_errors_52 (by decide) ?_
        refine G_iadd hO dL_errors_53 ?_
        refine G_iconst hO 5 dL_errors_54 (by decide) ?_
        refine H_callHl hO (rest := []) 1 [.ref (ad 20 0), .int ((Int64.toInt32 r3) + 2), .int 5] hX (fun l h => c_L_place hm hs h) cw_place mw_483 mw_482 rfl rfl (Nat.le_of_ble_eq_true rfl) ⟨by decide, by decide⟩ ⟨by decide, by decide⟩ rfl (by first | (show _ ≤ 474; omega) | (show _ ≤ 7584; omega)) dL_errors_55 ?_
        intro r11 M12 hs
        refine G_ldc2 hO mw_411 dL_errors_58 ?_
        refine G_lcmp hO dL_errors_61 ?_
        refine G_if_ne hO 172 dL_errors_62 (by decide) (fun h23 => ?_) (fun h23 => ?_)
        · replace hs := hs.1 h23
          refine G_lv hO [(0, .ref (ad 20 0)), (1, .long r1), (3, .int (Int64.toInt32 r3))] [2, 1, 0] rfl ?_
          exact b172 _ _ _ _ (by omega) hs
        · replace hs := hs.2 h23
          refine G_aload_n hO 2 dL_errors_65 rfl rfl ?_
          refine G_iconst hO 1 dL_errors_66 (by decide) ?_
          refine G_iconst hO 3 dL_errors_67 (by decide) ?_
          refine H_callHl hO (rest := []) 1 [.ref (ad 20 0), .int 1, .int 3] hX (fun l h => c_L_place hm hs h) cw_place mw_483 mw_482 rfl rfl (Nat.le_of_ble_eq_true rfl) ⟨by decide, by decide⟩ ⟨by decide, by decide⟩ rfl (by first | (show _ ≤ 474; omega) | (show _ ≤ 7584; omega)) dL_errors_68 ?_
          intro r13 M14 hs
          refine G_ldc2 hO mw_471 dL_errors_71 ?_
          refine G_lcmp hO dL_errors_74 ?_
          refine G_if_ne hO 172 dL_errors_75 (by decide) (fun h22 => ?_) (fun h22 => ?_)
          · replace hs := hs.1 h22
            refine G_lv hO [(0, .ref (ad 20 0)), (1, .long r1), (3, .int (Int64.toInt32 r3))] [2, 1, 0] rfl ?_
            exact b172 _ _ _ _ (by omega) hs
          · replace hs := hs.2 h22
            refine G_aload_n hO 2 dL_errors_78 rfl rfl ?_
            refine G_iload_n hO 0 dL_errors_79 rfl rfl ?_
            refine G_bipush hO 9 dL_errors_80 (by decide) ?_
            refine H_callHl hO (rest := []) 1 [.ref (ad 20 0), .int (Int64.toInt32 r3), .int 9] hX (fun l h => c_L_room hm hs h) cw_room mw_515 mw_514 rfl rfl (Nat.le_of_ble_eq_true rfl) ⟨by decide, by decide⟩ ⟨by decide, by decide⟩ rfl (by first | (show _ ≤ 474; omega) | (show _ ≤ 7584; omega)) dL_errors_82 ?_
            intro r15 M16 hs
            refine G_ldc2 hO mw_411 dL_errors_85 ?_
            refine G_lcmp hO dL_errors_88 ?_
            refine G_if_ne hO 172 dL_errors_89 (by decide) (fun h21 => ?_) (fun h21 => ?_)
            · replace hs := hs.1 h21
              refine G_lv hO [(0, .ref (ad 20 0)), (1, .long r1), (3, .int (Int64.toInt32 r3))] [2, 1, 0] rfl ?_
              exact b172 _ _ _ _ (by omega) hs
            · replace hs := hs.2 h21
              refine G_iload_n hO 0 dL_errors_92 rfl rfl ?_
              refine G_if_eq hO 110 dL_errors_93 (by decide) (fun h20 => ?_) (fun h20 => ?_)
              · replace hs := hs.1 h20
                refine G_lv hO [(0, .ref (ad 20 0)), (1, .long r1), (3, .int (Int64.toInt32 r3))] [2, 1, 0] rfl ?_
                exact b110 _ _ _ _ (by omega) hs
              · replace hs := hs.2 h20
                refine G_aload_n hO 2 dL_errors_96 rfl rfl ?_
                refine G_iconst hO 0 dL_errors_97 (by decide) ?_
                refine G_bipush hO 7 dL_errors_98 (by decide) ?_
                refine H_callHl hO (rest := []) 1 [.ref (ad 20 0), .int 0, .int 7] hX (fun l h => c_L_room hm hs h) cw_room mw_515 mw_514 rfl rfl (Nat.le_of_ble_eq_true rfl) ⟨by decide, by decide⟩ ⟨by decide, by decide⟩ rfl (by first | (show _ ≤ 474; omega) | (show _ ≤ 7584; omega)) dL_errors_100 ?_
                intro r17 M18 hs
                refine G_ldc2 hO mw_471 dL_errors_103 ?_
                refine G_lcmp hO dL_errors_106 ?_
                refine G_if_ne hO 172 dL_errors_107 (by decide) (fun h19 => ?_) (fun h19 => ?_)
                · replace hs := hs.1 h19
                  refine G_lv hO [(0, .ref (ad 20 0)), (1, .long r1), (3, .int (Int64.toInt32 r3))] [2, 1, 0] rfl ?_
                  exact b172 _ _ _ _ (by omega) hs
                · replace hs := hs.2 h19
                  refine G_lv hO [(0, .ref (ad 20 0)), (1, .long r1), (3, .int (Int64.toInt32 r3))] [2, 1, 0] rfl ?_
                  exact b110 _ _ _ _ (by omega) hs
set_option maxHeartbeats 4000000 in
set_option maxRecDepth 20000 in
theorem c_L_kept {l : Launch} {Λ : Lay} {B : Zn} {ids : List (Nat × Nat)} {ad : Nat → Nat → Nat} (hm : ∀ q, q ∈ ids0 → q ∈ ids) (hnr : (20, 6) ∉ ids) (hnh : (23, 1) ∉ ids) {M : Mem} {O : Nat → Int64} {P : Int32 → Mem → Prop} (hs : wL_kept M P) (hst : l.stackTraces = false) : CY l yL_kept cL_kept 14 (some .boolean) { frames := 8, cells := 1718, slots := 27488, locals := 155 } Λ B ids ad (sh Λ ad M O) [.ref (ad 20 0)] (Gi Λ ids ad O P) := by
  refine CY.of hst RL [(0, .ref (ad 20 0))] (plainFor_of_name (by decide +kernel)) rfl (Nat.le_of_ble_eq_true rfl) rfl (fun Γ hO hX hF => ?_)
  unfold wL_kept at hs
  refine G_aload_n hO 0 dL_kept_0 rfl rfl ?_
  refine G_iconst hO 0 dL_kept_1 (by decide) ?_
  refine H_callHl hO (rest := []) 1 [.ref (ad 20 0), .int 0] hX (fun l h => c_L_about hm hs h) cw_about mw_429 mw_428 rfl rfl (Nat.le_of_ble_eq_true rfl) ⟨by decide, by decide⟩ ⟨by decide, by decide⟩ rfl (by first | (show _ ≤ 1718; omega) | (show _ ≤ 27488; omega)) dL_kept_2 ?_
  intro r1 M2 hs
  refine G_l2i hO dL_kept_5 ?_
  refine G_istore_n hO [(1, .int (Int64.toInt32 r1)), (0, .ref (ad 20 0))] dL_kept_6 rfl (by decide) rfl ?_
  refine G_aload_n hO 1 dL_kept_7 rfl rfl ?_
  refine G_bipush hO 11 dL_kept_8 (by decide) ?_
  refine H_callHl hO (rest := []) 1 [.ref (ad 20 0), .int 11] hX (fun l h => c_L_about hm hs h) cw_about mw_429 mw_428 rfl rfl (Nat.le_of_ble_eq_true rfl) ⟨by decide, by decide⟩ ⟨by decide, by decide⟩ rfl (by first | (show _ ≤ 1718; omega) | (show _ ≤ 27488; omega)) dL_kept_10 ?_
  intro r3 M4 hs
  refine G_l2i hO dL_kept_13 ?_
  refine G_istore_n hO [(2, .int (Int64.toInt32 r3)), (1, .int (Int64.toInt32 r1)), (0, .ref (ad 20 0))] dL_kept_14 rfl (by decide) rfl ?_
  refine G_bipush hO 10 dL_kept_15 (by decide) ?_
  refine H_newH hO hnh mw_56 rfl (by first | (show _ ≤ 1718; omega) | (show _ ≤ 27488; omega)) dL_kept_17 (fun ids ad hdr => ?_)
  have hm := hdr.mem hm
  have hnr := hdr.nr hnr
  have b668 : ∀ (k668 : Nat) (s0 : Int64) (s1 : Int64) (M : Mem), k668 + ((0)) ≤ 1718 → wL_kept_L668 P s0 s1 M → G Γ ids ad k668 (16 * k668) (sh Λ ad M O) 668 [] [.long s0, .long s1] := by
    intro k668 s0 s1 M hk hs
    unfold wL_kept_L668 at hs
    refine G_lcmp hO dL_kept_668 ?_
    refine G_if_lt hO 676 dL_kept_669 (by decide) (fun h113 => ?_) (fun h113 => ?_)
    · replace hs := hs.1 h113
      refine G_iconst hO 0 dL_kept_676 (by decide) ?_
      refine G_dropH hO hdr ?_
      exact G_zret hO hF rfl (by first | (show _ ≤ 1718; omega) | (show _ ≤ 27488; omega)) (by first | (show _ ≤ 1718; omega) | (show _ ≤ 27488; omega)) rfl dL_kept_677 ⟨rfl, rfl, _, _, rfl, rfl, hs⟩
    · replace hs := hs.2 h113
      refine G_iconst hO 1 dL_kept_672 (by decide) ?_
      refine G_goto hO 677 dL_kept_673 (by decide) ?_
      refine G_dropH hO hdr ?_
      exact G_zret hO hF rfl (by first | (show _ ≤ 1718; omega) | (show _ ≤ 27488; omega)) (by first | (show _ ≤ 1718; omega) | (show _ ≤ 27488; omega)) rfl dL_kept_677 ⟨rfl, rfl, _, _, rfl, rfl, hs⟩
  have b543 : ∀ (k543 : Nat) (v1 : Int32) (v4 : Int32) (v5 : Int64) (v7 : Int64) (M : Mem), k543 + ((9)) ≤ 1718 → wL_kept_L543 P v1 v4 v5 v7 M → G Γ ids ad k543 (16 * k543) (sh Λ ad M O) 543 [(0, .ref (ad 20 0)), (1, .int v1), (4, .int v4), (5, .long v5), (7, .long v7)] [] := by
    intro k543 v1 v4 v5 v7 M hk hs
    unfold wL_kept_L543 at hs
    refine G_aload_n hO 0 dL_kept_543 rfl rfl ?_
    refine G_iconst hO 5 dL_kept_544 (by decide) ?_
    refine H_callHl hO (rest := []) 1 [.ref (ad 20 0), .int 5] hX (fun l h => c_L_about hm hs h) cw_about mw_429 mw_428 rfl rfl (Nat.le_of_ble_eq_true rfl) ⟨by decide, by decide⟩ ⟨by decide, by decide⟩ rfl (by first | (show _ ≤ 1718; omega) | (show _ ≤ 27488; omega)) dL_kept_545 ?_
    intro r82 M83 hs
    refine G_lstore hO [(9, .long r82), (0, .ref (ad 20 0)), (1, .int v1), (4, .int v4), (5, .long v5), (7, .long v7)] dL_kept_548 (by decide) rfl ?_
    refine G_iload hO 3 dL_kept_550 rfl ?_
    refine G_if_eq hO 676 dL_kept_552 (by decide) (fun h112 => ?_) (fun h112 => ?_)
    · replace hs := hs.1 h112
      refine G_iconst hO 0 dL_kept_676 (by decide) ?_
      refine G_dropH hO hdr ?_
      exact G_zret hO hF rfl (by first | (show _ ≤ 1718; omega) | (show _ ≤ 27488; omega)) (by first | (show _ ≤ 1718; omega) | (show _ ≤ 27488; omega)) rfl dL_kept_677 ⟨rfl, rfl, _, _, rfl, rfl, hs⟩
    · replace hs := hs.2 h112
      refine G_aload_n hO 1 dL_kept_555 rfl rfl ?_
      refine G_bipush hO 10 dL_kept_556 (by decide) ?_
      refine H_callHl hO (rest := []) 1 [.ref (ad 20 0), .int 10] hX (fun l h => c_L_about hm hs h) cw_about mw_429 mw_428 rfl rfl (Nat.le_of_ble_eq_true rfl) ⟨by decide, by decide⟩ ⟨by decide, by decide⟩ rfl (by first | (show _ ≤ 1718; omega) | (show _ ≤ 27488; omega)) dL_kept_558 ?_
      intro r84 M85 hs
      refine G_lload hO 4 dL_kept_561 rfl ?_
      refine G_lcmp hO dL_kept_563 ?_
      refine G_if_ne hO 676 dL_kept_564 (by decide) (fun h111 => ?_) (fun h111 => ?_)
      · replace hs := hs.1 h111
        refine G_iconst hO 0 dL_kept_676 (by decide) ?_
        refine G_dropH hO hdr ?_
        exact G_zret hO hF rfl (by first | (show _ ≤ 1718; omega) | (show _ ≤ 27488; omega)) (by first | (show _ ≤ 1718; omega) | (show _ ≤ 27488; omega)) rfl dL_kept_677 ⟨rfl, rfl, _, _, rfl, rfl, hs⟩
      · replace hs := hs.2 h111
        refine G_aload_n hO 1 dL_kept_567 rfl rfl ?_
        refine G_bipush hO 12 dL_kept_568 (by decide) ?_
        refine H_callHl hO (rest := []) 1 [.ref (ad 20 0), .int 12] hX (fun l h => c_L_about hm hs h) cw_about mw_429 mw_428 rfl rfl (Nat.le_of_ble_eq_true rfl) ⟨by decide, by decide⟩ ⟨by decide, by decide⟩ rfl (by first | (show _ ≤ 1718; omega) | (show _ ≤ 27488; omega)) dL_kept_570 ?_
        intro r86 M87 hs
        refine G_lload hO 5 dL_kept_573 rfl ?_
        refine G_lcmp hO dL_kept_575 ?_
        refine G_if_ne hO 676 dL_kept_576 (by decide) (fun h110 => ?_) (fun h110 => ?_)
        · replace hs := hs.1 h110
          refine G_iconst hO 0 dL_kept_676 (by decide) ?_
          refine G_dropH hO hdr ?_
          exact G_zret hO hF rfl (by first | (show _ ≤ 1718; omega) | (show _ ≤ 27488; omega)) (by first | (show _ ≤ 1718; omega) | (show _ ≤ 27488; omega)) rfl dL_kept_677 ⟨rfl, rfl, _, _, rfl, rfl, hs⟩
        · replace hs := hs.2 h110
          refine G_lload hO 0 dL_kept_579 rfl ?_
          refine G_lconst hO 0 dL_kept_581 (by decide) ?_
          refine G_ldc2 hO mw_816 dL_kept_582 ?_
          refine KS_Ni hO (rest := []) [.long r82, .long 0, .long 100] (fun l => c_L_in hs) cv_L_in mw_813 mw_812 rfl rfl (Nat.le_of_ble_eq_true rfl) (by decide) rfl rfl (by first | (show _ ≤ 1718; omega) | (show _ ≤ 27488; omega)) (by first | (show _ ≤ 1718; omega) | (show _ ≤ 27488; omega)) dL_kept_585 ?_
          intro r88 hs
          refine G_if_eq hO 676 dL_kept_588 (by decide) (fun h109 => ?_) (fun h109 => ?_)
          · replace hs := hs.1 h109
            refine G_iconst hO 0 dL_kept_676 (by decide) ?_
            refine G_dropH hO hdr ?_
            exact G_zret hO hF rfl (by first | (show _ ≤ 1718; omega) | (show _ ≤ 27488; omega)) (by first | (show _ ≤ 1718; omega) | (show _ ≤ 27488; omega)) rfl dL_kept_677 ⟨rfl, rfl, _, _, rfl, rfl, hs⟩
          · replace hs := hs.2 h109
            refine G_aload_n hO 1 dL_kept_591 rfl rfl ?_
            refine G_bipush hO 7 dL_kept_592 (by decide) ?_
            refine H_callHl hO (rest := []) 1 [.ref (ad 20 0), .int 7] hX (fun l h => c_L_about hm hs h) cw_about mw_429 mw_428 rfl rfl (Nat.le_of_ble_eq_true rfl) ⟨by decide, by decide⟩ ⟨by decide, by decide⟩ rfl (by first | (show _ ≤ 1718; omega) | (show _ ≤ 27488; omega)) dL_kept_594 ?_
            intro r89 M90 hs
            refine G_lconst hO 0 dL_kept_597 (by decide) ?_
            refine G_ldc2 hO mw_817 dL_kept_598 ?_
            refine KS_Ni hO (rest := []) [.long r89, .long 0, .long 59] (fun l => c_L_in hs) cv_L_in mw_813 mw_812 rfl rfl (Nat.le_of_ble_eq_true rfl) (by decide) rfl rfl (by first | (show _ ≤ 1718; omega) | (show _ ≤ 27488; omega)) (by first | (show _ ≤ 1718; omega) | (show _ ≤ 27488; omega)) dL_kept_601 ?_
            intro r91 hs
            refine G_if_eq hO 676 dL_kept_604 (by decide) (fun h108 => ?_) (fun h108 => ?_)
            · replace hs := hs.1 h108
              refine G_iconst hO 0 dL_kept_676 (by decide) ?_
              refine G_dropH hO hdr ?_
              exact G_zret hO hF rfl (by first | (show _ ≤ 1718; omega) | (show _ ≤ 27488; omega)) (by first | (show _ ≤ 1718; omega) | (show _ ≤ 27488; omega)) rfl dL_kept_677 ⟨rfl, rfl, _, _, rfl, rfl, hs⟩
            · replace hs := hs.2 h108
              refine G_aload_n hO 1 dL_kept_607 rfl rfl ?_
              refine G_iconst hO 4 dL_kept_608 (by decide) ?_
              refine H_callHl hO (rest := []) 1 [.ref (ad 20 0), .int 4] hX (fun l h => c_L_about hm hs h) cw_about mw_429 mw_428 rfl rfl (Nat.le_of_ble_eq_true rfl) ⟨by decide, by decide⟩ ⟨by decide, by decide⟩ rfl (by first | (show _ ≤ 1718; omega) | (show _ ≤ 27488; omega)) dL_kept_609 ?_
              intro r92 M93 hs
              refine G_lconst hO 0 dL_kept_612 (by decide) ?_
              refine G_aload_n hO 1 dL_kept_613 rfl rfl ?_
              refine G_iconst hO 1 dL_kept_614 (by decide) ?_
              refine H_callHl hO (rest := [.long 0, .long r92]) 1 [.ref (ad 20 0), .int 1] hX (fun l h => c_L_about hm hs h) cw_about mw_429 mw_428 rfl rfl (Nat.le_of_ble_eq_true rfl) ⟨by decide, by decide⟩ ⟨by decide, by decide⟩ rfl (by first | (show _ ≤ 1718; omega) | (show _ ≤ 27488; omega)) dL_kept_615 ?_
              intro r94 M95 hs
              refine KS_Ni hO (rest := []) [.long r92, .long 0, .long r94] (fun l => c_L_in hs) cv_L_in mw_813 mw_812 rfl rfl (Nat.le_of_ble_eq_true rfl) (by decide) rfl rfl (by first | (show _ ≤ 1718; omega) | (show _ ≤ 27488; omega)) (by first | (show _ ≤ 1718; omega) | (show _ ≤ 27488; omega)) dL_kept_618 ?_
              intro r96 hs
              refine G_if_eq hO 676 dL_kept_621 (by decide) (fun h107 => ?_) (fun h107 => ?_)
              · replace hs := hs.1 h107
                refine G_iconst hO 0 dL_kept_676 (by decide) ?_
                refine G_dropH hO hdr ?_
                exact G_zret hO hF rfl (by first | (show _ ≤ 1718; omega) | (show _ ≤ 27488; omega)) (by first | (show _ ≤ 1718; omega) | (show _ ≤ 27488; omega)) rfl dL_kept_677 ⟨rfl, rfl, _, _, rfl, rfl, hs⟩
              · replace hs := hs.2 h107
                refine G_aload_n hO 1 dL_kept_624 rfl rfl ?_
                refine G_bipush hO 8 dL_kept_625 (by decide) ?_
                refine H_callHl hO (rest := []) 1 [.ref (ad 20 0), .int 8] hX (fun l h => c_L_about hm hs h) cw_about mw_429 mw_428 rfl rfl (Nat.le_of_ble_eq_true rfl) ⟨by decide, by decide⟩ ⟨by decide, by decide⟩ rfl (by first | (show _ ≤ 1718; omega) | (show _ ≤ 27488; omega)) dL_kept_627 ?_
                intro r97 M98 hs
                refine G_ldc2 hO mw_818 dL_kept_630 ?_
                refine G_ldc2 hO mw_819 dL_kept_633 ?_
                refine KS_Ni hO (rest := []) [.long r97, .long 20, .long 70] (fun l => c_L_in hs) cv_L_in mw_813 mw_812 rfl rfl (Nat.le_of_ble_eq_true rfl) (by decide) rfl rfl (by first | (show _ ≤ 1718; omega) | (show _ ≤ 27488; omega)) (by first | (show _ ≤ 1718; omega) | (show _ ≤ 27488; omega)) dL_kept_636 ?_
                intro r99 hs
                refine G_if_eq hO 676 dL_kept_639 (by decide) (fun h106 => ?_) (fun h106 => ?_)
                · replace hs := hs.1 h106
                  refine G_iconst hO 0 dL_kept_676 (by decide) ?_
                  refine G_dropH hO hdr ?_
                  exact G_zret hO hF rfl (by first | (show _ ≤ 1718; omega) | (show _ ≤ 27488; omega)) (by first | (show _ ≤ 1718; omega) | (show _ ≤ 27488; omega)) rfl dL_kept_677 ⟨rfl, rfl, _, _, rfl, rfl, hs⟩
                · replace hs := hs.2 h106
                  refine G_aload_n hO 1 dL_kept_642 rfl rfl ?_
                  refine G_iconst hO 0 dL_kept_643 (by decide) ?_
                  refine H_callHl hO (rest := []) 1 [.ref (ad 20 0), .int 0] hX (fun l h => c_L_heatFor hm hs h) cw_heatFor mw_741 mw_740 rfl rfl (Nat.le_of_ble_eq_true rfl) ⟨by decide, by decide⟩ ⟨by decide, by decide⟩ rfl (by first | (show _ ≤ 1718; omega) | (show _ ≤ 27488; omega)) dL_kept_644 ?_
                  intro r100 M101 hs
                  refine G_lconst hO 0 dL_kept_647 (by decide) ?_
                  refine G_lcmp hO dL_kept_648 ?_
                  refine G_if_ne hO 676 dL_kept_649 (by decide) (fun h105 => ?_) (fun h105 => ?_)
                  · replace hs := hs.1 h105
                    refine G_iconst hO 0 dL_kept_676 (by decide) ?_
                    refine G_dropH hO hdr ?_
                    exact G_zret hO hF rfl (by first | (show _ ≤ 1718; omega) | (show _ ≤ 27488; omega)) (by first | (show _ ≤ 1718; omega) | (show _ ≤ 27488; omega)) rfl dL_kept_677 ⟨rfl, rfl, _, _, rfl, rfl, hs⟩
                  · replace hs := hs.2 h105
                    refine G_aload_n hO 1 dL_kept_652 rfl rfl ?_
                    refine G_iconst hO 1 dL_kept_653 (by decide) ?_
                    refine H_callHl hO (rest := []) 1 [.ref (ad 20 0), .int 1] hX (fun l h => c_L_bestSlope hm hs h) cw_bestSlope mw_718 mw_717 rfl rfl (Nat.le_of_ble_eq_true rfl) ⟨by decide, by decide⟩ ⟨by decide, by decide⟩ rfl (by first | (show _ ≤ 1718; omega) | (show _ ≤ 27488; omega)) dL_kept_654 ?_
                    intro r102 M103 hs
                    refine G_iload_n hO 2 dL_kept_657 rfl rfl ?_
                    refine G_if_ne hO 667 dL_kept_658 (by decide) (fun h104 => ?_) (fun h104 => ?_)
                    · replace hs := hs.1 h104
                      refine G_lconst hO 0 dL_kept_667 (by decide) ?_
                      refine G_lv hO [] [] rfl ?_
                      exact b668 _ _ _ _ (by omega) hs
                    · replace hs := hs.2 h104
                      refine G_ldc2 hO mw_820 dL_kept_661 ?_
                      refine G_goto hO 668 dL_kept_664 (by decide) ?_
                      refine G_lv hO [] [] rfl ?_
                      exact b668 _ _ _ _ (by omega) hs
  have b402 : ∀ (N402 k402 : Nat) (v1 : Int32) (v4 : Int32) (v5 : Int64) (v7 : Int64) (v9 : Int32) (M : Mem), k402 + ((11 * N402 + 9)) ≤ 1718 → wL_kept_L402 P N402 v1 v4 v5 v7 v9 M → G Γ ids ad k402 (16 * k402) (sh Λ ad M O) 402 [(0, .ref (ad 20 0)), (1, .int v1), (4, .int v4), (5, .long v5), (7, .long v7), (9, .int v9)] [] := by
    intro N402
    induction N402 with
    | zero => intro k402 v1 v4 v5 v7 v9 M hk hs; exact False.elim hs
    | succ N402 ih402 =>
      have b523 : ∀ (k523 : Nat) (v1 : Int32) (v5 : Int64) (v7 : Int64) (v9 : Int32) (s0 : Int32) (M : Mem), k523 + ((11 * N402 + 9) + (1)) ≤ 1718 → wL_kept_L523 P (fun v1' v4' v5' v7' v9' M' => wL_kept_L402 P N402 v1' v4' v5' v7' v9' M') v1 v5 v7 v9 s0 M → G Γ ids ad k523 (16 * k523) (sh Λ ad M O) 523 [(0, .ref (ad 20 0)), (1, .int v1), (5, .long v5), (7, .long v7), (9, .int v9)] [.int s0] := by
        intro k523 v1 v5 v7 v9 s0 M hk hs
        unfold wL_kept_L523 at hs
        refine G_istore hO [(4, .int s0), (0, .ref (ad 20 0)), (1, .int v1), (5, .long v5), (7, .long v7), (9, .int v9)] dL_kept_523 (by decide) rfl ?_
        refine G_lload hO 4 dL_kept_525 rfl ?_
        refine G_aload_n hO 1 dL_kept_527 rfl rfl ?_
        refine G_iload hO 5 dL_kept_528 rfl ?_
        refine G_iconst hO 4 dL_kept_530 (by decide) ?_
        refine H_callHl hO (rest := [.long v7]) 1 [.ref (ad 20 0), .int v9, .int 4] hX (fun l h => c_L_room hm hs h) cw_room mw_515 mw_514 rfl rfl (Nat.le_of_ble_eq_true rfl) ⟨by decide, by decide⟩ ⟨by decide, by decide⟩ rfl (by first | (show _ ≤ 1718; omega) | (show _ ≤ 27488; omega)) dL_kept_531 ?_
        intro r114 M115 hs
        refine G_ladd hO dL_kept_534 ?_
        refine G_lstore hO [(7, .long (v7 + r114)), (4, .int s0), (0, .ref (ad 20 0)), (1, .int v1), (5, .long v5), (9, .int v9)] dL_kept_535 (by decide) rfl ?_
        refine G_iinc hO 5 (v9 + 1) [(9, .int (v9 + 1)), (7, .long (v7 + r114)), (4, .int s0), (0, .ref (ad 20 0)), (1, .int v1), (5, .long v5)] dL_kept_537 rfl rfl (by decide) rfl ?_
        refine G_goto hO 402 dL_kept_540 (by decide) ?_
        refine G_lv hO [(0, .ref (ad 20 0)), (1, .int v1), (4, .int s0), (5, .long v5), (7, .long (v7 + r114)), (9, .int (v9 + 1))] [3, 4, 2, 5, 1, 0] rfl ?_
        exact ih402 _ _ _ _ _ _ _ (by omega) hs
      have b518 : ∀ (k518 : Nat) (v1 : Int32) (v5 : Int64) (v7 : Int64) (v9 : Int32) (M : Mem), k518 + ((11 * N402 + 9) + (1)) ≤ 1718 → wL_kept_L518 P (fun v1' v4' v5' v7' v9' M' => wL_kept_L402 P N402 v1' v4' v5' v7' v9' M') v1 v5 v7 v9 M → G Γ ids ad k518 (16 * k518) (sh Λ ad M O) 518 [(0, .ref (ad 20 0)), (1, .int v1), (5, .long v5), (7, .long v7), (9, .int v9)] [] := by
        intro k518 v1 v5 v7 v9 M hk hs
        unfold wL_kept_L518 at hs
        refine G_iconst hO 1 dL_kept_518 (by decide) ?_
        refine G_goto hO 523 dL_kept_519 (by decide) ?_
        exact b523 _ _ _ _ _ _ _ (by omega) hs
      have b522 : ∀ (k522 : Nat) (v1 : Int32) (v5 : Int64) (v7 : Int64) (v9 : Int32) (M : Mem), k522 + ((11 * N402 + 9) + (1)) ≤ 1718 → wL_kept_L522 P (fun v1' v4' v5' v7' v9' M' => wL_kept_L402 P N402 v1' v4' v5' v7' v9' M') v1 v5 v7 v9 M → G Γ ids ad k522 (16 * k522) (sh Λ ad M O) 522 [(0, .ref (ad 20 0)), (1, .int v1), (5, .long v5), (7, .long v7), (9, .int v9)] [] := by
        intro k522 v1 v5 v7 v9 M hk hs
        unfold wL_kept_L522 at hs
        refine G_iconst hO 0 dL_kept_522 (by decide) ?_
        exact b523 _ _ _ _ _ _ _ (by omega) hs
      intro k402 v1 v4 v5 v7 v9 M hk hs
      unfold wL_kept_L402 at hs
      refine G_iload hO 5 dL_kept_402 rfl ?_
      refine G_iload_n hO 1 dL_kept_404 rfl rfl ?_
      refine G_icmp_ge hO 543 dL_kept_405 (by decide) (fun h80 => ?_) (fun h80 => ?_)
      · replace hs := hs.1 h80
        refine G_lv hO [(0, .ref (ad 20 0)), (1, .int v1), (4, .int v4), (5, .long v5), (7, .long v7)] [0, 1, 2, 3, 4] rfl ?_
        exact b543 _ _ _ _ _ _ (by omega) hs
      · replace hs := hs.2 h80
        refine G_iload hO 2 dL_kept_408 rfl ?_
        refine G_if_eq hO 543 dL_kept_410 (by decide) (fun h79 => ?_) (fun h79 => ?_)
        · replace hs := hs.1 h79
          refine G_lv hO [(0, .ref (ad 20 0)), (1, .int v1), (4, .int v4), (5, .long v5), (7, .long v7)] [0, 1, 2, 3, 4] rfl ?_
          exact b543 _ _ _ _ _ _ (by omega) hs
        · replace hs := hs.2 h79
          refine G_aload_n hO 0 dL_kept_413 rfl rfl ?_
          refine G_iload hO 5 dL_kept_414 rfl ?_
          refine G_iconst hO 4 dL_kept_416 (by decide) ?_
          refine H_callHl hO (rest := []) 1 [.ref (ad 20 0), .int v9, .int 4] hX (fun l h => c_L_room hm hs h) cw_room mw_515 mw_514 rfl rfl (Nat.le_of_ble_eq_true rfl) ⟨by decide, by decide⟩ ⟨by decide, by decide⟩ rfl (by first | (show _ ≤ 1718; omega) | (show _ ≤ 27488; omega)) dL_kept_417 ?_
          intro r53 M54 hs
          refine G_aload_n hO 0 dL_kept_420 rfl rfl ?_
          refine G_iload hO 5 dL_kept_421 rfl ?_
          refine G_iconst hO 5 dL_kept_423 (by decide) ?_
          refine H_callHl hO (rest := [.long r53]) 1 [.ref (ad 20 0), .int v9, .int 5] hX (fun l h => c_L_room hm hs h) cw_room mw_515 mw_514 rfl rfl (Nat.le_of_ble_eq_true rfl) ⟨by decide, by decide⟩ ⟨by decide, by decide⟩ rfl (by first | (show _ ≤ 1718; omega) | (show _ ≤ 27488; omega)) dL_kept_424 ?_
          intro r55 M56 hs
          refine G_ladd hO dL_kept_427 ?_
          refine G_aload_n hO 0 dL_kept_428 rfl rfl ?_
          refine G_iload hO 5 dL_kept_429 rfl ?_
          refine G_bipush hO 6 dL_kept_431 (by decide) ?_
          refine H_callHl hO (rest := [.long (r53 + r55)]) 1 [.ref (ad 20 0), .int v9, .int 6] hX (fun l h => c_L_room hm hs h) cw_room mw_515 mw_514 rfl rfl (Nat.le_of_ble_eq_true rfl) ⟨by decide, by decide⟩ ⟨by decide, by decide⟩ rfl (by first | (show _ ≤ 1718; omega) | (show _ ≤ 27488; omega)) dL_kept_433 ?_
          intro r57 M58 hs
          refine G_ladd hO dL_kept_436 ?_
          refine G_lstore hO [(10, .long ((r53 + r55) + r57)), (0, .ref (ad 20 0)), (1, .int v1), (4, .int v4), (5, .long v5), (7, .long v7), (9, .int v9)] dL_kept_437 (by decide) rfl ?_
          refine G_lload hO 0 dL_kept_439 rfl ?_
          refine G_aload_n hO 1 dL_kept_441 rfl rfl ?_
          refine G_iconst hO 1 dL_kept_442 (by decide) ?_
          refine H_callHl hO (rest := [.long ((r53 + r55) + r57)]) 1 [.ref (ad 20 0), .int 1] hX (fun l h => c_L_about hm hs h) cw_about mw_429 mw_428 rfl rfl (Nat.le_of_ble_eq_true rfl) ⟨by decide, by decide⟩ ⟨by decide, by decide⟩ rfl (by first | (show _ ≤ 1718; omega) | (show _ ≤ 27488; omega)) dL_kept_443 ?_
          intro r59 M60 hs
          refine G_lcmp hO dL_kept_446 ?_
          refine G_if_gt hO 522 dL_kept_447 (by decide) (fun h78 => ?_) (fun h78 => ?_)
          · replace hs := hs.1 h78
            refine G_lv hO [(0, .ref (ad 20 0)), (1, .int v1), (5, .long v5), (7, .long v7), (9, .int v9)] [1, 2, 4, 5, 6] rfl ?_
            exact b522 _ _ _ _ _ _ (by omega) hs
          · replace hs := hs.2 h78
            refine G_aload_n hO 1 dL_kept_450 rfl rfl ?_
            refine G_iload hO 6 dL_kept_451 rfl ?_
            refine G_iconst hO 4 dL_kept_453 (by decide) ?_
            refine H_callHl hO (rest := []) 1 [.ref (ad 20 0), .int v9, .int 4] hX (fun l h => c_L_room hm hs h) cw_room mw_515 mw_514 rfl rfl (Nat.le_of_ble_eq_true rfl) ⟨by decide, by decide⟩ ⟨by decide, by decide⟩ rfl (by first | (show _ ≤ 1718; omega) | (show _ ≤ 27488; omega)) dL_kept_454 ?_
            intro r61 M62 hs
            refine G_lconst hO 0 dL_kept_457 (by decide) ?_
            refine G_lcmp hO dL_kept_458 ?_
            refine G_if_lt hO 522 dL_kept_459 (by decide) (fun h77 => ?_) (fun h77 => ?_)
            · replace hs := hs.1 h77
              refine G_lv hO [(0, .ref (ad 20 0)), (1, .int v1), (5, .long v5), (7, .long v7), (9, .int v9)] [1, 2, 4, 5, 6] rfl ?_
              exact b522 _ _ _ _ _ _ (by omega) hs
            · replace hs := hs.2 h77
              refine G_aload_n hO 1 dL_kept_462 rfl rfl ?_
              refine G_iload hO 6 dL_kept_463 rfl ?_
              refine G_iconst hO 5 dL_kept_465 (by decide) ?_
              refine H_callHl hO (rest := []) 1 [.ref (ad 20 0), .int v9, .int 5] hX (fun l h => c_L_room hm hs h) cw_room mw_515 mw_514 rfl rfl (Nat.le_of_ble_eq_true rfl) ⟨by decide, by decide⟩ ⟨by decide, by decide⟩ rfl (by first | (show _ ≤ 1718; omega) | (show _ ≤ 27488; omega)) dL_kept_466 ?_
              intro r63 M64 hs
              refine G_lconst hO 0 dL_kept_469 (by decide) ?_
              refine G_lcmp hO dL_kept_470 ?_
              refine G_if_lt hO 522 dL_kept_471 (by decide) (fun h76 => ?_) (fun h76 => ?_)
              · replace hs := hs.1 h76
                refine G_lv hO [(0, .ref (ad 20 0)), (1, .int v1), (5, .long v5), (7, .long v7), (9, .int v9)] [1, 2, 4, 5, 6] rfl ?_
                exact b522 _ _ _ _ _ _ (by omega) hs
              · replace hs := hs.2 h76
                refine G_aload_n hO 1 dL_kept_474 rfl rfl ?_
                refine G_iload hO 6 dL_kept_475 rfl ?_
                refine G_bipush hO 6 dL_kept_477 (by decide) ?_
                refine H_callHl hO (rest := []) 1 [.ref (ad 20 0), .int v9, .int 6] hX (fun l h => c_L_room hm hs h) cw_room mw_515 mw_514 rfl rfl (Nat.le_of_ble_eq_true rfl) ⟨by decide, by decide⟩ ⟨by decide, by decide⟩ rfl (by first | (show _ ≤ 1718; omega) | (show _ ≤ 27488; omega)) dL_kept_479 ?_
                intro r65 M66 hs
                refine G_lconst hO 0 dL_kept_482 (by decide) ?_
                refine G_lcmp hO dL_kept_483 ?_
                refine G_if_lt hO 522 dL_kept_484 (by decide) (fun h75 => ?_) (fun h75 => ?_)
                · replace hs := hs.1 h75
                  refine G_lv hO [(0, .ref (ad 20 0)), (1, .int v1), (5, .long v5), (7, .long v7), (9, .int v9)] [1, 2, 4, 5, 6] rfl ?_
                  exact b522 _ _ _ _ _ _ (by omega) hs
                · replace hs := hs.2 h75
                  refine G_aload_n hO 1 dL_kept_487 rfl rfl ?_
                  refine G_iconst hO 2 dL_kept_488 (by decide) ?_
                  refine G_iload hO 6 dL_kept_489 rfl ?_
                  refine G_iadd hO dL_kept_491 ?_
                  refine G_iconst hO 1 dL_kept_492 (by decide) ?_
                  refine H_callHl hO (rest := []) 1 [.ref (ad 20 0), .int (2 + v9), .int 1] hX (fun l h => c_L_place hm hs h) cw_place mw_483 mw_482 rfl rfl (Nat.le_of_ble_eq_true rfl) ⟨by decide, by decide⟩ ⟨by decide, by decide⟩ rfl (by first | (show _ ≤ 1718; omega) | (show _ ≤ 27488; omega)) dL_kept_493 ?_
                  intro r67 M68 hs
                  refine G_aload_n hO 1 dL_kept_496 rfl rfl ?_
                  refine G_iload hO 6 dL_kept_497 rfl ?_
                  refine G_iconst hO 0 dL_kept_499 (by decide) ?_
                  refine H_callHl hO (rest := [.long r67]) 1 [.ref (ad 20 0), .int v9, .int 0] hX (fun l h => c_L_room hm hs h) cw_room mw_515 mw_514 rfl rfl (Nat.le_of_ble_eq_true rfl) ⟨by decide, by decide⟩ ⟨by decide, by decide⟩ rfl (by first | (show _ ≤ 1718; omega) | (show _ ≤ 27488; omega)) dL_kept_500 ?_
                  intro r69 M70 hs
                  refine G_lcmp hO dL_kept_503 ?_
                  refine G_if_lt hO 518 dL_kept_504 (by decide) (fun h74 => ?_) (fun h74 => ?_)
                  · replace hs := hs.1 h74
                    refine G_lv hO [(0, .ref (ad 20 0)), (1, .int v1), (5, .long v5), (7, .long v7), (9, .int v9)] [1, 2, 4, 5, 6] rfl ?_
                    exact b518 _ _ _ _ _ _ (by omega) hs
                  · replace hs := hs.2 h74
                    refine G_aload_n hO 1 dL_kept_507 rfl rfl ?_
                    refine G_iload hO 6 dL_kept_508 rfl ?_
                    refine H_callHl hO (rest := []) 1 [.ref (ad 20 0), .int v9] hX (fun l h => c_L_minutesTo hm hs h) cw_minutesTo mw_706 mw_705 rfl rfl (Nat.le_of_ble_eq_true rfl) ⟨by decide, by decide⟩ ⟨by decide, by decide⟩ rfl (by first | (show _ ≤ 1718; omega) | (show _ ≤ 27488; omega)) dL_kept_510 ?_
                    intro r71 M72 hs
                    refine G_lconst hO 0 dL_kept_513 (by decide) ?_
                    refine G_lcmp hO dL_kept_514 ?_
                    refine G_if_ne hO 522 dL_kept_515 (by decide) (fun h73 => ?_) (fun h73 => ?_)
                    · replace hs := hs.1 h73
                      refine G_lv hO [(0, .ref (ad 20 0)), (1, .int v1), (5, .long v5), (7, .long v7), (9, .int v9)] [1, 2, 4, 5, 6] rfl ?_
                      exact b522 _ _ _ _ _ _ (by omega) hs
                    · replace hs := hs.2 h73
                      refine G_lv hO [(0, .ref (ad 20 0)), (1, .int v1), (5, .long v5), (7, .long v7), (9, .int v9)] [1, 2, 4, 5, 6] rfl ?_
                      exact b518 _ _ _ _ _ _ (by omega) hs
  have b288 : ∀ (N288 k288 : Nat) (v1 : Int32) (v4 : Int32) (v5 : Int64) (v7 : Int32) (M : Mem), k288 + ((4 * N288 + 86)) ≤ 1718 → wL_kept_L288 P N288 v1 v4 v5 v7 M → G Γ ids ad k288 (16 * k288) (sh Λ ad M O) 288 [(0, .ref (ad 20 0)), (1, .int v1), (3, .ref (ad 23 1)), (4, .int v4), (5, .long v5), (7, .int v7)] [] := by
    intro N288
    induction N288 with
    | zero => intro k288 v1 v4 v5 v7 M hk hs; exact False.elim hs
    | succ N288 ih288 =>
      intro k288 v1 v4 v5 v7 M hk hs
      unfold wL_kept_L288 at hs
      refine G_iload hO 5 dL_kept_288 rfl ?_
      refine G_iload_n hO 1 dL_kept_290 rfl rfl ?_
      refine G_iconst hO 2 dL_kept_291 (by decide) ?_
      refine G_iadd hO dL_kept_292 ?_
      refine G_icmp_ge hO 396 dL_kept_293 (by decide) (fun h37 => ?_) (fun h37 => ?_)
      · replace hs := hs.1 h37
        refine G_lconst hO 0 dL_kept_396 (by decide) ?_
        refine G_lstore hO [(7, .long 0), (0, .ref (ad 20 0)), (1, .int v1), (3, .ref (ad 23 1)), (4, .int v4), (5, .long v5)] dL_kept_397 (by decide) rfl ?_
        refine G_iconst hO 0 dL_kept_399 (by decide) ?_
        refine G_istore hO [(9, .int 0), (7, .long 0), (0, .ref (ad 20 0)), (1, .int v1), (3, .ref (ad 23 1)), (4, .int v4), (5, .long v5)] dL_kept_400 (by decide) rfl ?_
        refine G_lv hO [(0, .ref (ad 20 0)), (1, .int v1), (4, .int v4), (5, .long v5), (7, .long 0), (9, .int 0)] [2, 3, 5, 6, 1, 0] rfl ?_
        exact b402 7 _ _ _ _ _ _ _ (by omega) hs
      · replace hs := hs.2 h37
        refine G_iload hO 3 dL_kept_296 rfl ?_
        refine G_if_eq hO 396 dL_kept_298 (by decide) (fun h36 => ?_) (fun h36 => ?_)
        · replace hs := hs.1 h36
          refine G_lconst hO 0 dL_kept_396 (by decide) ?_
          refine G_lstore hO [(7, .long 0), (0, .ref (ad 20 0)), (1, .int v1), (3, .ref (ad 23 1)), (4, .int v4), (5, .long v5)] dL_kept_397 (by decide) rfl ?_
          refine G_iconst hO 0 dL_kept_399 (by decide) ?_
          refine G_istore hO [(9, .int 0), (7, .long 0), (0, .ref (ad 20 0)), (1, .int v1), (3, .ref (ad 23 1)), (4, .int v4), (5, .long v5)] dL_kept_400 (by decide) rfl ?_
          refine G_lv hO [(0, .ref (ad 20 0)), (1, .int v1), (4, .int v4), (5, .long v5), (7, .long 0), (9, .int 0)] [2, 3, 5, 6, 1, 0] rfl ?_
          exact b402 7 _ _ _ _ _ _ _ (by omega) hs
        · replace hs := hs.2 h36
          refine G_aload_n hO 0 dL_kept_301 rfl rfl ?_
          refine G_iload hO 5 dL_kept_302 rfl ?_
          refine G_iconst hO 0 dL_kept_304 (by decide) ?_
          refine H_callHl hO (rest := []) 1 [.ref (ad 20 0), .int v7, .int 0] hX (fun l h => c_L_place hm hs h) cw_place mw_483 mw_482 rfl rfl (Nat.le_of_ble_eq_true rfl) ⟨by decide, by decide⟩ ⟨by decide, by decide⟩ rfl (by first | (show _ ≤ 1718; omega) | (show _ ≤ 27488; omega)) dL_kept_305 ?_
          intro r24 M25 hs
          refine G_lstore hO [(8, .long r24), (0, .ref (ad 20 0)), (1, .int v1), (3, .ref (ad 23 1)), (4, .int v4), (5, .long v5), (7, .int v7)] dL_kept_308 (by decide) rfl ?_
          refine G_aload_n hO 1 dL_kept_310 rfl rfl ?_
          refine G_iload hO 6 dL_kept_311 rfl ?_
          refine G_iconst hO 2 dL_kept_313 (by decide) ?_
          refine H_callHl hO (rest := []) 1 [.ref (ad 20 0), .int v7, .int 2] hX (fun l h => c_L_place hm hs h) cw_place mw_483 mw_482 rfl rfl (Nat.le_of_ble_eq_true rfl) ⟨by decide, by decide⟩ ⟨by decide, by decide⟩ rfl (by first | (show _ ≤ 1718; omega) | (show _ ≤ 27488; omega)) dL_kept_314 ?_
          intro r26 M27 hs
          refine G_lstore hO [(10, .long r26), (8, .long r24), (0, .ref (ad 20 0)), (1, .int v1), (3, .ref (ad 23 1)), (4, .int v4), (5, .long v5), (7, .int v7)] dL_kept_317 (by decide) rfl ?_
          refine G_aload_n hO 2 dL_kept_319 rfl rfl ?_
          refine G_iload hO 7 dL_kept_320 rfl ?_
          refine G_iconst hO 1 dL_kept_322 (by decide) ?_
          refine H_callHl hO (rest := []) 1 [.ref (ad 20 0), .int v7, .int 1] hX (fun l h => c_L_place hm hs h) cw_place mw_483 mw_482 rfl rfl (Nat.le_of_ble_eq_true rfl) ⟨by decide, by decide⟩ ⟨by decide, by decide⟩ rfl (by first | (show _ ≤ 1718; omega) | (show _ ≤ 27488; omega)) dL_kept_323 ?_
          intro r28 M29 hs
          refine G_lstore hO [(12, .long r28), (10, .long r26), (8, .long r24), (0, .ref (ad 20 0)), (1, .int v1), (3, .ref (ad 23 1)), (4, .int v4), (5, .long v5), (7, .int v7)] dL_kept_326 (by decide) rfl ?_
          refine G_lload hO 2 dL_kept_328 rfl ?_
          refine G_aload_n hO 5 dL_kept_330 rfl rfl ?_
          refine G_iload hO 8 dL_kept_331 rfl ?_
          refine M_iald hO (rS_ha Λ ad O) _ rfl hdr.new (ha_1 _ _) hs.1 dL_kept_333 ?_
          replace hs := hs.2
          refine G_i2l hO dL_kept_334 ?_
          refine G_lcmp hO dL_kept_335 ?_
          refine G_if_ne hO 380 dL_kept_336 (by decide) (fun h35 => ?_) (fun h35 => ?_)
          · replace hs := hs.1 h35
            refine G_iconst hO 0 dL_kept_380 (by decide) ?_
            refine G_istore hO [(4, .int 0), (12, .long r28), (10, .long r26), (8, .long r24), (0, .ref (ad 20 0)), (1, .int v1), (3, .ref (ad 23 1)), (5, .long v5), (7, .int v7)] dL_kept_381 (by decide) rfl ?_
            refine G_lload hO 7 dL_kept_383 rfl ?_
            refine G_lload hO 3 dL_kept_385 rfl ?_
            refine G_ladd hO dL_kept_387 ?_
            refine G_lstore hO [(5, .long (v5 + r24)), (4, .int 0), (12, .long r28), (10, .long r26), (8, .long r24), (0, .ref (ad 20 0)), (1, .int v1), (3, .ref (ad 23 1)), (7, .int v7)] dL_kept_388 (by decide) rfl ?_
            refine G_iinc hO 8 (v7 + 1) [(7, .int (v7 + 1)), (5, .long (v5 + r24)), (4, .int 0), (12, .long r28), (10, .long r26), (8, .long r24), (0, .ref (ad 20 0)), (1, .int v1), (3, .ref (ad 23 1))] dL_kept_390 rfl rfl (by decide) rfl ?_
            refine G_goto hO 288 dL_kept_393 (by decide) ?_
            refine G_lv hO [(0, .ref (ad 20 0)), (1, .int v1), (3, .ref (ad 23 1)), (4, .int 0), (5, .long (v5 + r24)), (7, .int (v7 + 1))] [6, 7, 8, 2, 1, 0] rfl ?_
            exact ih288 _ _ _ _ _ _ (by omega) hs
          · replace hs := hs.2 h35
            refine G_lload hO 0 dL_kept_339 rfl ?_
            refine G_lload hO 1 dL_kept_341 rfl ?_
            refine G_lmul hO dL_kept_343 ?_
            refine G_lload hO 2 dL_kept_344 rfl ?_
            refine G_lcmp hO dL_kept_346 ?_
            refine G_if_gt hO 380 dL_kept_347 (by decide) (fun h34 => ?_) (fun h34 => ?_)
            · replace hs := hs.1 h34
              refine G_iconst hO 0 dL_kept_380 (by decide) ?_
              refine G_istore hO [(4, .int 0), (12, .long r28), (10, .long r26), (8, .long r24), (0, .ref (ad 20 0)), (1, .int v1), (3, .ref (ad 23 1)), (5, .long v5), (7, .int v7)] dL_kept_381 (by decide) rfl ?_
              refine G_lload hO 7 dL_kept_383 rfl ?_
              refine G_lload hO 3 dL_kept_385 rfl ?_
              refine G_ladd hO dL_kept_387 ?_
              refine G_lstore hO [(5, .long (v5 + r24)), (4, .int 0), (12, .long r28), (10, .long r26), (8, .long r24), (0, .ref (ad 20 0)), (1, .int v1), (3, .ref (ad 23 1)), (7, .int v7)] dL_kept_388 (by decide) rfl ?_
              refine G_iinc hO 8 (v7 + 1) [(7, .int (v7 + 1)), (5, .long (v5 + r24)), (4, .int 0), (12, .long r28), (10, .long r26), (8, .long r24), (0, .ref (ad 20 0)), (1, .int v1), (3, .ref (ad 23 1))] dL_kept_390 rfl rfl (by decide) rfl ?_
              refine G_goto hO 288 dL_kept_393 (by decide) ?_
              refine G_lv hO [(0, .ref (ad 20 0)), (1, .int v1), (3, .ref (ad 23 1)), (4, .int 0), (5, .long (v5 + r24)), (7, .int (v7 + 1))] [6, 7, 8, 2, 1, 0] rfl ?_
              exact ih288 _ _ _ _ _ _ (by omega) hs
            · replace hs := hs.2 h34
              refine G_lload hO 2 dL_kept_350 rfl ?_
              refine G_lload hO 0 dL_kept_352 rfl ?_
              refine G_lconst hO 1 dL_kept_354 (by decide) ?_
              refine G_ladd hO dL_kept_355 ?_
              refine G_lload hO 1 dL_kept_356 rfl ?_
              refine G_lmul hO dL_kept_358 ?_
              refine G_lcmp hO dL_kept_359 ?_
              refine G_if_ge hO 380 dL_kept_360 (by decide) (fun h33 => ?_) (fun h33 => ?_)
              · replace hs := hs.1 h33
                refine G_iconst hO 0 dL_kept_380 (by decide) ?_
                refine G_istore hO [(4, .int 0), (12, .long r28), (10, .long r26), (8, .long r24), (0, .ref (ad 20 0)), (1, .int v1), (3, .ref (ad 23 1)), (5, .long v5), (7, .int v7)] dL_kept_381 (by decide) rfl ?_
                refine G_lload hO 7 dL_kept_383 rfl ?_
                refine G_lload hO 3 dL_kept_385 rfl ?_
                refine G_ladd hO dL_kept_387 ?_
                refine G_lstore hO [(5, .long (v5 + r24)), (4, .int 0), (12, .long r28), (10, .long r26), (8, .long r24), (0, .ref (ad 20 0)), (1, .int v1), (3, .ref (ad 23 1)), (7, .int v7)] dL_kept_388 (by decide) rfl ?_
                refine G_iinc hO 8 (v7 + 1) [(7, .int (v7 + 1)), (5, .long (v5 + r24)), (4, .int 0), (12, .long r28), (10, .long r26), (8, .long r24), (0, .ref (ad 20 0)), (1, .int v1), (3, .ref (ad 23 1))] dL_kept_390 rfl rfl (by decide) rfl ?_
                refine G_goto hO 288 dL_kept_393 (by decide) ?_
                refine G_lv hO [(0, .ref (ad 20 0)), (1, .int v1), (3, .ref (ad 23 1)), (4, .int 0), (5, .long (v5 + r24)), (7, .int (v7 + 1))] [6, 7, 8, 2, 1, 0] rfl ?_
                exact ih288 _ _ _ _ _ _ (by omega) hs
              · replace hs := hs.2 h33
                refine G_aload_n hO 3 dL_kept_363 rfl rfl ?_
                refine G_iload hO 8 dL_kept_364 rfl ?_
                refine G_iconst hO 0 dL_kept_366 (by decide) ?_
                refine H_callHl hO (rest := []) 1 [.ref (ad 20 0), .int v7, .int 0] hX (fun l h => c_L_ahead hm hs h) cw_ahead mw_698 mw_697 rfl rfl (Nat.le_of_ble_eq_true rfl) ⟨by decide, by decide⟩ ⟨by decide, by decide⟩ rfl (by first | (show _ ≤ 1718; omega) | (show _ ≤ 27488; omega)) dL_kept_367 ?_
                intro r30 M31 hs
                refine G_lload hO 0 dL_kept_370 rfl ?_
                refine G_lcmp hO dL_kept_372 ?_
                refine G_if_ne hO 380 dL_kept_373 (by decide) (fun h32 => ?_) (fun h32 => ?_)
                · replace hs := hs.1 h32
                  refine G_iconst hO 0 dL_kept_380 (by decide) ?_
                  refine G_istore hO [(4, .int 0), (12, .long r28), (10, .long r26), (8, .long r24), (0, .ref (ad 20 0)), (1, .int v1), (3, .ref (ad 23 1)), (5, .long v5), (7, .int v7)] dL_kept_381 (by decide) rfl ?_
                  refine G_lload hO 7 dL_kept_383 rfl ?_
                  refine G_lload hO 3 dL_kept_385 rfl ?_
                  refine G_ladd hO dL_kept_387 ?_
                  refine G_lstore hO [(5, .long (v5 + r24)), (4, .int 0), (12, .long r28), (10, .long r26), (8, .long r24), (0, .ref (ad 20 0)), (1, .int v1), (3, .ref (ad 23 1)), (7, .int v7)] dL_kept_388 (by decide) rfl ?_
                  refine G_iinc hO 8 (v7 + 1) [(7, .int (v7 + 1)), (5, .long (v5 + r24)), (4, .int 0), (12, .long r28), (10, .long r26), (8, .long r24), (0, .ref (ad 20 0)), (1, .int v1), (3, .ref (ad 23 1))] dL_kept_390 rfl rfl (by decide) rfl ?_
                  refine G_goto hO 288 dL_kept_393 (by decide) ?_
                  refine G_lv hO [(0, .ref (ad 20 0)), (1, .int v1), (3, .ref (ad 23 1)), (4, .int 0), (5, .long (v5 + r24)), (7, .int (v7 + 1))] [6, 7, 8, 2, 1, 0] rfl ?_
                  exact ih288 _ _ _ _ _ _ (by omega) hs
                · replace hs := hs.2 h32
                  refine G_iconst hO 1 dL_kept_376 (by decide) ?_
                  refine G_goto hO 381 dL_kept_377 (by decide) ?_
                  refine G_istore hO [(4, .int 1), (12, .long r28), (10, .long r26), (8, .long r24), (0, .ref (ad 20 0)), (1, .int v1), (3, .ref (ad 23 1)), (5, .long v5), (7, .int v7)] dL_kept_381 (by decide) rfl ?_
                  refine G_lload hO 7 dL_kept_383 rfl ?_
                  refine G_lload hO 3 dL_kept_385 rfl ?_
                  refine G_ladd hO dL_kept_387 ?_
                  refine G_lstore hO [(5, .long (v5 + r24)), (4, .int 1), (12, .long r28), (10, .long r26), (8, .long r24), (0, .ref (ad 20 0)), (1, .int v1), (3, .ref (ad 23 1)), (7, .int v7)] dL_kept_388 (by decide) rfl ?_
                  refine G_iinc hO 8 (v7 + 1) [(7, .int (v7 + 1)), (5, .long (v5 + r24)), (4, .int 1), (12, .long r28), (10, .long r26), (8, .long r24), (0, .ref (ad 20 0)), (1, .int v1), (3, .ref (ad 23 1))] dL_kept_390 rfl rfl (by decide) rfl ?_
                  refine G_goto hO 288 dL_kept_393 (by decide) ?_
                  refine G_lv hO [(0, .ref (ad 20 0)), (1, .int v1), (3, .ref (ad 23 1)), (4, .int 1), (5, .long (v5 + r24)), (7, .int (v7 + 1))] [6, 7, 8, 2, 1, 0] rfl ?_
                  exact ih288 _ _ _ _ _ _ (by omega) hs
  have b41 : ∀ (N41 k41 : Nat) (v1 : Int32) (v2 : Int32) (v4 : Int32) (v5 : Int64) (v7 : Int32) (M : Mem), k41 + ((59 * N41 + 122)) ≤ 1718 → wL_kept_L41 P N41 v1 v2 v4 v5 v7 M → G Γ ids ad k41 (16 * k41) (sh Λ ad M O) 41 [(0, .ref (ad 20 0)), (1, .int v1), (2, .int v2), (3, .ref (ad 23 1)), (4, .int v4), (5, .long v5), (7, .int v7)] [] := by
    intro N41
    induction N41 with
    | zero => intro k41 v1 v2 v4 v5 v7 M hk hs; exact False.elim hs
    | succ N41 ih41 =>
      have b254 : ∀ (k254 : Nat) (v1 : Int32) (v2 : Int32) (v4 : Int32) (v5 : Int64) (v7 : Int32) (v8 : Int32) (v9 : Int32) (v10 : Int64) (M : Mem), k254 + ((59 * N41 + 122) + (0)) ≤ 1718 → wL_kept_L254 P (fun v1' v2' v4' v5' v7' M' => wL_kept_L41 P N41 v1' v2' v4' v5' v7' M') v1 v2 v4 v5 v7 v8 v9 v10 M → G Γ ids ad k254 (16 * k254) (sh Λ ad M O) 254 [(0, .ref (ad 20 0)), (1, .int v1), (2, .int v2), (3, .ref (ad 23 1)), (4, .int v4), (5, .long v5), (7, .int v7), (8, .int v8), (9, .int v9), (10, .long v10)] [] := by
        intro k254 v1 v2 v4 v5 v7 v8 v9 v10 M hk hs
        unfold wL_kept_L254 at hs
        refine G_iload hO 4 dL_kept_254 rfl ?_
        refine G_if_eq hO 279 dL_kept_256 (by decide) (fun h81 => ?_) (fun h81 => ?_)
        · replace hs := hs.1 h81
          refine G_iinc hO 6 (v7 + 1) [(7, .int (v7 + 1)), (0, .ref (ad 20 0)), (1, .int v1), (2, .int v2), (3, .ref (ad 23 1)), (4, .int v4), (5, .long v5), (8, .int v8), (9, .int v9), (10, .long v10)] dL_kept_279 rfl rfl (by decide) rfl ?_
          refine G_goto hO 41 dL_kept_282 (by decide) ?_
          refine G_lv hO [(0, .ref (ad 20 0)), (1, .int v1), (2, .int v2), (3, .ref (ad 23 1)), (4, .int v4), (5, .long v5), (7, .int (v7 + 1))] [1, 2, 3, 4, 5, 6, 0] rfl ?_
          exact ih41 _ _ _ _ _ _ _ (by omega) hs
        · replace hs := hs.2 h81
          refine G_aload_n hO 3 dL_kept_259 rfl rfl ?_
          refine G_iload hO 7 dL_kept_260 rfl ?_
          refine G_dup2 hO dL_kept_262 rfl rfl ?_
          refine M_iald hO (rS_ha Λ ad O) _ rfl hdr.new (ha_1 _ _) hs.1 dL_kept_263 ?_
          replace hs := hs.2
          refine G_lload hO 9 dL_kept_264 rfl ?_
          refine G_l2i hO dL_kept_266 ?_
          refine G_isub hO dL_kept_267 ?_
          refine M_iast hO (rS_ha Λ ad O) (cw_ha Λ) _ rfl hdr.new (ha_1 _) hs.1 dL_kept_268 ?_
          replace hs := hs.2
          refine G_aload_n hO 3 dL_kept_269 rfl rfl ?_
          refine G_iload hO 8 dL_kept_270 rfl ?_
          refine G_dup2 hO dL_kept_272 rfl rfl ?_
          refine M_iald hO (rS_ha Λ ad O) _ rfl hdr.new (ha_1 _ _) hs.1 dL_kept_273 ?_
          replace hs := hs.2
          refine G_lload hO 9 dL_kept_274 rfl ?_
          refine G_l2i hO dL_kept_276 ?_
          refine G_iadd hO dL_kept_277 ?_
          refine M_iast hO (rS_ha Λ ad O) (cw_ha Λ) _ rfl hdr.new (ha_1 _) hs.1 dL_kept_278 ?_
          replace hs := hs.2
          refine G_iinc hO 6 (v7 + 1) [(7, .int (v7 + 1)), (0, .ref (ad 20 0)), (1, .int v1), (2, .int v2), (3, .ref (ad 23 1)), (4, .int v4), (5, .long v5), (8, .int v8), (9, .int v9), (10, .long v10)] dL_kept_279 rfl rfl (by decide) rfl ?_
          refine G_goto hO 41 dL_kept_282 (by decide) ?_
          refine G_lv hO [(0, .ref (ad 20 0)), (1, .int v1), (2, .int v2), (3, .ref (ad 23 1)), (4, .int v4), (5, .long v5), (7, .int (v7 + 1))] [1, 2, 3, 4, 5, 6, 0] rfl ?_
          exact ih41 _ _ _ _ _ _ _ (by omega) hs
      have b201 : ∀ (N201 k201 : Nat) (v1 : Int32) (v2 : Int32) (v4 : Int32) (v5 : Int64) (v7 : Int32) (v8 : Int32) (v9 : Int32) (v10 : Int64) (v12 : Int32) (M : Mem), k201 + ((59 * N41 + 122) + (2 * N201 + 0)) ≤ 1718 → wL_kept_L201 P (fun v1' v2' v4' v5' v7' M' => wL_kept_L41 P N41 v1' v2' v4' v5' v7' M') N201 v1 v2 v4 v5 v7 v8 v9 v10 v12 M → G Γ ids ad k201 (16 * k201) (sh Λ ad M O) 201 [(0, .ref (ad 20 0)), (1, .int v1), (2, .int v2), (3, .ref (ad 23 1)), (4, .int v4), (5, .long v5), (7, .int v7), (8, .int v8), (9, .int v9), (10, .long v10), (12, .int v12)] [] := by
        intro N201
        induction N201 with
        | zero => intro k201 v1 v2 v4 v5 v7 v8 v9 v10 v12 M hk hs; exact False.elim hs
        | succ N201 ih201 =>
          intro k201 v1 v2 v4 v5 v7 v8 v9 v10 v12 M hk hs
          unfold wL_kept_L201 at hs
          refine G_iload hO 10 dL_kept_201 rfl ?_
          refine G_iload hO 6 dL_kept_203 rfl ?_
          refine G_icmp_ge hO 254 dL_kept_205 (by decide) (fun h45 => ?_) (fun h45 => ?_)
          · replace hs := hs.1 h45
            refine G_lv hO [(0, .ref (ad 20 0)), (1, .int v1), (2, .int v2), (3, .ref (ad 23 1)), (4, .int v4), (5, .long v5), (7, .int v7), (8, .int v8), (9, .int v9), (10, .long v10)] [0, 1, 2, 3, 4, 5, 6, 7, 8, 9] rfl ?_
            exact b254 _ _ _ _ _ _ _ _ _ _ (by omega) hs
          · replace hs := hs.2 h45
            refine G_iload hO 4 dL_kept_208 rfl ?_
            refine G_if_eq hO 254 dL_kept_210 (by decide) (fun h44 => ?_) (fun h44 => ?_)
            · replace hs := hs.1 h44
              refine G_lv hO [(0, .ref (ad 20 0)), (1, .int v1), (2, .int v2), (3, .ref (ad 23 1)), (4, .int v4), (5, .long v5), (7, .int v7), (8, .int v8), (9, .int v9), (10, .long v10)] [0, 1, 2, 3, 4, 5, 6, 7, 8, 9] rfl ?_
              exact b254 _ _ _ _ _ _ _ _ _ _ (by omega) hs
            · replace hs := hs.2 h44
              refine G_aload_n hO 0 dL_kept_213 rfl rfl ?_
              refine G_iload hO 10 dL_kept_214 rfl ?_
              refine G_iconst hO 0 dL_kept_216 (by decide) ?_
              refine H_callHl hO (rest := []) 1 [.ref (ad 20 0), .int v12, .int 0] hX (fun l h => c_L_way hm hs h) cw_way mw_525 mw_524 rfl rfl (Nat.le_of_ble_eq_true rfl) ⟨by decide, by decide⟩ ⟨by decide, by decide⟩ rfl (by first | (show _ ≤ 1718; omega) | (show _ ≤ 27488; omega)) dL_kept_217 ?_
              intro r38 M39 hs
              refine G_iload hO 7 dL_kept_220 rfl ?_
              refine G_i2l hO dL_kept_222 ?_
              refine G_lcmp hO dL_kept_223 ?_
              refine G_if_ne hO 241 dL_kept_224 (by decide) (fun h43 => ?_) (fun h43 => ?_)
              · replace hs := hs.1 h43
                refine G_iconst hO 1 dL_kept_241 (by decide) ?_
                refine G_goto hO 246 dL_kept_242 (by decide) ?_
                refine G_istore hO [(4, .int 1), (0, .ref (ad 20 0)), (1, .int v1), (2, .int v2), (3, .ref (ad 23 1)), (5, .long v5), (7, .int v7), (8, .int v8), (9, .int v9), (10, .long v10), (12, .int v12)] dL_kept_246 (by decide) rfl ?_
                refine G_iinc hO 10 (v12 + 1) [(12, .int (v12 + 1)), (4, .int 1), (0, .ref (ad 20 0)), (1, .int v1), (2, .int v2), (3, .ref (ad 23 1)), (5, .long v5), (7, .int v7), (8, .int v8), (9, .int v9), (10, .long v10)] dL_kept_248 rfl rfl (by decide) rfl ?_
                refine G_goto hO 201 dL_kept_251 (by decide) ?_
                refine G_lv hO [(0, .ref (ad 20 0)), (1, .int v1), (2, .int v2), (3, .ref (ad 23 1)), (4, .int 1), (5, .long v5), (7, .int v7), (8, .int v8), (9, .int v9), (10, .long v10), (12, .int (v12 + 1))] [2, 3, 4, 5, 1, 6, 7, 8, 9, 10, 0] rfl ?_
                exact ih201 _ _ _ _ _ _ _ _ _ _ _ (by omega) hs
              · replace hs := hs.2 h43
                refine G_aload_n hO 0 dL_kept_227 rfl rfl ?_
                refine G_iload hO 10 dL_kept_228 rfl ?_
                refine G_iconst hO 1 dL_kept_230 (by decide) ?_
                refine H_callHl hO (rest := []) 1 [.ref (ad 20 0), .int v12, .int 1] hX (fun l h => c_L_way hm hs h) cw_way mw_525 mw_524 rfl rfl (Nat.le_of_ble_eq_true rfl) ⟨by decide, by decide⟩ ⟨by decide, by decide⟩ rfl (by first | (show _ ≤ 1718; omega) | (show _ ≤ 27488; omega)) dL_kept_231 ?_
                intro r40 M41 hs
                refine G_iload hO 8 dL_kept_234 rfl ?_
                refine G_i2l hO dL_kept_236 ?_
                refine G_lcmp hO dL_kept_237 ?_
                refine G_if_eq hO 245 dL_kept_238 (by decide) (fun h42 => ?_) (fun h42 => ?_)
                · replace hs := hs.1 h42
                  refine G_iconst hO 0 dL_kept_245 (by decide) ?_
                  refine G_istore hO [(4, .int 0), (0, .ref (ad 20 0)), (1, .int v1), (2, .int v2), (3, .ref (ad 23 1)), (5, .long v5), (7, .int v7), (8, .int v8), (9, .int v9), (10, .long v10), (12, .int v12)] dL_kept_246 (by decide) rfl ?_
                  refine G_iinc hO 10 (v12 + 1) [(12, .int (v12 + 1)), (4, .int 0), (0, .ref (ad 20 0)), (1, .int v1), (2, .int v2), (3, .ref (ad 23 1)), (5, .long v5), (7, .int v7), (8, .int v8), (9, .int v9), (10, .long v10)] dL_kept_248 rfl rfl (by decide) rfl ?_
                  refine G_goto hO 201 dL_kept_251 (by decide) ?_
                  refine G_lv hO [(0, .ref (ad 20 0)), (1, .int v1), (2, .int v2), (3, .ref (ad 23 1)), (4, .int 0), (5, .long v5), (7, .int v7), (8, .int v8), (9, .int v9), (10, .long v10), (12, .int (v12 + 1))] [2, 3, 4, 5, 1, 6, 7, 8, 9, 10, 0] rfl ?_
                  exact ih201 _ _ _ _ _ _ _ _ _ _ _ (by omega) hs
                · replace hs := hs.2 h42
                  refine G_iconst hO 1 dL_kept_241 (by decide) ?_
                  refine G_goto hO 246 dL_kept_242 (by decide) ?_
                  refine G_istore hO [(4, .int 1), (0, .ref (ad 20 0)), (1, .int v1), (2, .int v2), (3, .ref (ad 23 1)), (5, .long v5), (7, .int v7), (8, .int v8), (9, .int v9), (10, .long v10), (12, .int v12)] dL_kept_246 (by decide) rfl ?_
                  refine G_iinc hO 10 (v12 + 1) [(12, .int (v12 + 1)), (4, .int 1), (0, .ref (ad 20 0)), (1, .int v1), (2, .int v2), (3, .ref (ad 23 1)), (5, .long v5), (7, .int v7), (8, .int v8), (9, .int v9), (10, .long v10)] dL_kept_248 rfl rfl (by decide) rfl ?_
                  refine G_goto hO 201 dL_kept_251 (by decide) ?_
                  refine G_lv hO [(0, .ref (ad 20 0)), (1, .int v1), (2, .int v2), (3, .ref (ad 23 1)), (4, .int 1), (5, .long v5), (7, .int v7), (8, .int v8), (9, .int v9), (10, .long v10), (12, .int (v12 + 1))] [2, 3, 4, 5, 1, 6, 7, 8, 9, 10, 0] rfl ?_
                  exact ih201 _ _ _ _ _ _ _ _ _ _ _ (by omega) hs
      have b149 : ∀ (k149 : Nat) (v1 : Int32) (v2 : Int32) (v5 : Int64) (v7 : Int32) (v8 : Int32) (v9 : Int32) (v10 : Int64) (M : Mem), k149 + ((59 * N41 + 122) + (55)) ≤ 1718 → wL_kept_L149 P (fun v1' v2' v4' v5' v7' M' => wL_kept_L41 P N41 v1' v2' v4' v5' v7' M') v1 v2 v5 v7 v8 v9 v10 M → G Γ ids ad k149 (16 * k149) (sh Λ ad M O) 149 [(0, .ref (ad 20 0)), (1, .int v1), (2, .int v2), (3, .ref (ad 23 1)), (5, .long v5), (7, .int v7), (8, .int v8), (9, .int v9), (10, .long v10)] [] := by
        intro k149 v1 v2 v5 v7 v8 v9 v10 M hk hs
        unfold wL_kept_L149 at hs
        refine G_iload hO 6 dL_kept_149 rfl ?_
        refine G_bipush hO 9 dL_kept_151 (by decide) ?_
        refine G_icmp_ne hO 191 dL_kept_153 (by decide) (fun h52 => ?_) (fun h52 => ?_)
        · replace hs := hs.1 h52
          refine G_iconst hO 1 dL_kept_191 (by decide) ?_
          refine G_goto hO 196 dL_kept_192 (by decide) ?_
          refine G_istore hO [(4, .int 1), (0, .ref (ad 20 0)), (1, .int v1), (2, .int v2), (3, .ref (ad 23 1)), (5, .long v5), (7, .int v7), (8, .int v8), (9, .int v9), (10, .long v10)] dL_kept_196 (by decide) rfl ?_
          refine G_iconst hO 0 dL_kept_198 (by decide) ?_
          refine G_istore hO [(12, .int 0), (4, .int 1), (0, .ref (ad 20 0)), (1, .int v1), (2, .int v2), (3, .ref (ad 23 1)), (5, .long v5), (7, .int v7), (8, .int v8), (9, .int v9), (10, .long v10)] dL_kept_199 (by decide) rfl ?_
          refine G_lv hO [(0, .ref (ad 20 0)), (1, .int v1), (2, .int v2), (3, .ref (ad 23 1)), (4, .int 1), (5, .long v5), (7, .int v7), (8, .int v8), (9, .int v9), (10, .long v10), (12, .int 0)] [2, 3, 4, 5, 1, 6, 7, 8, 9, 10, 0] rfl ?_
          exact b201 27 _ _ _ _ _ _ _ _ _ _ _ (by omega) hs
        · replace hs := hs.2 h52
          refine G_iload hO 7 dL_kept_156 rfl ?_
          refine G_if_eq hO 191 dL_kept_158 (by decide) (fun h51 => ?_) (fun h51 => ?_)
          · replace hs := hs.1 h51
            refine G_iconst hO 1 dL_kept_191 (by decide) ?_
            refine G_goto hO 196 dL_kept_192 (by decide) ?_
            refine G_istore hO [(4, .int 1), (0, .ref (ad 20 0)), (1, .int v1), (2, .int v2), (3, .ref (ad 23 1)), (5, .long v5), (7, .int v7), (8, .int v8), (9, .int v9), (10, .long v10)] dL_kept_196 (by decide) rfl ?_
            refine G_iconst hO 0 dL_kept_198 (by decide) ?_
            refine G_istore hO [(12, .int 0), (4, .int 1), (0, .ref (ad 20 0)), (1, .int v1), (2, .int v2), (3, .ref (ad 23 1)), (5, .long v5), (7, .int v7), (8, .int v8), (9, .int v9), (10, .long v10)] dL_kept_199 (by decide) rfl ?_
            refine G_lv hO [(0, .ref (ad 20 0)), (1, .int v1), (2, .int v2), (3, .ref (ad 23 1)), (4, .int 1), (5, .long v5), (7, .int v7), (8, .int v8), (9, .int v9), (10, .long v10), (12, .int 0)] [2, 3, 4, 5, 1, 6, 7, 8, 9, 10, 0] rfl ?_
            exact b201 27 _ _ _ _ _ _ _ _ _ _ _ (by omega) hs
          · replace hs := hs.2 h51
            refine G_iload hO 7 dL_kept_161 rfl ?_
            refine G_iconst hO 1 dL_kept_163 (by decide) ?_
            refine G_icmp_le hO 195 dL_kept_164 (by decide) (fun h50 => ?_) (fun h50 => ?_)
            · replace hs := hs.1 h50
              refine G_iconst hO 0 dL_kept_195 (by decide) ?_
              refine G_istore hO [(4, .int 0), (0, .ref (ad 20 0)), (1, .int v1), (2, .int v2), (3, .ref (ad 23 1)), (5, .long v5), (7, .int v7), (8, .int v8), (9, .int v9), (10, .long v10)] dL_kept_196 (by decide) rfl ?_
              refine G_iconst hO 0 dL_kept_198 (by decide) ?_
              refine G_istore hO [(12, .int 0), (4, .int 0), (0, .ref (ad 20 0)), (1, .int v1), (2, .int v2), (3, .ref (ad 23 1)), (5, .long v5), (7, .int v7), (8, .int v8), (9, .int v9), (10, .long v10)] dL_kept_199 (by decide) rfl ?_
              refine G_lv hO [(0, .ref (ad 20 0)), (1, .int v1), (2, .int v2), (3, .ref (ad 23 1)), (4, .int 0), (5, .long v5), (7, .int v7), (8, .int v8), (9, .int v9), (10, .long v10), (12, .int 0)] [2, 3, 4, 5, 1, 6, 7, 8, 9, 10, 0] rfl ?_
              exact b201 27 _ _ _ _ _ _ _ _ _ _ _ (by omega) hs
            · replace hs := hs.2 h50
              refine G_iload hO 7 dL_kept_167 rfl ?_
              refine G_bipush hO 8 dL_kept_169 (by decide) ?_
              refine G_icmp_ge hO 195 dL_kept_171 (by decide) (fun h49 => ?_) (fun h49 => ?_)
              · replace hs := hs.1 h49
                refine G_iconst hO 0 dL_kept_195 (by decide) ?_
                refine G_istore hO [(4, .int 0), (0, .ref (ad 20 0)), (1, .int v1), (2, .int v2), (3, .ref (ad 23 1)), (5, .long v5), (7, .int v7), (8, .int v8), (9, .int v9), (10, .long v10)] dL_kept_196 (by decide) rfl ?_
                refine G_iconst hO 0 dL_kept_198 (by decide) ?_
                refine G_istore hO [(12, .int 0), (4, .int 0), (0, .ref (ad 20 0)), (1, .int v1), (2, .int v2), (3, .ref (ad 23 1)), (5, .long v5), (7, .int v7), (8, .int v8), (9, .int v9), (10, .long v10)] dL_kept_199 (by decide) rfl ?_
                refine G_lv hO [(0, .ref (ad 20 0)), (1, .int v1), (2, .int v2), (3, .ref (ad 23 1)), (4, .int 0), (5, .long v5), (7, .int v7), (8, .int v8), (9, .int v9), (10, .long v10), (12, .int 0)] [2, 3, 4, 5, 1, 6, 7, 8, 9, 10, 0] rfl ?_
                exact b201 27 _ _ _ _ _ _ _ _ _ _ _ (by omega) hs
              · replace hs := hs.2 h49
                refine G_lload hO 8 dL_kept_174 rfl ?_
                refine G_ldc2 hO mw_815 dL_kept_176 ?_
                refine G_aload_n hO 0 dL_kept_179 rfl rfl ?_
                refine G_iload hO 7 dL_kept_180 rfl ?_
                refine G_iconst hO 2 dL_kept_182 (by decide) ?_
                refine H_callHl hO (rest := [.long 15, .long v10]) 1 [.ref (ad 20 0), .int v9, .int 2] hX (fun l h => c_L_place hm hs h) cw_place mw_483 mw_482 rfl rfl (Nat.le_of_ble_eq_true rfl) ⟨by decide, by decide⟩ ⟨by decide, by decide⟩ rfl (by first | (show _ ≤ 1718; omega) | (show _ ≤ 27488; omega)) dL_kept_183 ?_
                intro r46 M47 hs
                refine G_lmul hO dL_kept_186 ?_
                refine G_lcmp hO dL_kept_187 ?_
                refine G_if_ne hO 195 dL_kept_188 (by decide) (fun h48 => ?_) (fun h48 => ?_)
                · replace hs := hs.1 h48
                  refine G_iconst hO 0 dL_kept_195 (by decide) ?_
                  refine G_istore hO [(4, .int 0), (0, .ref (ad 20 0)), (1, .int v1), (2, .int v2), (3, .ref (ad 23 1)), (5, .long v5), (7, .int v7), (8, .int v8), (9, .int v9), (10, .long v10)] dL_kept_196 (by decide) rfl ?_
                  refine G_iconst hO 0 dL_kept_198 (by decide) ?_
                  refine G_istore hO [(12, .int 0), (4, .int 0), (0, .ref (ad 20 0)), (1, .int v1), (2, .int v2), (3, .ref (ad 23 1)), (5, .long v5), (7, .int v7), (8, .int v8), (9, .int v9), (10, .long v10)] dL_kept_199 (by decide) rfl ?_
                  refine G_lv hO [(0, .ref (ad 20 0)), (1, .int v1), (2, .int v2), (3, .ref (ad 23 1)), (4, .int 0), (5, .long v5), (7, .int v7), (8, .int v8), (9, .int v9), (10, .long v10), (12, .int 0)] [2, 3, 4, 5, 1, 6, 7, 8, 9, 10, 0] rfl ?_
                  exact b201 27 _ _ _ _ _ _ _ _ _ _ _ (by omega) hs
                · replace hs := hs.2 h48
                  refine G_iconst hO 1 dL_kept_191 (by decide) ?_
                  refine G_goto hO 196 dL_kept_192 (by decide) ?_
                  refine G_istore hO [(4, .int 1), (0, .ref (ad 20 0)), (1, .int v1), (2, .int v2), (3, .ref (ad 23 1)), (5, .long v5), (7, .int v7), (8, .int v8), (9, .int v9), (10, .long v10)] dL_kept_196 (by decide) rfl ?_
                  refine G_iconst hO 0 dL_kept_198 (by decide) ?_
                  refine G_istore hO [(12, .int 0), (4, .int 1), (0, .ref (ad 20 0)), (1, .int v1), (2, .int v2), (3, .ref (ad 23 1)), (5, .long v5), (7, .int v7), (8, .int v8), (9, .int v9), (10, .long v10)] dL_kept_199 (by decide) rfl ?_
                  refine G_lv hO [(0, .ref (ad 20 0)), (1, .int v1), (2, .int v2), (3, .ref (ad 23 1)), (4, .int 1), (5, .long v5), (7, .int v7), (8, .int v8), (9, .int v9), (10, .long v10), (12, .int 0)] [2, 3, 4, 5, 1, 6, 7, 8, 9, 10, 0] rfl ?_
                  exact b201 27 _ _ _ _ _ _ _ _ _ _ _ (by omega) hs
      intro k41 v1 v2 v4 v5 v7 M hk hs
      unfold wL_kept_L41 at hs
      refine G_iload hO 6 dL_kept_41 rfl ?_
      refine G_iload_n hO 2 dL_kept_43 rfl rfl ?_
      refine G_icmp_ge hO 285 dL_kept_44 (by decide) (fun h23 => ?_) (fun h23 => ?_)
      · replace hs := hs.1 h23
        refine G_iconst hO 0 dL_kept_285 (by decide) ?_
        refine G_istore hO [(7, .int 0), (0, .ref (ad 20 0)), (1, .int v1), (2, .int v2), (3, .ref (ad 23 1)), (4, .int v4), (5, .long v5)] dL_kept_286 (by decide) rfl ?_
        refine G_lv hO [(0, .ref (ad 20 0)), (1, .int v1), (3, .ref (ad 23 1)), (4, .int v4), (5, .long v5), (7, .int 0)] [1, 2, 4, 5, 6, 0] rfl ?_
        exact b288 9 _ _ _ _ _ _ (by omega) hs
      · replace hs := hs.2 h23
        refine G_iload hO 4 dL_kept_47 rfl ?_
        refine G_if_eq hO 285 dL_kept_49 (by decide) (fun h22 => ?_) (fun h22 => ?_)
        · replace hs := hs.1 h22
          refine G_iconst hO 0 dL_kept_285 (by decide) ?_
          refine G_istore hO [(7, .int 0), (0, .ref (ad 20 0)), (1, .int v1), (2, .int v2), (3, .ref (ad 23 1)), (4, .int v4), (5, .long v5)] dL_kept_286 (by decide) rfl ?_
          refine G_lv hO [(0, .ref (ad 20 0)), (1, .int v1), (3, .ref (ad 23 1)), (4, .int v4), (5, .long v5), (7, .int 0)] [1, 2, 4, 5, 6, 0] rfl ?_
          exact b288 9 _ _ _ _ _ _ (by omega) hs
        · replace hs := hs.2 h22
          refine G_aload_n hO 0 dL_kept_52 rfl rfl ?_
          refine G_iload hO 6 dL_kept_53 rfl ?_
          refine G_iconst hO 0 dL_kept_55 (by decide) ?_
          refine H_callHl hO (rest := []) 1 [.ref (ad 20 0), .int v7, .int 0] hX (fun l h => c_L_way hm hs h) cw_way mw_525 mw_524 rfl rfl (Nat.le_of_ble_eq_true rfl) ⟨by decide, by decide⟩ ⟨by decide, by decide⟩ rfl (by first | (show _ ≤ 1718; omega) | (show _ ≤ 27488; omega)) dL_kept_56 ?_
          intro r5 M6 hs
          refine G_l2i hO dL_kept_59 ?_
          refine G_istore hO [(8, .int (Int64.toInt32 r5)), (0, .ref (ad 20 0)), (1, .int v1), (2, .int v2), (3, .ref (ad 23 1)), (4, .int v4), (5, .long v5), (7, .int v7)] dL_kept_60 (by decide) rfl ?_
          refine G_aload_n hO 1 dL_kept_62 rfl rfl ?_
          refine G_iload hO 7 dL_kept_63 rfl ?_
          refine G_iconst hO 1 dL_kept_65 (by decide) ?_
          refine H_callHl hO (rest := []) 1 [.ref (ad 20 0), .int v7, .int 1] hX (fun l h => c_L_way hm hs h) cw_way mw_525 mw_524 rfl rfl (Nat.le_of_ble_eq_true rfl) ⟨by decide, by decide⟩ ⟨by decide, by decide⟩ rfl (by first | (show _ ≤ 1718; omega) | (show _ ≤ 27488; omega)) dL_kept_66 ?_
          intro r7 M8 hs
          refine G_l2i hO dL_kept_69 ?_
          refine G_istore hO [(9, .int (Int64.toInt32 r7)), (8, .int (Int64.toInt32 r5)), (0, .ref (ad 20 0)), (1, .int v1), (2, .int v2), (3, .ref (ad 23 1)), (4, .int v4), (5, .long v5), (7, .int v7)] dL_kept_70 (by decide) rfl ?_
          refine G_aload_n hO 2 dL_kept_72 rfl rfl ?_
          refine G_iload hO 8 dL_kept_73 rfl ?_
          refine G_iconst hO 2 dL_kept_75 (by decide) ?_
          refine H_callHl hO (rest := []) 1 [.ref (ad 20 0), .int v7, .int 2] hX (fun l h => c_L_way hm hs h) cw_way mw_525 mw_524 rfl rfl (Nat.le_of_ble_eq_true rfl) ⟨by decide, by decide⟩ ⟨by decide, by decide⟩ rfl (by first | (show _ ≤ 1718; omega) | (show _ ≤ 27488; omega)) dL_kept_76 ?_
          intro r9 M10 hs
          refine G_lstore hO [(10, .long r9), (9, .int (Int64.toInt32 r7)), (8, .int (Int64.toInt32 r5)), (0, .ref (ad 20 0)), (1, .int v1), (2, .int v2), (3, .ref (ad 23 1)), (4, .int v4), (5, .long v5), (7, .int v7)] dL_kept_79 (by decide) rfl ?_
          refine G_iload hO 2 dL_kept_81 rfl ?_
          refine G_i2l hO dL_kept_83 ?_
          refine G_lconst hO 0 dL_kept_84 (by decide) ?_
          refine G_ldc2 hO mw_811 dL_kept_85 ?_
          refine KS_Ni hO (rest := []) [.long (Int32.toInt64 (Int64.toInt32 r5)), .long 0, .long 9] (fun l => c_L_in hs) cv_L_in mw_813 mw_812 rfl rfl (Nat.le_of_ble_eq_true rfl) (by decide) rfl rfl (by first | (show _ ≤ 1718; omega) | (show _ ≤ 27488; omega)) (by first | (show _ ≤ 1718; omega) | (show _ ≤ 27488; omega)) dL_kept_88 ?_
          intro r11 hs
          refine G_if_eq hO 195 dL_kept_91 (by decide) (fun h21 => ?_) (fun h21 => ?_)
          · replace hs := hs.1 h21
            refine G_iconst hO 0 dL_kept_195 (by decide) ?_
            refine G_istore hO [(4, .int 0), (10, .long r9), (9, .int (Int64.toInt32 r7)), (8, .int (Int64.toInt32 r5)), (0, .ref (ad 20 0)), (1, .int v1), (2, .int v2), (3, .ref (ad 23 1)), (5, .long v5), (7, .int v7)] dL_kept_196 (by decide) rfl ?_
            refine G_iconst hO 0 dL_kept_198 (by decide) ?_
            refine G_istore hO [(12, .int 0), (4, .int 0), (10, .long r9), (9, .int (Int64.toInt32 r7)), (8, .int (Int64.toInt32 r5)), (0, .ref (ad 20 0)), (1, .int v1), (2, .int v2), (3, .ref (ad 23 1)), (5, .long v5), (7, .int v7)] dL_kept_199 (by decide) rfl ?_
            refine G_lv hO [(0, .ref (ad 20 0)), (1, .int v1), (2, .int v2), (3, .ref (ad 23 1)), (4, .int 0), (5, .long v5), (7, .int v7), (8, .int (Int64.toInt32 r5)), (9, .int (Int64.toInt32 r7)), (10, .long r9), (12, .int 0)] [5, 6, 7, 8, 1, 9, 10, 4, 3, 2, 0] rfl ?_
            exact b201 27 _ _ _ _ _ _ _ _ _ _ _ (by omega) hs
          · replace hs := hs.2 h21
            refine G_iload hO 1 dL_kept_94 rfl ?_
            refine G_i2l hO dL_kept_96 ?_
            refine G_lconst hO 0 dL_kept_97 (by decide) ?_
            refine G_ldc2 hO mw_811 dL_kept_98 ?_
            refine KS_Ni hO (rest := []) [.long (Int32.toInt64 (Int64.toInt32 r7)), .long 0, .long 9] (fun l => c_L_in hs) cv_L_in mw_813 mw_812 rfl rfl (Nat.le_of_ble_eq_true rfl) (by decide) rfl rfl (by first | (show _ ≤ 1718; omega) | (show _ ≤ 27488; omega)) (by first | (show _ ≤ 1718; omega) | (show _ ≤ 27488; omega)) dL_kept_101 ?_
            intro r12 hs
            refine G_if_eq hO 195 dL_kept_104 (by decide) (fun h20 => ?_) (fun h20 => ?_)
            · replace hs := hs.1 h20
              refine G_iconst hO 0 dL_kept_195 (by decide) ?_
              refine G_istore hO [(4, .int 0), (10, .long r9), (9, .int (Int64.toInt32 r7)), (8, .int (Int64.toInt32 r5)), (0, .ref (ad 20 0)), (1, .int v1), (2, .int v2), (3, .ref (ad 23 1)), (5, .long v5), (7, .int v7)] dL_kept_196 (by decide) rfl ?_
              refine G_iconst hO 0 dL_kept_198 (by decide) ?_
              refine G_istore hO [(12, .int 0), (4, .int 0), (10, .long r9), (9, .int (Int64.toInt32 r7)), (8, .int (Int64.toInt32 r5)), (0, .ref (ad 20 0)), (1, .int v1), (2, .int v2), (3, .ref (ad 23 1)), (5, .long v5), (7, .int v7)] dL_kept_199 (by decide) rfl ?_
              refine G_lv hO [(0, .ref (ad 20 0)), (1, .int v1), (2, .int v2), (3, .ref (ad 23 1)), (4, .int 0), (5, .long v5), (7, .int v7), (8, .int (Int64.toInt32 r5)), (9, .int (Int64.toInt32 r7)), (10, .long r9), (12, .int 0)] [5, 6, 7, 8, 1, 9, 10, 4, 3, 2, 0] rfl ?_
              exact b201 27 _ _ _ _ _ _ _ _ _ _ _ (by omega) hs
            · replace hs := hs.2 h20
              refine G_iload hO 2 dL_kept_107 rfl ?_
              refine G_iload hO 1 dL_kept_109 rfl ?_
              refine G_icmp_eq hO 195 dL_kept_111 (by decide) (fun h19 => ?_) (fun h19 => ?_)
              · replace hs := hs.1 h19
                refine G_iconst hO 0 dL_kept_195 (by decide) ?_
                refine G_istore hO [(4, .int 0), (10, .long r9), (9, .int (Int64.toInt32 r7)), (8, .int (Int64.toInt32 r5)), (0, .ref (ad 20 0)), (1, .int v1), (2, .int v2), (3, .ref (ad 23 1)), (5, .long v5), (7, .int v7)] dL_kept_196 (by decide) rfl ?_
                refine G_iconst hO 0 dL_kept_198 (by decide) ?_
                refine G_istore hO [(12, .int 0), (4, .int 0), (10, .long r9), (9, .int (Int64.toInt32 r7)), (8, .int (Int64.toInt32 r5)), (0, .ref (ad 20 0)), (1, .int v1), (2, .int v2), (3, .ref (ad 23 1)), (5, .long v5), (7, .int v7)] dL_kept_199 (by decide) rfl ?_
                refine G_lv hO [(0, .ref (ad 20 0)), (1, .int v1), (2, .int v2), (3, .ref (ad 23 1)), (4, .int 0), (5, .long v5), (7, .int v7), (8, .int (Int64.toInt32 r5)), (9, .int (Int64.toInt32 r7)), (10, .long r9), (12, .int 0)] [5, 6, 7, 8, 1, 9, 10, 4, 3, 2, 0] rfl ?_
                exact b201 27 _ _ _ _ _ _ _ _ _ _ _ (by omega) hs
              · replace hs := hs.2 h19
                refine G_lload hO 0 dL_kept_114 rfl ?_
                refine G_lconst hO 0 dL_kept_116 (by decide) ?_
                refine G_lcmp hO dL_kept_117 ?_
                refine G_if_le hO 195 dL_kept_118 (by decide) (fun h18 => ?_) (fun h18 => ?_)
                · replace hs := hs.1 h18
                  refine G_iconst hO 0 dL_kept_195 (by decide) ?_
                  refine G_istore hO [(4, .int 0), (10, .long r9), (9, .int (Int64.toInt32 r7)), (8, .int (Int64.toInt32 r5)), (0, .ref (ad 20 0)), (1, .int v1), (2, .int v2), (3, .ref (ad 23 1)), (5, .long v5), (7, .int v7)] dL_kept_196 (by decide) rfl ?_
                  refine G_iconst hO 0 dL_kept_198 (by decide) ?_
                  refine G_istore hO [(12, .int 0), (4, .int 0), (10, .long r9), (9, .int (Int64.toInt32 r7)), (8, .int (Int64.toInt32 r5)), (0, .ref (ad 20 0)), (1, .int v1), (2, .int v2), (3, .ref (ad 23 1)), (5, .long v5), (7, .int v7)] dL_kept_199 (by decide) rfl ?_
                  refine G_lv hO [(0, .ref (ad 20 0)), (1, .int v1), (2, .int v2), (3, .ref (ad 23 1)), (4, .int 0), (5, .long v5), (7, .int v7), (8, .int (Int64.toInt32 r5)), (9, .int (Int64.toInt32 r7)), (10, .long r9), (12, .int 0)] [5, 6, 7, 8, 1, 9, 10, 4, 3, 2, 0] rfl ?_
                  exact b201 27 _ _ _ _ _ _ _ _ _ _ _ (by omega) hs
                · replace hs := hs.2 h18
                  refine G_aload_n hO 3 dL_kept_121 rfl rfl ?_
                  refine G_iload hO 2 dL_kept_122 rfl ?_
                  refine G_iload hO 1 dL_kept_124 rfl ?_
                  refine H_callHl hO (rest := []) 1 [.ref (ad 20 0), .int (Int64.toInt32 r5), .int (Int64.toInt32 r7)] hX (fun l h => c_L_moved hm hs h) cw_moved mw_538 mw_537 rfl rfl (Nat.le_of_ble_eq_true rfl) ⟨by decide, by decide⟩ ⟨by decide, by decide⟩ rfl (by first | (show _ ≤ 1718; omega) | (show _ ≤ 27488; omega)) dL_kept_126 ?_
                  intro r13 M14 hs
                  refine G_lload hO 0 dL_kept_129 rfl ?_
                  refine G_lcmp hO dL_kept_131 ?_
                  refine G_if_ne hO 195 dL_kept_132 (by decide) (fun h17 => ?_) (fun h17 => ?_)
                  · replace hs := hs.1 h17
                    refine G_iconst hO 0 dL_kept_195 (by decide) ?_
                    refine G_istore hO [(4, .int 0), (10, .long r9), (9, .int (Int64.toInt32 r7)), (8, .int (Int64.toInt32 r5)), (0, .ref (ad 20 0)), (1, .int v1), (2, .int v2), (3, .ref (ad 23 1)), (5, .long v5), (7, .int v7)] dL_kept_196 (by decide) rfl ?_
                    refine G_iconst hO 0 dL_kept_198 (by decide) ?_
                    refine G_istore hO [(12, .int 0), (4, .int 0), (10, .long r9), (9, .int (Int64.toInt32 r7)), (8, .int (Int64.toInt32 r5)), (0, .ref (ad 20 0)), (1, .int v1), (2, .int v2), (3, .ref (ad 23 1)), (5, .long v5), (7, .int v7)] dL_kept_199 (by decide) rfl ?_
                    refine G_lv hO [(0, .ref (ad 20 0)), (1, .int v1), (2, .int v2), (3, .ref (ad 23 1)), (4, .int 0), (5, .long v5), (7, .int v7), (8, .int (Int64.toInt32 r5)), (9, .int (Int64.toInt32 r7)), (10, .long r9), (12, .int 0)] [5, 6, 7, 8, 1, 9, 10, 4, 3, 2, 0] rfl ?_
                    exact b201 27 _ _ _ _ _ _ _ _ _ _ _ (by omega) hs
                  · replace hs := hs.2 h17
                    refine G_iload hO 2 dL_kept_135 rfl ?_
                    refine G_bipush hO 9 dL_kept_137 (by decide) ?_
                    refine G_icmp_eq hO 149 dL_kept_139 (by decide) (fun h16 => ?_) (fun h16 => ?_)
                    · replace hs := hs.1 h16
                      refine G_lv hO [(0, .ref (ad 20 0)), (1, .int v1), (2, .int v2), (3, .ref (ad 23 1)), (5, .long v5), (7, .int v7), (8, .int (Int64.toInt32 r5)), (9, .int (Int64.toInt32 r7)), (10, .long r9)] [3, 4, 5, 6, 8, 9, 2, 1, 0] rfl ?_
                      exact b149 _ _ _ _ _ _ _ _ _ (by omega) hs
                    · replace hs := hs.2 h16
                      refine G_iload hO 1 dL_kept_142 rfl ?_
                      refine G_bipush hO 9 dL_kept_144 (by decide) ?_
                      refine G_icmp_eq hO 195 dL_kept_146 (by decide) (fun h15 => ?_) (fun h15 => ?_)
                      · replace hs := hs.1 h15
                        refine G_iconst hO 0 dL_kept_195 (by decide) ?_
                        refine G_istore hO [(4, .int 0), (10, .long r9), (9, .int (Int64.toInt32 r7)), (8, .int (Int64.toInt32 r5)), (0, .ref (ad 20 0)), (1, .int v1), (2, .int v2), (3, .ref (ad 23 1)), (5, .long v5), (7, .int v7)] dL_kept_196 (by decide) rfl ?_
                        refine G_iconst hO 0 dL_kept_198 (by decide) ?_
                        refine G_istore hO [(12, .int 0), (4, .int 0), (10, .long r9), (9, .int (Int64.toInt32 r7)), (8, .int (Int64.toInt32 r5)), (0, .ref (ad 20 0)), (1, .int v1), (2, .int v2), (3, .ref (ad 23 1)), (5, .long v5), (7, .int v7)] dL_kept_199 (by decide) rfl ?_
                        refine G_lv hO [(0, .ref (ad 20 0)), (1, .int v1), (2, .int v2), (3, .ref (ad 23 1)), (4, .int 0), (5, .long v5), (7, .int v7), (8, .int (Int64.toInt32 r5)), (9, .int (Int64.toInt32 r7)), (10, .long r9), (12, .int 0)] [5, 6, 7, 8, 1, 9, 10, 4, 3, 2, 0] rfl ?_
                        exact b201 27 _ _ _ _ _ _ _ _ _ _ _ (by omega) hs
                      · replace hs := hs.2 h15
                        refine G_lv hO [(0, .ref (ad 20 0)), (1, .int v1), (2, .int v2), (3, .ref (ad 23 1)), (5, .long v5), (7, .int v7), (8, .int (Int64.toInt32 r5)), (9, .int (Int64.toInt32 r7)), (10, .long r9)] [3, 4, 5, 6, 8, 9, 2, 1, 0] rfl ?_
                        exact b149 _ _ _ _ _ _ _ _ _ (by omega) hs
  refine G_astore_n hO [(3, .ref (ad 23 1)), (2, .int (Int64.toInt32 r3)), (1, .int (Int64.toInt32 r1)), (0, .ref (ad 20 0))] dL_kept_19 rfl (by decide) rfl ?_
  refine G_aload_n hO 0 dL_kept_20 rfl rfl ?_
  refine G_iconst hO 0 dL_kept_21 (by decide) ?_
  refine G_sipush hO 800 dL_kept_22 (by decide) ?_
  refine M_iast hO (rS_ha Λ ad O) (cw_ha Λ) 0 (by decide) hdr.new (ha_1 _) (vp_lit (by decide)) dL_kept_25 ?_
  refine G_aload_n hO 0 dL_kept_26 rfl rfl ?_
  refine G_iconst hO 1 dL_kept_27 (by decide) ?_
  refine G_sipush hO 1200 dL_kept_28 (by decide) ?_
  refine M_iast hO (rS_ha Λ ad O) (cw_ha Λ) 1 (by decide) hdr.new (ha_1 _) (vp_lit (by decide)) dL_kept_31 ?_
  refine G_iconst hO 1 dL_kept_32 (by decide) ?_
  refine G_istore hO [(4, .int 1), (3, .ref (ad 23 1)), (2, .int (Int64.toInt32 r3)), (1, .int (Int64.toInt32 r1)), (0, .ref (ad 20 0))] dL_kept_33 (by decide) rfl ?_
  refine G_lconst hO 0 dL_kept_35 (by decide) ?_
  refine G_lstore hO [(5, .long 0), (4, .int 1), (3, .ref (ad 23 1)), (2, .int (Int64.toInt32 r3)), (1, .int (Int64.toInt32 r1)), (0, .ref (ad 20 0))] dL_kept_36 (by decide) rfl ?_
  refine G_iconst hO 0 dL_kept_38 (by decide) ?_
  refine G_istore hO [(7, .int 0), (5, .long 0), (4, .int 1), (3, .ref (ad 23 1)), (2, .int (Int64.toInt32 r3)), (1, .int (Int64.toInt32 r1)), (0, .ref (ad 20 0))] dL_kept_39 (by decide) rfl ?_
  refine G_lv hO [(0, .ref (ad 20 0)), (1, .int (Int64.toInt32 r1)), (2, .int (Int64.toInt32 r3)), (3, .ref (ad 23 1)), (4, .int 1), (5, .long 0), (7, .int 0)] [6, 5, 4, 3, 2, 1, 0] rfl ?_
  exact b41 27 _ _ _ _ _ _ _ (by omega) hs
set_option maxHeartbeats 4000000 in
set_option maxRecDepth 20000 in
theorem c_L_o {l : Launch} {Λ : Lay} {B : Zn} {ids : List (Nat × Nat)} {ad : Nat → Nat → Nat} (hm : ∀ q, q ∈ ids0 → q ∈ ids) (hnr : (20, 6) ∉ ids) {a1 : Int32} {M : Mem} {O : Nat → Int64} {P : Int32 → Mem → Prop} (hs : wL_o a1 M P) (hst : l.stackTraces = false) : CY l yL_o cL_o 2 (some .int) { frames := 5, cells := 0, slots := 0, locals := 111 } Λ B ids ad (sh Λ ad M O) [.ref (ad 20 0), .int a1] (Gi Λ ids ad O P) := by
  refine CY.of hst RL [(0, .ref (ad 20 0)), (1, .int a1)] (plainFor_of_name (by decide +kernel)) rfl (Nat.le_of_ble_eq_true rfl) rfl (fun Γ hO hX hF => ?_)
  unfold wL_o at hs
  refine G_iload_n hO 1 dL_o_0 rfl rfl ?_
  refine G_if_eq hO 11 dL_o_1 (by decide) (fun h5 => ?_) (fun h5 => ?_)
  · replace hs := hs.1 h5
    refine G_aload_n hO 0 dL_o_11 rfl rfl ?_
    refine H_callVi hO (rest := []) 0 [] (fun l => c_X5_whyShare hm hs) cv_X5_whyShare mw_834 mw_835 mw_833 (hm _ (id_gl (by decide))) cl5 (show sh Λ ad _ O 20 0 = _ by unfold sh; rw [rS_gl]; exact gl_0 _ _ _) rfl rfl (Nat.le_of_ble_eq_true rfl) ⟨by decide, by decide⟩ ⟨by decide, by decide⟩ rfl (by first | (show _ ≤ 0; omega) | (show _ ≤ 0; omega)) dL_o_12 ?_
    intro r1 M2 hs
    exact G_iret hO hF rfl (by first | (show _ ≤ 0; omega) | (show _ ≤ 0; omega)) (by first | (show _ ≤ 0; omega) | (show _ ≤ 0; omega)) dL_o_15 ⟨rfl, rfl, _, _, rfl, rfl, hs⟩
  · replace hs := hs.2 h5
    refine G_aload_n hO 0 dL_o_4 rfl rfl ?_
    refine H_callVi hO (rest := []) 0 [] (fun l => c_X5_whyOff hm hs) cv_X5_whyOff mw_828 mw_829 mw_827 (hm _ (id_gl (by decide))) cl5 (show sh Λ ad _ O 20 0 = _ by unfold sh; rw [rS_gl]; exact gl_0 _ _ _) rfl rfl (Nat.le_of_ble_eq_true rfl) ⟨by decide, by decide⟩ ⟨by decide, by decide⟩ rfl (by first | (show _ ≤ 0; omega) | (show _ ≤ 0; omega)) dL_o_5 ?_
    intro r3 M4 hs
    refine G_goto hO 15 dL_o_8 (by decide) ?_
    exact G_iret hO hF rfl (by first | (show _ ≤ 0; omega) | (show _ ≤ 0; omega)) (by first | (show _ ≤ 0; omega) | (show _ ≤ 0; omega)) dL_o_15 ⟨rfl, rfl, _, _, rfl, rfl, hs⟩
