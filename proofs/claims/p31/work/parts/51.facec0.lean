set_option maxHeartbeats 4000000 in
set_option maxRecDepth 20000 in
theorem c_X5_append {l : Launch} {Λ : Lay} {B : Zn} {ids : List (Nat × Nat)} {ad : Nat → Nat → Nat} (hm : ∀ q, q ∈ ids0 → q ∈ ids) {a1 : Int32} {M : Mem} {O : Nat → Int64} {P : Int32 → Mem → Prop} {X : String → Mem → Prop} (hs : wX5_append a1 M P X) (hst : l.stackTraces = false) : CX l yX5_append cX5_append 2 (some .int) { frames := 6, cells := 1, slots := 6, locals := 90 } Λ B ids ad (sh Λ ad M O) [.ref (ad 20 0), .int a1] (Gi Λ ids ad O P) (Xg Λ ids ad O X) := by
  refine CX.of hst RX5 [(0, .ref (ad 20 0)), (1, .int a1)] (by decide +kernel) rfl (Nat.le_of_ble_eq_true rfl) rfl (fun Γ hO hX hF => ?_)
  unfold wX5_append at hs
  refine G_iload_n hO 1 dX5_append_0 rfl rfl ?_
  refine G_if_lt hO 11 dX5_append_1 (by decide) (fun h4 => ?_) (fun h4 => ?_)
  · replace hs := hs.1 h4
    exact G_throw_IAE hO (text := "a character code is 0 to 255") hX hF rfl mw_455 (by decide) mw_11 (by decide +kernel) dX5_append_11 dX5_append_14 dX5_append_15 dX5_append_17 dX5_append_20 (Nat.le_of_ble_eq_true rfl) (Nat.le_of_ble_eq_true rfl) (Nat.le_of_ble_eq_true rfl) (Nat.le_of_ble_eq_true rfl) (Nat.le_of_ble_eq_true rfl) (Nat.le_of_ble_eq_true rfl) ⟨rfl, rfl, _, rfl, hs⟩
  · replace hs := hs.2 h4
    refine G_iload_n hO 1 dX5_append_4 rfl rfl ?_
    refine G_sipush hO 255 dX5_append_5 (by decide) ?_
    refine G_icmp_le hO 21 dX5_append_8 (by decide) (fun h3 => ?_) (fun h3 => ?_)
    · replace hs := hs.1 h3
      refine G_aload_n hO 0 dX5_append_21 rfl rfl ?_
      refine M_getf hO (rS_gl Λ ad O) (v := .int (M 20 0 1)) cl5 1 (hm _ (id_gl (by decide))) (gl_0 _ _ _) (by decide) mw_178 rfl rfl dX5_append_22 ?_
      refine G_if_lt hO 40 dX5_append_25 (by decide) (fun h2 => ?_) (fun h2 => ?_)
      · replace hs := hs.1 h2
        exact G_throw_ISE hO (text := "the text is full") hX hF rfl mw_301 (by decide) mw_14 (by decide +kernel) dX5_append_40 dX5_append_43 dX5_append_44 dX5_append_46 dX5_append_49 (Nat.le_of_ble_eq_true rfl) (Nat.le_of_ble_eq_true rfl) (Nat.le_of_ble_eq_true rfl) (Nat.le_of_ble_eq_true rfl) (Nat.le_of_ble_eq_true rfl) (Nat.le_of_ble_eq_true rfl) ⟨rfl, rfl, _, rfl, hs⟩
      · replace hs := hs.2 h2
        refine G_aload_n hO 0 dX5_append_28 rfl rfl ?_
        refine M_getf hO (rS_gl Λ ad O) (v := .int (M 20 0 1)) cl5 1 (hm _ (id_gl (by decide))) (gl_0 _ _ _) (by decide) mw_178 rfl rfl dX5_append_29 ?_
        refine G_aload_n hO 0 dX5_append_32 rfl rfl ?_
        refine M_getf hO (rS_gl Λ ad O) (v := .ref (ad 20 1)) cl5 0 (hm _ (id_gl (by decide))) (gl_0 _ _ _) (by decide) mw_177 rfl rfl dX5_append_33 ?_
        refine M_alen hO (rS_gl Λ ad O) (v := 80) 1 (hm _ (id_gl (by decide))) (gl_1 _ _ _) rfl rfl dX5_append_36 ?_
        refine G_icmp_lt hO 50 dX5_append_37 (by decide) (fun h1 => ?_) (fun h1 => ?_)
        · replace hs := hs.1 h1
          refine G_aload_n hO 0 dX5_append_50 rfl rfl ?_
          refine M_getf hO (rS_gl Λ ad O) (v := .ref (ad 20 1)) cl5 0 (hm _ (id_gl (by decide))) (gl_0 _ _ _) (by decide) mw_177 rfl rfl dX5_append_51 ?_
          refine G_aload_n hO 0 dX5_append_54 rfl rfl ?_
          refine M_getf hO (rS_gl Λ ad O) (v := .int (M 20 0 1)) cl5 1 (hm _ (id_gl (by decide))) (gl_0 _ _ _) (by decide) mw_178 rfl rfl dX5_append_55 ?_
          refine G_iload_n hO 1 dX5_append_58 rfl rfl ?_
          refine G_i2c hO dX5_append_59 ?_
          refine M_cast hO (rS_gl Λ ad O) (cw_gl _ _) _ rfl (hm _ (id_gl (by decide))) (gl_1 _ _) hs.1 dX5_append_60 ?_
          replace hs := hs.2
          refine G_aload_n hO 0 dX5_append_61 rfl rfl ?_
          refine G_dup hO dX5_append_62 rfl ?_
          refine M_getf hO (rS_gl Λ ad O) (v := .int ((va_up M 20 (cu (M 20) 1 (Int32.toNatClampNeg (M 20 0 1)) (vp_nar .char ((Int32.toUInt32 a1 % 65536).toInt32)))) 20 0 1)) cl5 1 (hm _ (id_gl (by decide))) (gl_0 _ _ _) (by decide) mw_178 rfl rfl dX5_append_63 ?_
          refine G_iconst hO 1 dX5_append_66 (by decide) ?_
          refine G_iadd hO dX5_append_67 ?_
          refine M_putf hO (rS_gl Λ ad O) (cw_gl _ _) cl5 1 (hm _ (id_gl (by decide))) (gl_0 _ _ _) (by decide) mw_178 rfl rfl rfl rfl (Nat.le_of_ble_eq_true rfl) glP dX5_append_68 ?_
          refine G_aload_n hO 0 dX5_append_71 rfl rfl ?_
          refine M_getf hO (rS_gl Λ ad O) (v := .int ((va_up (va_up M 20 (cu (M 20) 1 (Int32.toNatClampNeg (M 20 0 1)) (vp_nar .char ((Int32.toUInt32 a1 % 65536).toInt32)))) 20 (cu ((va_up M 20 (cu (M 20) 1 (Int32.toNatClampNeg (M 20 0 1)) (vp_nar .char ((Int32.toUInt32 a1 % 65536).toInt32)))) 20) 0 1 (((va_up M 20 (cu (M 20) 1 (Int32.toNatClampNeg (M 20 0 1)) (vp_nar .char ((Int32.toUInt32 a1 % 65536).toInt32)))) 20 0 1) + 1))) 20 0 1)) cl5 1 (hm _ (id_gl (by decide))) (gl_0 _ _ _) (by decide) mw_178 rfl rfl dX5_append_72 ?_
          exact G_iretX hO hF rfl (Nat.le_of_ble_eq_true rfl) (Nat.le_of_ble_eq_true rfl) dX5_append_75 ⟨rfl, rfl, _, _, rfl, rfl, hs⟩
        · replace hs := hs.2 h1
          exact G_throw_ISE hO (text := "the text is full") hX hF rfl mw_301 (by decide) mw_14 (by decide +kernel) dX5_append_40 dX5_append_43 dX5_append_44 dX5_append_46 dX5_append_49 (Nat.le_of_ble_eq_true rfl) (Nat.le_of_ble_eq_true rfl) (Nat.le_of_ble_eq_true rfl) (Nat.le_of_ble_eq_true rfl) (Nat.le_of_ble_eq_true rfl) (Nat.le_of_ble_eq_true rfl) ⟨rfl, rfl, _, rfl, hs⟩
    · replace hs := hs.2 h3
      exact G_throw_IAE hO (text := "a character code is 0 to 255") hX hF rfl mw_455 (by decide) mw_11 (by decide +kernel) dX5_append_11 dX5_append_14 dX5_append_15 dX5_append_17 dX5_append_20 (Nat.le_of_ble_eq_true rfl) (Nat.le_of_ble_eq_true rfl) (Nat.le_of_ble_eq_true rfl) (Nat.le_of_ble_eq_true rfl) (Nat.le_of_ble_eq_true rfl) (Nat.le_of_ble_eq_true rfl) ⟨rfl, rfl, _, rfl, hs⟩
set_option maxHeartbeats 4000000 in
set_option maxRecDepth 20000 in
theorem c_X5_clearText {l : Launch} {Λ : Lay} {B : Zn} {ids : List (Nat × Nat)} {ad : Nat → Nat → Nat} (hm : ∀ q, q ∈ ids0 → q ∈ ids) {M : Mem} {O : Nat → Int64} {P : Int32 → Mem → Prop} (hs : wX5_clearText M P) : CT l yX5_clearText cX5_clearText 2 (some .int) { frames := 0, cells := 0, slots := 0, locals := 0 } Λ B ids ad (sh Λ ad M O) [.ref (ad 20 0)] (Gi Λ ids ad O P) := by
  refine CT.of RX5 [(0, .ref (ad 20 0))] (plainFor_of_name (by decide +kernel)) rfl (Nat.le_of_ble_eq_true rfl) rfl (fun Γ hO hF => ?_)
  unfold wX5_clearText at hs
  refine G_aload_n hO 0 dX5_clearText_0 rfl rfl ?_
  refine M_getf hO (rS_gl Λ ad O) (v := .int (M 20 0 1)) cl5 1 (hm _ (id_gl (by decide))) (gl_0 _ _ _) (by decide) mw_178 rfl rfl dX5_clearText_1 ?_
  refine G_istore_n hO [(1, .int (M 20 0 1)), (0, .ref (ad 20 0))] dX5_clearText_4 rfl (by decide) rfl ?_
  refine G_aload_n hO 1 dX5_clearText_5 rfl rfl ?_
  refine G_iconst hO 0 dX5_clearText_6 (by decide) ?_
  refine M_putf hO (rS_gl Λ ad O) (cw_gl _ _) cl5 1 (hm _ (id_gl (by decide))) (gl_0 _ _ _) (by decide) mw_178 rfl rfl rfl rfl (Nat.le_of_ble_eq_true rfl) glP dX5_clearText_7 ?_
  refine G_iload_n hO 0 dX5_clearText_10 rfl rfl ?_
  exact G_iret hO hF rfl (Nat.zero_le _) (Nat.zero_le _) dX5_clearText_11 ⟨rfl, rfl, _, _, rfl, rfl, hs⟩
set_option maxHeartbeats 4000000 in
set_option maxRecDepth 20000 in
theorem c_X5_errorPosition {l : Launch} {Λ : Lay} {B : Zn} {ids : List (Nat × Nat)} {ad : Nat → Nat → Nat} (hm : ∀ q, q ∈ ids0 → q ∈ ids) (hnr : (20, 6) ∉ ids) {M : Mem} {O : Nat → Int64} {P : Int32 → Mem → Prop} (hs : wX5_errorPosition M P) : CT l yX5_errorPosition cX5_errorPosition 2 (some .int) { frames := 6, cells := 1, slots := 3, locals := 143 } Λ B ids ad (sh Λ ad M O) [.ref (ad 20 0)] (Gi Λ ids ad O P) := by
  refine CT.of RX5 [(0, .ref (ad 20 0))] (plainFor_of_name (by decide +kernel)) rfl (Nat.le_of_ble_eq_true rfl) rfl (fun Γ hO hF => ?_)
  refine G_newR hO hnr mw_213 (by decide) (by decide) dX5_errorPosition_0 (fun ids ad hdr => ?_)
  have hm := hdr.mem hm
  have hrd := hdr.new
  unfold wX5_errorPosition at hs
  refine G_dup hO dX5_errorPosition_3 rfl ?_
  refine G_aload_n hO 0 dX5_errorPosition_4 rfl rfl ?_
  refine M_getf hO (rS_gl Λ ad O) (v := .ref (ad 20 1)) cl5 0 (hm _ (id_gl (by decide))) (gl_0 _ _ _) (by decide) mw_177 rfl rfl dX5_errorPosition_5 ?_
  refine G_aload_n hO 0 dX5_errorPosition_8 rfl rfl ?_
  refine M_getf hO (rS_gl Λ ad O) (v := .int ((va_up M 20 (va_up (M 20) 6 (fun _ => 0))) 20 0 1)) cl5 1 (hm _ (id_gl (by decide))) (gl_0 _ _ _) (by decide) mw_178 rfl rfl dX5_errorPosition_9 ?_
  refine KI_Gv hO (rest := [.ref (ad 20 6)]) [.ref (ad 20 1), .int ((va_up M 20 (va_up (M 20) 6 (fun _ => 0))) 20 0 1)] (fun l => c_X4_init hm hrd hs) cv_X4_init mw_216 rfl mw_215 rfl rfl (Nat.le_of_ble_eq_true rfl) (by decide) rfl rfl (by decide) (by decide) dX5_errorPosition_12 ?_
  intro M1 hs
  refine G_astore_n hO [(1, .ref (ad 20 6)), (0, .ref (ad 20 0))] dX5_errorPosition_15 rfl (by decide) rfl ?_
  refine G_aload_n hO 0 dX5_errorPosition_16 rfl rfl ?_
  refine G_aload_n hO 1 dX5_errorPosition_17 rfl rfl ?_
  refine M_getf hO (rS_gl Λ ad O) (v := .ref (ad 1 0)) cl5 3 (hm _ (id_gl (by decide))) (gl_0 _ _ _) (by decide) mw_180 rfl rfl dX5_errorPosition_18 ?_
  refine KV_Gi hO (rest := []) [.ref (ad 1 0)] (fun l => c_X4_readInto hm hrd hs) cv_X4_readInto mw_231 mw_232 mw_230 hrd cl4 (by show rS Λ ad O _ _ _ = _; rw [rS_gl Λ ad O]; exact (gl_6 _ _ _)) rfl rfl (Nat.le_of_ble_eq_true rfl) (by decide) rfl rfl (Nat.le_of_ble_eq_true rfl) (Nat.le_of_ble_eq_true rfl) dX5_errorPosition_21 ?_
  intro r2 M3 hs
  refine G_if_eq hO 32 dX5_errorPosition_24 (by decide) (fun h4 => ?_) (fun h4 => ?_)
  · replace hs := hs.1 h4
    refine G_aload_n hO 0 dX5_errorPosition_32 rfl rfl ?_
    refine M_getf hO (rS_gl Λ ad O) (v := .int (M3 20 6 2)) cl4 2 hrd (gl_6 _ _ _) (by decide) mw_222 rfl rfl dX5_errorPosition_33 ?_
    refine G_drop hO hdr ?_
    exact G_iret hO hF rfl (Nat.le_of_ble_eq_true rfl) (Nat.le_of_ble_eq_true rfl) dX5_errorPosition_36 ⟨rfl, rfl, _, _, rfl, rfl, hs⟩
  · replace hs := hs.2 h4
    refine G_ldc hO mw_716 dX5_errorPosition_27 ?_
    refine G_goto hO 36 dX5_errorPosition_29 (by decide) ?_
    refine G_drop hO hdr ?_
    exact G_iret hO hF rfl (Nat.le_of_ble_eq_true rfl) (Nat.le_of_ble_eq_true rfl) dX5_errorPosition_36 ⟨rfl, rfl, _, _, rfl, rfl, hs⟩
set_option maxHeartbeats 4000000 in
set_option maxRecDepth 20000 in
theorem c_X5_load {l : Launch} {Λ : Lay} {B : Zn} {ids : List (Nat × Nat)} {ad : Nat → Nat → Nat} (hm : ∀ q, q ∈ ids0 → q ∈ ids) (hnr : (20, 6) ∉ ids) {M : Mem} {O : Nat → Int64} {P : Int32 → Mem → Prop} {X : String → Mem → Prop} (hs : wX5_load M P X) (hst : l.stackTraces = false) : CX l yX5_load cX5_load 3 (some .int) { frames := 6, cells := 2, slots := 9, locals := 143 } Λ B ids ad (sh Λ ad M O) [.ref (ad 20 0)] (Gi Λ ids ad O P) (Xg Λ ids ad O X) := by
  refine CX.of hst RX5 [(0, .ref (ad 20 0))] (by decide +kernel) rfl (Nat.le_of_ble_eq_true rfl) rfl (fun Γ hO hX hF => ?_)
  refine G_newR hO hnr mw_213 (by decide) (by decide) dX5_load_0 (fun ids ad hdr => ?_)
  have hm := hdr.mem hm
  have hrd := hdr.new
  have b57 : ∀ (N57 : Nat) (v2 : Int32) (M : Mem), wX5_load_L57 P X N57 v2 M → G Γ ids ad 1 3 (sh Λ ad M O) 57 [(0, .ref (ad 20 0)), (2, .int v2)] [] := by
    intro N57
    induction N57 with
    | zero => intro v2 M hs; exact False.elim hs
    | succ N57 ih57 =>
      intro v2 M hs
      unfold wX5_load_L57 at hs
      refine G_iload_n hO 1 dX5_load_57 rfl rfl ?_
      refine G_aload_n hO 0 dX5_load_58 rfl rfl ?_
      refine M_getf hO (rS_gl Λ ad O) (v := .ref (ad 20 5)) cl5 6 (hm _ (id_gl (by decide))) (gl_0 _ _ _) (by decide) mw_183 rfl rfl dX5_load_59 ?_
      refine M_alen hO (rS_gl Λ ad O) (v := 2) 2 (hm _ (id_gl (by decide))) (gl_5 _ _ _) rfl rfl dX5_load_62 ?_
      refine G_icmp_ge hO 79 dX5_load_63 (by decide) (fun h8 => ?_) (fun h8 => ?_)
      · replace hs := hs.1 h8
        refine G_aload_n hO 0 dX5_load_79 rfl rfl ?_
        refine M_getf hO (rS_gl Λ ad O) (v := .ref (ad 0 0)) cl5 2 (hm _ (id_gl (by decide))) (gl_0 _ _ _) (by decide) mw_179 rfl rfl dX5_load_80 ?_
        refine M_getf hO (rS_st Λ ad O (by decide)) (v := .int (M 0 0 8)) cl3 8 (hm _ (id_st (by decide) (by decide))) (st_0 _ _ _ _) (by decide) mw_123 rfl rfl dX5_load_83 ?_
        refine G_drop hO hdr ?_
        exact G_iretX hO hF rfl (Nat.le_of_ble_eq_true rfl) (Nat.le_of_ble_eq_true rfl) dX5_load_86 ⟨rfl, rfl, _, _, rfl, rfl, hs⟩
      · replace hs := hs.2 h8
        refine G_aload_n hO 0 dX5_load_66 rfl rfl ?_
        refine M_getf hO (rS_gl Λ ad O) (v := .ref (ad 20 5)) cl5 6 (hm _ (id_gl (by decide))) (gl_0 _ _ _) (by decide) mw_183 rfl rfl dX5_load_67 ?_
        refine G_iload_n hO 1 dX5_load_70 rfl rfl ?_
        refine G_iconst hO 0 dX5_load_71 (by decide) ?_
        refine M_zast hO (rS_gl Λ ad O) (cw_gl _ _) _ rfl (hm _ (id_gl (by decide))) (gl_5 _ _) hs.1 dX5_load_72 ?_
        replace hs := hs.2
        refine G_iinc hO 1 (v2 + 1) [(2, .int (v2 + 1)), (0, .ref (ad 20 0))] dX5_load_73 rfl rfl (by decide) rfl ?_
        refine G_goto hO 57 dX5_load_76 (by decide) ?_
        refine G_lv hO [(0, .ref (ad 20 0)), (2, .int (v2 + 1))] [1, 0] rfl ?_
        exact ih57 _ _ hs
  unfold wX5_load at hs
  refine G_dup hO dX5_load_3 rfl ?_
  refine G_aload_n hO 0 dX5_load_4 rfl rfl ?_
  refine M_getf hO (rS_gl Λ ad O) (v := .ref (ad 20 1)) cl5 0 (hm _ (id_gl (by decide))) (gl_0 _ _ _) (by decide) mw_177 rfl rfl dX5_load_5 ?_
  refine G_aload_n hO 0 dX5_load_8 rfl rfl ?_
  refine M_getf hO (rS_gl Λ ad O) (v := .int ((va_up M 20 (va_up (M 20) 6 (fun _ => 0))) 20 0 1)) cl5 1 (hm _ (id_gl (by decide))) (gl_0 _ _ _) (by decide) mw_178 rfl rfl dX5_load_9 ?_
  refine KI_Gv hO (rest := [.ref (ad 20 6)]) [.ref (ad 20 1), .int ((va_up M 20 (va_up (M 20) 6 (fun _ => 0))) 20 0 1)] (fun l => c_X4_init hm hrd hs) cv_X4_init mw_216 rfl mw_215 rfl rfl (Nat.le_of_ble_eq_true rfl) (by decide) rfl rfl (by decide) (by decide) dX5_load_12 ?_
  intro M1 hs
  refine G_astore_n hO [(1, .ref (ad 20 6)), (0, .ref (ad 20 0))] dX5_load_15 rfl (by decide) rfl ?_
  refine G_aload_n hO 0 dX5_load_16 rfl rfl ?_
  refine G_aload_n hO 1 dX5_load_17 rfl rfl ?_
  refine M_getf hO (rS_gl Λ ad O) (v := .ref (ad 1 0)) cl5 3 (hm _ (id_gl (by decide))) (gl_0 _ _ _) (by decide) mw_180 rfl rfl dX5_load_18 ?_
  refine KV_Gi hO (rest := []) [.ref (ad 1 0)] (fun l => c_X4_readInto hm hrd hs) cv_X4_readInto mw_231 mw_232 mw_230 hrd cl4 (by show rS Λ ad O _ _ _ = _; rw [rS_gl Λ ad O]; exact (gl_6 _ _ _)) rfl rfl (Nat.le_of_ble_eq_true rfl) (by decide) rfl rfl (Nat.le_of_ble_eq_true rfl) (Nat.le_of_ble_eq_true rfl) dX5_load_21 ?_
  intro r2 M3 hs
  refine G_if_ne hO 37 dX5_load_24 (by decide) (fun h7 => ?_) (fun h7 => ?_)
  · replace hs := hs.1 h7
    refine G_aload_n hO 1 dX5_load_37 rfl rfl ?_
    refine M_getf hO (rS_gl Λ ad O) (v := .ref (ad 0 0)) cl5 2 (hm _ (id_gl (by decide))) (gl_0 _ _ _) (by decide) mw_179 rfl rfl dX5_load_38 ?_
    refine G_aload_n hO 1 dX5_load_41 rfl rfl ?_
    refine M_getf hO (rS_gl Λ ad O) (v := .ref (ad 1 0)) cl5 3 (hm _ (id_gl (by decide))) (gl_0 _ _ _) (by decide) mw_180 rfl rfl dX5_load_42 ?_
    refine KV_Grv hO (rest := []) [.ref (ad 1 0)] (rS_st Λ ad O (by decide)) (fun l => c_X3_copyFrom (fun _ h9 => hm _ (id_st (by decide) h9)) (by decide) (fun _ h9 => hm _ (id_st (by decide) h9)) (sh_st (by decide)) hs) cv_X3_copyFrom mw_370 mw_371 mw_369 (hm _ (id_st (by decide) (by decide))) cl3 (by show rS Λ ad O _ _ _ = _; rw [rS_st Λ ad O (by decide)]; exact (st_0 _ _ _ _)) rfl rfl (Nat.le_of_ble_eq_true rfl) (by decide) rfl rfl (Nat.le_of_ble_eq_true rfl) (Nat.le_of_ble_eq_true rfl) dX5_load_45 ?_
    intro c4 hs
    refine G_aload_n hO 1 dX5_load_48 rfl rfl ?_
    refine M_getf hO (rS_gl Λ ad O) (v := .ref (ad 20 2)) cl5 4 (hm _ (id_gl (by decide))) (gl_0 _ _ _) (by decide) mw_181 rfl rfl dX5_load_49 ?_
    refine KV_Gv hO (rest := []) [] (fun l => c_X0_forgetAll hm hs) cv_X0_forgetAll mw_383 mw_384 mw_382 (hm _ (id_gl (by decide))) cl0 (by show rS Λ ad O _ _ _ = _; rw [rS_gl Λ ad O]; exact (gl_2 _ _ _)) rfl rfl (Nat.le_of_ble_eq_true rfl) (by decide) rfl rfl (Nat.le_of_ble_eq_true rfl) (Nat.le_of_ble_eq_true rfl) dX5_load_52 ?_
    intro M5 hs
    refine G_iconst hO 0 dX5_load_55 (by decide) ?_
    refine G_istore_n hO [(2, .int 0), (1, .ref (ad 20 6)), (0, .ref (ad 20 0))] dX5_load_56 rfl (by decide) rfl ?_
    obtain ⟨Nf6, hs⟩ := hs
    refine G_lv hO [(0, .ref (ad 20 0)), (2, .int 0)] [2, 0] rfl ?_
    exact b57 Nf6 _ _ hs
  · replace hs := hs.2 h7
    refine G_drop hO hdr ?_
    exact G_throw_ISE hO (text := "the text is not a station") hX hF rfl mw_301 (by decide) mw_14 (by decide +kernel) dX5_load_27 dX5_load_30 dX5_load_31 dX5_load_33 dX5_load_36 (Nat.le_of_ble_eq_true rfl) (Nat.le_of_ble_eq_true rfl) (Nat.le_of_ble_eq_true rfl) (Nat.le_of_ble_eq_true rfl) (Nat.le_of_ble_eq_true rfl) (Nat.le_of_ble_eq_true rfl) ⟨rfl, rfl, _, rfl, hs⟩
set_option maxHeartbeats 4000000 in
set_option maxRecDepth 20000 in
theorem c_X5_about {l : Launch} {Λ : Lay} {B : Zn} {ids : List (Nat × Nat)} {ad : Nat → Nat → Nat} (hm : ∀ q, q ∈ ids0 → q ∈ ids) {a1 : Int32} {M : Mem} {O : Nat → Int64} {P : Int32 → Mem → Prop} {X : String → Mem → Prop} (hs : wX5_about a1 M P X) (hst : l.stackTraces = false) : CX l yX5_about cX5_about 2 (some .int) { frames := 6, cells := 1, slots := 6, locals := 90 } Λ B ids ad (sh Λ ad M O) [.ref (ad 20 0), .int a1] (Gi Λ ids ad O P) (Xg Λ ids ad O X) := by
  refine CX.of hst RX5 [(0, .ref (ad 20 0)), (1, .int a1)] (by decide +kernel) rfl (Nat.le_of_ble_eq_true rfl) rfl (fun Γ hO hX hF => ?_)
  unfold wX5_about at hs
  refine G_iload_n hO 1 dX5_about_0 rfl rfl ?_
  rcases sw_0_12 a1 with hq | hq
  · replace hs := hs.1 hq
    refine G_tableOut hO 191 dX5_about_1 hq (by decide) ?_
    exact G_throw_IAE hO (text := "about what is 0 to 12") hX hF rfl mw_455 (by decide) mw_11 (by decide +kernel) dX5_about_191 dX5_about_194 dX5_about_195 dX5_about_197 dX5_about_200 (Nat.le_of_ble_eq_true rfl) (Nat.le_of_ble_eq_true rfl) (Nat.le_of_ble_eq_true rfl) (Nat.le_of_ble_eq_true rfl) (Nat.le_of_ble_eq_true rfl) (Nat.le_of_ble_eq_true rfl) ⟨rfl, rfl, _, rfl, hs⟩
  · replace hs := hs.2
    rcases hq with hq | hq | hq | hq | hq | hq | hq | hq | hq | hq | hq | hq | hq
    · replace hs := hs.1 hq
      refine G_tableIn hO 68 dX5_about_1 (by rw [hq]; decide) (by rw [hq]; decide) (by rw [hq]; rfl) (by decide) ?_
      refine G_aload_n hO 0 dX5_about_68 rfl rfl ?_
      refine M_getf hO (rS_gl Λ ad O) (v := .ref (ad 0 0)) cl5 2 (hm _ (id_gl (by decide))) (gl_0 _ _ _) (by decide) mw_179 rfl rfl dX5_about_69 ?_
      refine M_getf hO (rS_st Λ ad O (by decide)) (v := .int (M 0 0 8)) cl3 8 (hm _ (id_st (by decide) (by decide))) (st_0 _ _ _ _) (by decide) mw_123 rfl rfl dX5_about_72 ?_
      exact G_iretX hO hF rfl (Nat.le_of_ble_eq_true rfl) (Nat.le_of_ble_eq_true rfl) dX5_about_75 ⟨rfl, rfl, _, _, rfl, rfl, hs⟩
    · replace hs := hs.2.1 hq
      refine G_tableIn hO 76 dX5_about_1 (by rw [hq]; decide) (by rw [hq]; decide) (by rw [hq]; rfl) (by decide) ?_
      refine G_aload_n hO 0 dX5_about_76 rfl rfl ?_
      refine M_getf hO (rS_gl Λ ad O) (v := .ref (ad 0 0)) cl5 2 (hm _ (id_gl (by decide))) (gl_0 _ _ _) (by decide) mw_179 rfl rfl dX5_about_77 ?_
      refine M_getf hO (rS_st Λ ad O (by decide)) (v := .int (M 0 0 0)) cl3 0 (hm _ (id_st (by decide) (by decide))) (st_0 _ _ _ _) (by decide) mw_106 rfl rfl dX5_about_80 ?_
      exact G_iretX hO hF rfl (Nat.le_of_ble_eq_true rfl) (Nat.le_of_ble_eq_true rfl) dX5_about_83 ⟨rfl, rfl, _, _, rfl, rfl, hs⟩
    · replace hs := hs.2.2.1 hq
      refine G_tableIn hO 84 dX5_about_1 (by rw [hq]; decide) (by rw [hq]; decide) (by rw [hq]; rfl) (by decide) ?_
      refine G_aload_n hO 0 dX5_about_84 rfl rfl ?_
      refine M_getf hO (rS_gl Λ ad O) (v := .ref (ad 0 0)) cl5 2 (hm _ (id_gl (by decide))) (gl_0 _ _ _) (by decide) mw_179 rfl rfl dX5_about_85 ?_
      refine M_getf hO (rS_st Λ ad O (by decide)) (v := .int (M 0 0 1)) cl3 1 (hm _ (id_st (by decide) (by decide))) (st_0 _ _ _ _) (by decide) mw_108 rfl rfl dX5_about_88 ?_
      exact G_iretX hO hF rfl (Nat.le_of_ble_eq_true rfl) (Nat.le_of_ble_eq_true rfl) dX5_about_91 ⟨rfl, rfl, _, _, rfl, rfl, hs⟩
    · replace hs := hs.2.2.2.1 hq
      refine G_tableIn hO 92 dX5_about_1 (by rw [hq]; decide) (by rw [hq]; decide) (by rw [hq]; rfl) (by decide) ?_
      refine G_aload_n hO 0 dX5_about_92 rfl rfl ?_
      refine M_getf hO (rS_gl Λ ad O) (v := .ref (ad 0 0)) cl5 2 (hm _ (id_gl (by decide))) (gl_0 _ _ _) (by decide) mw_179 rfl rfl dX5_about_93 ?_
      refine M_getf hO (rS_st Λ ad O (by decide)) (v := .int (M 0 0 2)) cl3 2 (hm _ (id_st (by decide) (by decide))) (st_0 _ _ _ _) (by decide) mw_111 rfl rfl dX5_about_96 ?_
      refine G_if_eq hO 106 dX5_about_99 (by decide) (fun h1 => ?_) (fun h1 => ?_)
      · replace hs := hs.1 h1
        refine G_iconst hO 0 dX5_about_106 (by decide) ?_
        exact G_iretX hO hF rfl (Nat.le_of_ble_eq_true rfl) (Nat.le_of_ble_eq_true rfl) dX5_about_107 ⟨rfl, rfl, _, _, rfl, rfl, hs⟩
      · replace hs := hs.2 h1
        refine G_iconst hO 1 dX5_about_102 (by decide) ?_
        refine G_goto hO 107 dX5_about_103 (by decide) ?_
        exact G_iretX hO hF rfl (Nat.le_of_ble_eq_true rfl) (Nat.le_of_ble_eq_true rfl) dX5_about_107 ⟨rfl, rfl, _, _, rfl, rfl, hs⟩
    · replace hs := hs.2.2.2.2.1 hq
      refine G_tableIn hO 108 dX5_about_1 (by rw [hq]; decide) (by rw [hq]; decide) (by rw [hq]; rfl) (by decide) ?_
      refine G_aload_n hO 0 dX5_about_108 rfl rfl ?_
      refine M_getf hO (rS_gl Λ ad O) (v := .ref (ad 0 0)) cl5 2 (hm _ (id_gl (by decide))) (gl_0 _ _ _) (by decide) mw_179 rfl rfl dX5_about_109 ?_
      refine M_getf hO (rS_st Λ ad O (by decide)) (v := .int (M 0 0 3)) cl3 3 (hm _ (id_st (by decide) (by decide))) (st_0 _ _ _ _) (by decide) mw_113 rfl rfl dX5_about_112 ?_
      exact G_iretX hO hF rfl (Nat.le_of_ble_eq_true rfl) (Nat.le_of_ble_eq_true rfl) dX5_about_115 ⟨rfl, rfl, _, _, rfl, rfl, hs⟩
    · replace hs := hs.2.2.2.2.2.1 hq
      refine G_tableIn hO 116 dX5_about_1 (by rw [hq]; decide) (by rw [hq]; decide) (by rw [hq]; rfl) (by decide) ?_
      refine G_aload_n hO 0 dX5_about_116 rfl rfl ?_
      refine M_getf hO (rS_gl Λ ad O) (v := .ref (ad 0 0)) cl5 2 (hm _ (id_gl (by decide))) (gl_0 _ _ _) (by decide) mw_179 rfl rfl dX5_about_117 ?_
      refine M_getf hO (rS_st Λ ad O (by decide)) (v := .int (M 0 0 5)) cl3 5 (hm _ (id_st (by decide) (by decide))) (st_0 _ _ _ _) (by decide) mw_117 rfl rfl dX5_about_120 ?_
      exact G_iretX hO hF rfl (Nat.le_of_ble_eq_true rfl) (Nat.le_of_ble_eq_true rfl) dX5_about_123 ⟨rfl, rfl, _, _, rfl, rfl, hs⟩
    · replace hs := hs.2.2.2.2.2.2.1 hq
      refine G_tableIn hO 124 dX5_about_1 (by rw [hq]; decide) (by rw [hq]; decide) (by rw [hq]; rfl) (by decide) ?_
      refine G_aload_n hO 0 dX5_about_124 rfl rfl ?_
      refine M_getf hO (rS_gl Λ ad O) (v := .ref (ad 0 0)) cl5 2 (hm _ (id_gl (by decide))) (gl_0 _ _ _) (by decide) mw_179 rfl rfl dX5_about_125 ?_
      refine M_getf hO (rS_st Λ ad O (by decide)) (v := .int (M 0 0 6)) cl3 6 (hm _ (id_st (by decide) (by decide))) (st_0 _ _ _ _) (by decide) mw_119 rfl rfl dX5_about_128 ?_
      refine G_if_eq hO 138 dX5_about_131 (by decide) (fun h2 => ?_) (fun h2 => ?_)
      · replace hs := hs.1 h2
        refine G_iconst hO 0 dX5_about_138 (by decide) ?_
        exact G_iretX hO hF rfl (Nat.le_of_ble_eq_true rfl) (Nat.le_of_ble_eq_true rfl) dX5_about_139 ⟨rfl, rfl, _, _, rfl, rfl, hs⟩
      · replace hs := hs.2 h2
        refine G_iconst hO 1 dX5_about_134 (by decide) ?_
        refine G_goto hO 139 dX5_about_135 (by decide) ?_
        exact G_iretX hO hF rfl (Nat.le_of_ble_eq_true rfl) (Nat.le_of_ble_eq_true rfl) dX5_about_139 ⟨rfl, rfl, _, _, rfl, rfl, hs⟩
    · replace hs := hs.2.2.2.2.2.2.2.1 hq
      refine G_tableIn hO 140 dX5_about_1 (by rw [hq]; decide) (by rw [hq]; decide) (by rw [hq]; rfl) (by decide) ?_
      refine G_aload_n hO 0 dX5_about_140 rfl rfl ?_
      refine M_getf hO (rS_gl Λ ad O) (v := .ref (ad 0 0)) cl5 2 (hm _ (id_gl (by decide))) (gl_0 _ _ _) (by decide) mw_179 rfl rfl dX5_about_141 ?_
      refine M_getf hO (rS_st Λ ad O (by decide)) (v := .int (M 0 0 7)) cl3 7 (hm _ (id_st (by decide) (by decide))) (st_0 _ _ _ _) (by decide) mw_121 rfl rfl dX5_about_144 ?_
      exact G_iretX hO hF rfl (Nat.le_of_ble_eq_true rfl) (Nat.le_of_ble_eq_true rfl) dX5_about_147 ⟨rfl, rfl, _, _, rfl, rfl, hs⟩
    · replace hs := hs.2.2.2.2.2.2.2.2.1 hq
      refine G_tableIn hO 148 dX5_about_1 (by rw [hq]; decide) (by rw [hq]; decide) (by rw [hq]; rfl) (by decide) ?_
      refine G_aload_n hO 0 dX5_about_148 rfl rfl ?_
      refine M_getf hO (rS_gl Λ ad O) (v := .ref (ad 0 0)) cl5 2 (hm _ (id_gl (by decide))) (gl_0 _ _ _) (by decide) mw_179 rfl rfl dX5_about_149 ?_
      refine KV_Gri hO (rest := []) [] (rS_st Λ ad O (by decide)) (fun l => c_X3_loopShouldHave (fun _ h9 => hm _ (id_st (by decide) h9)) hs) cv_X3_loopShouldHave mw_437 mw_438 mw_436 (hm _ (id_st (by decide) (by decide))) cl3 (by show rS Λ ad O _ _ _ = _; rw [rS_st Λ ad O (by decide)]; exact (st_0 _ _ _ _)) rfl rfl (Nat.le_of_ble_eq_true rfl) (by decide) rfl rfl (Nat.le_of_ble_eq_true rfl) (Nat.le_of_ble_eq_true rfl) dX5_about_152 ?_
      intro r3 c4 hs
      exact G_iretX hO hF rfl (Nat.le_of_ble_eq_true rfl) (Nat.le_of_ble_eq_true rfl) dX5_about_155 ⟨rfl, rfl, _, _, rfl, rfl, hs⟩
    · replace hs := hs.2.2.2.2.2.2.2.2.2.1 hq
      refine G_tableIn hO 156 dX5_about_1 (by rw [hq]; decide) (by rw [hq]; decide) (by rw [hq]; rfl) (by decide) ?_
      refine G_aload_n hO 0 dX5_about_156 rfl rfl ?_
      refine M_getf hO (rS_gl Λ ad O) (v := .ref (ad 0 0)) cl5 2 (hm _ (id_gl (by decide))) (gl_0 _ _ _) (by decide) mw_179 rfl rfl dX5_about_157 ?_
      refine M_getf hO (rS_st Λ ad O (by decide)) (v := .int (M 0 0 4)) cl3 4 (hm _ (id_st (by decide) (by decide))) (st_0 _ _ _ _) (by decide) mw_115 rfl rfl dX5_about_160 ?_
      exact G_iretX hO hF rfl (Nat.le_of_ble_eq_true rfl) (Nat.le_of_ble_eq_true rfl) dX5_about_163 ⟨rfl, rfl, _, _, rfl, rfl, hs⟩
    · replace hs := hs.2.2.2.2.2.2.2.2.2.2.1 hq
      refine G_tableIn hO 164 dX5_about_1 (by rw [hq]; decide) (by rw [hq]; decide) (by rw [hq]; rfl) (by decide) ?_
      refine G_aload_n hO 0 dX5_about_164 rfl rfl ?_
      refine M_getf hO (rS_gl Λ ad O) (v := .ref (ad 0 0)) cl5 2 (hm _ (id_gl (by decide))) (gl_0 _ _ _) (by decide) mw_179 rfl rfl dX5_about_165 ?_
      refine KV_Gri hO (rest := []) [] (rS_st Λ ad O (by decide)) (fun l => c_X3_allHeat (fun _ h9 => hm _ (id_st (by decide) h9)) hs) cv_X3_allHeat mw_448 mw_449 mw_447 (hm _ (id_st (by decide) (by decide))) cl3 (by show rS Λ ad O _ _ _ = _; rw [rS_st Λ ad O (by decide)]; exact (st_0 _ _ _ _)) rfl rfl (Nat.le_of_ble_eq_true rfl) (by decide) rfl rfl (Nat.le_of_ble_eq_true rfl) (Nat.le_of_ble_eq_true rfl) dX5_about_168 ?_
      intro r5 c6 hs
      exact G_iretX hO hF rfl (Nat.le_of_ble_eq_true rfl) (Nat.le_of_ble_eq_true rfl) dX5_about_171 ⟨rfl, rfl, _, _, rfl, rfl, hs⟩
    · replace hs := hs.2.2.2.2.2.2.2.2.2.2.2.1 hq
      refine G_tableIn hO 172 dX5_about_1 (by rw [hq]; decide) (by rw [hq]; decide) (by rw [hq]; rfl) (by decide) ?_
      refine G_aload_n hO 0 dX5_about_172 rfl rfl ?_
      refine M_getf hO (rS_gl Λ ad O) (v := .ref (ad 0 0)) cl5 2 (hm _ (id_gl (by decide))) (gl_0 _ _ _) (by decide) mw_179 rfl rfl dX5_about_173 ?_
      refine M_getf hO (rS_st Λ ad O (by decide)) (v := .ref (ad 0 5)) cl3 13 (hm _ (id_st (by decide) (by decide))) (st_0 _ _ _ _) (by decide) mw_130 rfl rfl dX5_about_176 ?_
      refine M_getf hO (rS_st Λ ad O (by decide)) (v := .int (M 0 5 3)) cl1 3 (hm _ (id_st (by decide) (by decide))) (st_5 _ _ _ _) (by decide) mw_45 rfl rfl dX5_about_179 ?_
      exact G_iretX hO hF rfl (Nat.le_of_ble_eq_true rfl) (Nat.le_of_ble_eq_true rfl) dX5_about_182 ⟨rfl, rfl, _, _, rfl, rfl, hs⟩
    · replace hs := hs.2.2.2.2.2.2.2.2.2.2.2.2 hq
      refine G_tableIn hO 183 dX5_about_1 (by rw [hq]; decide) (by rw [hq]; decide) (by rw [hq]; rfl) (by decide) ?_
      refine G_aload_n hO 0 dX5_about_183 rfl rfl ?_
      refine M_getf hO (rS_gl Λ ad O) (v := .ref (ad 0 0)) cl5 2 (hm _ (id_gl (by decide))) (gl_0 _ _ _) (by decide) mw_179 rfl rfl dX5_about_184 ?_
      refine KV_Gri hO (rest := []) [] (rS_st Λ ad O (by decide)) (fun l => c_X3_allComfort (fun _ h9 => hm _ (id_st (by decide) h9)) hs) cv_X3_allComfort mw_452 mw_453 mw_451 (hm _ (id_st (by decide) (by decide))) cl3 (by show rS Λ ad O _ _ _ = _; rw [rS_st Λ ad O (by decide)]; exact (st_0 _ _ _ _)) rfl rfl (Nat.le_of_ble_eq_true rfl) (by decide) rfl rfl (Nat.le_of_ble_eq_true rfl) (Nat.le_of_ble_eq_true rfl) dX5_about_187 ?_
      intro r7 c8 hs
      exact G_iretX hO hF rfl (Nat.le_of_ble_eq_true rfl) (Nat.le_of_ble_eq_true rfl) dX5_about_190 ⟨rfl, rfl, _, _, rfl, rfl, hs⟩
set_option maxHeartbeats 4000000 in
set_option maxRecDepth 20000 in
theorem c_X5_setting {l : Launch} {Λ : Lay} {B : Zn} {ids : List (Nat × Nat)} {ad : Nat → Nat → Nat} (hm : ∀ q, q ∈ ids0 → q ∈ ids) {a1 : Int32} {M : Mem} {O : Nat → Int64} {P : Int32 → Mem → Prop} {X : String → Mem → Prop} (hs : wX5_setting a1 M P X) (hst : l.stackTraces = false) : CX l yX5_setting cX5_setting 2 (some .int) { frames := 6, cells := 1, slots := 6, locals := 90 } Λ B ids ad (sh Λ ad M O) [.ref (ad 20 0), .int a1] (Gi Λ ids ad O P) (Xg Λ ids ad O X) := by
  refine CX.of hst RX5 [(0, .ref (ad 20 0)), (1, .int a1)] (by decide +kernel) rfl (Nat.le_of_ble_eq_true rfl) rfl (fun Γ hO hX hF => ?_)
  unfold wX5_setting at hs
  refine G_iload_n hO 1 dX5_setting_0 rfl rfl ?_
  refine G_if_lt hO 10 dX5_setting_1 (by decide) (fun h4 => ?_) (fun h4 => ?_)
  · replace hs := hs.1 h4
    exact G_throw_IAE hO (text := "a setting is 0 to 8") hX hF rfl mw_455 (by decide) mw_11 (by decide +kernel) dX5_setting_10 dX5_setting_13 dX5_setting_14 dX5_setting_16 dX5_setting_19 (Nat.le_of_ble_eq_true rfl) (Nat.le_of_ble_eq_true rfl) (Nat.le_of_ble_eq_true rfl) (Nat.le_of_ble_eq_true rfl) (Nat.le_of_ble_eq_true rfl) (Nat.le_of_ble_eq_true rfl) ⟨rfl, rfl, _, rfl, hs⟩
  · replace hs := hs.2 h4
    refine G_iload_n hO 1 dX5_setting_4 rfl rfl ?_
    refine G_bipush hO 9 dX5_setting_5 (by decide) ?_
    refine G_icmp_lt hO 20 dX5_setting_7 (by decide) (fun h3 => ?_) (fun h3 => ?_)
    · replace hs := hs.1 h3
      refine G_aload_n hO 0 dX5_setting_20 rfl rfl ?_
      refine M_getf hO (rS_gl Λ ad O) (v := .ref (ad 0 0)) cl5 2 (hm _ (id_gl (by decide))) (gl_0 _ _ _) (by decide) mw_179 rfl rfl dX5_setting_21 ?_
      refine G_iload_n hO 1 dX5_setting_24 rfl rfl ?_
      refine KV_Gri hO (rest := []) [.int a1] (rS_st Λ ad O (by decide)) (fun l => c_X3_settingOf (fun _ h9 => hm _ (id_st (by decide) h9)) hs) cv_X3_settingOf mw_441 mw_442 mw_480 (hm _ (id_st (by decide) (by decide))) cl3 (by show rS Λ ad O _ _ _ = _; rw [rS_st Λ ad O (by decide)]; exact (st_0 _ _ _ _)) rfl rfl (Nat.le_of_ble_eq_true rfl) (by decide) rfl rfl (Nat.le_of_ble_eq_true rfl) (Nat.le_of_ble_eq_true rfl) dX5_setting_25 ?_
      intro r1 c2 hs
      exact G_iretX hO hF rfl (Nat.le_of_ble_eq_true rfl) (Nat.le_of_ble_eq_true rfl) dX5_setting_28 ⟨rfl, rfl, _, _, rfl, rfl, hs⟩
    · replace hs := hs.2 h3
      exact G_throw_IAE hO (text := "a setting is 0 to 8") hX hF rfl mw_455 (by decide) mw_11 (by decide +kernel) dX5_setting_10 dX5_setting_13 dX5_setting_14 dX5_setting_16 dX5_setting_19 (Nat.le_of_ble_eq_true rfl) (Nat.le_of_ble_eq_true rfl) (Nat.le_of_ble_eq_true rfl) (Nat.le_of_ble_eq_true rfl) (Nat.le_of_ble_eq_true rfl) (Nat.le_of_ble_eq_true rfl) ⟨rfl, rfl, _, rfl, hs⟩
set_option maxHeartbeats 4000000 in
set_option maxRecDepth 20000 in
theorem c_X5_place {l : Launch} {Λ : Lay} {B : Zn} {ids : List (Nat × Nat)} {ad : Nat → Nat → Nat} (hm : ∀ q, q ∈ ids0 → q ∈ ids) {a1 : Int32} {a2 : Int32} {M : Mem} {O : Nat → Int64} {P : Int32 → Mem → Prop} {X : String → Mem → Prop} (hs : wX5_place a1 a2 M P X) (hst : l.stackTraces = false) : CX l yX5_place cX5_place 3 (some .int) { frames := 6, cells := 1, slots := 6, locals := 90 } Λ B ids ad (sh Λ ad M O) [.ref (ad 20 0), .int a1, .int a2] (Gi Λ ids ad O P) (Xg Λ ids ad O X) := by
  refine CX.of hst RX5 [(0, .ref (ad 20 0)), (1, .int a1), (2, .int a2)] (by decide +kernel) rfl (Nat.le_of_ble_eq_true rfl) rfl (fun Γ hO hX hF => ?_)
  unfold wX5_place at hs
  refine G_aload_n hO 0 dX5_place_0 rfl rfl ?_
  refine M_getf hO (rS_gl Λ ad O) (v := .ref (ad 0 0)) cl5 2 (hm _ (id_gl (by decide))) (gl_0 _ _ _) (by decide) mw_179 rfl rfl dX5_place_1 ?_
  refine G_iload_n hO 1 dX5_place_4 rfl rfl ?_
  refine KV_Gri hO (rest := []) [.int a1] (rS_st Λ ad O (by decide)) (fun l => c_X3_hasPlace (fun _ h9 => hm _ (id_st (by decide) h9)) hs) cv_X3_hasPlace mw_490 mw_491 mw_489 (hm _ (id_st (by decide) (by decide))) cl3 (by show rS Λ ad O _ _ _ = _; rw [rS_st Λ ad O (by decide)]; exact (st_0 _ _ _ _)) rfl rfl (Nat.le_of_ble_eq_true rfl) (by decide) rfl rfl (Nat.le_of_ble_eq_true rfl) (Nat.le_of_ble_eq_true rfl) dX5_place_5 ?_
  intro r1 c2 hs
  refine G_if_ne hO 21 dX5_place_8 (by decide) (fun h9 => ?_) (fun h9 => ?_)
  · replace hs := hs.1 h9
    refine G_iload_n hO 2 dX5_place_21 rfl rfl ?_
    rcases sw_0_2 a2 with hq | hq
    · replace hs := hs.1 hq
      refine G_tableOut hO 75 dX5_place_22 hq (by decide) ?_
      exact G_throw_IAE hO (text := "what of a place is 0 to 2") hX hF rfl mw_455 (by decide) mw_11 (by decide +kernel) dX5_place_75 dX5_place_78 dX5_place_79 dX5_place_81 dX5_place_84 (Nat.le_of_ble_eq_true rfl) (Nat.le_of_ble_eq_true rfl) (Nat.le_of_ble_eq_true rfl) (Nat.le_of_ble_eq_true rfl) (Nat.le_of_ble_eq_true rfl) (Nat.le_of_ble_eq_true rfl) ⟨rfl, rfl, _, rfl, hs⟩
    · replace hs := hs.2
      rcases hq with hq | hq | hq
      · replace hs := hs.1 hq
        refine G_tableIn hO 48 dX5_place_22 (by rw [hq]; decide) (by rw [hq]; decide) (by rw [hq]; rfl) (by decide) ?_
        refine G_aload_n hO 0 dX5_place_48 rfl rfl ?_
        refine M_getf hO (rS_gl Λ ad O) (v := .ref (ad 0 0)) cl5 2 (hm _ (id_gl (by decide))) (gl_0 _ _ _) (by decide) mw_179 rfl rfl dX5_place_49 ?_
        refine G_iload_n hO 1 dX5_place_52 rfl rfl ?_
        refine KV_Gri hO (rest := []) [.int a1] (rS_st Λ ad O (by decide)) (fun l => c_X3_heatOf (fun _ h9 => hm _ (id_st (by decide) h9)) hs) cv_X3_heatOf mw_499 mw_500 mw_498 (hm _ (id_st (by decide) (by decide))) cl3 (by show rS Λ ad O _ _ _ = _; rw [rS_st Λ ad O (by decide)]; exact (st_0 _ _ _ _)) rfl rfl (Nat.le_of_ble_eq_true rfl) (by decide) rfl rfl (Nat.le_of_ble_eq_true rfl) (Nat.le_of_ble_eq_true rfl) dX5_place_53 ?_
        intro r3 c4 hs
        exact G_iretX hO hF rfl (Nat.le_of_ble_eq_true rfl) (Nat.le_of_ble_eq_true rfl) dX5_place_56 ⟨rfl, rfl, _, _, rfl, rfl, hs⟩
      · replace hs := hs.2.1 hq
        refine G_tableIn hO 57 dX5_place_22 (by rw [hq]; decide) (by rw [hq]; decide) (by rw [hq]; rfl) (by decide) ?_
        refine G_aload_n hO 0 dX5_place_57 rfl rfl ?_
        refine M_getf hO (rS_gl Λ ad O) (v := .ref (ad 0 0)) cl5 2 (hm _ (id_gl (by decide))) (gl_0 _ _ _) (by decide) mw_179 rfl rfl dX5_place_58 ?_
        refine G_iload_n hO 1 dX5_place_61 rfl rfl ?_
        refine KV_Gri hO (rest := []) [.int a1] (rS_st Λ ad O (by decide)) (fun l => c_X3_degrees (fun _ h9 => hm _ (id_st (by decide) h9)) hs) cv_X3_degrees mw_503 mw_504 mw_502 (hm _ (id_st (by decide) (by decide))) cl3 (by show rS Λ ad O _ _ _ = _; rw [rS_st Λ ad O (by decide)]; exact (st_0 _ _ _ _)) rfl rfl (Nat.le_of_ble_eq_true rfl) (by decide) rfl rfl (Nat.le_of_ble_eq_true rfl) (Nat.le_of_ble_eq_true rfl) dX5_place_62 ?_
        intro r5 c6 hs
        exact G_iretX hO hF rfl (Nat.le_of_ble_eq_true rfl) (Nat.le_of_ble_eq_true rfl) dX5_place_65 ⟨rfl, rfl, _, _, rfl, rfl, hs⟩
      · replace hs := hs.2.2 hq
        refine G_tableIn hO 66 dX5_place_22 (by rw [hq]; decide) (by rw [hq]; decide) (by rw [hq]; rfl) (by decide) ?_
        refine G_aload_n hO 0 dX5_place_66 rfl rfl ?_
        refine M_getf hO (rS_gl Λ ad O) (v := .ref (ad 0 0)) cl5 2 (hm _ (id_gl (by decide))) (gl_0 _ _ _) (by decide) mw_179 rfl rfl dX5_place_67 ?_
        refine G_iload_n hO 1 dX5_place_70 rfl rfl ?_
        refine KV_Gri hO (rest := []) [.int a1] (rS_st Λ ad O (by decide)) (fun l => c_X3_capacityOf (fun _ h9 => hm _ (id_st (by decide) h9)) hs) cv_X3_capacityOf mw_510 mw_511 mw_509 (hm _ (id_st (by decide) (by decide))) cl3 (by show rS Λ ad O _ _ _ = _; rw [rS_st Λ ad O (by decide)]; exact (st_0 _ _ _ _)) rfl rfl (Nat.le_of_ble_eq_true rfl) (by decide) rfl rfl (Nat.le_of_ble_eq_true rfl) (Nat.le_of_ble_eq_true rfl) dX5_place_71 ?_
        intro r7 c8 hs
        exact G_iretX hO hF rfl (Nat.le_of_ble_eq_true rfl) (Nat.le_of_ble_eq_true rfl) dX5_place_74 ⟨rfl, rfl, _, _, rfl, rfl, hs⟩
  · replace hs := hs.2 h9
    exact G_throw_IOB hO (text := "no such place with heat") hX hF rfl mw_395 (by decide) mw_12 (by decide +kernel) dX5_place_11 dX5_place_14 dX5_place_15 dX5_place_17 dX5_place_20 (Nat.le_of_ble_eq_true rfl) (Nat.le_of_ble_eq_true rfl) (Nat.le_of_ble_eq_true rfl) (Nat.le_of_ble_eq_true rfl) (Nat.le_of_ble_eq_true rfl) (Nat.le_of_ble_eq_true rfl) ⟨rfl, rfl, _, rfl, hs⟩
set_option maxHeartbeats 4000000 in
set_option maxRecDepth 20000 in
theorem c_X5_room {l : Launch} {Λ : Lay} {B : Zn} {ids : List (Nat × Nat)} {ad : Nat → Nat → Nat} (hm : ∀ q, q ∈ ids0 → q ∈ ids) {a1 : Int32} {a2 : Int32} {M : Mem} {O : Nat → Int64} {P : Int32 → Mem → Prop} {X : String → Mem → Prop} (hs : wX5_room a1 a2 M P X) (hst : l.stackTraces = false) : CX l yX5_room cX5_room 4 (some .int) { frames := 6, cells := 1, slots := 6, locals := 90 } Λ B ids ad (sh Λ ad M O) [.ref (ad 20 0), .int a1, .int a2] (Gi Λ ids ad O P) (Xg Λ ids ad O X) := by
  refine CX.of hst RX5 [(0, .ref (ad 20 0)), (1, .int a1), (2, .int a2)] (by decide +kernel) rfl (Nat.le_of_ble_eq_true rfl) rfl (fun Γ hO hX hF => ?_)
  unfold wX5_room at hs
  refine G_aload_n hO 0 dX5_room_0 rfl rfl ?_
  refine M_getf hO (rS_gl Λ ad O) (v := .ref (ad 0 0)) cl5 2 (hm _ (id_gl (by decide))) (gl_0 _ _ _) (by decide) mw_179 rfl rfl dX5_room_1 ?_
  refine G_iload_n hO 1 dX5_room_4 rfl rfl ?_
  refine KV_Gri hO (rest := []) [.int a1] (rS_st Λ ad O (by decide)) (fun l => c_X3_hasRoom (fun _ h9 => hm _ (id_st (by decide) h9)) hs) cv_X3_hasRoom mw_494 mw_495 mw_521 (hm _ (id_st (by decide) (by decide))) cl3 (by show rS Λ ad O _ _ _ = _; rw [rS_st Λ ad O (by decide)]; exact (st_0 _ _ _ _)) rfl rfl (Nat.le_of_ble_eq_true rfl) (by decide) rfl rfl (Nat.le_of_ble_eq_true rfl) (Nat.le_of_ble_eq_true rfl) dX5_room_5 ?_
  intro r1 c2 hs
  refine G_if_ne hO 21 dX5_room_8 (by decide) (fun h5 => ?_) (fun h5 => ?_)
  · replace hs := hs.1 h5
    refine G_aload_n hO 0 dX5_room_21 rfl rfl ?_
    refine M_getf hO (rS_gl Λ ad O) (v := .ref (ad 0 0)) cl5 2 (hm _ (id_gl (by decide))) (gl_0 _ _ _) (by decide) mw_179 rfl rfl dX5_room_22 ?_
    refine M_getf hO (rS_st Λ ad O (by decide)) (v := .ref (ad 0 4)) cl3 12 (hm _ (id_st (by decide) (by decide))) (st_0 _ _ _ _) (by decide) mw_128 rfl rfl dX5_room_25 ?_
    refine G_iload_n hO 1 dX5_room_28 rfl rfl ?_
    have hr3 : Int32.toNatClampNeg a1 < 6 := lt_in hs.1
    refine M_aaldR hO (rS_st Λ ad O (by decide)) (v := .ref (ad 0 ((Int32.toNatClampNeg a1) + 9))) (hm _ (id_st (by decide) (by decide))) (st_4 _ _ _ _) hs.1 rfl dX5_room_29 ?_
    replace hs := hs.2
    refine G_astore_n hO [(3, .ref (ad 0 ((Int32.toNatClampNeg a1) + 9))), (0, .ref (ad 20 0)), (1, .int a1), (2, .int a2)] dX5_room_30 rfl (by decide) rfl ?_
    refine G_iload_n hO 3 dX5_room_31 rfl rfl ?_
    rcases sw_0_6 a2 with hq | hq
    · replace hs := hs.1 hq
      refine G_tableOut hO 119 dX5_room_32 hq (by decide) ?_
      exact G_throw_IAE hO (text := "what of a room is 0 to 6") hX hF rfl mw_455 (by decide) mw_11 (by decide +kernel) dX5_room_119 dX5_room_122 dX5_room_123 dX5_room_125 dX5_room_128 (Nat.le_of_ble_eq_true rfl) (Nat.le_of_ble_eq_true rfl) (Nat.le_of_ble_eq_true rfl) (Nat.le_of_ble_eq_true rfl) (Nat.le_of_ble_eq_true rfl) (Nat.le_of_ble_eq_true rfl) ⟨rfl, rfl, _, rfl, hs⟩
    · replace hs := hs.2
      rcases hq with hq | hq | hq | hq | hq | hq | hq
      · replace hs := hs.1 hq
        refine G_tableIn hO 76 dX5_room_32 (by rw [hq]; decide) (by rw [hq]; decide) (by rw [hq]; rfl) (by decide) ?_
        refine G_aload_n hO 0 dX5_room_76 rfl rfl ?_
        refine M_getf hO (rS_st Λ ad O (by decide)) (v := .int ((va_up M 0 c2) 0 ((Int32.toNatClampNeg a1) + 9) 0)) cl2 0 (hm _ (id_st (by decide) (l15_9 hr3))) (st_r _ _ _ _ _) (by decide) mw_63 rfl rfl dX5_room_77 ?_
        exact G_iretX hO hF rfl (Nat.le_of_ble_eq_true rfl) (Nat.le_of_ble_eq_true rfl) dX5_room_80 ⟨rfl, rfl, _, _, rfl, rfl, hs⟩
      · replace hs := hs.2.1 hq
        refine G_tableIn hO 81 dX5_room_32 (by rw [hq]; decide) (by rw [hq]; decide) (by rw [hq]; rfl) (by decide) ?_
        refine G_aload_n hO 0 dX5_room_81 rfl rfl ?_
        refine M_getf hO (rS_st Λ ad O (by decide)) (v := .int ((va_up M 0 c2) 0 ((Int32.toNatClampNeg a1) + 9) 1)) cl2 1 (hm _ (id_st (by decide) (l15_9 hr3))) (st_r _ _ _ _ _) (by decide) mw_66 rfl rfl dX5_room_82 ?_
        exact G_iretX hO hF rfl (Nat.le_of_ble_eq_true rfl) (Nat.le_of_ble_eq_true rfl) dX5_room_85 ⟨rfl, rfl, _, _, rfl, rfl, hs⟩
      · replace hs := hs.2.2.1 hq
        refine G_tableIn hO 86 dX5_room_32 (by rw [hq]; decide) (by rw [hq]; decide) (by rw [hq]; rfl) (by decide) ?_
        refine G_aload_n hO 0 dX5_room_86 rfl rfl ?_
        refine M_getf hO (rS_st Λ ad O (by decide)) (v := .int ((va_up M 0 c2) 0 ((Int32.toNatClampNeg a1) + 9) 2)) cl2 2 (hm _ (id_st (by decide) (l15_9 hr3))) (st_r _ _ _ _ _) (by decide) mw_69 rfl rfl dX5_room_87 ?_
        exact G_iretX hO hF rfl (Nat.le_of_ble_eq_true rfl) (Nat.le_of_ble_eq_true rfl) dX5_room_90 ⟨rfl, rfl, _, _, rfl, rfl, hs⟩
      · replace hs := hs.2.2.2.1 hq
        refine G_tableIn hO 91 dX5_room_32 (by rw [hq]; decide) (by rw [hq]; decide) (by rw [hq]; rfl) (by decide) ?_
        refine G_aload_n hO 0 dX5_room_91 rfl rfl ?_
        refine M_getf hO (rS_st Λ ad O (by decide)) (v := .int ((va_up M 0 c2) 0 ((Int32.toNatClampNeg a1) + 9) 3)) cl2 3 (hm _ (id_st (by decide) (l15_9 hr3))) (st_r _ _ _ _ _) (by decide) mw_73 rfl rfl dX5_room_92 ?_
        refine G_if_eq hO 102 dX5_room_95 (by decide) (fun h4 => ?_) (fun h4 => ?_)
        · replace hs := hs.1 h4
          refine G_iconst hO 0 dX5_room_102 (by decide) ?_
          exact G_iretX hO hF rfl (Nat.le_of_ble_eq_true rfl) (Nat.le_of_ble_eq_true rfl) dX5_room_103 ⟨rfl, rfl, _, _, rfl, rfl, hs⟩
        · replace hs := hs.2 h4
          refine G_iconst hO 1 dX5_room_98 (by decide) ?_
          refine G_goto hO 103 dX5_room_99 (by decide) ?_
          exact G_iretX hO hF rfl (Nat.le_of_ble_eq_true rfl) (Nat.le_of_ble_eq_true rfl) dX5_room_103 ⟨rfl, rfl, _, _, rfl, rfl, hs⟩
      · replace hs := hs.2.2.2.2.1 hq
        refine G_tableIn hO 104 dX5_room_32 (by rw [hq]; decide) (by rw [hq]; decide) (by rw [hq]; rfl) (by decide) ?_
        refine G_aload_n hO 0 dX5_room_104 rfl rfl ?_
        refine M_getf hO (rS_st Λ ad O (by decide)) (v := .int ((va_up M 0 c2) 0 ((Int32.toNatClampNeg a1) + 9) 4)) cl2 4 (hm _ (id_st (by decide) (l15_9 hr3))) (st_r _ _ _ _ _) (by decide) mw_75 rfl rfl dX5_room_105 ?_
        exact G_iretX hO hF rfl (Nat.le_of_ble_eq_true rfl) (Nat.le_of_ble_eq_true rfl) dX5_room_108 ⟨rfl, rfl, _, _, rfl, rfl, hs⟩
      · replace hs := hs.2.2.2.2.2.1 hq
        refine G_tableIn hO 109 dX5_room_32 (by rw [hq]; decide) (by rw [hq]; decide) (by rw [hq]; rfl) (by decide) ?_
        refine G_aload_n hO 0 dX5_room_109 rfl rfl ?_
        refine M_getf hO (rS_st Λ ad O (by decide)) (v := .int ((va_up M 0 c2) 0 ((Int32.toNatClampNeg a1) + 9) 5)) cl2 5 (hm _ (id_st (by decide) (l15_9 hr3))) (st_r _ _ _ _ _) (by decide) mw_78 rfl rfl dX5_room_110 ?_
        exact G_iretX hO hF rfl (Nat.le_of_ble_eq_true rfl) (Nat.le_of_ble_eq_true rfl) dX5_room_113 ⟨rfl, rfl, _, _, rfl, rfl, hs⟩
      · replace hs := hs.2.2.2.2.2.2 hq
        refine G_tableIn hO 114 dX5_room_32 (by rw [hq]; decide) (by rw [hq]; decide) (by rw [hq]; rfl) (by decide) ?_
        refine G_aload_n hO 0 dX5_room_114 rfl rfl ?_
        refine M_getf hO (rS_st Λ ad O (by decide)) (v := .int ((va_up M 0 c2) 0 ((Int32.toNatClampNeg a1) + 9) 6)) cl2 6 (hm _ (id_st (by decide) (l15_9 hr3))) (st_r _ _ _ _ _) (by decide) mw_80 rfl rfl dX5_room_115 ?_
        exact G_iretX hO hF rfl (Nat.le_of_ble_eq_true rfl) (Nat.le_of_ble_eq_true rfl) dX5_room_118 ⟨rfl, rfl, _, _, rfl, rfl, hs⟩
  · replace hs := hs.2 h5
    exact G_throw_IOB hO (text := "no such room") hX hF rfl mw_395 (by decide) mw_12 (by decide +kernel) dX5_room_11 dX5_room_14 dX5_room_15 dX5_room_17 dX5_room_20 (Nat.le_of_ble_eq_true rfl) (Nat.le_of_ble_eq_true rfl) (Nat.le_of_ble_eq_true rfl) (Nat.le_of_ble_eq_true rfl) (Nat.le_of_ble_eq_true rfl) (Nat.le_of_ble_eq_true rfl) ⟨rfl, rfl, _, rfl, hs⟩
set_option maxHeartbeats 4000000 in
set_option maxRecDepth 20000 in
theorem c_X5_moved {l : Launch} {Λ : Lay} {B : Zn} {ids : List (Nat × Nat)} {ad : Nat → Nat → Nat} (hm : ∀ q, q ∈ ids0 → q ∈ ids) {a1 : Int32} {a2 : Int32} {M : Mem} {O : Nat → Int64} {P : Int32 → Mem → Prop} {X : String → Mem → Prop} (hs : wX5_moved a1 a2 M P X) (hst : l.stackTraces = false) : CX l yX5_moved cX5_moved 3 (some .int) { frames := 6, cells := 1, slots := 6, locals := 90 } Λ B ids ad (sh Λ ad M O) [.ref (ad 20 0), .int a1, .int a2] (Gi Λ ids ad O P) (Xg Λ ids ad O X) := by
  refine CX.of hst RX5 [(0, .ref (ad 20 0)), (1, .int a1), (2, .int a2)] (by decide +kernel) rfl (Nat.le_of_ble_eq_true rfl) rfl (fun Γ hO hX hF => ?_)
  unfold wX5_moved at hs
  refine G_iload_n hO 1 dX5_moved_0 rfl rfl ?_
  refine G_if_lt hO 20 dX5_moved_1 (by decide) (fun h6 => ?_) (fun h6 => ?_)
  · replace hs := hs.1 h6
    exact G_throw_IAE hO (text := "a place is 0 to 9") hX hF rfl mw_455 (by decide) mw_11 (by decide +kernel) dX5_moved_20 dX5_moved_23 dX5_moved_24 dX5_moved_26 dX5_moved_29 (Nat.le_of_ble_eq_true rfl) (Nat.le_of_ble_eq_true rfl) (Nat.le_of_ble_eq_true rfl) (Nat.le_of_ble_eq_true rfl) (Nat.le_of_ble_eq_true rfl) (Nat.le_of_ble_eq_true rfl) ⟨rfl, rfl, _, rfl, hs⟩
  · replace hs := hs.2 h6
    refine G_iload_n hO 1 dX5_moved_4 rfl rfl ?_
    refine G_bipush hO 10 dX5_moved_5 (by decide) ?_
    refine G_icmp_ge hO 20 dX5_moved_7 (by decide) (fun h5 => ?_) (fun h5 => ?_)
    · replace hs := hs.1 h5
      exact G_throw_IAE hO (text := "a place is 0 to 9") hX hF rfl mw_455 (by decide) mw_11 (by decide +kernel) dX5_moved_20 dX5_moved_23 dX5_moved_24 dX5_moved_26 dX5_moved_29 (Nat.le_of_ble_eq_true rfl) (Nat.le_of_ble_eq_true rfl) (Nat.le_of_ble_eq_true rfl) (Nat.le_of_ble_eq_true rfl) (Nat.le_of_ble_eq_true rfl) (Nat.le_of_ble_eq_true rfl) ⟨rfl, rfl, _, rfl, hs⟩
    · replace hs := hs.2 h5
      refine G_iload_n hO 2 dX5_moved_10 rfl rfl ?_
      refine G_if_lt hO 20 dX5_moved_11 (by decide) (fun h4 => ?_) (fun h4 => ?_)
      · replace hs := hs.1 h4
        exact G_throw_IAE hO (text := "a place is 0 to 9") hX hF rfl mw_455 (by decide) mw_11 (by decide +kernel) dX5_moved_20 dX5_moved_23 dX5_moved_24 dX5_moved_26 dX5_moved_29 (Nat.le_of_ble_eq_true rfl) (Nat.le_of_ble_eq_true rfl) (Nat.le_of_ble_eq_true rfl) (Nat.le_of_ble_eq_true rfl) (Nat.le_of_ble_eq_true rfl) (Nat.le_of_ble_eq_true rfl) ⟨rfl, rfl, _, rfl, hs⟩
      · replace hs := hs.2 h4
        refine G_iload_n hO 2 dX5_moved_14 rfl rfl ?_
        refine G_bipush hO 10 dX5_moved_15 (by decide) ?_
        refine G_icmp_lt hO 30 dX5_moved_17 (by decide) (fun h3 => ?_) (fun h3 => ?_)
        · replace hs := hs.1 h3
          refine G_aload_n hO 0 dX5_moved_30 rfl rfl ?_
          refine M_getf hO (rS_gl Λ ad O) (v := .ref (ad 0 0)) cl5 2 (hm _ (id_gl (by decide))) (gl_0 _ _ _) (by decide) mw_179 rfl rfl dX5_moved_31 ?_
          refine M_getf hO (rS_st Λ ad O (by decide)) (v := .ref (ad 0 5)) cl3 13 (hm _ (id_st (by decide) (by decide))) (st_0 _ _ _ _) (by decide) mw_130 rfl rfl dX5_moved_34 ?_
          refine G_iload_n hO 1 dX5_moved_37 rfl rfl ?_
          refine G_iload_n hO 2 dX5_moved_38 rfl rfl ?_
          refine KV_Gri hO (rest := []) [.int a1, .int a2] (rS_st Λ ad O (by decide)) (fun l => c_X1_sumBetween (fun _ h9 => hm _ (id_st (by decide) h9)) hs) cv_X1_sumBetween mw_546 mw_547 mw_545 (hm _ (id_st (by decide) (by decide))) cl1 (by show rS Λ ad O _ _ _ = _; rw [rS_st Λ ad O (by decide)]; exact (st_5 _ _ _ _)) rfl rfl (Nat.le_of_ble_eq_true rfl) (by decide) rfl rfl (Nat.le_of_ble_eq_true rfl) (Nat.le_of_ble_eq_true rfl) dX5_moved_39 ?_
          intro r1 c2 hs
          exact G_iretX hO hF rfl (Nat.le_of_ble_eq_true rfl) (Nat.le_of_ble_eq_true rfl) dX5_moved_42 ⟨rfl, rfl, _, _, rfl, rfl, hs⟩
        · replace hs := hs.2 h3
          exact G_throw_IAE hO (text := "a place is 0 to 9") hX hF rfl mw_455 (by decide) mw_11 (by decide +kernel) dX5_moved_20 dX5_moved_23 dX5_moved_24 dX5_moved_26 dX5_moved_29 (Nat.le_of_ble_eq_true rfl) (Nat.le_of_ble_eq_true rfl) (Nat.le_of_ble_eq_true rfl) (Nat.le_of_ble_eq_true rfl) (Nat.le_of_ble_eq_true rfl) (Nat.le_of_ble_eq_true rfl) ⟨rfl, rfl, _, rfl, hs⟩
set_option maxHeartbeats 4000000 in
set_option maxRecDepth 20000 in
theorem c_X5_way {l : Launch} {Λ : Lay} {B : Zn} {ids : List (Nat × Nat)} {ad : Nat → Nat → Nat} (hm : ∀ q, q ∈ ids0 → q ∈ ids) {a1 : Int32} {a2 : Int32} {M : Mem} {O : Nat → Int64} {P : Int32 → Mem → Prop} {X : String → Mem → Prop} (hs : wX5_way a1 a2 M P X) (hst : l.stackTraces = false) : CX l yX5_way cX5_way 3 (some .int) { frames := 6, cells := 1, slots := 6, locals := 90 } Λ B ids ad (sh Λ ad M O) [.ref (ad 20 0), .int a1, .int a2] (Gi Λ ids ad O P) (Xg Λ ids ad O X) := by
  refine CX.of hst RX5 [(0, .ref (ad 20 0)), (1, .int a1), (2, .int a2)] (by decide +kernel) rfl (Nat.le_of_ble_eq_true rfl) rfl (fun Γ hO hX hF => ?_)
  unfold wX5_way at hs
  refine G_aload_n hO 0 dX5_way_0 rfl rfl ?_
  refine M_getf hO (rS_gl Λ ad O) (v := .ref (ad 0 0)) cl5 2 (hm _ (id_gl (by decide))) (gl_0 _ _ _) (by decide) mw_179 rfl rfl dX5_way_1 ?_
  refine M_getf hO (rS_st Λ ad O (by decide)) (v := .ref (ad 0 5)) cl3 13 (hm _ (id_st (by decide) (by decide))) (st_0 _ _ _ _) (by decide) mw_130 rfl rfl dX5_way_4 ?_
  refine G_iload_n hO 1 dX5_way_7 rfl rfl ?_
  refine KV_Gri hO (rest := []) [.int a1] (rS_st Λ ad O (by decide)) (fun l => c_X1_hasWay (fun _ h9 => hm _ (id_st (by decide) h9)) hs) cv_X1_hasWay mw_532 mw_533 mw_531 (hm _ (id_st (by decide) (by decide))) cl1 (by show rS Λ ad O _ _ _ = _; rw [rS_st Λ ad O (by decide)]; exact (st_5 _ _ _ _)) rfl rfl (Nat.le_of_ble_eq_true rfl) (by decide) rfl rfl (Nat.le_of_ble_eq_true rfl) (Nat.le_of_ble_eq_true rfl) dX5_way_8 ?_
  intro r1 c2 hs
  refine G_if_ne hO 24 dX5_way_11 (by decide) (fun h3 => ?_) (fun h3 => ?_)
  · replace hs := hs.1 h3
    refine G_iload_n hO 2 dX5_way_24 rfl rfl ?_
    rcases sw_0_2 a2 with hq | hq
    · replace hs := hs.1 hq
      refine G_tableOut hO 91 dX5_way_25 hq (by decide) ?_
      exact G_throw_IAE hO (text := "what of a way is 0 to 2") hX hF rfl mw_455 (by decide) mw_11 (by decide +kernel) dX5_way_91 dX5_way_94 dX5_way_95 dX5_way_97 dX5_way_100 (Nat.le_of_ble_eq_true rfl) (Nat.le_of_ble_eq_true rfl) (Nat.le_of_ble_eq_true rfl) (Nat.le_of_ble_eq_true rfl) (Nat.le_of_ble_eq_true rfl) (Nat.le_of_ble_eq_true rfl) ⟨rfl, rfl, _, rfl, hs⟩
    · replace hs := hs.2
      rcases hq with hq | hq | hq
      · replace hs := hs.1 hq
        refine G_tableIn hO 52 dX5_way_25 (by rw [hq]; decide) (by rw [hq]; decide) (by rw [hq]; rfl) (by decide) ?_
        refine G_aload_n hO 0 dX5_way_52 rfl rfl ?_
        refine M_getf hO (rS_gl Λ ad O) (v := .ref (ad 0 0)) cl5 2 (hm _ (id_gl (by decide))) (gl_0 _ _ _) (by decide) mw_179 rfl rfl dX5_way_53 ?_
        refine M_getf hO (rS_st Λ ad O (by decide)) (v := .ref (ad 0 5)) cl3 13 (hm _ (id_st (by decide) (by decide))) (st_0 _ _ _ _) (by decide) mw_130 rfl rfl dX5_way_56 ?_
        refine M_getf hO (rS_st Λ ad O (by decide)) (v := .ref (ad 0 6)) cl1 0 (hm _ (id_st (by decide) (by decide))) (st_5 _ _ _ _) (by decide) mw_38 rfl rfl dX5_way_59 ?_
        refine G_iload_n hO 1 dX5_way_62 rfl rfl ?_
        refine M_iald hO (rS_st Λ ad O (by decide)) _ rfl (hm _ (id_st (by decide) (by decide))) (st_6 _ _ _ _) hs.1 dX5_way_63 ?_
        replace hs := hs.2
        exact G_iretX hO hF rfl (Nat.le_of_ble_eq_true rfl) (Nat.le_of_ble_eq_true rfl) dX5_way_64 ⟨rfl, rfl, _, _, rfl, rfl, hs⟩
      · replace hs := hs.2.1 hq
        refine G_tableIn hO 65 dX5_way_25 (by rw [hq]; decide) (by rw [hq]; decide) (by rw [hq]; rfl) (by decide) ?_
        refine G_aload_n hO 0 dX5_way_65 rfl rfl ?_
        refine M_getf hO (rS_gl Λ ad O) (v := .ref (ad 0 0)) cl5 2 (hm _ (id_gl (by decide))) (gl_0 _ _ _) (by decide) mw_179 rfl rfl dX5_way_66 ?_
        refine M_getf hO (rS_st Λ ad O (by decide)) (v := .ref (ad 0 5)) cl3 13 (hm _ (id_st (by decide) (by decide))) (st_0 _ _ _ _) (by decide) mw_130 rfl rfl dX5_way_69 ?_
        refine M_getf hO (rS_st Λ ad O (by decide)) (v := .ref (ad 0 7)) cl1 1 (hm _ (id_st (by decide) (by decide))) (st_5 _ _ _ _) (by decide) mw_40 rfl rfl dX5_way_72 ?_
        refine G_iload_n hO 1 dX5_way_75 rfl rfl ?_
        refine M_iald hO (rS_st Λ ad O (by decide)) _ rfl (hm _ (id_st (by decide) (by decide))) (st_7 _ _ _ _) hs.1 dX5_way_76 ?_
        replace hs := hs.2
        exact G_iretX hO hF rfl (Nat.le_of_ble_eq_true rfl) (Nat.le_of_ble_eq_true rfl) dX5_way_77 ⟨rfl, rfl, _, _, rfl, rfl, hs⟩
      · replace hs := hs.2.2 hq
        refine G_tableIn hO 78 dX5_way_25 (by rw [hq]; decide) (by rw [hq]; decide) (by rw [hq]; rfl) (by decide) ?_
        refine G_aload_n hO 0 dX5_way_78 rfl rfl ?_
        refine M_getf hO (rS_gl Λ ad O) (v := .ref (ad 0 0)) cl5 2 (hm _ (id_gl (by decide))) (gl_0 _ _ _) (by decide) mw_179 rfl rfl dX5_way_79 ?_
        refine M_getf hO (rS_st Λ ad O (by decide)) (v := .ref (ad 0 5)) cl3 13 (hm _ (id_st (by decide) (by decide))) (st_0 _ _ _ _) (by decide) mw_130 rfl rfl dX5_way_82 ?_
        refine M_getf hO (rS_st Λ ad O (by decide)) (v := .ref (ad 0 8)) cl1 2 (hm _ (id_st (by decide) (by decide))) (st_5 _ _ _ _) (by decide) mw_42 rfl rfl dX5_way_85 ?_
        refine G_iload_n hO 1 dX5_way_88 rfl rfl ?_
        refine M_iald hO (rS_st Λ ad O (by decide)) _ rfl (hm _ (id_st (by decide) (by decide))) (st_8 _ _ _ _) hs.1 dX5_way_89 ?_
        replace hs := hs.2
        exact G_iretX hO hF rfl (Nat.le_of_ble_eq_true rfl) (Nat.le_of_ble_eq_true rfl) dX5_way_90 ⟨rfl, rfl, _, _, rfl, rfl, hs⟩
  · replace hs := hs.2 h3
    exact G_throw_IOB hO (text := "no such way") hX hF rfl mw_395 (by decide) mw_12 (by decide +kernel) dX5_way_14 dX5_way_17 dX5_way_18 dX5_way_20 dX5_way_23 (Nat.le_of_ble_eq_true rfl) (Nat.le_of_ble_eq_true rfl) (Nat.le_of_ble_eq_true rfl) (Nat.le_of_ble_eq_true rfl) (Nat.le_of_ble_eq_true rfl) (Nat.le_of_ble_eq_true rfl) ⟨rfl, rfl, _, rfl, hs⟩
set_option maxHeartbeats 4000000 in
set_option maxRecDepth 20000 in
theorem c_X5_addRoom {l : Launch} {Λ : Lay} {B : Zn} {ids : List (Nat × Nat)} {ad : Nat → Nat → Nat} (hm : ∀ q, q ∈ ids0 → q ∈ ids) {a1 : Int32} {a2 : Int32} {a3 : Int32} {a4 : Int32} {M : Mem} {O : Nat → Int64} {P : Int32 → Mem → Prop} {X : String → Mem → Prop} (hs : wX5_addRoom a1 a2 a3 a4 M P X) (hst : l.stackTraces = false) : CX l yX5_addRoom cX5_addRoom 5 (some .int) { frames := 6, cells := 1, slots := 6, locals := 112 } Λ B ids ad (sh Λ ad M O) [.ref (ad 20 0), .int a1, .int a2, .int a3, .int a4] (Gi Λ ids ad O P) (Xg Λ ids ad O X) := by
  refine CX.of hst RX5 [(0, .ref (ad 20 0)), (1, .int a1), (2, .int a2), (3, .int a3), (4, .int a4)] (by decide +kernel) rfl (Nat.le_of_ble_eq_true rfl) rfl (fun Γ hO hX hF => ?_)
  unfold wX5_addRoom at hs
  refine G_iload_n hO 1 dX5_addRoom_0 rfl rfl ?_
  refine G_iconst hO 1 dX5_addRoom_1 (by decide) ?_
  refine G_icmp_lt hO 33 dX5_addRoom_2 (by decide) (fun h13 => ?_) (fun h13 => ?_)
  · replace hs := hs.1 h13
    exact G_throw_IAE hO (text := "a number of the new room is out of its range") hX hF rfl mw_455 (by decide) mw_11 (by decide +kernel) dX5_addRoom_33 dX5_addRoom_36 dX5_addRoom_37 dX5_addRoom_39 dX5_addRoom_42 (Nat.le_of_ble_eq_true rfl) (Nat.le_of_ble_eq_true rfl) (Nat.le_of_ble_eq_true rfl) (Nat.le_of_ble_eq_true rfl) (Nat.le_of_ble_eq_true rfl) (Nat.le_of_ble_eq_true rfl) ⟨rfl, rfl, _, rfl, hs⟩
  · replace hs := hs.2 h13
    refine G_iload_n hO 1 dX5_addRoom_5 rfl rfl ?_
    refine G_bipush hO 9 dX5_addRoom_6 (by decide) ?_
    refine G_icmp_gt hO 33 dX5_addRoom_8 (by decide) (fun h12 => ?_) (fun h12 => ?_)
    · replace hs := hs.1 h12
      exact G_throw_IAE hO (text := "a number of the new room is out of its range") hX hF rfl mw_455 (by decide) mw_11 (by decide +kernel) dX5_addRoom_33 dX5_addRoom_36 dX5_addRoom_37 dX5_addRoom_39 dX5_addRoom_42 (Nat.le_of_ble_eq_true rfl) (Nat.le_of_ble_eq_true rfl) (Nat.le_of_ble_eq_true rfl) (Nat.le_of_ble_eq_true rfl) (Nat.le_of_ble_eq_true rfl) (Nat.le_of_ble_eq_true rfl) ⟨rfl, rfl, _, rfl, hs⟩
    · replace hs := hs.2 h12
      refine G_iload_n hO 2 dX5_addRoom_11 rfl rfl ?_
      refine KS_Ni hO (rest := []) [.int a2] (fun l => c_X5_wantedAllowed hs) cv_X5_wantedAllowed mw_557 mw_556 rfl rfl (Nat.le_of_ble_eq_true rfl) (by decide) rfl rfl (Nat.le_of_ble_eq_true rfl) (Nat.le_of_ble_eq_true rfl) dX5_addRoom_12 ?_
      intro r1 hs
      refine G_if_eq hO 33 dX5_addRoom_15 (by decide) (fun h11 => ?_) (fun h11 => ?_)
      · replace hs := hs.1 h11
        exact G_throw_IAE hO (text := "a number of the new room is out of its range") hX hF rfl mw_455 (by decide) mw_11 (by decide +kernel) dX5_addRoom_33 dX5_addRoom_36 dX5_addRoom_37 dX5_addRoom_39 dX5_addRoom_42 (Nat.le_of_ble_eq_true rfl) (Nat.le_of_ble_eq_true rfl) (Nat.le_of_ble_eq_true rfl) (Nat.le_of_ble_eq_true rfl) (Nat.le_of_ble_eq_true rfl) (Nat.le_of_ble_eq_true rfl) ⟨rfl, rfl, _, rfl, hs⟩
      · replace hs := hs.2 h11
        refine G_iload_n hO 3 dX5_addRoom_18 rfl rfl ?_
        refine KS_Ni hO (rest := []) [.int a3] (fun l => c_X5_radiatorsAllowed hs) cv_X5_radiatorsAllowed mw_560 mw_559 rfl rfl (Nat.le_of_ble_eq_true rfl) (by decide) rfl rfl (Nat.le_of_ble_eq_true rfl) (Nat.le_of_ble_eq_true rfl) dX5_addRoom_19 ?_
        intro r2 hs
        refine G_if_eq hO 33 dX5_addRoom_22 (by decide) (fun h10 => ?_) (fun h10 => ?_)
        · replace hs := hs.1 h10
          exact G_throw_IAE hO (text := "a number of the new room is out of its range") hX hF rfl mw_455 (by decide) mw_11 (by decide +kernel) dX5_addRoom_33 dX5_addRoom_36 dX5_addRoom_37 dX5_addRoom_39 dX5_addRoom_42 (Nat.le_of_ble_eq_true rfl) (Nat.le_of_ble_eq_true rfl) (Nat.le_of_ble_eq_true rfl) (Nat.le_of_ble_eq_true rfl) (Nat.le_of_ble_eq_true rfl) (Nat.le_of_ble_eq_true rfl) ⟨rfl, rfl, _, rfl, hs⟩
        · replace hs := hs.2 h10
          refine G_iload hO 4 dX5_addRoom_25 rfl ?_
          refine KS_Ni hO (rest := []) [.int a4] (fun l => c_X5_leakAllowed hs) cv_X5_leakAllowed mw_563 mw_562 rfl rfl (Nat.le_of_ble_eq_true rfl) (by decide) rfl rfl (Nat.le_of_ble_eq_true rfl) (Nat.le_of_ble_eq_true rfl) dX5_addRoom_27 ?_
          intro r3 hs
          refine G_if_ne hO 43 dX5_addRoom_30 (by decide) (fun h9 => ?_) (fun h9 => ?_)
          · replace hs := hs.1 h9
            refine G_aload_n hO 0 dX5_addRoom_43 rfl rfl ?_
            refine M_getf hO (rS_gl Λ ad O) (v := .ref (ad 0 0)) cl5 2 (hm _ (id_gl (by decide))) (gl_0 _ _ _) (by decide) mw_179 rfl rfl dX5_addRoom_44 ?_
            refine KV_Gri hO (rest := []) [] (rS_st Λ ad O (by decide)) (fun l => c_X3_isFull (fun _ h9 => hm _ (id_st (by decide) h9)) hs) cv_X3_isFull mw_270 mw_271 mw_566 (hm _ (id_st (by decide) (by decide))) cl3 (by show rS Λ ad O _ _ _ = _; rw [rS_st Λ ad O (by decide)]; exact (st_0 _ _ _ _)) rfl rfl (Nat.le_of_ble_eq_true rfl) (by decide) rfl rfl (Nat.le_of_ble_eq_true rfl) (Nat.le_of_ble_eq_true rfl) dX5_addRoom_47 ?_
            intro r4 c5 hs
            refine G_if_eq hO 63 dX5_addRoom_50 (by decide) (fun h8 => ?_) (fun h8 => ?_)
            · replace hs := hs.1 h8
              refine G_aload_n hO 0 dX5_addRoom_63 rfl rfl ?_
              refine M_getf hO (rS_gl Λ ad O) (v := .ref (ad 20 2)) cl5 4 (hm _ (id_gl (by decide))) (gl_0 _ _ _) (by decide) mw_181 rfl rfl dX5_addRoom_64 ?_
              refine G_aload_n hO 0 dX5_addRoom_67 rfl rfl ?_
              refine M_getf hO (rS_gl Λ ad O) (v := .ref (ad 0 0)) cl5 2 (hm _ (id_gl (by decide))) (gl_0 _ _ _) (by decide) mw_179 rfl rfl dX5_addRoom_68 ?_
              refine KV_Gv hO (rest := []) [.ref (ad 0 0)] (fun l => c_X0_remember hm hs) cv_X0_remember mw_569 mw_570 mw_568 (hm _ (id_gl (by decide))) cl0 (by show rS Λ ad O _ _ _ = _; rw [rS_gl Λ ad O]; exact (gl_2 _ _ _)) rfl rfl (Nat.le_of_ble_eq_true rfl) (by decide) rfl rfl (Nat.le_of_ble_eq_true rfl) (Nat.le_of_ble_eq_true rfl) dX5_addRoom_71 ?_
              intro M6 hs
              refine G_aload_n hO 0 dX5_addRoom_74 rfl rfl ?_
              refine M_getf hO (rS_gl Λ ad O) (v := .ref (ad 0 0)) cl5 2 (hm _ (id_gl (by decide))) (gl_0 _ _ _) (by decide) mw_179 rfl rfl dX5_addRoom_75 ?_
              refine G_iload_n hO 1 dX5_addRoom_78 rfl rfl ?_
              refine G_iload_n hO 2 dX5_addRoom_79 rfl rfl ?_
              refine G_iload_n hO 3 dX5_addRoom_80 rfl rfl ?_
              refine G_iload hO 4 dX5_addRoom_81 rfl ?_
              refine KV_Grv hO (rest := []) [.int a1, .int a2, .int a3, .int a4] (rS_st Λ ad O (by decide)) (fun l => c_X3_buildRoom (fun _ h9 => hm _ (id_st (by decide) h9)) hs) cv_X3_buildRoom mw_278 mw_279 mw_577 (hm _ (id_st (by decide) (by decide))) cl3 (by show rS Λ ad O _ _ _ = _; rw [rS_st Λ ad O (by decide)]; exact (st_0 _ _ _ _)) rfl rfl (Nat.le_of_ble_eq_true rfl) (by decide) rfl rfl (Nat.le_of_ble_eq_true rfl) (Nat.le_of_ble_eq_true rfl) dX5_addRoom_83 ?_
              intro c7 hs
              refine G_aload_n hO 0 dX5_addRoom_86 rfl rfl ?_
              refine M_getf hO (rS_gl Λ ad O) (v := .ref (ad 0 0)) cl5 2 (hm _ (id_gl (by decide))) (gl_0 _ _ _) (by decide) mw_179 rfl rfl dX5_addRoom_87 ?_
              refine M_getf hO (rS_st Λ ad O (by decide)) (v := .int ((va_up M6 0 c7) 0 0 8)) cl3 8 (hm _ (id_st (by decide) (by decide))) (st_0 _ _ _ _) (by decide) mw_123 rfl rfl dX5_addRoom_90 ?_
              refine G_iconst hO 1 dX5_addRoom_93 (by decide) ?_
              refine G_isub hO dX5_addRoom_94 ?_
              exact G_iretX hO hF rfl (Nat.le_of_ble_eq_true rfl) (Nat.le_of_ble_eq_true rfl) dX5_addRoom_95 ⟨rfl, rfl, _, _, rfl, rfl, hs⟩
            · replace hs := hs.2 h8
              exact G_throw_ISE hO (text := "there are 6 rooms") hX hF rfl mw_301 (by decide) mw_14 (by decide +kernel) dX5_addRoom_53 dX5_addRoom_56 dX5_addRoom_57 dX5_addRoom_59 dX5_addRoom_62 (Nat.le_of_ble_eq_true rfl) (Nat.le_of_ble_eq_true rfl) (Nat.le_of_ble_eq_true rfl) (Nat.le_of_ble_eq_true rfl) (Nat.le_of_ble_eq_true rfl) (Nat.le_of_ble_eq_true rfl) ⟨rfl, rfl, _, rfl, hs⟩
          · replace hs := hs.2 h9
            exact G_throw_IAE hO (text := "a number of the new room is out of its range") hX hF rfl mw_455 (by decide) mw_11 (by decide +kernel) dX5_addRoom_33 dX5_addRoom_36 dX5_addRoom_37 dX5_addRoom_39 dX5_addRoom_42 (Nat.le_of_ble_eq_true rfl) (Nat.le_of_ble_eq_true rfl) (Nat.le_of_ble_eq_true rfl) (Nat.le_of_ble_eq_true rfl) (Nat.le_of_ble_eq_true rfl) (Nat.le_of_ble_eq_true rfl) ⟨rfl, rfl, _, rfl, hs⟩
set_option maxHeartbeats 4000000 in
set_option maxRecDepth 20000 in
theorem c_X5_setRoom {l : Launch} {Λ : Lay} {B : Zn} {ids : List (Nat × Nat)} {ad : Nat → Nat → Nat} (hm : ∀ q, q ∈ ids0 → q ∈ ids) {a1 : Int32} {a2 : Int32} {a3 : Int32} {M : Mem} {O : Nat → Int64} {P : Int32 → Mem → Prop} {X : String → Mem → Prop} (hs : wX5_setRoom a1 a2 a3 M P X) (hst : l.stackTraces = false) : CX l yX5_setRoom cX5_setRoom 4 (some .int) { frames := 6, cells := 1, slots := 6, locals := 112 } Λ B ids ad (sh Λ ad M O) [.ref (ad 20 0), .int a1, .int a2, .int a3] (Gi Λ ids ad O P) (Xg Λ ids ad O X) := by
  refine CX.of hst RX5 [(0, .ref (ad 20 0)), (1, .int a1), (2, .int a2), (3, .int a3)] (by decide +kernel) rfl (Nat.le_of_ble_eq_true rfl) rfl (fun Γ hO hX hF => ?_)
  unfold wX5_setRoom at hs
  refine G_aload_n hO 0 dX5_setRoom_0 rfl rfl ?_
  refine M_getf hO (rS_gl Λ ad O) (v := .ref (ad 0 0)) cl5 2 (hm _ (id_gl (by decide))) (gl_0 _ _ _) (by decide) mw_179 rfl rfl dX5_setRoom_1 ?_
  refine G_iload_n hO 1 dX5_setRoom_4 rfl rfl ?_
  refine KV_Gri hO (rest := []) [.int a1] (rS_st Λ ad O (by decide)) (fun l => c_X3_hasRoom (fun _ h9 => hm _ (id_st (by decide) h9)) hs) cv_X3_hasRoom mw_494 mw_495 mw_521 (hm _ (id_st (by decide) (by decide))) cl3 (by show rS Λ ad O _ _ _ = _; rw [rS_st Λ ad O (by decide)]; exact (st_0 _ _ _ _)) rfl rfl (Nat.le_of_ble_eq_true rfl) (by decide) rfl rfl (Nat.le_of_ble_eq_true rfl) (Nat.le_of_ble_eq_true rfl) dX5_setRoom_5 ?_
  intro r1 c2 hs
  refine G_if_ne hO 21 dX5_setRoom_8 (by decide) (fun h9 => ?_) (fun h9 => ?_)
  · replace hs := hs.1 h9
    refine G_iload_n hO 2 dX5_setRoom_21 rfl rfl ?_
    refine G_iload_n hO 3 dX5_setRoom_22 rfl rfl ?_
    refine KS_Ni hO (rest := []) [.int a2, .int a3] (fun l => c_X5_roomNumberAllowed hs) cv_X5_roomNumberAllowed mw_586 mw_585 rfl rfl (Nat.le_of_ble_eq_true rfl) (by decide) rfl rfl (Nat.le_of_ble_eq_true rfl) (Nat.le_of_ble_eq_true rfl) dX5_setRoom_23 ?_
    intro r3 hs
    refine G_if_ne hO 39 dX5_setRoom_26 (by decide) (fun h8 => ?_) (fun h8 => ?_)
    · replace hs := hs.1 h8
      refine G_aload_n hO 0 dX5_setRoom_39 rfl rfl ?_
      refine M_getf hO (rS_gl Λ ad O) (v := .ref (ad 20 2)) cl5 4 (hm _ (id_gl (by decide))) (gl_0 _ _ _) (by decide) mw_181 rfl rfl dX5_setRoom_40 ?_
      refine G_aload_n hO 0 dX5_setRoom_43 rfl rfl ?_
      refine M_getf hO (rS_gl Λ ad O) (v := .ref (ad 0 0)) cl5 2 (hm _ (id_gl (by decide))) (gl_0 _ _ _) (by decide) mw_179 rfl rfl dX5_setRoom_44 ?_
      refine KV_Gv hO (rest := []) [.ref (ad 0 0)] (fun l => c_X0_remember hm hs) cv_X0_remember mw_569 mw_570 mw_568 (hm _ (id_gl (by decide))) cl0 (by show rS Λ ad O _ _ _ = _; rw [rS_gl Λ ad O]; exact (gl_2 _ _ _)) rfl rfl (Nat.le_of_ble_eq_true rfl) (by decide) rfl rfl (Nat.le_of_ble_eq_true rfl) (Nat.le_of_ble_eq_true rfl) dX5_setRoom_47 ?_
      intro M4 hs
      refine G_aload_n hO 0 dX5_setRoom_50 rfl rfl ?_
      refine M_getf hO (rS_gl Λ ad O) (v := .ref (ad 0 0)) cl5 2 (hm _ (id_gl (by decide))) (gl_0 _ _ _) (by decide) mw_179 rfl rfl dX5_setRoom_51 ?_
      refine M_getf hO (rS_st Λ ad O (by decide)) (v := .ref (ad 0 4)) cl3 12 (hm _ (id_st (by decide) (by decide))) (st_0 _ _ _ _) (by decide) mw_128 rfl rfl dX5_setRoom_54 ?_
      refine G_iload_n hO 1 dX5_setRoom_57 rfl rfl ?_
      have hr5 : Int32.toNatClampNeg a1 < 6 := lt_in hs.1
      refine M_aaldR hO (rS_st Λ ad O (by decide)) (v := .ref (ad 0 ((Int32.toNatClampNeg a1) + 9))) (hm _ (id_st (by decide) (by decide))) (st_4 _ _ _ _) hs.1 rfl dX5_setRoom_58 ?_
      replace hs := hs.2
      refine G_iload_n hO 2 dX5_setRoom_59 rfl rfl ?_
      refine G_iload_n hO 3 dX5_setRoom_60 rfl rfl ?_
      refine KV_Gri hO (rest := []) [.int a2, .int a3] (rS_st Λ ad O (by decide)) (fun l => c_X2_change (fun _ h9 => hm _ (id_st (by decide) h9)) hr5 hs) cv_X2_change mw_590 mw_591 mw_589 (hm _ (id_st (by decide) (l15_9 hr5))) cl2 (by show rS Λ ad O _ _ _ = _; rw [rS_st Λ ad O (by decide)]; exact (st_r _ _ _ _ _)) rfl rfl (Nat.le_of_ble_eq_true rfl) (by decide) rfl rfl (Nat.le_of_ble_eq_true rfl) (Nat.le_of_ble_eq_true rfl) dX5_setRoom_61 ?_
      intro r6 c7 hs
      exact G_iretX hO hF rfl (Nat.le_of_ble_eq_true rfl) (Nat.le_of_ble_eq_true rfl) dX5_setRoom_64 ⟨rfl, rfl, _, _, rfl, rfl, hs⟩
    · replace hs := hs.2 h8
      exact G_throw_IAE hO (text := "what or the new number is out of its range") hX hF rfl mw_455 (by decide) mw_11 (by decide +kernel) dX5_setRoom_29 dX5_setRoom_32 dX5_setRoom_33 dX5_setRoom_35 dX5_setRoom_38 (Nat.le_of_ble_eq_true rfl) (Nat.le_of_ble_eq_true rfl) (Nat.le_of_ble_eq_true rfl) (Nat.le_of_ble_eq_true rfl) (Nat.le_of_ble_eq_true rfl) (Nat.le_of_ble_eq_true rfl) ⟨rfl, rfl, _, rfl, hs⟩
  · replace hs := hs.2 h9
    exact G_throw_IOB hO (text := "no such room") hX hF rfl mw_395 (by decide) mw_12 (by decide +kernel) dX5_setRoom_11 dX5_setRoom_14 dX5_setRoom_15 dX5_setRoom_17 dX5_setRoom_20 (Nat.le_of_ble_eq_true rfl) (Nat.le_of_ble_eq_true rfl) (Nat.le_of_ble_eq_true rfl) (Nat.le_of_ble_eq_true rfl) (Nat.le_of_ble_eq_true rfl) (Nat.le_of_ble_eq_true rfl) ⟨rfl, rfl, _, rfl, hs⟩
set_option maxHeartbeats 4000000 in
set_option maxRecDepth 20000 in
theorem c_X5_window {l : Launch} {Λ : Lay} {B : Zn} {ids : List (Nat × Nat)} {ad : Nat → Nat → Nat} (hm : ∀ q, q ∈ ids0 → q ∈ ids) {a1 : Int32} {a2 : Int32} {M : Mem} {O : Nat → Int64} {P : Int32 → Mem → Prop} {X : String → Mem → Prop} (hs : wX5_window a1 a2 M P X) (hst : l.stackTraces = false) : CX l yX5_window cX5_window 3 (some .int) { frames := 6, cells := 1, slots := 6, locals := 112 } Λ B ids ad (sh Λ ad M O) [.ref (ad 20 0), .int a1, .int a2] (Gi Λ ids ad O P) (Xg Λ ids ad O X) := by
  refine CX.of hst RX5 [(0, .ref (ad 20 0)), (1, .int a1), (2, .int a2)] (by decide +kernel) rfl (Nat.le_of_ble_eq_true rfl) rfl (fun Γ hO hX hF => ?_)
  unfold wX5_window at hs
  refine G_aload_n hO 0 dX5_window_0 rfl rfl ?_
  refine M_getf hO (rS_gl Λ ad O) (v := .ref (ad 0 0)) cl5 2 (hm _ (id_gl (by decide))) (gl_0 _ _ _) (by decide) mw_179 rfl rfl dX5_window_1 ?_
  refine G_iload_n hO 1 dX5_window_4 rfl rfl ?_
  refine KV_Gri hO (rest := []) [.int a1] (rS_st Λ ad O (by decide)) (fun l => c_X3_hasRoom (fun _ h9 => hm _ (id_st (by decide) h9)) hs) cv_X3_hasRoom mw_494 mw_495 mw_521 (hm _ (id_st (by decide) (by decide))) cl3 (by show rS Λ ad O _ _ _ = _; rw [rS_st Λ ad O (by decide)]; exact (st_0 _ _ _ _)) rfl rfl (Nat.le_of_ble_eq_true rfl) (by decide) rfl rfl (Nat.le_of_ble_eq_true rfl) (Nat.le_of_ble_eq_true rfl) dX5_window_5 ?_
  intro r1 c2 hs
  refine G_if_ne hO 21 dX5_window_8 (by decide) (fun h7 => ?_) (fun h7 => ?_)
  · replace hs := hs.1 h7
    refine G_aload_n hO 0 dX5_window_21 rfl rfl ?_
    refine M_getf hO (rS_gl Λ ad O) (v := .ref (ad 20 2)) cl5 4 (hm _ (id_gl (by decide))) (gl_0 _ _ _) (by decide) mw_181 rfl rfl dX5_window_22 ?_
    refine G_aload_n hO 0 dX5_window_25 rfl rfl ?_
    refine M_getf hO (rS_gl Λ ad O) (v := .ref (ad 0 0)) cl5 2 (hm _ (id_gl (by decide))) (gl_0 _ _ _) (by decide) mw_179 rfl rfl dX5_window_26 ?_
    refine KV_Gv hO (rest := []) [.ref (ad 0 0)] (fun l => c_X0_remember hm hs) cv_X0_remember mw_569 mw_570 mw_568 (hm _ (id_gl (by decide))) cl0 (by show rS Λ ad O _ _ _ = _; rw [rS_gl Λ ad O]; exact (gl_2 _ _ _)) rfl rfl (Nat.le_of_ble_eq_true rfl) (by decide) rfl rfl (Nat.le_of_ble_eq_true rfl) (Nat.le_of_ble_eq_true rfl) dX5_window_29 ?_
    intro M3 hs
    refine G_aload_n hO 0 dX5_window_32 rfl rfl ?_
    refine M_getf hO (rS_gl Λ ad O) (v := .ref (ad 0 0)) cl5 2 (hm _ (id_gl (by decide))) (gl_0 _ _ _) (by decide) mw_179 rfl rfl dX5_window_33 ?_
    refine M_getf hO (rS_st Λ ad O (by decide)) (v := .ref (ad 0 4)) cl3 12 (hm _ (id_st (by decide) (by decide))) (st_0 _ _ _ _) (by decide) mw_128 rfl rfl dX5_window_36 ?_
    refine G_iload_n hO 1 dX5_window_39 rfl rfl ?_
    have hr4 : Int32.toNatClampNeg a1 < 6 := lt_in hs.1
    refine M_aaldR hO (rS_st Λ ad O (by decide)) (v := .ref (ad 0 ((Int32.toNatClampNeg a1) + 9))) (hm _ (id_st (by decide) (by decide))) (st_4 _ _ _ _) hs.1 rfl dX5_window_40 ?_
    replace hs := hs.2
    refine G_iload_n hO 2 dX5_window_41 rfl rfl ?_
    refine M_putf hO (rS_st Λ ad O (by decide)) (cw_st _ _ _) cl2 3 (hm _ (id_st (by decide) (l15_9 hr4))) (st_r _ _ _ _ _) (by decide) mw_73 rfl rfl hs.1.nar hs.1.fit (Nat.le_of_ble_eq_true rfl) (rmP (by decide)) dX5_window_42 ?_
    replace hs := hs.2
    refine G_aload_n hO 0 dX5_window_45 rfl rfl ?_
    refine M_getf hO (rS_gl Λ ad O) (v := .ref (ad 0 0)) cl5 2 (hm _ (id_gl (by decide))) (gl_0 _ _ _) (by decide) mw_179 rfl rfl dX5_window_46 ?_
    refine KV_Gri hO (rest := []) [] (rS_st Λ ad O (by decide)) (fun l => c_X3_openWindows (fun _ h9 => hm _ (id_st (by decide) h9)) hs) cv_X3_openWindows mw_601 mw_602 mw_600 (hm _ (id_st (by decide) (by decide))) cl3 (by show rS Λ ad O _ _ _ = _; rw [rS_st Λ ad O (by decide)]; exact (st_0 _ _ _ _)) rfl rfl (Nat.le_of_ble_eq_true rfl) (by decide) rfl rfl (Nat.le_of_ble_eq_true rfl) (Nat.le_of_ble_eq_true rfl) dX5_window_49 ?_
    intro r5 c6 hs
    exact G_iretX hO hF rfl (Nat.le_of_ble_eq_true rfl) (Nat.le_of_ble_eq_true rfl) dX5_window_52 ⟨rfl, rfl, _, _, rfl, rfl, hs⟩
  · replace hs := hs.2 h7
    exact G_throw_IOB hO (text := "no such room") hX hF rfl mw_395 (by decide) mw_12 (by decide +kernel) dX5_window_11 dX5_window_14 dX5_window_15 dX5_window_17 dX5_window_20 (Nat.le_of_ble_eq_true rfl) (Nat.le_of_ble_eq_true rfl) (Nat.le_of_ble_eq_true rfl) (Nat.le_of_ble_eq_true rfl) (Nat.le_of_ble_eq_true rfl) (Nat.le_of_ble_eq_true rfl) ⟨rfl, rfl, _, rfl, hs⟩
set_option maxHeartbeats 4000000 in
set_option maxRecDepth 20000 in
theorem c_X5_set {l : Launch} {Λ : Lay} {B : Zn} {ids : List (Nat × Nat)} {ad : Nat → Nat → Nat} (hm : ∀ q, q ∈ ids0 → q ∈ ids) {a1 : Int32} {a2 : Int32} {M : Mem} {O : Nat → Int64} {P : Int32 → Mem → Prop} {X : String → Mem → Prop} (hs : wX5_set a1 a2 M P X) (hst : l.stackTraces = false) : CX l yX5_set cX5_set 4 (some .int) { frames := 6, cells := 1, slots := 6, locals := 112 } Λ B ids ad (sh Λ ad M O) [.ref (ad 20 0), .int a1, .int a2] (Gi Λ ids ad O P) (Xg Λ ids ad O X) := by
  refine CX.of hst RX5 [(0, .ref (ad 20 0)), (1, .int a1), (2, .int a2)] (by decide +kernel) rfl (Nat.le_of_ble_eq_true rfl) rfl (fun Γ hO hX hF => ?_)
  unfold wX5_set at hs
  refine G_iload_n hO 1 dX5_set_0 rfl rfl ?_
  refine G_iload_n hO 2 dX5_set_1 rfl rfl ?_
  refine KS_Ni hO (rest := []) [.int a1, .int a2] (fun l => c_X5_settingAllowed hs) cv_X5_settingAllowed mw_612 mw_611 rfl rfl (Nat.le_of_ble_eq_true rfl) (by decide) rfl rfl (Nat.le_of_ble_eq_true rfl) (Nat.le_of_ble_eq_true rfl) dX5_set_2 ?_
  intro r1 hs
  refine G_if_ne hO 18 dX5_set_5 (by decide) (fun h6 => ?_) (fun h6 => ?_)
  · replace hs := hs.1 h6
    refine G_aload_n hO 0 dX5_set_18 rfl rfl ?_
    refine M_getf hO (rS_gl Λ ad O) (v := .ref (ad 20 2)) cl5 4 (hm _ (id_gl (by decide))) (gl_0 _ _ _) (by decide) mw_181 rfl rfl dX5_set_19 ?_
    refine G_aload_n hO 0 dX5_set_22 rfl rfl ?_
    refine M_getf hO (rS_gl Λ ad O) (v := .ref (ad 0 0)) cl5 2 (hm _ (id_gl (by decide))) (gl_0 _ _ _) (by decide) mw_179 rfl rfl dX5_set_23 ?_
    refine KV_Gv hO (rest := []) [.ref (ad 0 0)] (fun l => c_X0_remember hm hs) cv_X0_remember mw_569 mw_570 mw_568 (hm _ (id_gl (by decide))) cl0 (by show rS Λ ad O _ _ _ = _; rw [rS_gl Λ ad O]; exact (gl_2 _ _ _)) rfl rfl (Nat.le_of_ble_eq_true rfl) (by decide) rfl rfl (Nat.le_of_ble_eq_true rfl) (Nat.le_of_ble_eq_true rfl) dX5_set_26 ?_
    intro M2 hs
    refine G_aload_n hO 0 dX5_set_29 rfl rfl ?_
    refine M_getf hO (rS_gl Λ ad O) (v := .ref (ad 0 0)) cl5 2 (hm _ (id_gl (by decide))) (gl_0 _ _ _) (by decide) mw_179 rfl rfl dX5_set_30 ?_
    refine G_iload_n hO 1 dX5_set_33 rfl rfl ?_
    refine KV_Gri hO (rest := []) [.int a1] (rS_st Λ ad O (by decide)) (fun l => c_X3_settingOf (fun _ h9 => hm _ (id_st (by decide) h9)) hs) cv_X3_settingOf mw_441 mw_442 mw_480 (hm _ (id_st (by decide) (by decide))) cl3 (by show rS Λ ad O _ _ _ = _; rw [rS_st Λ ad O (by decide)]; exact (st_0 _ _ _ _)) rfl rfl (Nat.le_of_ble_eq_true rfl) (by decide) rfl rfl (Nat.le_of_ble_eq_true rfl) (Nat.le_of_ble_eq_true rfl) dX5_set_34 ?_
    intro r3 c4 hs
    refine G_istore_n hO [(3, .int r3), (0, .ref (ad 20 0)), (1, .int a1), (2, .int a2)] dX5_set_37 rfl (by decide) rfl ?_
    refine G_aload_n hO 1 dX5_set_38 rfl rfl ?_
    refine M_getf hO (rS_gl Λ ad O) (v := .ref (ad 0 0)) cl5 2 (hm _ (id_gl (by decide))) (gl_0 _ _ _) (by decide) mw_179 rfl rfl dX5_set_39 ?_
    refine G_iload_n hO 2 dX5_set_42 rfl rfl ?_
    refine G_iload_n hO 3 dX5_set_43 rfl rfl ?_
    refine KV_Grv hO (rest := []) [.int a1, .int a2] (rS_st Λ ad O (by decide)) (fun l => c_X3_changeSetting (fun _ h9 => hm _ (id_st (by decide) h9)) hs) cv_X3_changeSetting mw_262 mw_263 mw_617 (hm _ (id_st (by decide) (by decide))) cl3 (by show rS Λ ad O _ _ _ = _; rw [rS_st Λ ad O (by decide)]; exact (st_0 _ _ _ _)) rfl rfl (Nat.le_of_ble_eq_true rfl) (by decide) rfl rfl (Nat.le_of_ble_eq_true rfl) (Nat.le_of_ble_eq_true rfl) dX5_set_44 ?_
    intro c5 hs
    refine G_iload_n hO 0 dX5_set_47 rfl rfl ?_
    exact G_iretX hO hF rfl (Nat.le_of_ble_eq_true rfl) (Nat.le_of_ble_eq_true rfl) dX5_set_48 ⟨rfl, rfl, _, _, rfl, rfl, hs⟩
  · replace hs := hs.2 h6
    exact G_throw_IAE hO (text := "what or the new setting is out of its range") hX hF rfl mw_455 (by decide) mw_11 (by decide +kernel) dX5_set_8 dX5_set_11 dX5_set_12 dX5_set_14 dX5_set_17 (Nat.le_of_ble_eq_true rfl) (Nat.le_of_ble_eq_true rfl) (Nat.le_of_ble_eq_true rfl) (Nat.le_of_ble_eq_true rfl) (Nat.le_of_ble_eq_true rfl) (Nat.le_of_ble_eq_true rfl) ⟨rfl, rfl, _, rfl, hs⟩
set_option maxHeartbeats 4000000 in
set_option maxRecDepth 20000 in
theorem c_X5_outside {l : Launch} {Λ : Lay} {B : Zn} {ids : List (Nat × Nat)} {ad : Nat → Nat → Nat} (hm : ∀ q, q ∈ ids0 → q ∈ ids) {a1 : Int32} {M : Mem} {O : Nat → Int64} {P : Int32 → Mem → Prop} {X : String → Mem → Prop} (hs : wX5_outside a1 M P X) (hst : l.stackTraces = false) : CX l yX5_outside cX5_outside 3 (some .int) { frames := 6, cells := 1, slots := 6, locals := 112 } Λ B ids ad (sh Λ ad M O) [.ref (ad 20 0), .int a1] (Gi Λ ids ad O P) (Xg Λ ids ad O X) := by
  refine CX.of hst RX5 [(0, .ref (ad 20 0)), (1, .int a1)] (by decide +kernel) rfl (Nat.le_of_ble_eq_true rfl) rfl (fun Γ hO hX hF => ?_)
  unfold wX5_outside at hs
  refine G_iload_n hO 1 dX5_outside_0 rfl rfl ?_
  refine KS_Ni hO (rest := []) [.int a1] (fun l => c_X5_outsideAllowed hs) cv_X5_outsideAllowed mw_626 mw_625 rfl rfl (Nat.le_of_ble_eq_true rfl) (by decide) rfl rfl (Nat.le_of_ble_eq_true rfl) (Nat.le_of_ble_eq_true rfl) dX5_outside_1 ?_
  intro r1 hs
  refine G_if_ne hO 18 dX5_outside_4 (by decide) (fun h3 => ?_) (fun h3 => ?_)
  · replace hs := hs.1 h3
    refine G_aload_n hO 0 dX5_outside_18 rfl rfl ?_
    refine M_getf hO (rS_gl Λ ad O) (v := .ref (ad 20 2)) cl5 4 (hm _ (id_gl (by decide))) (gl_0 _ _ _) (by decide) mw_181 rfl rfl dX5_outside_19 ?_
    refine G_aload_n hO 0 dX5_outside_22 rfl rfl ?_
    refine M_getf hO (rS_gl Λ ad O) (v := .ref (ad 0 0)) cl5 2 (hm _ (id_gl (by decide))) (gl_0 _ _ _) (by decide) mw_179 rfl rfl dX5_outside_23 ?_
    refine KV_Gv hO (rest := []) [.ref (ad 0 0)] (fun l => c_X0_remember hm hs) cv_X0_remember mw_569 mw_570 mw_568 (hm _ (id_gl (by decide))) cl0 (by show rS Λ ad O _ _ _ = _; rw [rS_gl Λ ad O]; exact (gl_2 _ _ _)) rfl rfl (Nat.le_of_ble_eq_true rfl) (by decide) rfl rfl (Nat.le_of_ble_eq_true rfl) (Nat.le_of_ble_eq_true rfl) dX5_outside_26 ?_
    intro M2 hs
    refine G_aload_n hO 0 dX5_outside_29 rfl rfl ?_
    refine M_getf hO (rS_gl Λ ad O) (v := .ref (ad 0 0)) cl5 2 (hm _ (id_gl (by decide))) (gl_0 _ _ _) (by decide) mw_179 rfl rfl dX5_outside_30 ?_
    refine M_getf hO (rS_st Λ ad O (by decide)) (v := .int (M2 0 0 1)) cl3 1 (hm _ (id_st (by decide) (by decide))) (st_0 _ _ _ _) (by decide) mw_108 rfl rfl dX5_outside_33 ?_
    refine G_istore_n hO [(2, .int (M2 0 0 1)), (0, .ref (ad 20 0)), (1, .int a1)] dX5_outside_36 rfl (by decide) rfl ?_
    refine G_aload_n hO 1 dX5_outside_37 rfl rfl ?_
    refine M_getf hO (rS_gl Λ ad O) (v := .ref (ad 0 0)) cl5 2 (hm _ (id_gl (by decide))) (gl_0 _ _ _) (by decide) mw_179 rfl rfl dX5_outside_38 ?_
    refine G_iload_n hO 2 dX5_outside_41 rfl rfl ?_
    refine M_putf hO (rS_st Λ ad O (by decide)) (cw_st _ _ _) cl3 1 (hm _ (id_st (by decide) (by decide))) (st_0 _ _ _ _) (by decide) mw_108 rfl rfl rfl rfl (Nat.le_of_ble_eq_true rfl) (stP (by decide)) dX5_outside_42 ?_
    refine G_iload_n hO 0 dX5_outside_45 rfl rfl ?_
    exact G_iretX hO hF rfl (Nat.le_of_ble_eq_true rfl) (Nat.le_of_ble_eq_true rfl) dX5_outside_46 ⟨rfl, rfl, _, _, rfl, rfl, hs⟩
  · replace hs := hs.2 h3
    exact G_throwW_IAE hO (text := "the temperature outside is -20 to 40") hX hF rfl mw_455 (by decide) mw_11 (by decide +kernel) dX5_outside_7 dX5_outside_10 dX5_outside_11 dX5_outside_14 dX5_outside_17 (Nat.le_of_ble_eq_true rfl) (Nat.le_of_ble_eq_true rfl) (Nat.le_of_ble_eq_true rfl) (Nat.le_of_ble_eq_true rfl) (Nat.le_of_ble_eq_true rfl) (Nat.le_of_ble_eq_true rfl) ⟨rfl, rfl, _, rfl, hs⟩
set_option maxHeartbeats 4000000 in
set_option maxRecDepth 20000 in
theorem c_X5_pass {l : Launch} {Λ : Lay} {B : Zn} {ids : List (Nat × Nat)} {ad : Nat → Nat → Nat} (hm : ∀ q, q ∈ ids0 → q ∈ ids) {a1 : Int32} {M : Mem} {O : Nat → Int64} {P : Int32 → Mem → Prop} {X : String → Mem → Prop} (hs : wX5_pass a1 M P X) (hst : l.stackTraces = false) : CX l yX5_pass cX5_pass 3 (some .int) { frames := 6, cells := 1, slots := 6, locals := 112 } Λ B ids ad (sh Λ ad M O) [.ref (ad 20 0), .int a1] (Gi Λ ids ad O P) (Xg Λ ids ad O X) := by
  refine CX.of hst RX5 [(0, .ref (ad 20 0)), (1, .int a1)] (by decide +kernel) rfl (Nat.le_of_ble_eq_true rfl) rfl (fun Γ hO hX hF => ?_)
  unfold wX5_pass at hs
  refine G_iload_n hO 1 dX5_pass_0 rfl rfl ?_
  refine KS_Ni hO (rest := []) [.int a1] (fun l => c_X5_passAllowed hs) cv_X5_passAllowed mw_637 mw_636 rfl rfl (Nat.le_of_ble_eq_true rfl) (by decide) rfl rfl (Nat.le_of_ble_eq_true rfl) (Nat.le_of_ble_eq_true rfl) dX5_pass_1 ?_
  intro r1 hs
  refine G_if_ne hO 18 dX5_pass_4 (by decide) (fun h8 => ?_) (fun h8 => ?_)
  · replace hs := hs.1 h8
    refine G_aload_n hO 0 dX5_pass_18 rfl rfl ?_
    refine M_getf hO (rS_gl Λ ad O) (v := .ref (ad 20 2)) cl5 4 (hm _ (id_gl (by decide))) (gl_0 _ _ _) (by decide) mw_181 rfl rfl dX5_pass_19 ?_
    refine G_aload_n hO 0 dX5_pass_22 rfl rfl ?_
    refine M_getf hO (rS_gl Λ ad O) (v := .ref (ad 0 0)) cl5 2 (hm _ (id_gl (by decide))) (gl_0 _ _ _) (by decide) mw_179 rfl rfl dX5_pass_23 ?_
    refine KV_Gv hO (rest := []) [.ref (ad 0 0)] (fun l => c_X0_remember hm hs) cv_X0_remember mw_569 mw_570 mw_568 (hm _ (id_gl (by decide))) cl0 (by show rS Λ ad O _ _ _ = _; rw [rS_gl Λ ad O]; exact (gl_2 _ _ _)) rfl rfl (Nat.le_of_ble_eq_true rfl) (by decide) rfl rfl (Nat.le_of_ble_eq_true rfl) (Nat.le_of_ble_eq_true rfl) dX5_pass_26 ?_
    intro M2 hs
    refine G_aload_n hO 0 dX5_pass_29 rfl rfl ?_
    refine M_getf hO (rS_gl Λ ad O) (v := .ref (ad 0 0)) cl5 2 (hm _ (id_gl (by decide))) (gl_0 _ _ _) (by decide) mw_179 rfl rfl dX5_pass_30 ?_
    refine KV_Gri hO (rest := []) [] (rS_st Λ ad O (by decide)) (fun l => c_X3_allComfort (fun _ h9 => hm _ (id_st (by decide) h9)) hs) cv_X3_allComfort mw_452 mw_453 mw_451 (hm _ (id_st (by decide) (by decide))) cl3 (by show rS Λ ad O _ _ _ = _; rw [rS_st Λ ad O (by decide)]; exact (st_0 _ _ _ _)) rfl rfl (Nat.le_of_ble_eq_true rfl) (by decide) rfl rfl (Nat.le_of_ble_eq_true rfl) (Nat.le_of_ble_eq_true rfl) dX5_pass_33 ?_
    intro r3 c4 hs
    refine G_istore_n hO [(2, .int r3), (0, .ref (ad 20 0)), (1, .int a1)] dX5_pass_36 rfl (by decide) rfl ?_
    refine G_aload_n hO 1 dX5_pass_37 rfl rfl ?_
    refine M_getf hO (rS_gl Λ ad O) (v := .ref (ad 0 0)) cl5 2 (hm _ (id_gl (by decide))) (gl_0 _ _ _) (by decide) mw_179 rfl rfl dX5_pass_38 ?_
    refine G_iload_n hO 2 dX5_pass_41 rfl rfl ?_
    refine KV_Grv hO (rest := []) [.int a1] (rS_st Λ ad O (by decide)) (fun l => c_X3_advance (fun _ h9 => hm _ (id_st (by decide) h9)) hs) cv_X3_advance mw_641 mw_642 mw_640 (hm _ (id_st (by decide) (by decide))) cl3 (by show rS Λ ad O _ _ _ = _; rw [rS_st Λ ad O (by decide)]; exact (st_0 _ _ _ _)) rfl rfl (Nat.le_of_ble_eq_true rfl) (by decide) rfl rfl (Nat.le_of_ble_eq_true rfl) (Nat.le_of_ble_eq_true rfl) dX5_pass_42 ?_
    intro c5 hs
    refine G_aload_n hO 1 dX5_pass_45 rfl rfl ?_
    refine M_getf hO (rS_gl Λ ad O) (v := .ref (ad 0 0)) cl5 2 (hm _ (id_gl (by decide))) (gl_0 _ _ _) (by decide) mw_179 rfl rfl dX5_pass_46 ?_
    refine KV_Gri hO (rest := []) [] (rS_st Λ ad O (by decide)) (fun l => c_X3_allComfort (fun _ h9 => hm _ (id_st (by decide) h9)) hs) cv_X3_allComfort mw_452 mw_453 mw_451 (hm _ (id_st (by decide) (by decide))) cl3 (by show rS Λ ad O _ _ _ = _; rw [rS_st Λ ad O (by decide)]; exact (st_0 _ _ _ _)) rfl rfl (Nat.le_of_ble_eq_true rfl) (by decide) rfl rfl (Nat.le_of_ble_eq_true rfl) (Nat.le_of_ble_eq_true rfl) dX5_pass_49 ?_
    intro r6 c7 hs
    refine G_iload_n hO 0 dX5_pass_52 rfl rfl ?_
    refine G_isub hO dX5_pass_53 ?_
    exact G_iretX hO hF rfl (Nat.le_of_ble_eq_true rfl) (Nat.le_of_ble_eq_true rfl) dX5_pass_54 ⟨rfl, rfl, _, _, rfl, rfl, hs⟩
  · replace hs := hs.2 h8
    exact G_throwW_IAE hO (text := "minutes are 1 to 60") hX hF rfl mw_455 (by decide) mw_11 (by decide +kernel) dX5_pass_7 dX5_pass_10 dX5_pass_11 dX5_pass_14 dX5_pass_17 (Nat.le_of_ble_eq_true rfl) (Nat.le_of_ble_eq_true rfl) (Nat.le_of_ble_eq_true rfl) (Nat.le_of_ble_eq_true rfl) (Nat.le_of_ble_eq_true rfl) (Nat.le_of_ble_eq_true rfl) ⟨rfl, rfl, _, rfl, hs⟩
set_option maxHeartbeats 4000000 in
set_option maxRecDepth 20000 in
theorem c_X5_undo {l : Launch} {Λ : Lay} {B : Zn} {ids : List (Nat × Nat)} {ad : Nat → Nat → Nat} (hm : ∀ q, q ∈ ids0 → q ∈ ids) {M : Mem} {O : Nat → Int64} {P : Int32 → Mem → Prop} {X : String → Mem → Prop} (hs : wX5_undo M P X) (hst : l.stackTraces = false) : CX l yX5_undo cX5_undo 1 (some .int) { frames := 6, cells := 1, slots := 6, locals := 113 } Λ B ids ad (sh Λ ad M O) [.ref (ad 20 0)] (Gi Λ ids ad O P) (Xg Λ ids ad O X) := by
  refine CX.of hst RX5 [(0, .ref (ad 20 0))] (by decide +kernel) rfl (Nat.le_of_ble_eq_true rfl) rfl (fun Γ hO hX hF => ?_)
  unfold wX5_undo at hs
  refine G_aload_n hO 0 dX5_undo_0 rfl rfl ?_
  refine M_getf hO (rS_gl Λ ad O) (v := .ref (ad 20 2)) cl5 4 (hm _ (id_gl (by decide))) (gl_0 _ _ _) (by decide) mw_181 rfl rfl dX5_undo_1 ?_
  refine KV_Gi hO (rest := []) [] (fun l => c_X0_isEmpty hm hs) cv_X0_isEmpty mw_849 mw_850 mw_848 (hm _ (id_gl (by decide))) cl0 (by show rS Λ ad O _ _ _ = _; rw [rS_gl Λ ad O]; exact (gl_2 _ _ _)) rfl rfl (Nat.le_of_ble_eq_true rfl) (by decide) rfl rfl (Nat.le_of_ble_eq_true rfl) (Nat.le_of_ble_eq_true rfl) dX5_undo_4 ?_
  intro r1 M2 hs
  refine G_if_eq hO 21 dX5_undo_7 (by decide) (fun h4 => ?_) (fun h4 => ?_)
  · replace hs := hs.1 h4
    refine G_aload_n hO 0 dX5_undo_21 rfl rfl ?_
    refine M_getf hO (rS_gl Λ ad O) (v := .ref (ad 20 2)) cl5 4 (hm _ (id_gl (by decide))) (gl_0 _ _ _) (by decide) mw_181 rfl rfl dX5_undo_22 ?_
    refine G_aload_n hO 0 dX5_undo_25 rfl rfl ?_
    refine M_getf hO (rS_gl Λ ad O) (v := .ref (ad 0 0)) cl5 2 (hm _ (id_gl (by decide))) (gl_0 _ _ _) (by decide) mw_179 rfl rfl dX5_undo_26 ?_
    refine KV_Gv hO (rest := []) [.ref (ad 0 0)] (fun l => c_X0_takeBackInto hm hs) cv_X0_takeBackInto mw_854 mw_855 mw_853 (hm _ (id_gl (by decide))) cl0 (by show rS Λ ad O _ _ _ = _; rw [rS_gl Λ ad O]; exact (gl_2 _ _ _)) rfl rfl (Nat.le_of_ble_eq_true rfl) (by decide) rfl rfl (Nat.le_of_ble_eq_true rfl) (Nat.le_of_ble_eq_true rfl) dX5_undo_29 ?_
    intro M3 hs
    refine G_aload_n hO 0 dX5_undo_32 rfl rfl ?_
    refine M_getf hO (rS_gl Λ ad O) (v := .ref (ad 20 2)) cl5 4 (hm _ (id_gl (by decide))) (gl_0 _ _ _) (by decide) mw_181 rfl rfl dX5_undo_33 ?_
    refine M_getf hO (rS_gl Λ ad O) (v := .int (M3 20 2 1)) cl0 1 (hm _ (id_gl (by decide))) (gl_2 _ _ _) (by decide) mw_171 rfl rfl dX5_undo_36 ?_
    exact G_iretX hO hF rfl (Nat.le_of_ble_eq_true rfl) (Nat.le_of_ble_eq_true rfl) dX5_undo_39 ⟨rfl, rfl, _, _, rfl, rfl, hs⟩
  · replace hs := hs.2 h4
    exact G_throwW_ISE hO (text := "no state is remembered") hX hF rfl mw_301 (by decide) mw_14 (by decide +kernel) dX5_undo_10 dX5_undo_13 dX5_undo_14 dX5_undo_17 dX5_undo_20 (Nat.le_of_ble_eq_true rfl) (Nat.le_of_ble_eq_true rfl) (Nat.le_of_ble_eq_true rfl) (Nat.le_of_ble_eq_true rfl) (Nat.le_of_ble_eq_true rfl) (Nat.le_of_ble_eq_true rfl) ⟨rfl, rfl, _, rfl, hs⟩
set_option maxHeartbeats 4000000 in
set_option maxRecDepth 20000 in
theorem c_X5_ahead {l : Launch} {Λ : Lay} {B : Zn} {ids : List (Nat × Nat)} {ad : Nat → Nat → Nat} (hm : ∀ q, q ∈ ids0 → q ∈ ids) {a1 : Int32} {a2 : Int32} {M : Mem} {O : Nat → Int64} {P : Int32 → Mem → Prop} {X : String → Mem → Prop} (hs : wX5_ahead a1 a2 M P X) (hst : l.stackTraces = false) : CX l yX5_ahead cX5_ahead 3 (some .int) { frames := 6, cells := 1, slots := 6, locals := 108 } Λ B ids ad (sh Λ ad M O) [.ref (ad 20 0), .int a1, .int a2] (Gi Λ ids ad O P) (Xg Λ ids ad O X) := by
  refine CX.of hst RX5 [(0, .ref (ad 20 0)), (1, .int a1), (2, .int a2)] (by decide +kernel) rfl (Nat.le_of_ble_eq_true rfl) rfl (fun Γ hO hX hF => ?_)
  unfold wX5_ahead at hs
  refine G_aload_n hO 0 dX5_ahead_0 rfl rfl ?_
  refine M_getf hO (rS_gl Λ ad O) (v := .ref (ad 0 0)) cl5 2 (hm _ (id_gl (by decide))) (gl_0 _ _ _) (by decide) mw_179 rfl rfl dX5_ahead_1 ?_
  refine G_iload_n hO 1 dX5_ahead_4 rfl rfl ?_
  refine KV_Gri hO (rest := []) [.int a1] (rS_st Λ ad O (by decide)) (fun l => c_X3_hasPlace (fun _ h9 => hm _ (id_st (by decide) h9)) hs) cv_X3_hasPlace mw_490 mw_491 mw_489 (hm _ (id_st (by decide) (by decide))) cl3 (by show rS Λ ad O _ _ _ = _; rw [rS_st Λ ad O (by decide)]; exact (st_0 _ _ _ _)) rfl rfl (Nat.le_of_ble_eq_true rfl) (by decide) rfl rfl (Nat.le_of_ble_eq_true rfl) (Nat.le_of_ble_eq_true rfl) dX5_ahead_5 ?_
  intro r1 c2 hs
  refine G_if_ne hO 21 dX5_ahead_8 (by decide) (fun h9 => ?_) (fun h9 => ?_)
  · replace hs := hs.1 h9
    refine G_iload_n hO 2 dX5_ahead_21 rfl rfl ?_
    refine G_if_lt hO 32 dX5_ahead_22 (by decide) (fun h8 => ?_) (fun h8 => ?_)
    · replace hs := hs.1 h8
      exact G_throwW_IAE hO (text := "minutes are 0 to 240") hX hF rfl mw_455 (by decide) mw_11 (by decide +kernel) dX5_ahead_32 dX5_ahead_35 dX5_ahead_36 dX5_ahead_39 dX5_ahead_42 (Nat.le_of_ble_eq_true rfl) (Nat.le_of_ble_eq_true rfl) (Nat.le_of_ble_eq_true rfl) (Nat.le_of_ble_eq_true rfl) (Nat.le_of_ble_eq_true rfl) (Nat.le_of_ble_eq_true rfl) ⟨rfl, rfl, _, rfl, hs⟩
    · replace hs := hs.2 h8
      refine G_iload_n hO 2 dX5_ahead_25 rfl rfl ?_
      refine G_sipush hO 240 dX5_ahead_26 (by decide) ?_
      refine G_icmp_le hO 43 dX5_ahead_29 (by decide) (fun h7 => ?_) (fun h7 => ?_)
      · replace hs := hs.1 h7
        refine G_aload_n hO 0 dX5_ahead_43 rfl rfl ?_
        refine M_getf hO (rS_gl Λ ad O) (v := .ref (ad 1 0)) cl5 3 (hm _ (id_gl (by decide))) (gl_0 _ _ _) (by decide) mw_180 rfl rfl dX5_ahead_44 ?_
        refine G_aload_n hO 0 dX5_ahead_47 rfl rfl ?_
        refine M_getf hO (rS_gl Λ ad O) (v := .ref (ad 0 0)) cl5 2 (hm _ (id_gl (by decide))) (gl_0 _ _ _) (by decide) mw_179 rfl rfl dX5_ahead_48 ?_
        refine KV_Grv hO (rest := []) [.ref (ad 0 0)] (rS_st Λ ad O (by decide)) (fun l => c_X3_copyFrom (fun _ h9 => hm _ (id_st (by decide) h9)) (by decide) (fun _ h9 => hm _ (id_st (by decide) h9)) (sh_st (by decide)) hs) cv_X3_copyFrom mw_370 mw_371 mw_369 (hm _ (id_st (by decide) (by decide))) cl3 (by show rS Λ ad O _ _ _ = _; rw [rS_st Λ ad O (by decide)]; exact (st_0 _ _ _ _)) rfl rfl (Nat.le_of_ble_eq_true rfl) (by decide) rfl rfl (Nat.le_of_ble_eq_true rfl) (Nat.le_of_ble_eq_true rfl) dX5_ahead_51 ?_
        intro c3 hs
        refine G_aload_n hO 0 dX5_ahead_54 rfl rfl ?_
        refine M_getf hO (rS_gl Λ ad O) (v := .ref (ad 1 0)) cl5 3 (hm _ (id_gl (by decide))) (gl_0 _ _ _) (by decide) mw_180 rfl rfl dX5_ahead_55 ?_
        refine G_iload_n hO 2 dX5_ahead_58 rfl rfl ?_
        refine KV_Grv hO (rest := []) [.int a2] (rS_st Λ ad O (by decide)) (fun l => c_X3_advance (fun _ h9 => hm _ (id_st (by decide) h9)) hs) cv_X3_advance mw_641 mw_642 mw_640 (hm _ (id_st (by decide) (by decide))) cl3 (by show rS Λ ad O _ _ _ = _; rw [rS_st Λ ad O (by decide)]; exact (st_0 _ _ _ _)) rfl rfl (Nat.le_of_ble_eq_true rfl) (by decide) rfl rfl (Nat.le_of_ble_eq_true rfl) (Nat.le_of_ble_eq_true rfl) dX5_ahead_59 ?_
        intro c4 hs
        refine G_aload_n hO 0 dX5_ahead_62 rfl rfl ?_
        refine M_getf hO (rS_gl Λ ad O) (v := .ref (ad 1 0)) cl5 3 (hm _ (id_gl (by decide))) (gl_0 _ _ _) (by decide) mw_180 rfl rfl dX5_ahead_63 ?_
        refine G_iload_n hO 1 dX5_ahead_66 rfl rfl ?_
        refine KV_Gri hO (rest := []) [.int a1] (rS_st Λ ad O (by decide)) (fun l => c_X3_degrees (fun _ h9 => hm _ (id_st (by decide) h9)) hs) cv_X3_degrees mw_503 mw_504 mw_502 (hm _ (id_st (by decide) (by decide))) cl3 (by show rS Λ ad O _ _ _ = _; rw [rS_st Λ ad O (by decide)]; exact (st_0 _ _ _ _)) rfl rfl (Nat.le_of_ble_eq_true rfl) (by decide) rfl rfl (Nat.le_of_ble_eq_true rfl) (Nat.le_of_ble_eq_true rfl) dX5_ahead_67 ?_
        intro r5 c6 hs
        exact G_iretX hO hF rfl (Nat.le_of_ble_eq_true rfl) (Nat.le_of_ble_eq_true rfl) dX5_ahead_70 ⟨rfl, rfl, _, _, rfl, rfl, hs⟩
      · replace hs := hs.2 h7
        exact G_throwW_IAE hO (text := "minutes are 0 to 240") hX hF rfl mw_455 (by decide) mw_11 (by decide +kernel) dX5_ahead_32 dX5_ahead_35 dX5_ahead_36 dX5_ahead_39 dX5_ahead_42 (Nat.le_of_ble_eq_true rfl) (Nat.le_of_ble_eq_true rfl) (Nat.le_of_ble_eq_true rfl) (Nat.le_of_ble_eq_true rfl) (Nat.le_of_ble_eq_true rfl) (Nat.le_of_ble_eq_true rfl) ⟨rfl, rfl, _, rfl, hs⟩
  · replace hs := hs.2 h9
    exact G_throw_IOB hO (text := "no such place with heat") hX hF rfl mw_395 (by decide) mw_12 (by decide +kernel) dX5_ahead_11 dX5_ahead_14 dX5_ahead_15 dX5_ahead_17 dX5_ahead_20 (Nat.le_of_ble_eq_true rfl) (Nat.le_of_ble_eq_true rfl) (Nat.le_of_ble_eq_true rfl) (Nat.le_of_ble_eq_true rfl) (Nat.le_of_ble_eq_true rfl) (Nat.le_of_ble_eq_true rfl) ⟨rfl, rfl, _, rfl, hs⟩
set_option maxHeartbeats 4000000 in
set_option maxRecDepth 20000 in
theorem c_X5_minutesTo {l : Launch} {Λ : Lay} {B : Zn} {ids : List (Nat × Nat)} {ad : Nat → Nat → Nat} (hm : ∀ q, q ∈ ids0 → q ∈ ids) {a1 : Int32} {M : Mem} {O : Nat → Int64} {P : Int32 → Mem → Prop} {X : String → Mem → Prop} (hs : wX5_minutesTo a1 M P X) (hst : l.stackTraces = false) : CX l yX5_minutesTo cX5_minutesTo 3 (some .int) { frames := 6, cells := 1, slots := 6, locals := 108 } Λ B ids ad (sh Λ ad M O) [.ref (ad 20 0), .int a1] (Gi Λ ids ad O P) (Xg Λ ids ad O X) := by
  refine CX.of hst RX5 [(0, .ref (ad 20 0)), (1, .int a1)] (by decide +kernel) rfl (Nat.le_of_ble_eq_true rfl) rfl (fun Γ hO hX hF => ?_)
  have b34 : ∀ (N34 : Nat) (v2 : Int32) (M : Mem), wX5_minutesTo_L34 a1 P X N34 v2 M → G Γ ids ad 0 0 (sh Λ ad M O) 34 [(0, .ref (ad 20 0)), (1, .int a1), (2, .int v2)] [] := by
    intro N34
    induction N34 with
    | zero => intro v2 M hs; exact False.elim hs
    | succ N34 ih34 =>
      intro v2 M hs
      unfold wX5_minutesTo_L34 at hs
      refine G_iload_n hO 2 dX5_minutesTo_34 rfl rfl ?_
      refine G_sipush hO 240 dX5_minutesTo_35 (by decide) ?_
      refine G_icmp_ge hO 68 dX5_minutesTo_38 (by decide) (fun h13 => ?_) (fun h13 => ?_)
      · replace hs := hs.1 h13
        refine G_aload_n hO 0 dX5_minutesTo_68 rfl rfl ?_
        refine M_getf hO (rS_gl Λ ad O) (v := .ref (ad 1 0)) cl5 3 (hm _ (id_gl (by decide))) (gl_0 _ _ _) (by decide) mw_180 rfl rfl dX5_minutesTo_69 ?_
        refine G_iload_n hO 1 dX5_minutesTo_72 rfl rfl ?_
        refine KV_Gri hO (rest := []) [.int a1] (rS_st Λ ad O (by decide)) (fun l => c_X3_isAsWarmAsWanted (fun _ h9 => hm _ (id_st (by decide) h9)) hs) cv_X3_isAsWarmAsWanted mw_713 mw_714 mw_712 (hm _ (id_st (by decide) (by decide))) cl3 (by show rS Λ ad O _ _ _ = _; rw [rS_st Λ ad O (by decide)]; exact (st_0 _ _ _ _)) rfl rfl (Nat.le_of_ble_eq_true rfl) (by decide) rfl rfl (Nat.le_of_ble_eq_true rfl) (Nat.le_of_ble_eq_true rfl) dX5_minutesTo_73 ?_
        intro r6 c7 hs
        refine G_if_eq hO 85 dX5_minutesTo_76 (by decide) (fun h8 => ?_) (fun h8 => ?_)
        · replace hs := hs.1 h8
          refine G_ldc hO mw_716 dX5_minutesTo_85 ?_
          exact G_iretX hO hF rfl (Nat.le_of_ble_eq_true rfl) (Nat.le_of_ble_eq_true rfl) dX5_minutesTo_87 ⟨rfl, rfl, _, _, rfl, rfl, hs⟩
        · replace hs := hs.2 h8
          refine G_sipush hO 240 dX5_minutesTo_79 (by decide) ?_
          refine G_goto hO 87 dX5_minutesTo_82 (by decide) ?_
          exact G_iretX hO hF rfl (Nat.le_of_ble_eq_true rfl) (Nat.le_of_ble_eq_true rfl) dX5_minutesTo_87 ⟨rfl, rfl, _, _, rfl, rfl, hs⟩
      · replace hs := hs.2 h13
        refine G_aload_n hO 0 dX5_minutesTo_41 rfl rfl ?_
        refine M_getf hO (rS_gl Λ ad O) (v := .ref (ad 1 0)) cl5 3 (hm _ (id_gl (by decide))) (gl_0 _ _ _) (by decide) mw_180 rfl rfl dX5_minutesTo_42 ?_
        refine G_iload_n hO 1 dX5_minutesTo_45 rfl rfl ?_
        refine KV_Gri hO (rest := []) [.int a1] (rS_st Λ ad O (by decide)) (fun l => c_X3_isAsWarmAsWanted (fun _ h9 => hm _ (id_st (by decide) h9)) hs) cv_X3_isAsWarmAsWanted mw_713 mw_714 mw_712 (hm _ (id_st (by decide) (by decide))) cl3 (by show rS Λ ad O _ _ _ = _; rw [rS_st Λ ad O (by decide)]; exact (st_0 _ _ _ _)) rfl rfl (Nat.le_of_ble_eq_true rfl) (by decide) rfl rfl (Nat.le_of_ble_eq_true rfl) (Nat.le_of_ble_eq_true rfl) dX5_minutesTo_46 ?_
        intro r9 c10 hs
        refine G_if_eq hO 54 dX5_minutesTo_49 (by decide) (fun h12 => ?_) (fun h12 => ?_)
        · replace hs := hs.1 h12
          refine G_aload_n hO 0 dX5_minutesTo_54 rfl rfl ?_
          refine M_getf hO (rS_gl Λ ad O) (v := .ref (ad 1 0)) cl5 3 (hm _ (id_gl (by decide))) (gl_0 _ _ _) (by decide) mw_180 rfl rfl dX5_minutesTo_55 ?_
          refine G_iconst hO 1 dX5_minutesTo_58 (by decide) ?_
          refine KV_Grv hO (rest := []) [.int 1] (rS_st Λ ad O (by decide)) (fun l => c_X3_advance (fun _ h9 => hm _ (id_st (by decide) h9)) hs) cv_X3_advance mw_641 mw_642 mw_640 (hm _ (id_st (by decide) (by decide))) cl3 (by show rS Λ ad O _ _ _ = _; rw [rS_st Λ ad O (by decide)]; exact (st_0 _ _ _ _)) rfl rfl (Nat.le_of_ble_eq_true rfl) (by decide) rfl rfl (Nat.le_of_ble_eq_true rfl) (Nat.le_of_ble_eq_true rfl) dX5_minutesTo_59 ?_
          intro c11 hs
          refine G_iinc hO 2 (v2 + 1) [(2, .int (v2 + 1)), (0, .ref (ad 20 0)), (1, .int a1)] dX5_minutesTo_62 rfl rfl (by decide) rfl ?_
          refine G_goto hO 34 dX5_minutesTo_65 (by decide) ?_
          refine G_lv hO [(0, .ref (ad 20 0)), (1, .int a1), (2, .int (v2 + 1))] [1, 2, 0] rfl ?_
          exact ih34 _ _ hs
        · replace hs := hs.2 h12
          refine G_iload_n hO 2 dX5_minutesTo_52 rfl rfl ?_
          exact G_iretX hO hF rfl (Nat.le_of_ble_eq_true rfl) (Nat.le_of_ble_eq_true rfl) dX5_minutesTo_53 ⟨rfl, rfl, _, _, rfl, rfl, hs⟩
  unfold wX5_minutesTo at hs
  refine G_aload_n hO 0 dX5_minutesTo_0 rfl rfl ?_
  refine M_getf hO (rS_gl Λ ad O) (v := .ref (ad 0 0)) cl5 2 (hm _ (id_gl (by decide))) (gl_0 _ _ _) (by decide) mw_179 rfl rfl dX5_minutesTo_1 ?_
  refine G_iload_n hO 1 dX5_minutesTo_4 rfl rfl ?_
  refine KV_Gri hO (rest := []) [.int a1] (rS_st Λ ad O (by decide)) (fun l => c_X3_hasRoom (fun _ h9 => hm _ (id_st (by decide) h9)) hs) cv_X3_hasRoom mw_494 mw_495 mw_521 (hm _ (id_st (by decide) (by decide))) cl3 (by show rS Λ ad O _ _ _ = _; rw [rS_st Λ ad O (by decide)]; exact (st_0 _ _ _ _)) rfl rfl (Nat.le_of_ble_eq_true rfl) (by decide) rfl rfl (Nat.le_of_ble_eq_true rfl) (Nat.le_of_ble_eq_true rfl) dX5_minutesTo_5 ?_
  intro r1 c2 hs
  refine G_if_ne hO 21 dX5_minutesTo_8 (by decide) (fun h5 => ?_) (fun h5 => ?_)
  · replace hs := hs.1 h5
    refine G_aload_n hO 0 dX5_minutesTo_21 rfl rfl ?_
    refine M_getf hO (rS_gl Λ ad O) (v := .ref (ad 1 0)) cl5 3 (hm _ (id_gl (by decide))) (gl_0 _ _ _) (by decide) mw_180 rfl rfl dX5_minutesTo_22 ?_
    refine G_aload_n hO 0 dX5_minutesTo_25 rfl rfl ?_
    refine M_getf hO (rS_gl Λ ad O) (v := .ref (ad 0 0)) cl5 2 (hm _ (id_gl (by decide))) (gl_0 _ _ _) (by decide) mw_179 rfl rfl dX5_minutesTo_26 ?_
    refine KV_Grv hO (rest := []) [.ref (ad 0 0)] (rS_st Λ ad O (by decide)) (fun l => c_X3_copyFrom (fun _ h9 => hm _ (id_st (by decide) h9)) (by decide) (fun _ h9 => hm _ (id_st (by decide) h9)) (sh_st (by decide)) hs) cv_X3_copyFrom mw_370 mw_371 mw_369 (hm _ (id_st (by decide) (by decide))) cl3 (by show rS Λ ad O _ _ _ = _; rw [rS_st Λ ad O (by decide)]; exact (st_0 _ _ _ _)) rfl rfl (Nat.le_of_ble_eq_true rfl) (by decide) rfl rfl (Nat.le_of_ble_eq_true rfl) (Nat.le_of_ble_eq_true rfl) dX5_minutesTo_29 ?_
    intro c3 hs
    refine G_iconst hO 0 dX5_minutesTo_32 (by decide) ?_
    refine G_istore_n hO [(2, .int 0), (0, .ref (ad 20 0)), (1, .int a1)] dX5_minutesTo_33 rfl (by decide) rfl ?_
    obtain ⟨Nf4, hs⟩ := hs
    refine G_lv hO [(0, .ref (ad 20 0)), (1, .int a1), (2, .int 0)] [1, 2, 0] rfl ?_
    exact b34 Nf4 _ _ hs
  · replace hs := hs.2 h5
    exact G_throw_IOB hO (text := "no such room") hX hF rfl mw_395 (by decide) mw_12 (by decide +kernel) dX5_minutesTo_11 dX5_minutesTo_14 dX5_minutesTo_15 dX5_minutesTo_17 dX5_minutesTo_20 (Nat.le_of_ble_eq_true rfl) (Nat.le_of_ble_eq_true rfl) (Nat.le_of_ble_eq_true rfl) (Nat.le_of_ble_eq_true rfl) (Nat.le_of_ble_eq_true rfl) (Nat.le_of_ble_eq_true rfl) ⟨rfl, rfl, _, rfl, hs⟩
set_option maxHeartbeats 4000000 in
set_option maxRecDepth 20000 in
theorem c_X5_whyOff {l : Launch} {Λ : Lay} {B : Zn} {ids : List (Nat × Nat)} {ad : Nat → Nat → Nat} (hm : ∀ q, q ∈ ids0 → q ∈ ids) {M : Mem} {O : Nat → Int64} {P : Int32 → Mem → Prop} (hs : wX5_whyOff M P) : CT l yX5_whyOff cX5_whyOff 1 (some .int) { frames := 4, cells := 0, slots := 0, locals := 91 } Λ B ids ad (sh Λ ad M O) [.ref (ad 20 0)] (Gi Λ ids ad O P) := by
  refine CT.of RX5 [(0, .ref (ad 20 0))] (plainFor_of_name (by decide +kernel)) rfl (Nat.le_of_ble_eq_true rfl) rfl (fun Γ hO hF => ?_)
  unfold wX5_whyOff at hs
  refine G_aload_n hO 0 dX5_whyOff_0 rfl rfl ?_
  refine M_getf hO (rS_gl Λ ad O) (v := .ref (ad 1 0)) cl5 3 (hm _ (id_gl (by decide))) (gl_0 _ _ _) (by decide) mw_180 rfl rfl dX5_whyOff_1 ?_
  refine G_aload_n hO 0 dX5_whyOff_4 rfl rfl ?_
  refine M_getf hO (rS_gl Λ ad O) (v := .ref (ad 0 0)) cl5 2 (hm _ (id_gl (by decide))) (gl_0 _ _ _) (by decide) mw_179 rfl rfl dX5_whyOff_5 ?_
  refine KV_Grv hO (rest := []) [.ref (ad 0 0)] (rS_st Λ ad O (by decide)) (fun l => c_X3_copyFrom (fun _ h9 => hm _ (id_st (by decide) h9)) (by decide) (fun _ h9 => hm _ (id_st (by decide) h9)) (sh_st (by decide)) hs) cv_X3_copyFrom mw_370 mw_371 mw_369 (hm _ (id_st (by decide) (by decide))) cl3 (by show rS Λ ad O _ _ _ = _; rw [rS_st Λ ad O (by decide)]; exact (st_0 _ _ _ _)) rfl rfl (Nat.le_of_ble_eq_true rfl) (by decide) rfl rfl (Nat.zero_le _) (Nat.zero_le _) dX5_whyOff_8 ?_
  intro c1 hs
  refine G_aload_n hO 0 dX5_whyOff_11 rfl rfl ?_
  refine M_getf hO (rS_gl Λ ad O) (v := .ref (ad 1 0)) cl5 3 (hm _ (id_gl (by decide))) (gl_0 _ _ _) (by decide) mw_180 rfl rfl dX5_whyOff_12 ?_
  refine KV_Grv hO (rest := []) [] (rS_st Λ ad O (by decide)) (fun l => c_X3_turnSeason (fun _ h9 => hm _ (id_st (by decide) h9)) hs) cv_X3_turnSeason mw_645 mw_646 mw_831 (hm _ (id_st (by decide) (by decide))) cl3 (by show rS Λ ad O _ _ _ = _; rw [rS_st Λ ad O (by decide)]; exact (st_0 _ _ _ _)) rfl rfl (Nat.le_of_ble_eq_true rfl) (by decide) rfl rfl (Nat.zero_le _) (Nat.zero_le _) dX5_whyOff_15 ?_
  intro c2 hs
  refine G_aload_n hO 0 dX5_whyOff_18 rfl rfl ?_
  refine M_getf hO (rS_gl Λ ad O) (v := .ref (ad 1 0)) cl5 3 (hm _ (id_gl (by decide))) (gl_0 _ _ _) (by decide) mw_180 rfl rfl dX5_whyOff_19 ?_
  refine KV_Grv hO (rest := []) [] (rS_st Λ ad O (by decide)) (fun l => c_X3_runBoiler (fun _ h9 => hm _ (id_st (by decide) h9)) hs) cv_X3_runBoiler mw_649 mw_650 mw_832 (hm _ (id_st (by decide) (by decide))) cl3 (by show rS Λ ad O _ _ _ = _; rw [rS_st Λ ad O (by decide)]; exact (st_0 _ _ _ _)) rfl rfl (Nat.le_of_ble_eq_true rfl) (by decide) rfl rfl (Nat.zero_le _) (Nat.zero_le _) dX5_whyOff_22 ?_
  intro c3 hs
  refine G_aload_n hO 0 dX5_whyOff_25 rfl rfl ?_
  refine M_getf hO (rS_gl Λ ad O) (v := .ref (ad 1 0)) cl5 3 (hm _ (id_gl (by decide))) (gl_0 _ _ _) (by decide) mw_180 rfl rfl dX5_whyOff_26 ?_
  refine M_getf hO (rS_st Λ ad O (by decide)) (v := .int ((va_up (va_up (va_up M 1 c1) 1 c2) 1 c3) 1 0 2)) cl3 2 (hm _ (id_st (by decide) (by decide))) (st_0 _ _ _ _) (by decide) mw_111 rfl rfl dX5_whyOff_29 ?_
  refine G_if_eq hO 37 dX5_whyOff_32 (by decide) (fun h13 => ?_) (fun h13 => ?_)
  · replace hs := hs.1 h13
    refine G_aload_n hO 0 dX5_whyOff_37 rfl rfl ?_
    refine M_getf hO (rS_gl Λ ad O) (v := .ref (ad 1 0)) cl5 3 (hm _ (id_gl (by decide))) (gl_0 _ _ _) (by decide) mw_180 rfl rfl dX5_whyOff_38 ?_
    refine M_getf hO (rS_st Λ ad O (by decide)) (v := .int ((va_up (va_up (va_up M 1 c1) 1 c2) 1 c3) 1 0 6)) cl3 6 (hm _ (id_st (by decide) (by decide))) (st_0 _ _ _ _) (by decide) mw_119 rfl rfl dX5_whyOff_41 ?_
    refine G_if_eq hO 49 dX5_whyOff_44 (by decide) (fun h12 => ?_) (fun h12 => ?_)
    · replace hs := hs.1 h12
      refine G_aload_n hO 0 dX5_whyOff_49 rfl rfl ?_
      refine M_getf hO (rS_gl Λ ad O) (v := .ref (ad 1 0)) cl5 3 (hm _ (id_gl (by decide))) (gl_0 _ _ _) (by decide) mw_180 rfl rfl dX5_whyOff_50 ?_
      refine G_iconst hO 0 dX5_whyOff_53 (by decide) ?_
      refine KV_Gri hO (rest := []) [.int 0] (rS_st Λ ad O (by decide)) (fun l => c_X3_degrees (fun _ h9 => hm _ (id_st (by decide) h9)) hs) cv_X3_degrees mw_503 mw_504 mw_502 (hm _ (id_st (by decide) (by decide))) cl3 (by show rS Λ ad O _ _ _ = _; rw [rS_st Λ ad O (by decide)]; exact (st_0 _ _ _ _)) rfl rfl (Nat.le_of_ble_eq_true rfl) (by decide) rfl rfl (Nat.zero_le _) (Nat.zero_le _) dX5_whyOff_54 ?_
      intro r4 c5 hs
      refine G_aload_n hO 0 dX5_whyOff_57 rfl rfl ?_
      refine M_getf hO (rS_gl Λ ad O) (v := .ref (ad 1 0)) cl5 3 (hm _ (id_gl (by decide))) (gl_0 _ _ _) (by decide) mw_180 rfl rfl dX5_whyOff_58 ?_
      refine G_iconst hO 1 dX5_whyOff_61 (by decide) ?_
      refine KV_Gri hO (rest := [.int r4]) [.int 1] (rS_st Λ ad O (by decide)) (fun l => c_X3_settingOf (fun _ h9 => hm _ (id_st (by decide) h9)) hs) cv_X3_settingOf mw_441 mw_442 mw_480 (hm _ (id_st (by decide) (by decide))) cl3 (by show rS Λ ad O _ _ _ = _; rw [rS_st Λ ad O (by decide)]; exact (st_0 _ _ _ _)) rfl rfl (Nat.le_of_ble_eq_true rfl) (by decide) rfl rfl (Nat.zero_le _) (Nat.zero_le _) dX5_whyOff_62 ?_
      intro r6 c7 hs
      refine G_icmp_lt hO 70 dX5_whyOff_65 (by decide) (fun h11 => ?_) (fun h11 => ?_)
      · replace hs := hs.1 h11
        refine G_aload_n hO 0 dX5_whyOff_70 rfl rfl ?_
        refine M_getf hO (rS_gl Λ ad O) (v := .ref (ad 1 0)) cl5 3 (hm _ (id_gl (by decide))) (gl_0 _ _ _) (by decide) mw_180 rfl rfl dX5_whyOff_71 ?_
        refine G_iconst hO 0 dX5_whyOff_74 (by decide) ?_
        refine KV_Gri hO (rest := []) [.int 0] (rS_st Λ ad O (by decide)) (fun l => c_X3_settingOf (fun _ h9 => hm _ (id_st (by decide) h9)) hs) cv_X3_settingOf mw_441 mw_442 mw_480 (hm _ (id_st (by decide) (by decide))) cl3 (by show rS Λ ad O _ _ _ = _; rw [rS_st Λ ad O (by decide)]; exact (st_0 _ _ _ _)) rfl rfl (Nat.le_of_ble_eq_true rfl) (by decide) rfl rfl (Nat.zero_le _) (Nat.zero_le _) dX5_whyOff_75 ?_
        intro r8 c9 hs
        refine G_if_ne hO 85 dX5_whyOff_78 (by decide) (fun h10 => ?_) (fun h10 => ?_)
        · replace hs := hs.1 h10
          refine G_iconst hO 4 dX5_whyOff_85 (by decide) ?_
          exact G_iret hO hF rfl (Nat.zero_le _) (Nat.zero_le _) dX5_whyOff_86 ⟨rfl, rfl, _, _, rfl, rfl, hs⟩
        · replace hs := hs.2 h10
          refine G_iconst hO 3 dX5_whyOff_81 (by decide) ?_
          refine G_goto hO 86 dX5_whyOff_82 (by decide) ?_
          exact G_iret hO hF rfl (Nat.zero_le _) (Nat.zero_le _) dX5_whyOff_86 ⟨rfl, rfl, _, _, rfl, rfl, hs⟩
      · replace hs := hs.2 h11
        refine G_iconst hO 2 dX5_whyOff_68 (by decide) ?_
        exact G_iret hO hF rfl (Nat.zero_le _) (Nat.zero_le _) dX5_whyOff_69 ⟨rfl, rfl, _, _, rfl, rfl, hs⟩
    · replace hs := hs.2 h12
      refine G_iconst hO 1 dX5_whyOff_47 (by decide) ?_
      exact G_iret hO hF rfl (Nat.zero_le _) (Nat.zero_le _) dX5_whyOff_48 ⟨rfl, rfl, _, _, rfl, rfl, hs⟩
  · replace hs := hs.2 h13
    refine G_iconst hO 0 dX5_whyOff_35 (by decide) ?_
    exact G_iret hO hF rfl (Nat.zero_le _) (Nat.zero_le _) dX5_whyOff_36 ⟨rfl, rfl, _, _, rfl, rfl, hs⟩
set_option maxHeartbeats 4000000 in
set_option maxRecDepth 20000 in
theorem c_X5_whyShare {l : Launch} {Λ : Lay} {B : Zn} {ids : List (Nat × Nat)} {ad : Nat → Nat → Nat} (hm : ∀ q, q ∈ ids0 → q ∈ ids) {M : Mem} {O : Nat → Int64} {P : Int32 → Mem → Prop} (hs : wX5_whyShare M P) : CT l yX5_whyShare cX5_whyShare 1 (some .int) { frames := 4, cells := 0, slots := 0, locals := 91 } Λ B ids ad (sh Λ ad M O) [.ref (ad 20 0)] (Gi Λ ids ad O P) := by
  refine CT.of RX5 [(0, .ref (ad 20 0))] (plainFor_of_name (by decide +kernel)) rfl (Nat.le_of_ble_eq_true rfl) rfl (fun Γ hO hF => ?_)
  have b94 : ∀ (M : Mem), wX5_whyShare_L94 P M → G Γ ids ad 0 0 (sh Λ ad M O) 94 [(0, .ref (ad 20 0))] [] := by
    intro M hs
    unfold wX5_whyShare_L94 at hs
    refine G_aload_n hO 0 dX5_whyShare_94 rfl rfl ?_
    refine M_getf hO (rS_gl Λ ad O) (v := .ref (ad 1 0)) cl5 3 (hm _ (id_gl (by decide))) (gl_0 _ _ _) (by decide) mw_180 rfl rfl dX5_whyShare_95 ?_
    refine KV_Gri hO (rest := []) [] (rS_st Λ ad O (by decide)) (fun l => c_X3_isPinched (fun _ h9 => hm _ (id_st (by decide) h9)) hs) cv_X3_isPinched mw_674 mw_675 mw_839 (hm _ (id_st (by decide) (by decide))) cl3 (by show rS Λ ad O _ _ _ = _; rw [rS_st Λ ad O (by decide)]; exact (st_0 _ _ _ _)) rfl rfl (Nat.le_of_ble_eq_true rfl) (by decide) rfl rfl (Nat.zero_le _) (Nat.zero_le _) dX5_whyShare_98 ?_
    intro r16 c17 hs
    refine G_if_ne hO 116 dX5_whyShare_101 (by decide) (fun h21 => ?_) (fun h21 => ?_)
    · replace hs := hs.1 h21
      refine G_iconst hO 4 dX5_whyShare_116 (by decide) ?_
      refine G_goto hO 121 dX5_whyShare_117 (by decide) ?_
      exact G_iret hO hF rfl (Nat.zero_le _) (Nat.zero_le _) dX5_whyShare_121 ⟨rfl, rfl, _, _, rfl, rfl, hs⟩
    · replace hs := hs.2 h21
      refine G_aload_n hO 0 dX5_whyShare_104 rfl rfl ?_
      refine M_getf hO (rS_gl Λ ad O) (v := .ref (ad 1 0)) cl5 3 (hm _ (id_gl (by decide))) (gl_0 _ _ _) (by decide) mw_180 rfl rfl dX5_whyShare_105 ?_
      refine KV_Gri hO (rest := []) [] (rS_st Λ ad O (by decide)) (fun l => c_X3_freeTarget (fun _ h9 => hm _ (id_st (by decide) h9)) hs) cv_X3_freeTarget mw_666 mw_667 mw_838 (hm _ (id_st (by decide) (by decide))) cl3 (by show rS Λ ad O _ _ _ = _; rw [rS_st Λ ad O (by decide)]; exact (st_0 _ _ _ _)) rfl rfl (Nat.le_of_ble_eq_true rfl) (by decide) rfl rfl (Nat.zero_le _) (Nat.zero_le _) dX5_whyShare_108 ?_
      intro r18 c19 hs
      refine G_bipush hO 100 dX5_whyShare_111 (by decide) ?_
      refine G_icmp_ge hO 120 dX5_whyShare_113 (by decide) (fun h20 => ?_) (fun h20 => ?_)
      · replace hs := hs.1 h20
        refine G_iconst hO 5 dX5_whyShare_120 (by decide) ?_
        exact G_iret hO hF rfl (Nat.zero_le _) (Nat.zero_le _) dX5_whyShare_121 ⟨rfl, rfl, _, _, rfl, rfl, hs⟩
      · replace hs := hs.2 h20
        refine G_iconst hO 4 dX5_whyShare_116 (by decide) ?_
        refine G_goto hO 121 dX5_whyShare_117 (by decide) ?_
        exact G_iret hO hF rfl (Nat.zero_le _) (Nat.zero_le _) dX5_whyShare_121 ⟨rfl, rfl, _, _, rfl, rfl, hs⟩
  unfold wX5_whyShare at hs
  refine G_aload_n hO 0 dX5_whyShare_0 rfl rfl ?_
  refine M_getf hO (rS_gl Λ ad O) (v := .ref (ad 1 0)) cl5 3 (hm _ (id_gl (by decide))) (gl_0 _ _ _) (by decide) mw_180 rfl rfl dX5_whyShare_1 ?_
  refine G_aload_n hO 0 dX5_whyShare_4 rfl rfl ?_
  refine M_getf hO (rS_gl Λ ad O) (v := .ref (ad 0 0)) cl5 2 (hm _ (id_gl (by decide))) (gl_0 _ _ _) (by decide) mw_179 rfl rfl dX5_whyShare_5 ?_
  refine KV_Grv hO (rest := []) [.ref (ad 0 0)] (rS_st Λ ad O (by decide)) (fun l => c_X3_copyFrom (fun _ h9 => hm _ (id_st (by decide) h9)) (by decide) (fun _ h9 => hm _ (id_st (by decide) h9)) (sh_st (by decide)) hs) cv_X3_copyFrom mw_370 mw_371 mw_369 (hm _ (id_st (by decide) (by decide))) cl3 (by show rS Λ ad O _ _ _ = _; rw [rS_st Λ ad O (by decide)]; exact (st_0 _ _ _ _)) rfl rfl (Nat.le_of_ble_eq_true rfl) (by decide) rfl rfl (Nat.zero_le _) (Nat.zero_le _) dX5_whyShare_8 ?_
  intro c1 hs
  refine G_aload_n hO 0 dX5_whyShare_11 rfl rfl ?_
  refine M_getf hO (rS_gl Λ ad O) (v := .ref (ad 1 0)) cl5 3 (hm _ (id_gl (by decide))) (gl_0 _ _ _) (by decide) mw_180 rfl rfl dX5_whyShare_12 ?_
  refine KV_Grv hO (rest := []) [] (rS_st Λ ad O (by decide)) (fun l => c_X3_turnSeason (fun _ h9 => hm _ (id_st (by decide) h9)) hs) cv_X3_turnSeason mw_645 mw_646 mw_831 (hm _ (id_st (by decide) (by decide))) cl3 (by show rS Λ ad O _ _ _ = _; rw [rS_st Λ ad O (by decide)]; exact (st_0 _ _ _ _)) rfl rfl (Nat.le_of_ble_eq_true rfl) (by decide) rfl rfl (Nat.zero_le _) (Nat.zero_le _) dX5_whyShare_15 ?_
  intro c2 hs
  refine G_aload_n hO 0 dX5_whyShare_18 rfl rfl ?_
  refine M_getf hO (rS_gl Λ ad O) (v := .ref (ad 1 0)) cl5 3 (hm _ (id_gl (by decide))) (gl_0 _ _ _) (by decide) mw_180 rfl rfl dX5_whyShare_19 ?_
  refine KV_Grv hO (rest := []) [] (rS_st Λ ad O (by decide)) (fun l => c_X3_runBoiler (fun _ h9 => hm _ (id_st (by decide) h9)) hs) cv_X3_runBoiler mw_649 mw_650 mw_832 (hm _ (id_st (by decide) (by decide))) cl3 (by show rS Λ ad O _ _ _ = _; rw [rS_st Λ ad O (by decide)]; exact (st_0 _ _ _ _)) rfl rfl (Nat.le_of_ble_eq_true rfl) (by decide) rfl rfl (Nat.zero_le _) (Nat.zero_le _) dX5_whyShare_22 ?_
  intro c3 hs
  refine G_aload_n hO 0 dX5_whyShare_25 rfl rfl ?_
  refine M_getf hO (rS_gl Λ ad O) (v := .ref (ad 1 0)) cl5 3 (hm _ (id_gl (by decide))) (gl_0 _ _ _) (by decide) mw_180 rfl rfl dX5_whyShare_26 ?_
  refine KV_Grv hO (rest := []) [] (rS_st Λ ad O (by decide)) (fun l => c_X3_moveValve (fun _ h9 => hm _ (id_st (by decide) h9)) hs) cv_X3_moveValve mw_662 mw_663 mw_837 (hm _ (id_st (by decide) (by decide))) cl3 (by show rS Λ ad O _ _ _ = _; rw [rS_st Λ ad O (by decide)]; exact (st_0 _ _ _ _)) rfl rfl (Nat.le_of_ble_eq_true rfl) (by decide) rfl rfl (Nat.zero_le _) (Nat.zero_le _) dX5_whyShare_29 ?_
  intro c4 hs
  refine G_aload_n hO 0 dX5_whyShare_32 rfl rfl ?_
  refine M_getf hO (rS_gl Λ ad O) (v := .ref (ad 1 0)) cl5 3 (hm _ (id_gl (by decide))) (gl_0 _ _ _) (by decide) mw_180 rfl rfl dX5_whyShare_33 ?_
  refine M_getf hO (rS_st Λ ad O (by decide)) (v := .int ((va_up (va_up (va_up (va_up M 1 c1) 1 c2) 1 c3) 1 c4) 1 0 5)) cl3 5 (hm _ (id_st (by decide) (by decide))) (st_0 _ _ _ _) (by decide) mw_117 rfl rfl dX5_whyShare_36 ?_
  refine G_bipush hO 100 dX5_whyShare_39 (by decide) ?_
  refine G_icmp_ne hO 46 dX5_whyShare_41 (by decide) (fun h15 => ?_) (fun h15 => ?_)
  · replace hs := hs.1 h15
    refine G_aload_n hO 0 dX5_whyShare_46 rfl rfl ?_
    refine M_getf hO (rS_gl Λ ad O) (v := .ref (ad 1 0)) cl5 3 (hm _ (id_gl (by decide))) (gl_0 _ _ _) (by decide) mw_180 rfl rfl dX5_whyShare_47 ?_
    refine M_getf hO (rS_st Λ ad O (by decide)) (v := .int ((va_up (va_up (va_up (va_up M 1 c1) 1 c2) 1 c3) 1 c4) 1 0 6)) cl3 6 (hm _ (id_st (by decide) (by decide))) (st_0 _ _ _ _) (by decide) mw_119 rfl rfl dX5_whyShare_50 ?_
    refine G_if_eq hO 58 dX5_whyShare_53 (by decide) (fun h14 => ?_) (fun h14 => ?_)
    · replace hs := hs.1 h14
      refine G_aload_n hO 0 dX5_whyShare_58 rfl rfl ?_
      refine M_getf hO (rS_gl Λ ad O) (v := .ref (ad 1 0)) cl5 3 (hm _ (id_gl (by decide))) (gl_0 _ _ _) (by decide) mw_180 rfl rfl dX5_whyShare_59 ?_
      refine KV_Gri hO (rest := []) [] (rS_st Λ ad O (by decide)) (fun l => c_X3_freeTarget (fun _ h9 => hm _ (id_st (by decide) h9)) hs) cv_X3_freeTarget mw_666 mw_667 mw_838 (hm _ (id_st (by decide) (by decide))) cl3 (by show rS Λ ad O _ _ _ = _; rw [rS_st Λ ad O (by decide)]; exact (st_0 _ _ _ _)) rfl rfl (Nat.le_of_ble_eq_true rfl) (by decide) rfl rfl (Nat.zero_le _) (Nat.zero_le _) dX5_whyShare_62 ?_
      intro r5 c6 hs
      refine G_if_ne hO 70 dX5_whyShare_65 (by decide) (fun h13 => ?_) (fun h13 => ?_)
      · replace hs := hs.1 h13
        refine G_aload_n hO 0 dX5_whyShare_70 rfl rfl ?_
        refine M_getf hO (rS_gl Λ ad O) (v := .ref (ad 1 0)) cl5 3 (hm _ (id_gl (by decide))) (gl_0 _ _ _) (by decide) mw_180 rfl rfl dX5_whyShare_71 ?_
        refine KV_Gri hO (rest := []) [] (rS_st Λ ad O (by decide)) (fun l => c_X3_isPinched (fun _ h9 => hm _ (id_st (by decide) h9)) hs) cv_X3_isPinched mw_674 mw_675 mw_839 (hm _ (id_st (by decide) (by decide))) cl3 (by show rS Λ ad O _ _ _ = _; rw [rS_st Λ ad O (by decide)]; exact (st_0 _ _ _ _)) rfl rfl (Nat.le_of_ble_eq_true rfl) (by decide) rfl rfl (Nat.zero_le _) (Nat.zero_le _) dX5_whyShare_74 ?_
        intro r7 c8 hs
        refine G_if_eq hO 94 dX5_whyShare_77 (by decide) (fun h12 => ?_) (fun h12 => ?_)
        · replace hs := hs.1 h12
          exact b94 _ hs
        · replace hs := hs.2 h12
          refine G_aload_n hO 0 dX5_whyShare_80 rfl rfl ?_
          refine M_getf hO (rS_gl Λ ad O) (v := .ref (ad 1 0)) cl5 3 (hm _ (id_gl (by decide))) (gl_0 _ _ _) (by decide) mw_180 rfl rfl dX5_whyShare_81 ?_
          refine KV_Gri hO (rest := []) [] (rS_st Λ ad O (by decide)) (fun l => c_X3_freeTarget (fun _ h9 => hm _ (id_st (by decide) h9)) hs) cv_X3_freeTarget mw_666 mw_667 mw_838 (hm _ (id_st (by decide) (by decide))) cl3 (by show rS Λ ad O _ _ _ = _; rw [rS_st Λ ad O (by decide)]; exact (st_0 _ _ _ _)) rfl rfl (Nat.le_of_ble_eq_true rfl) (by decide) rfl rfl (Nat.zero_le _) (Nat.zero_le _) dX5_whyShare_84 ?_
          intro r9 c10 hs
          refine G_bipush hO 20 dX5_whyShare_87 (by decide) ?_
          refine G_icmp_le hO 94 dX5_whyShare_89 (by decide) (fun h11 => ?_) (fun h11 => ?_)
          · replace hs := hs.1 h11
            exact b94 _ hs
          · replace hs := hs.2 h11
            refine G_iconst hO 3 dX5_whyShare_92 (by decide) ?_
            exact G_iret hO hF rfl (Nat.zero_le _) (Nat.zero_le _) dX5_whyShare_93 ⟨rfl, rfl, _, _, rfl, rfl, hs⟩
      · replace hs := hs.2 h13
        refine G_iconst hO 2 dX5_whyShare_68 (by decide) ?_
        exact G_iret hO hF rfl (Nat.zero_le _) (Nat.zero_le _) dX5_whyShare_69 ⟨rfl, rfl, _, _, rfl, rfl, hs⟩
    · replace hs := hs.2 h14
      refine G_iconst hO 1 dX5_whyShare_56 (by decide) ?_
      exact G_iret hO hF rfl (Nat.zero_le _) (Nat.zero_le _) dX5_whyShare_57 ⟨rfl, rfl, _, _, rfl, rfl, hs⟩
  · replace hs := hs.2 h15
    refine G_iconst hO 0 dX5_whyShare_44 (by decide) ?_
    exact G_iret hO hF rfl (Nat.zero_le _) (Nat.zero_le _) dX5_whyShare_45 ⟨rfl, rfl, _, _, rfl, rfl, hs⟩
set_option maxHeartbeats 4000000 in
set_option maxRecDepth 20000 in
theorem c_X5_bestSlope {l : Launch} {Λ : Lay} {B : Zn} {ids : List (Nat × Nat)} {ad : Nat → Nat → Nat} (hm : ∀ q, q ∈ ids0 → q ∈ ids) {a1 : Int32} {M : Mem} {O : Nat → Int64} {P : Int32 → Mem → Prop} {X : String → Mem → Prop} (hs : wX5_bestSlope a1 M P X) (hst : l.stackTraces = false) : CX l yX5_bestSlope cX5_bestSlope 6 (some .int) { frames := 6, cells := 1, slots := 6, locals := 108 } Λ B ids ad (sh Λ ad M O) [.ref (ad 20 0), .int a1] (Gi Λ ids ad O P) (Xg Λ ids ad O X) := by
  refine CX.of hst RX5 [(0, .ref (ad 20 0)), (1, .int a1)] (by decide +kernel) rfl (Nat.le_of_ble_eq_true rfl) rfl (fun Γ hO hX hF => ?_)
  have b47 : ∀ (N47 : Nat) (v2 : Int32) (v3 : Int32) (v4 : Int32) (M : Mem), wX5_bestSlope_L47 a1 P X N47 v2 v3 v4 M → G Γ ids ad 0 0 (sh Λ ad M O) 47 [(0, .ref (ad 20 0)), (1, .int a1), (2, .int v2), (3, .int v3), (4, .int v4)] [] := by
    intro N47
    induction N47 with
    | zero => intro v2 v3 v4 M hs; exact False.elim hs
    | succ N47 ih47 =>
      intro v2 v3 v4 M hs
      unfold wX5_bestSlope_L47 at hs
      refine G_iload hO 4 dX5_bestSlope_47 rfl ?_
      refine G_iconst hO 4 dX5_bestSlope_49 (by decide) ?_
      refine KS_Ni hO (rest := [.int v4]) [.int 4] (fun l => c_X5_highestSetting hs) cv_X5_highestSetting mw_253 mw_615 rfl rfl (Nat.le_of_ble_eq_true rfl) (by decide) rfl rfl (Nat.le_of_ble_eq_true rfl) (Nat.le_of_ble_eq_true rfl) dX5_bestSlope_50 ?_
      intro r6 hs
      refine G_icmp_gt hO 112 dX5_bestSlope_53 (by decide) (fun h13 => ?_) (fun h13 => ?_)
      · replace hs := hs.1 h13
        refine G_iload_n hO 2 dX5_bestSlope_112 rfl rfl ?_
        exact G_iretX hO hF rfl (Nat.le_of_ble_eq_true rfl) (Nat.le_of_ble_eq_true rfl) dX5_bestSlope_113 ⟨rfl, rfl, _, _, rfl, rfl, hs⟩
      · replace hs := hs.2 h13
        refine G_aload_n hO 0 dX5_bestSlope_56 rfl rfl ?_
        refine M_getf hO (rS_gl Λ ad O) (v := .ref (ad 1 0)) cl5 3 (hm _ (id_gl (by decide))) (gl_0 _ _ _) (by decide) mw_180 rfl rfl dX5_bestSlope_57 ?_
        refine G_aload_n hO 0 dX5_bestSlope_60 rfl rfl ?_
        refine M_getf hO (rS_gl Λ ad O) (v := .ref (ad 0 0)) cl5 2 (hm _ (id_gl (by decide))) (gl_0 _ _ _) (by decide) mw_179 rfl rfl dX5_bestSlope_61 ?_
        refine KV_Grv hO (rest := []) [.ref (ad 0 0)] (rS_st Λ ad O (by decide)) (fun l => c_X3_copyFrom (fun _ h9 => hm _ (id_st (by decide) h9)) (by decide) (fun _ h9 => hm _ (id_st (by decide) h9)) (sh_st (by decide)) hs) cv_X3_copyFrom mw_370 mw_371 mw_369 (hm _ (id_st (by decide) (by decide))) cl3 (by show rS Λ ad O _ _ _ = _; rw [rS_st Λ ad O (by decide)]; exact (st_0 _ _ _ _)) rfl rfl (Nat.le_of_ble_eq_true rfl) (by decide) rfl rfl (Nat.le_of_ble_eq_true rfl) (Nat.le_of_ble_eq_true rfl) dX5_bestSlope_64 ?_
        intro c7 hs
        refine G_aload_n hO 0 dX5_bestSlope_67 rfl rfl ?_
        refine M_getf hO (rS_gl Λ ad O) (v := .ref (ad 1 0)) cl5 3 (hm _ (id_gl (by decide))) (gl_0 _ _ _) (by decide) mw_180 rfl rfl dX5_bestSlope_68 ?_
        refine G_iconst hO 4 dX5_bestSlope_71 (by decide) ?_
        refine G_iload hO 4 dX5_bestSlope_72 rfl ?_
        refine KV_Grv hO (rest := []) [.int 4, .int v4] (rS_st Λ ad O (by decide)) (fun l => c_X3_changeSetting (fun _ h9 => hm _ (id_st (by decide) h9)) hs) cv_X3_changeSetting mw_262 mw_263 mw_617 (hm _ (id_st (by decide) (by decide))) cl3 (by show rS Λ ad O _ _ _ = _; rw [rS_st Λ ad O (by decide)]; exact (st_0 _ _ _ _)) rfl rfl (Nat.le_of_ble_eq_true rfl) (by decide) rfl rfl (Nat.le_of_ble_eq_true rfl) (Nat.le_of_ble_eq_true rfl) dX5_bestSlope_74 ?_
        intro c8 hs
        refine G_aload_n hO 0 dX5_bestSlope_77 rfl rfl ?_
        refine M_getf hO (rS_gl Λ ad O) (v := .ref (ad 1 0)) cl5 3 (hm _ (id_gl (by decide))) (gl_0 _ _ _) (by decide) mw_180 rfl rfl dX5_bestSlope_78 ?_
        refine G_iload_n hO 1 dX5_bestSlope_81 rfl rfl ?_
        refine KV_Grv hO (rest := []) [.int a1] (rS_st Λ ad O (by decide)) (fun l => c_X3_advance (fun _ h9 => hm _ (id_st (by decide) h9)) hs) cv_X3_advance mw_641 mw_642 mw_640 (hm _ (id_st (by decide) (by decide))) cl3 (by show rS Λ ad O _ _ _ = _; rw [rS_st Λ ad O (by decide)]; exact (st_0 _ _ _ _)) rfl rfl (Nat.le_of_ble_eq_true rfl) (by decide) rfl rfl (Nat.le_of_ble_eq_true rfl) (Nat.le_of_ble_eq_true rfl) dX5_bestSlope_82 ?_
        intro c9 hs
        refine G_aload_n hO 0 dX5_bestSlope_85 rfl rfl ?_
        refine M_getf hO (rS_gl Λ ad O) (v := .ref (ad 1 0)) cl5 3 (hm _ (id_gl (by decide))) (gl_0 _ _ _) (by decide) mw_180 rfl rfl dX5_bestSlope_86 ?_
        refine KV_Gri hO (rest := []) [] (rS_st Λ ad O (by decide)) (fun l => c_X3_allComfort (fun _ h9 => hm _ (id_st (by decide) h9)) hs) cv_X3_allComfort mw_452 mw_453 mw_451 (hm _ (id_st (by decide) (by decide))) cl3 (by show rS Λ ad O _ _ _ = _; rw [rS_st Λ ad O (by decide)]; exact (st_0 _ _ _ _)) rfl rfl (Nat.le_of_ble_eq_true rfl) (by decide) rfl rfl (Nat.le_of_ble_eq_true rfl) (Nat.le_of_ble_eq_true rfl) dX5_bestSlope_89 ?_
        intro r10 c11 hs
        refine G_istore hO [(5, .int r10), (0, .ref (ad 20 0)), (1, .int a1), (2, .int v2), (3, .int v3), (4, .int v4)] dX5_bestSlope_92 (by decide) rfl ?_
        refine G_iload hO 0 dX5_bestSlope_94 rfl ?_
        refine G_iload_n hO 4 dX5_bestSlope_96 rfl rfl ?_
        refine G_icmp_le hO 106 dX5_bestSlope_97 (by decide) (fun h12 => ?_) (fun h12 => ?_)
        · replace hs := hs.1 h12
          refine G_iinc hO 5 (v4 + 1) [(4, .int (v4 + 1)), (5, .int r10), (0, .ref (ad 20 0)), (1, .int a1), (2, .int v2), (3, .int v3)] dX5_bestSlope_106 rfl rfl (by decide) rfl ?_
          refine G_goto hO 47 dX5_bestSlope_109 (by decide) ?_
          refine G_lv hO [(0, .ref (ad 20 0)), (1, .int a1), (2, .int v2), (3, .int v3), (4, .int (v4 + 1))] [2, 3, 4, 5, 0] rfl ?_
          exact ih47 _ _ _ _ hs
        · replace hs := hs.2 h12
          refine G_iload hO 0 dX5_bestSlope_100 rfl ?_
          refine G_istore_n hO [(3, .int r10), (5, .int r10), (0, .ref (ad 20 0)), (1, .int a1), (2, .int v2), (4, .int v4)] dX5_bestSlope_102 rfl (by decide) rfl ?_
          refine G_iload hO 5 dX5_bestSlope_103 rfl ?_
          refine G_istore_n hO [(2, .int v4), (3, .int r10), (5, .int r10), (0, .ref (ad 20 0)), (1, .int a1), (4, .int v4)] dX5_bestSlope_105 rfl (by decide) rfl ?_
          refine G_iinc hO 5 (v4 + 1) [(4, .int (v4 + 1)), (2, .int v4), (3, .int r10), (5, .int r10), (0, .ref (ad 20 0)), (1, .int a1)] dX5_bestSlope_106 rfl rfl (by decide) rfl ?_
          refine G_goto hO 47 dX5_bestSlope_109 (by decide) ?_
          refine G_lv hO [(0, .ref (ad 20 0)), (1, .int a1), (2, .int v4), (3, .int r10), (4, .int (v4 + 1))] [4, 5, 1, 2, 0] rfl ?_
          exact ih47 _ _ _ _ hs
  unfold wX5_bestSlope at hs
  refine G_iload_n hO 1 dX5_bestSlope_0 rfl rfl ?_
  refine G_iconst hO 1 dX5_bestSlope_1 (by decide) ?_
  refine G_icmp_lt hO 12 dX5_bestSlope_2 (by decide) (fun h5 => ?_) (fun h5 => ?_)
  · replace hs := hs.1 h5
    exact G_throwW_IAE hO (text := "minutes are 1 to 240") hX hF rfl mw_455 (by decide) mw_11 (by decide +kernel) dX5_bestSlope_12 dX5_bestSlope_15 dX5_bestSlope_16 dX5_bestSlope_19 dX5_bestSlope_22 (Nat.le_of_ble_eq_true rfl) (Nat.le_of_ble_eq_true rfl) (Nat.le_of_ble_eq_true rfl) (Nat.le_of_ble_eq_true rfl) (Nat.le_of_ble_eq_true rfl) (Nat.le_of_ble_eq_true rfl) ⟨rfl, rfl, _, rfl, hs⟩
  · replace hs := hs.2 h5
    refine G_iload_n hO 1 dX5_bestSlope_5 rfl rfl ?_
    refine G_sipush hO 240 dX5_bestSlope_6 (by decide) ?_
    refine G_icmp_le hO 23 dX5_bestSlope_9 (by decide) (fun h4 => ?_) (fun h4 => ?_)
    · replace hs := hs.1 h4
      refine G_aload_n hO 0 dX5_bestSlope_23 rfl rfl ?_
      refine M_getf hO (rS_gl Λ ad O) (v := .ref (ad 0 0)) cl5 2 (hm _ (id_gl (by decide))) (gl_0 _ _ _) (by decide) mw_179 rfl rfl dX5_bestSlope_24 ?_
      refine M_getf hO (rS_st Λ ad O (by decide)) (v := .int (M 0 0 8)) cl3 8 (hm _ (id_st (by decide) (by decide))) (st_0 _ _ _ _) (by decide) mw_123 rfl rfl dX5_bestSlope_27 ?_
      refine G_if_ne hO 36 dX5_bestSlope_30 (by decide) (fun h3 => ?_) (fun h3 => ?_)
      · replace hs := hs.1 h3
        refine G_ldc hO mw_716 dX5_bestSlope_36 ?_
        refine G_istore_n hO [(2, .int (-99999)), (0, .ref (ad 20 0)), (1, .int a1)] dX5_bestSlope_38 rfl (by decide) rfl ?_
        refine G_iconst hO (-1) dX5_bestSlope_39 (by decide) ?_
        refine G_istore_n hO [(3, .int (-1)), (2, .int (-99999)), (0, .ref (ad 20 0)), (1, .int a1)] dX5_bestSlope_40 rfl (by decide) rfl ?_
        refine G_iconst hO 4 dX5_bestSlope_41 (by decide) ?_
        refine KS_Ni hO (rest := []) [.int 4] (fun l => c_X5_lowestSetting hs) cv_X5_lowestSetting mw_248 mw_614 rfl rfl (Nat.le_of_ble_eq_true rfl) (by decide) rfl rfl (Nat.le_of_ble_eq_true rfl) (Nat.le_of_ble_eq_true rfl) dX5_bestSlope_42 ?_
        intro r1 hs
        refine G_istore hO [(4, .int r1), (3, .int (-1)), (2, .int (-99999)), (0, .ref (ad 20 0)), (1, .int a1)] dX5_bestSlope_45 (by decide) rfl ?_
        obtain ⟨Nf2, hs⟩ := hs
        refine G_lv hO [(0, .ref (ad 20 0)), (1, .int a1), (2, .int (-99999)), (3, .int (-1)), (4, .int r1)] [3, 4, 2, 1, 0] rfl ?_
        exact b47 Nf2 _ _ _ _ hs
      · replace hs := hs.2 h3
        refine G_ldc hO mw_716 dX5_bestSlope_33 ?_
        exact G_iretX hO hF rfl (Nat.le_of_ble_eq_true rfl) (Nat.le_of_ble_eq_true rfl) dX5_bestSlope_35 ⟨rfl, rfl, _, _, rfl, rfl, hs⟩
    · replace hs := hs.2 h4
      exact G_throwW_IAE hO (text := "minutes are 1 to 240") hX hF rfl mw_455 (by decide) mw_11 (by decide +kernel) dX5_bestSlope_12 dX5_bestSlope_15 dX5_bestSlope_16 dX5_bestSlope_19 dX5_bestSlope_22 (Nat.le_of_ble_eq_true rfl) (Nat.le_of_ble_eq_true rfl) (Nat.le_of_ble_eq_true rfl) (Nat.le_of_ble_eq_true rfl) (Nat.le_of_ble_eq_true rfl) (Nat.le_of_ble_eq_true rfl) ⟨rfl, rfl, _, rfl, hs⟩
set_option maxHeartbeats 4000000 in
set_option maxRecDepth 20000 in
theorem c_X5_leastPower {l : Launch} {Λ : Lay} {B : Zn} {ids : List (Nat × Nat)} {ad : Nat → Nat → Nat} (hm : ∀ q, q ∈ ids0 → q ∈ ids) {a1 : Int32} {M : Mem} {O : Nat → Int64} {P : Int32 → Mem → Prop} {X : String → Mem → Prop} (hs : wX5_leastPower a1 M P X) (hst : l.stackTraces = false) : CX l yX5_leastPower cX5_leastPower 3 (some .int) { frames := 6, cells := 1, slots := 6, locals := 132 } Λ B ids ad (sh Λ ad M O) [.ref (ad 20 0), .int a1] (Gi Λ ids ad O P) (Xg Λ ids ad O X) := by
  refine CX.of hst RX5 [(0, .ref (ad 20 0)), (1, .int a1)] (by decide +kernel) rfl (Nat.le_of_ble_eq_true rfl) rfl (fun Γ hO hX hF => ?_)
  have b27 : ∀ (N27 : Nat) (v2 : Int32) (M : Mem), wX5_leastPower_L27 a1 P X N27 v2 M → G Γ ids ad 0 0 (sh Λ ad M O) 27 [(0, .ref (ad 20 0)), (1, .int a1), (2, .int v2)] [] := by
    intro N27
    induction N27 with
    | zero => intro v2 M hs; exact False.elim hs
    | succ N27 ih27 =>
      intro v2 M hs
      unfold wX5_leastPower_L27 at hs
      refine G_iload_n hO 2 dX5_leastPower_27 rfl rfl ?_
      refine G_iconst hO 0 dX5_leastPower_28 (by decide) ?_
      refine KS_Ni hO (rest := [.int v2]) [.int 0] (fun l => c_X5_highestSetting hs) cv_X5_highestSetting mw_253 mw_615 rfl rfl (Nat.le_of_ble_eq_true rfl) (by decide) rfl rfl (Nat.le_of_ble_eq_true rfl) (Nat.le_of_ble_eq_true rfl) dX5_leastPower_29 ?_
      intro r5 hs
      refine G_icmp_gt hO 74 dX5_leastPower_32 (by decide) (fun h11 => ?_) (fun h11 => ?_)
      · replace hs := hs.1 h11
        refine G_ldc hO mw_716 dX5_leastPower_74 ?_
        exact G_iretX hO hF rfl (Nat.le_of_ble_eq_true rfl) (Nat.le_of_ble_eq_true rfl) dX5_leastPower_76 ⟨rfl, rfl, _, _, rfl, rfl, hs⟩
      · replace hs := hs.2 h11
        refine G_aload_n hO 0 dX5_leastPower_35 rfl rfl ?_
        refine M_getf hO (rS_gl Λ ad O) (v := .ref (ad 1 0)) cl5 3 (hm _ (id_gl (by decide))) (gl_0 _ _ _) (by decide) mw_180 rfl rfl dX5_leastPower_36 ?_
        refine G_aload_n hO 0 dX5_leastPower_39 rfl rfl ?_
        refine M_getf hO (rS_gl Λ ad O) (v := .ref (ad 0 0)) cl5 2 (hm _ (id_gl (by decide))) (gl_0 _ _ _) (by decide) mw_179 rfl rfl dX5_leastPower_40 ?_
        refine KV_Grv hO (rest := []) [.ref (ad 0 0)] (rS_st Λ ad O (by decide)) (fun l => c_X3_copyFrom (fun _ h9 => hm _ (id_st (by decide) h9)) (by decide) (fun _ h9 => hm _ (id_st (by decide) h9)) (sh_st (by decide)) hs) cv_X3_copyFrom mw_370 mw_371 mw_369 (hm _ (id_st (by decide) (by decide))) cl3 (by show rS Λ ad O _ _ _ = _; rw [rS_st Λ ad O (by decide)]; exact (st_0 _ _ _ _)) rfl rfl (Nat.le_of_ble_eq_true rfl) (by decide) rfl rfl (Nat.le_of_ble_eq_true rfl) (Nat.le_of_ble_eq_true rfl) dX5_leastPower_43 ?_
        intro c6 hs
        refine G_aload_n hO 0 dX5_leastPower_46 rfl rfl ?_
        refine M_getf hO (rS_gl Λ ad O) (v := .ref (ad 1 0)) cl5 3 (hm _ (id_gl (by decide))) (gl_0 _ _ _) (by decide) mw_180 rfl rfl dX5_leastPower_47 ?_
        refine G_iconst hO 0 dX5_leastPower_50 (by decide) ?_
        refine G_iload_n hO 2 dX5_leastPower_51 rfl rfl ?_
        refine KV_Grv hO (rest := []) [.int 0, .int v2] (rS_st Λ ad O (by decide)) (fun l => c_X3_changeSetting (fun _ h9 => hm _ (id_st (by decide) h9)) hs) cv_X3_changeSetting mw_262 mw_263 mw_617 (hm _ (id_st (by decide) (by decide))) cl3 (by show rS Λ ad O _ _ _ = _; rw [rS_st Λ ad O (by decide)]; exact (st_0 _ _ _ _)) rfl rfl (Nat.le_of_ble_eq_true rfl) (by decide) rfl rfl (Nat.le_of_ble_eq_true rfl) (Nat.le_of_ble_eq_true rfl) dX5_leastPower_52 ?_
        intro c7 hs
        refine G_aload_n hO 0 dX5_leastPower_55 rfl rfl ?_
        refine M_getf hO (rS_gl Λ ad O) (v := .ref (ad 1 0)) cl5 3 (hm _ (id_gl (by decide))) (gl_0 _ _ _) (by decide) mw_180 rfl rfl dX5_leastPower_56 ?_
        refine G_iload_n hO 1 dX5_leastPower_59 rfl rfl ?_
        refine KS_Gi hO (rest := []) [.ref (ad 1 0), .int a1] (fun l => c_X5_allRoomsGetWarm hm hs) cv_X5_allRoomsGetWarm mw_733 mw_732 rfl rfl (Nat.le_of_ble_eq_true rfl) (by decide) rfl rfl (Nat.le_of_ble_eq_true rfl) (Nat.le_of_ble_eq_true rfl) dX5_leastPower_60 ?_
        intro r8 M9 hs
        refine G_if_eq hO 68 dX5_leastPower_63 (by decide) (fun h10 => ?_) (fun h10 => ?_)
        · replace hs := hs.1 h10
          refine G_iinc hO 2 (v2 + 10) [(2, .int (v2 + 10)), (0, .ref (ad 20 0)), (1, .int a1)] dX5_leastPower_68 rfl rfl (by decide) rfl ?_
          refine G_goto hO 27 dX5_leastPower_71 (by decide) ?_
          refine G_lv hO [(0, .ref (ad 20 0)), (1, .int a1), (2, .int (v2 + 10))] [1, 2, 0] rfl ?_
          exact ih27 _ _ hs
        · replace hs := hs.2 h10
          refine G_iload_n hO 2 dX5_leastPower_66 rfl rfl ?_
          exact G_iretX hO hF rfl (Nat.le_of_ble_eq_true rfl) (Nat.le_of_ble_eq_true rfl) dX5_leastPower_67 ⟨rfl, rfl, _, _, rfl, rfl, hs⟩
  unfold wX5_leastPower at hs
  refine G_iload_n hO 1 dX5_leastPower_0 rfl rfl ?_
  refine G_if_lt hO 11 dX5_leastPower_1 (by decide) (fun h4 => ?_) (fun h4 => ?_)
  · replace hs := hs.1 h4
    exact G_throwW_IAE hO (text := "minutes are 0 to 240") hX hF rfl mw_455 (by decide) mw_11 (by decide +kernel) dX5_leastPower_11 dX5_leastPower_14 dX5_leastPower_15 dX5_leastPower_18 dX5_leastPower_21 (Nat.le_of_ble_eq_true rfl) (Nat.le_of_ble_eq_true rfl) (Nat.le_of_ble_eq_true rfl) (Nat.le_of_ble_eq_true rfl) (Nat.le_of_ble_eq_true rfl) (Nat.le_of_ble_eq_true rfl) ⟨rfl, rfl, _, rfl, hs⟩
  · replace hs := hs.2 h4
    refine G_iload_n hO 1 dX5_leastPower_4 rfl rfl ?_
    refine G_sipush hO 240 dX5_leastPower_5 (by decide) ?_
    refine G_icmp_le hO 22 dX5_leastPower_8 (by decide) (fun h3 => ?_) (fun h3 => ?_)
    · replace hs := hs.1 h3
      refine G_iconst hO 0 dX5_leastPower_22 (by decide) ?_
      refine KS_Ni hO (rest := []) [.int 0] (fun l => c_X5_lowestSetting hs) cv_X5_lowestSetting mw_248 mw_614 rfl rfl (Nat.le_of_ble_eq_true rfl) (by decide) rfl rfl (Nat.le_of_ble_eq_true rfl) (Nat.le_of_ble_eq_true rfl) dX5_leastPower_23 ?_
      intro r1 hs
      refine G_istore_n hO [(2, .int r1), (0, .ref (ad 20 0)), (1, .int a1)] dX5_leastPower_26 rfl (by decide) rfl ?_
      obtain ⟨Nf2, hs⟩ := hs
      refine G_lv hO [(0, .ref (ad 20 0)), (1, .int a1), (2, .int r1)] [1, 2, 0] rfl ?_
      exact b27 Nf2 _ _ hs
    · replace hs := hs.2 h3
      exact G_throwW_IAE hO (text := "minutes are 0 to 240") hX hF rfl mw_455 (by decide) mw_11 (by decide +kernel) dX5_leastPower_11 dX5_leastPower_14 dX5_leastPower_15 dX5_leastPower_18 dX5_leastPower_21 (Nat.le_of_ble_eq_true rfl) (Nat.le_of_ble_eq_true rfl) (Nat.le_of_ble_eq_true rfl) (Nat.le_of_ble_eq_true rfl) (Nat.le_of_ble_eq_true rfl) (Nat.le_of_ble_eq_true rfl) ⟨rfl, rfl, _, rfl, hs⟩
set_option maxHeartbeats 4000000 in
set_option maxRecDepth 20000 in
theorem c_X5_heatFor {l : Launch} {Λ : Lay} {B : Zn} {ids : List (Nat × Nat)} {ad : Nat → Nat → Nat} (hm : ∀ q, q ∈ ids0 → q ∈ ids) {a1 : Int32} {M : Mem} {O : Nat → Int64} {P : Int32 → Mem → Prop} {X : String → Mem → Prop} (hs : wX5_heatFor a1 M P X) (hst : l.stackTraces = false) : CX l yX5_heatFor cX5_heatFor 2 (some .int) { frames := 6, cells := 1, slots := 6, locals := 108 } Λ B ids ad (sh Λ ad M O) [.ref (ad 20 0), .int a1] (Gi Λ ids ad O P) (Xg Λ ids ad O X) := by
  refine CX.of hst RX5 [(0, .ref (ad 20 0)), (1, .int a1)] (by decide +kernel) rfl (Nat.le_of_ble_eq_true rfl) rfl (fun Γ hO hX hF => ?_)
  unfold wX5_heatFor at hs
  refine G_iload_n hO 1 dX5_heatFor_0 rfl rfl ?_
  refine G_if_lt hO 11 dX5_heatFor_1 (by decide) (fun h8 => ?_) (fun h8 => ?_)
  · replace hs := hs.1 h8
    exact G_throwW_IAE hO (text := "minutes are 0 to 240") hX hF rfl mw_455 (by decide) mw_11 (by decide +kernel) dX5_heatFor_11 dX5_heatFor_14 dX5_heatFor_15 dX5_heatFor_18 dX5_heatFor_21 (Nat.le_of_ble_eq_true rfl) (Nat.le_of_ble_eq_true rfl) (Nat.le_of_ble_eq_true rfl) (Nat.le_of_ble_eq_true rfl) (Nat.le_of_ble_eq_true rfl) (Nat.le_of_ble_eq_true rfl) ⟨rfl, rfl, _, rfl, hs⟩
  · replace hs := hs.2 h8
    refine G_iload_n hO 1 dX5_heatFor_4 rfl rfl ?_
    refine G_sipush hO 240 dX5_heatFor_5 (by decide) ?_
    refine G_icmp_le hO 22 dX5_heatFor_8 (by decide) (fun h7 => ?_) (fun h7 => ?_)
    · replace hs := hs.1 h7
      refine G_aload_n hO 0 dX5_heatFor_22 rfl rfl ?_
      refine M_getf hO (rS_gl Λ ad O) (v := .ref (ad 1 0)) cl5 3 (hm _ (id_gl (by decide))) (gl_0 _ _ _) (by decide) mw_180 rfl rfl dX5_heatFor_23 ?_
      refine G_aload_n hO 0 dX5_heatFor_26 rfl rfl ?_
      refine M_getf hO (rS_gl Λ ad O) (v := .ref (ad 0 0)) cl5 2 (hm _ (id_gl (by decide))) (gl_0 _ _ _) (by decide) mw_179 rfl rfl dX5_heatFor_27 ?_
      refine KV_Grv hO (rest := []) [.ref (ad 0 0)] (rS_st Λ ad O (by decide)) (fun l => c_X3_copyFrom (fun _ h9 => hm _ (id_st (by decide) h9)) (by decide) (fun _ h9 => hm _ (id_st (by decide) h9)) (sh_st (by decide)) hs) cv_X3_copyFrom mw_370 mw_371 mw_369 (hm _ (id_st (by decide) (by decide))) cl3 (by show rS Λ ad O _ _ _ = _; rw [rS_st Λ ad O (by decide)]; exact (st_0 _ _ _ _)) rfl rfl (Nat.le_of_ble_eq_true rfl) (by decide) rfl rfl (Nat.le_of_ble_eq_true rfl) (Nat.le_of_ble_eq_true rfl) dX5_heatFor_30 ?_
      intro c1 hs
      refine G_aload_n hO 0 dX5_heatFor_33 rfl rfl ?_
      refine M_getf hO (rS_gl Λ ad O) (v := .ref (ad 1 0)) cl5 3 (hm _ (id_gl (by decide))) (gl_0 _ _ _) (by decide) mw_180 rfl rfl dX5_heatFor_34 ?_
      refine G_iload_n hO 1 dX5_heatFor_37 rfl rfl ?_
      refine KV_Grv hO (rest := []) [.int a1] (rS_st Λ ad O (by decide)) (fun l => c_X3_advance (fun _ h9 => hm _ (id_st (by decide) h9)) hs) cv_X3_advance mw_641 mw_642 mw_640 (hm _ (id_st (by decide) (by decide))) cl3 (by show rS Λ ad O _ _ _ = _; rw [rS_st Λ ad O (by decide)]; exact (st_0 _ _ _ _)) rfl rfl (Nat.le_of_ble_eq_true rfl) (by decide) rfl rfl (Nat.le_of_ble_eq_true rfl) (Nat.le_of_ble_eq_true rfl) dX5_heatFor_38 ?_
      intro c2 hs
      refine G_aload_n hO 0 dX5_heatFor_41 rfl rfl ?_
      refine M_getf hO (rS_gl Λ ad O) (v := .ref (ad 1 0)) cl5 3 (hm _ (id_gl (by decide))) (gl_0 _ _ _) (by decide) mw_180 rfl rfl dX5_heatFor_42 ?_
      refine KV_Gri hO (rest := []) [] (rS_st Λ ad O (by decide)) (fun l => c_X3_heatMade (fun _ h9 => hm _ (id_st (by decide) h9)) hs) cv_X3_heatMade mw_748 mw_749 mw_747 (hm _ (id_st (by decide) (by decide))) cl3 (by show rS Λ ad O _ _ _ = _; rw [rS_st Λ ad O (by decide)]; exact (st_0 _ _ _ _)) rfl rfl (Nat.le_of_ble_eq_true rfl) (by decide) rfl rfl (Nat.le_of_ble_eq_true rfl) (Nat.le_of_ble_eq_true rfl) dX5_heatFor_45 ?_
      intro r3 c4 hs
      refine G_aload_n hO 0 dX5_heatFor_48 rfl rfl ?_
      refine M_getf hO (rS_gl Λ ad O) (v := .ref (ad 0 0)) cl5 2 (hm _ (id_gl (by decide))) (gl_0 _ _ _) (by decide) mw_179 rfl rfl dX5_heatFor_49 ?_
      refine KV_Gri hO (rest := [.int r3]) [] (rS_st Λ ad O (by decide)) (fun l => c_X3_heatMade (fun _ h9 => hm _ (id_st (by decide) h9)) hs) cv_X3_heatMade mw_748 mw_749 mw_747 (hm _ (id_st (by decide) (by decide))) cl3 (by show rS Λ ad O _ _ _ = _; rw [rS_st Λ ad O (by decide)]; exact (st_0 _ _ _ _)) rfl rfl (Nat.le_of_ble_eq_true rfl) (by decide) rfl rfl (Nat.le_of_ble_eq_true rfl) (Nat.le_of_ble_eq_true rfl) dX5_heatFor_52 ?_
      intro r5 c6 hs
      refine G_isub hO dX5_heatFor_55 ?_
      exact G_iretX hO hF rfl (Nat.le_of_ble_eq_true rfl) (Nat.le_of_ble_eq_true rfl) dX5_heatFor_56 ⟨rfl, rfl, _, _, rfl, rfl, hs⟩
    · replace hs := hs.2 h7
      exact G_throwW_IAE hO (text := "minutes are 0 to 240") hX hF rfl mw_455 (by decide) mw_11 (by decide +kernel) dX5_heatFor_11 dX5_heatFor_14 dX5_heatFor_15 dX5_heatFor_18 dX5_heatFor_21 (Nat.le_of_ble_eq_true rfl) (Nat.le_of_ble_eq_true rfl) (Nat.le_of_ble_eq_true rfl) (Nat.le_of_ble_eq_true rfl) (Nat.le_of_ble_eq_true rfl) (Nat.le_of_ble_eq_true rfl) ⟨rfl, rfl, _, rfl, hs⟩
set_option maxHeartbeats 4000000 in
set_option maxRecDepth 20000 in
theorem c_X5_runScript {l : Launch} {Λ : Lay} {B : Zn} {ids : List (Nat × Nat)} {ad : Nat → Nat → Nat} (hm : ∀ q, q ∈ ids0 → q ∈ ids) {a1 : Int32} {a2 : Int64} {M : Mem} {O : Nat → Int64} {P : Int32 → Mem → Prop} {X : String → Mem → Prop} (hs : wX5_runScript a1 a2 M P X) (hst : l.stackTraces = false) : CX l yX5_runScript cX5_runScript 5 (some .int) { frames := 6, cells := 1, slots := 6, locals := 132 } Λ B ids ad (sh Λ ad M O) [.ref (ad 20 0), .int a1, .long a2] (Gi Λ ids ad O P) (Xg Λ ids ad O X) := by
  refine CX.of hst RX5 [(0, .ref (ad 20 0)), (1, .int a1), (2, .long a2)] (by decide +kernel) rfl (Nat.le_of_ble_eq_true rfl) rfl (fun Γ hO hX hF => ?_)
  have b61 : ∀ (N61 : Nat) (v4 : Int32) (M : Mem), wX5_runScript_L61 a1 a2 P X N61 v4 M → G Γ ids ad 0 0 (sh Λ ad M O) 61 [(0, .ref (ad 20 0)), (1, .int a1), (2, .long a2), (4, .int v4)] [] := by
    intro N61
    induction N61 with
    | zero => intro v4 M hs; exact False.elim hs
    | succ N61 ih61 =>
      intro v4 M hs
      unfold wX5_runScript_L61 at hs
      refine G_iload hO 3 dX5_runScript_61 rfl ?_
      refine G_iload_n hO 1 dX5_runScript_63 rfl rfl ?_
      refine G_icmp_ge hO 93 dX5_runScript_64 (by decide) (fun h12 => ?_) (fun h12 => ?_)
      · replace hs := hs.1 h12
        refine G_ldc hO mw_716 dX5_runScript_93 ?_
        exact G_iretX hO hF rfl (Nat.le_of_ble_eq_true rfl) (Nat.le_of_ble_eq_true rfl) dX5_runScript_95 ⟨rfl, rfl, _, _, rfl, rfl, hs⟩
      · replace hs := hs.2 h12
        refine G_aload_n hO 0 dX5_runScript_67 rfl rfl ?_
        refine M_getf hO (rS_gl Λ ad O) (v := .ref (ad 1 0)) cl5 3 (hm _ (id_gl (by decide))) (gl_0 _ _ _) (by decide) mw_180 rfl rfl dX5_runScript_68 ?_
        refine G_iload_n hO 1 dX5_runScript_71 rfl rfl ?_
        refine G_lload_n hO 2 dX5_runScript_72 rfl rfl ?_
        refine G_iload hO 3 dX5_runScript_73 rfl ?_
        refine KS_Ni hO (rest := [.ref (ad 1 0)]) [.int a1, .long a2, .int v4] (fun l => c_X5_groupAt hs) cv_X5_groupAt mw_766 mw_765 rfl rfl (Nat.le_of_ble_eq_true rfl) (by decide) rfl rfl (Nat.le_of_ble_eq_true rfl) (Nat.le_of_ble_eq_true rfl) dX5_runScript_75 ?_
        intro r8 hs
        refine KS_Gi hO (rest := []) [.ref (ad 1 0), .int r8] (fun l => c_X5_commandSucceeds hm hs) cv_X5_commandSucceeds mw_769 mw_768 rfl rfl (Nat.le_of_ble_eq_true rfl) (by decide) rfl rfl (Nat.le_of_ble_eq_true rfl) (Nat.le_of_ble_eq_true rfl) dX5_runScript_78 ?_
        intro r9 M10 hs
        refine G_if_ne hO 87 dX5_runScript_81 (by decide) (fun h11 => ?_) (fun h11 => ?_)
        · replace hs := hs.1 h11
          refine G_iinc hO 3 (v4 + 1) [(4, .int (v4 + 1)), (0, .ref (ad 20 0)), (1, .int a1), (2, .long a2)] dX5_runScript_87 rfl rfl (by decide) rfl ?_
          refine G_goto hO 61 dX5_runScript_90 (by decide) ?_
          refine G_lv hO [(0, .ref (ad 20 0)), (1, .int a1), (2, .long a2), (4, .int (v4 + 1))] [1, 2, 3, 0] rfl ?_
          exact ih61 _ _ hs
        · replace hs := hs.2 h11
          refine G_iload hO 3 dX5_runScript_84 rfl ?_
          exact G_iretX hO hF rfl (Nat.le_of_ble_eq_true rfl) (Nat.le_of_ble_eq_true rfl) dX5_runScript_86 ⟨rfl, rfl, _, _, rfl, rfl, hs⟩
  unfold wX5_runScript at hs
  refine G_iload_n hO 1 dX5_runScript_0 rfl rfl ?_
  refine G_iconst hO 1 dX5_runScript_1 (by decide) ?_
  refine G_icmp_lt hO 10 dX5_runScript_2 (by decide) (fun h7 => ?_) (fun h7 => ?_)
  · replace hs := hs.1 h7
    exact G_throwW_IAE hO (text := "a script has 1 to 4 commands") hX hF rfl mw_455 (by decide) mw_11 (by decide +kernel) dX5_runScript_10 dX5_runScript_13 dX5_runScript_14 dX5_runScript_17 dX5_runScript_20 (Nat.le_of_ble_eq_true rfl) (Nat.le_of_ble_eq_true rfl) (Nat.le_of_ble_eq_true rfl) (Nat.le_of_ble_eq_true rfl) (Nat.le_of_ble_eq_true rfl) (Nat.le_of_ble_eq_true rfl) ⟨rfl, rfl, _, rfl, hs⟩
  · replace hs := hs.2 h7
    refine G_iload_n hO 1 dX5_runScript_5 rfl rfl ?_
    refine G_iconst hO 4 dX5_runScript_6 (by decide) ?_
    refine G_icmp_le hO 21 dX5_runScript_7 (by decide) (fun h6 => ?_) (fun h6 => ?_)
    · replace hs := hs.1 h6
      refine G_lload_n hO 2 dX5_runScript_21 rfl rfl ?_
      refine G_lconst hO 0 dX5_runScript_22 (by decide) ?_
      refine G_lcmp hO dX5_runScript_23 ?_
      refine G_if_lt hO 36 dX5_runScript_24 (by decide) (fun h5 => ?_) (fun h5 => ?_)
      · replace hs := hs.1 h5
        exact G_throwW_IAE hO (text := "the script does not have 4 digits for each command") hX hF rfl mw_455 (by decide) mw_11 (by decide +kernel) dX5_runScript_36 dX5_runScript_39 dX5_runScript_40 dX5_runScript_43 dX5_runScript_46 (Nat.le_of_ble_eq_true rfl) (Nat.le_of_ble_eq_true rfl) (Nat.le_of_ble_eq_true rfl) (Nat.le_of_ble_eq_true rfl) (Nat.le_of_ble_eq_true rfl) (Nat.le_of_ble_eq_true rfl) ⟨rfl, rfl, _, rfl, hs⟩
      · replace hs := hs.2 h5
        refine G_lload_n hO 2 dX5_runScript_27 rfl rfl ?_
        refine G_iload_n hO 1 dX5_runScript_28 rfl rfl ?_
        refine KS_Nl hO (rest := [.long a2]) [.int a1] (fun l => c_X5_longestScript hs) cv_X5_longestScript mw_761 mw_760 rfl rfl (Nat.le_of_ble_eq_true rfl) (by decide) rfl rfl (Nat.le_of_ble_eq_true rfl) (Nat.le_of_ble_eq_true rfl) dX5_runScript_29 ?_
        intro r1 hs
        refine G_lcmp hO dX5_runScript_32 ?_
        refine G_if_le hO 47 dX5_runScript_33 (by decide) (fun h4 => ?_) (fun h4 => ?_)
        · replace hs := hs.1 h4
          refine G_aload_n hO 0 dX5_runScript_47 rfl rfl ?_
          refine M_getf hO (rS_gl Λ ad O) (v := .ref (ad 1 0)) cl5 3 (hm _ (id_gl (by decide))) (gl_0 _ _ _) (by decide) mw_180 rfl rfl dX5_runScript_48 ?_
          refine G_aload_n hO 0 dX5_runScript_51 rfl rfl ?_
          refine M_getf hO (rS_gl Λ ad O) (v := .ref (ad 0 0)) cl5 2 (hm _ (id_gl (by decide))) (gl_0 _ _ _) (by decide) mw_179 rfl rfl dX5_runScript_52 ?_
          refine KV_Grv hO (rest := []) [.ref (ad 0 0)] (rS_st Λ ad O (by decide)) (fun l => c_X3_copyFrom (fun _ h9 => hm _ (id_st (by decide) h9)) (by decide) (fun _ h9 => hm _ (id_st (by decide) h9)) (sh_st (by decide)) hs) cv_X3_copyFrom mw_370 mw_371 mw_369 (hm _ (id_st (by decide) (by decide))) cl3 (by show rS Λ ad O _ _ _ = _; rw [rS_st Λ ad O (by decide)]; exact (st_0 _ _ _ _)) rfl rfl (Nat.le_of_ble_eq_true rfl) (by decide) rfl rfl (Nat.le_of_ble_eq_true rfl) (Nat.le_of_ble_eq_true rfl) dX5_runScript_55 ?_
          intro c2 hs
          refine G_iconst hO 0 dX5_runScript_58 (by decide) ?_
          refine G_istore hO [(4, .int 0), (0, .ref (ad 20 0)), (1, .int a1), (2, .long a2)] dX5_runScript_59 (by decide) rfl ?_
          obtain ⟨Nf3, hs⟩ := hs
          refine G_lv hO [(0, .ref (ad 20 0)), (1, .int a1), (2, .long a2), (4, .int 0)] [1, 2, 3, 0] rfl ?_
          exact b61 Nf3 _ _ hs
        · replace hs := hs.2 h4
          exact G_throwW_IAE hO (text := "the script does not have 4 digits for each command") hX hF rfl mw_455 (by decide) mw_11 (by decide +kernel) dX5_runScript_36 dX5_runScript_39 dX5_runScript_40 dX5_runScript_43 dX5_runScript_46 (Nat.le_of_ble_eq_true rfl) (Nat.le_of_ble_eq_true rfl) (Nat.le_of_ble_eq_true rfl) (Nat.le_of_ble_eq_true rfl) (Nat.le_of_ble_eq_true rfl) (Nat.le_of_ble_eq_true rfl) ⟨rfl, rfl, _, rfl, hs⟩
    · replace hs := hs.2 h6
      exact G_throwW_IAE hO (text := "a script has 1 to 4 commands") hX hF rfl mw_455 (by decide) mw_11 (by decide +kernel) dX5_runScript_10 dX5_runScript_13 dX5_runScript_14 dX5_runScript_17 dX5_runScript_20 (Nat.le_of_ble_eq_true rfl) (Nat.le_of_ble_eq_true rfl) (Nat.le_of_ble_eq_true rfl) (Nat.le_of_ble_eq_true rfl) (Nat.le_of_ble_eq_true rfl) (Nat.le_of_ble_eq_true rfl) ⟨rfl, rfl, _, rfl, hs⟩
set_option maxHeartbeats 4000000 in
set_option maxRecDepth 20000 in
theorem c_X5_simulate {l : Launch} {Λ : Lay} {B : Zn} {ids : List (Nat × Nat)} {ad : Nat → Nat → Nat} (hm : ∀ q, q ∈ ids0 → q ∈ ids) {a1 : Int64} {a3 : Int32} {M : Mem} {O : Nat → Int64} {P : Int64 → Mem → Prop} {X : String → Mem → Prop} (hs : wX5_simulate a1 a3 M P X) (hst : l.stackTraces = false) : CX l yX5_simulate cX5_simulate 8 (some .long) { frames := 6, cells := 1, slots := 6, locals := 108 } Λ B ids ad (sh Λ ad M O) [.ref (ad 20 0), .long a1, .int a3] (Gl Λ ids ad O P) (Xg Λ ids ad O X) := by
  refine CX.of hst RX5 [(0, .ref (ad 20 0)), (1, .long a1), (3, .int a3)] (by decide +kernel) rfl (Nat.le_of_ble_eq_true rfl) rfl (fun Γ hO hX hF => ?_)
  have b39 : ∀ (N39 : Nat) (v4 : Int64) (v6 : Int32) (M : Mem), wX5_simulate_L39 a1 a3 P X N39 v4 v6 M → G Γ ids ad 0 0 (sh Λ ad M O) 39 [(0, .ref (ad 20 0)), (3, .int a3), (4, .long v4), (6, .int v6)] [] := by
    intro N39
    induction N39 with
    | zero => intro v4 v6 M hs; exact False.elim hs
    | succ N39 ih39 =>
      intro v4 v6 M hs
      unfold wX5_simulate_L39 at hs
      refine G_iload hO 3 dX5_simulate_39 rfl ?_
      refine G_iload_n hO 1 dX5_simulate_41 rfl rfl ?_
      refine G_icmp_ge hO 141 dX5_simulate_42 (by decide) (fun h20 => ?_) (fun h20 => ?_)
      · replace hs := hs.1 h20
        refine G_aload_n hO 0 dX5_simulate_141 rfl rfl ?_
        refine M_getf hO (rS_gl Λ ad O) (v := .ref (ad 1 0)) cl5 3 (hm _ (id_gl (by decide))) (gl_0 _ _ _) (by decide) mw_180 rfl rfl dX5_simulate_142 ?_
        refine KV_Gri hO (rest := []) [] (rS_st Λ ad O (by decide)) (fun l => c_X3_allComfort (fun _ h9 => hm _ (id_st (by decide) h9)) hs) cv_X3_allComfort mw_452 mw_453 mw_451 (hm _ (id_st (by decide) (by decide))) cl3 (by show rS Λ ad O _ _ _ = _; rw [rS_st Λ ad O (by decide)]; exact (st_0 _ _ _ _)) rfl rfl (Nat.le_of_ble_eq_true rfl) (by decide) rfl rfl (Nat.le_of_ble_eq_true rfl) (Nat.le_of_ble_eq_true rfl) dX5_simulate_145 ?_
        intro r5 c6 hs
        refine G_aload_n hO 0 dX5_simulate_148 rfl rfl ?_
        refine M_getf hO (rS_gl Λ ad O) (v := .ref (ad 0 0)) cl5 2 (hm _ (id_gl (by decide))) (gl_0 _ _ _) (by decide) mw_179 rfl rfl dX5_simulate_149 ?_
        refine KV_Gri hO (rest := [.int r5]) [] (rS_st Λ ad O (by decide)) (fun l => c_X3_allComfort (fun _ h9 => hm _ (id_st (by decide) h9)) hs) cv_X3_allComfort mw_452 mw_453 mw_451 (hm _ (id_st (by decide) (by decide))) cl3 (by show rS Λ ad O _ _ _ = _; rw [rS_st Λ ad O (by decide)]; exact (st_0 _ _ _ _)) rfl rfl (Nat.le_of_ble_eq_true rfl) (by decide) rfl rfl (Nat.le_of_ble_eq_true rfl) (Nat.le_of_ble_eq_true rfl) dX5_simulate_152 ?_
        intro r7 c8 hs
        refine G_isub hO dX5_simulate_155 ?_
        refine G_i2l hO dX5_simulate_156 ?_
        refine G_lstore hO [(6, .long (Int32.toInt64 (r5 - r7))), (0, .ref (ad 20 0)), (3, .int a3), (4, .long v4)] dX5_simulate_157 (by decide) rfl ?_
        refine G_ldc2 hO mw_798 dX5_simulate_159 ?_
        refine G_lload hO 0 dX5_simulate_162 rfl ?_
        refine G_lmul hO dX5_simulate_164 ?_
        refine G_aload_n hO 1 dX5_simulate_165 rfl rfl ?_
        refine M_getf hO (rS_gl Λ ad O) (v := .ref (ad 1 0)) cl5 3 (hm _ (id_gl (by decide))) (gl_0 _ _ _) (by decide) mw_180 rfl rfl dX5_simulate_166 ?_
        refine KV_Gri hO (rest := [.long (1000000 * (Int32.toInt64 (r5 - r7)))]) [] (rS_st Λ ad O (by decide)) (fun l => c_X3_heatMade (fun _ h9 => hm _ (id_st (by decide) h9)) hs) cv_X3_heatMade mw_748 mw_749 mw_747 (hm _ (id_st (by decide) (by decide))) cl3 (by show rS Λ ad O _ _ _ = _; rw [rS_st Λ ad O (by decide)]; exact (st_0 _ _ _ _)) rfl rfl (Nat.le_of_ble_eq_true rfl) (by decide) rfl rfl (Nat.le_of_ble_eq_true rfl) (Nat.le_of_ble_eq_true rfl) dX5_simulate_169 ?_
        intro r9 c10 hs
        refine G_aload_n hO 1 dX5_simulate_172 rfl rfl ?_
        refine M_getf hO (rS_gl Λ ad O) (v := .ref (ad 0 0)) cl5 2 (hm _ (id_gl (by decide))) (gl_0 _ _ _) (by decide) mw_179 rfl rfl dX5_simulate_173 ?_
        refine KV_Gri hO (rest := [.int r9, .long (1000000 * (Int32.toInt64 (r5 - r7)))]) [] (rS_st Λ ad O (by decide)) (fun l => c_X3_heatMade (fun _ h9 => hm _ (id_st (by decide) h9)) hs) cv_X3_heatMade mw_748 mw_749 mw_747 (hm _ (id_st (by decide) (by decide))) cl3 (by show rS Λ ad O _ _ _ = _; rw [rS_st Λ ad O (by decide)]; exact (st_0 _ _ _ _)) rfl rfl (Nat.le_of_ble_eq_true rfl) (by decide) rfl rfl (Nat.le_of_ble_eq_true rfl) (Nat.le_of_ble_eq_true rfl) dX5_simulate_176 ?_
        intro r11 c12 hs
        refine G_isub hO dX5_simulate_179 ?_
        refine G_i2l hO dX5_simulate_180 ?_
        refine G_ladd hO dX5_simulate_181 ?_
        exact G_lretX hO hF rfl (Nat.le_of_ble_eq_true rfl) (Nat.le_of_ble_eq_true rfl) dX5_simulate_182 ⟨rfl, rfl, _, _, rfl, rfl, hs⟩
      · replace hs := hs.2 h20
        refine G_lload hO 2 dX5_simulate_45 rfl ?_
        refine G_ldc2 hO mw_796 dX5_simulate_47 ?_
        refine G_lmul hO dX5_simulate_50 ?_
        refine G_ldc2 hO mw_797 dX5_simulate_51 ?_
        refine G_ladd hO dX5_simulate_54 ?_
        refine G_lstore hO [(4, .long ((v4 * 6364136223846793005) + 1442695040888963407)), (0, .ref (ad 20 0)), (3, .int a3), (6, .int v6)] dX5_simulate_55 (by decide) rfl ?_
        refine G_lload hO 0 dX5_simulate_57 rfl ?_
        refine G_bipush hO 33 dX5_simulate_59 (by decide) ?_
        refine G_lushr hO dX5_simulate_61 ?_
        refine G_l2i hO dX5_simulate_62 ?_
        refine G_istore hO [(7, .int (Int64.toInt32 ((Int64.toUInt64 ((v4 * 6364136223846793005) + 1442695040888963407) >>> ((Int32.toInt64 33).toUInt64 &&& Int64.toUInt64 63)).toInt64))), (4, .long ((v4 * 6364136223846793005) + 1442695040888963407)), (0, .ref (ad 20 0)), (3, .int a3), (6, .int v6)] dX5_simulate_63 (by decide) rfl ?_
        refine G_aload_n hO 2 dX5_simulate_65 rfl rfl ?_
        refine M_getf hO (rS_gl Λ ad O) (v := .ref (ad 1 0)) cl5 3 (hm _ (id_gl (by decide))) (gl_0 _ _ _) (by decide) mw_180 rfl rfl dX5_simulate_66 ?_
        refine G_iload hO 0 dX5_simulate_69 rfl ?_
        refine G_bipush hO 61 dX5_simulate_71 (by decide) ?_
        refine G_irem hO dX5_simulate_73 (by decide) ?_
        refine G_bipush hO 20 dX5_simulate_74 (by decide) ?_
        refine G_isub hO dX5_simulate_76 ?_
        refine M_putf hO (rS_st Λ ad O (by decide)) (cw_st _ _ _) cl3 1 (hm _ (id_st (by decide) (by decide))) (st_0 _ _ _ _) (by decide) mw_108 rfl rfl rfl rfl (Nat.le_of_ble_eq_true rfl) (stP (by decide)) dX5_simulate_77 ?_
        refine G_aload_n hO 2 dX5_simulate_80 rfl rfl ?_
        refine M_getf hO (rS_gl Λ ad O) (v := .ref (ad 1 0)) cl5 3 (hm _ (id_gl (by decide))) (gl_0 _ _ _) (by decide) mw_180 rfl rfl dX5_simulate_81 ?_
        refine M_getf hO (rS_st Λ ad O (by decide)) (v := .int ((va_up M 1 (cu (M 1) 0 1 (((Int64.toInt32 ((Int64.toUInt64 ((v4 * 6364136223846793005) + 1442695040888963407) >>> ((Int32.toInt64 33).toUInt64 &&& Int64.toUInt64 63)).toInt64)) - (Int64.toInt32 ((Int64.toUInt64 ((v4 * 6364136223846793005) + 1442695040888963407) >>> ((Int32.toInt64 33).toUInt64 &&& Int64.toUInt64 63)).toInt64)) / 61 * 61) - 20))) 1 0 8)) cl3 8 (hm _ (id_st (by decide) (by decide))) (st_0 _ _ _ _) (by decide) mw_123 rfl rfl dX5_simulate_84 ?_
        refine G_if_le hO 126 dX5_simulate_87 (by decide) (fun h19 => ?_) (fun h19 => ?_)
        · replace hs := hs.1 h19
          refine G_aload_n hO 2 dX5_simulate_126 rfl rfl ?_
          refine M_getf hO (rS_gl Λ ad O) (v := .ref (ad 1 0)) cl5 3 (hm _ (id_gl (by decide))) (gl_0 _ _ _) (by decide) mw_180 rfl rfl dX5_simulate_127 ?_
          refine G_bipush hO 10 dX5_simulate_130 (by decide) ?_
          refine KV_Grv hO (rest := []) [.int 10] (rS_st Λ ad O (by decide)) (fun l => c_X3_advance (fun _ h9 => hm _ (id_st (by decide) h9)) hs) cv_X3_advance mw_641 mw_642 mw_640 (hm _ (id_st (by decide) (by decide))) cl3 (by show rS Λ ad O _ _ _ = _; rw [rS_st Λ ad O (by decide)]; exact (st_0 _ _ _ _)) rfl rfl (Nat.le_of_ble_eq_true rfl) (by decide) rfl rfl (Nat.le_of_ble_eq_true rfl) (Nat.le_of_ble_eq_true rfl) dX5_simulate_132 ?_
          intro c13 hs
          refine G_iinc hO 4 (v6 + 1) [(6, .int (v6 + 1)), (7, .int (Int64.toInt32 ((Int64.toUInt64 ((v4 * 6364136223846793005) + 1442695040888963407) >>> ((Int32.toInt64 33).toUInt64 &&& Int64.toUInt64 63)).toInt64))), (4, .long ((v4 * 6364136223846793005) + 1442695040888963407)), (0, .ref (ad 20 0)), (3, .int a3)] dX5_simulate_135 rfl rfl (by decide) rfl ?_
          refine G_goto hO 39 dX5_simulate_138 (by decide) ?_
          refine G_lv hO [(0, .ref (ad 20 0)), (3, .int a3), (4, .long ((v4 * 6364136223846793005) + 1442695040888963407)), (6, .int (v6 + 1))] [3, 4, 2, 0] rfl ?_
          exact ih39 _ _ _ hs
        · replace hs := hs.2 h19
          refine G_aload_n hO 2 dX5_simulate_90 rfl rfl ?_
          refine M_getf hO (rS_gl Λ ad O) (v := .ref (ad 1 0)) cl5 3 (hm _ (id_gl (by decide))) (gl_0 _ _ _) (by decide) mw_180 rfl rfl dX5_simulate_91 ?_
          refine G_iload hO 0 dX5_simulate_94 rfl ?_
          refine G_bipush hO 64 dX5_simulate_96 (by decide) ?_
          refine G_idiv hO dX5_simulate_98 (by decide) ?_
          refine G_aload_n hO 2 dX5_simulate_99 rfl rfl ?_
          refine M_getf hO (rS_gl Λ ad O) (v := .ref (ad 1 0)) cl5 3 (hm _ (id_gl (by decide))) (gl_0 _ _ _) (by decide) mw_180 rfl rfl dX5_simulate_100 ?_
          refine M_getf hO (rS_st Λ ad O (by decide)) (v := .int ((va_up M 1 (cu (M 1) 0 1 (((Int64.toInt32 ((Int64.toUInt64 ((v4 * 6364136223846793005) + 1442695040888963407) >>> ((Int32.toInt64 33).toUInt64 &&& Int64.toUInt64 63)).toInt64)) - (Int64.toInt32 ((Int64.toUInt64 ((v4 * 6364136223846793005) + 1442695040888963407) >>> ((Int32.toInt64 33).toUInt64 &&& Int64.toUInt64 63)).toInt64)) / 61 * 61) - 20))) 1 0 8)) cl3 8 (hm _ (id_st (by decide) (by decide))) (st_0 _ _ _ _) (by decide) mw_123 rfl rfl dX5_simulate_103 ?_
          refine G_irem hO dX5_simulate_106 hs.1 ?_
          replace hs := hs.2
          refine G_iload hO 0 dX5_simulate_107 rfl ?_
          refine G_sipush hO 512 dX5_simulate_109 (by decide) ?_
          refine G_idiv hO dX5_simulate_112 (by decide) ?_
          refine G_iconst hO 4 dX5_simulate_113 (by decide) ?_
          refine G_irem hO dX5_simulate_114 (by decide) ?_
          refine G_if_ne hO 122 dX5_simulate_115 (by decide) (fun h18 => ?_) (fun h18 => ?_)
          · replace hs := hs.1 h18
            refine G_iconst hO 0 dX5_simulate_122 (by decide) ?_
            refine KV_Grv hO (rest := []) [.int (((Int64.toInt32 ((Int64.toUInt64 ((v4 * 6364136223846793005) + 1442695040888963407) >>> ((Int32.toInt64 33).toUInt64 &&& Int64.toUInt64 63)).toInt64)) / 64) - ((Int64.toInt32 ((Int64.toUInt64 ((v4 * 6364136223846793005) + 1442695040888963407) >>> ((Int32.toInt64 33).toUInt64 &&& Int64.toUInt64 63)).toInt64)) / 64) / ((va_up M 1 (cu (M 1) 0 1 (((Int64.toInt32 ((Int64.toUInt64 ((v4 * 6364136223846793005) + 1442695040888963407) >>> ((Int32.toInt64 33).toUInt64 &&& Int64.toUInt64 63)).toInt64)) - (Int64.toInt32 ((Int64.toUInt64 ((v4 * 6364136223846793005) + 1442695040888963407) >>> ((Int32.toInt64 33).toUInt64 &&& Int64.toUInt64 63)).toInt64)) / 61 * 61) - 20))) 1 0 8) * ((va_up M 1 (cu (M 1) 0 1 (((Int64.toInt32 ((Int64.toUInt64 ((v4 * 6364136223846793005) + 1442695040888963407) >>> ((Int32.toInt64 33).toUInt64 &&& Int64.toUInt64 63)).toInt64)) - (Int64.toInt32 ((Int64.toUInt64 ((v4 * 6364136223846793005) + 1442695040888963407) >>> ((Int32.toInt64 33).toUInt64 &&& Int64.toUInt64 63)).toInt64)) / 61 * 61) - 20))) 1 0 8)), .int 0] (rS_st Λ ad O (by decide)) (fun l => c_X3_turnWindow (fun _ h9 => hm _ (id_st (by decide) h9)) hs) cv_X3_turnWindow mw_781 mw_782 mw_780 (hm _ (id_st (by decide) (by decide))) cl3 (by show rS Λ ad O _ _ _ = _; rw [rS_st Λ ad O (by decide)]; exact (st_0 _ _ _ _)) rfl rfl (Nat.le_of_ble_eq_true rfl) (by decide) rfl rfl (Nat.le_of_ble_eq_true rfl) (Nat.le_of_ble_eq_true rfl) dX5_simulate_123 ?_
            intro c14 hs
            refine G_aload_n hO 2 dX5_simulate_126 rfl rfl ?_
            refine M_getf hO (rS_gl Λ ad O) (v := .ref (ad 1 0)) cl5 3 (hm _ (id_gl (by decide))) (gl_0 _ _ _) (by decide) mw_180 rfl rfl dX5_simulate_127 ?_
            refine G_bipush hO 10 dX5_simulate_130 (by decide) ?_
            refine KV_Grv hO (rest := []) [.int 10] (rS_st Λ ad O (by decide)) (fun l => c_X3_advance (fun _ h9 => hm _ (id_st (by decide) h9)) hs) cv_X3_advance mw_641 mw_642 mw_640 (hm _ (id_st (by decide) (by decide))) cl3 (by show rS Λ ad O _ _ _ = _; rw [rS_st Λ ad O (by decide)]; exact (st_0 _ _ _ _)) rfl rfl (Nat.le_of_ble_eq_true rfl) (by decide) rfl rfl (Nat.le_of_ble_eq_true rfl) (Nat.le_of_ble_eq_true rfl) dX5_simulate_132 ?_
            intro c15 hs
            refine G_iinc hO 4 (v6 + 1) [(6, .int (v6 + 1)), (7, .int (Int64.toInt32 ((Int64.toUInt64 ((v4 * 6364136223846793005) + 1442695040888963407) >>> ((Int32.toInt64 33).toUInt64 &&& Int64.toUInt64 63)).toInt64))), (4, .long ((v4 * 6364136223846793005) + 1442695040888963407)), (0, .ref (ad 20 0)), (3, .int a3)] dX5_simulate_135 rfl rfl (by decide) rfl ?_
            refine G_goto hO 39 dX5_simulate_138 (by decide) ?_
            refine G_lv hO [(0, .ref (ad 20 0)), (3, .int a3), (4, .long ((v4 * 6364136223846793005) + 1442695040888963407)), (6, .int (v6 + 1))] [3, 4, 2, 0] rfl ?_
            exact ih39 _ _ _ hs
          · replace hs := hs.2 h18
            refine G_iconst hO 1 dX5_simulate_118 (by decide) ?_
            refine G_goto hO 123 dX5_simulate_119 (by decide) ?_
            refine KV_Grv hO (rest := []) [.int (((Int64.toInt32 ((Int64.toUInt64 ((v4 * 6364136223846793005) + 1442695040888963407) >>> ((Int32.toInt64 33).toUInt64 &&& Int64.toUInt64 63)).toInt64)) / 64) - ((Int64.toInt32 ((Int64.toUInt64 ((v4 * 6364136223846793005) + 1442695040888963407) >>> ((Int32.toInt64 33).toUInt64 &&& Int64.toUInt64 63)).toInt64)) / 64) / ((va_up M 1 (cu (M 1) 0 1 (((Int64.toInt32 ((Int64.toUInt64 ((v4 * 6364136223846793005) + 1442695040888963407) >>> ((Int32.toInt64 33).toUInt64 &&& Int64.toUInt64 63)).toInt64)) - (Int64.toInt32 ((Int64.toUInt64 ((v4 * 6364136223846793005) + 1442695040888963407) >>> ((Int32.toInt64 33).toUInt64 &&& Int64.toUInt64 63)).toInt64)) / 61 * 61) - 20))) 1 0 8) * ((va_up M 1 (cu (M 1) 0 1 (((Int64.toInt32 ((Int64.toUInt64 ((v4 * 6364136223846793005) + 1442695040888963407) >>> ((Int32.toInt64 33).toUInt64 &&& Int64.toUInt64 63)).toInt64)) - (Int64.toInt32 ((Int64.toUInt64 ((v4 * 6364136223846793005) + 1442695040888963407) >>> ((Int32.toInt64 33).toUInt64 &&& Int64.toUInt64 63)).toInt64)) / 61 * 61) - 20))) 1 0 8)), .int 1] (rS_st Λ ad O (by decide)) (fun l => c_X3_turnWindow (fun _ h9 => hm _ (id_st (by decide) h9)) hs) cv_X3_turnWindow mw_781 mw_782 mw_780 (hm _ (id_st (by decide) (by decide))) cl3 (by show rS Λ ad O _ _ _ = _; rw [rS_st Λ ad O (by decide)]; exact (st_0 _ _ _ _)) rfl rfl (Nat.le_of_ble_eq_true rfl) (by decide) rfl rfl (Nat.le_of_ble_eq_true rfl) (Nat.le_of_ble_eq_true rfl) dX5_simulate_123 ?_
            intro c16 hs
            refine G_aload_n hO 2 dX5_simulate_126 rfl rfl ?_
            refine M_getf hO (rS_gl Λ ad O) (v := .ref (ad 1 0)) cl5 3 (hm _ (id_gl (by decide))) (gl_0 _ _ _) (by decide) mw_180 rfl rfl dX5_simulate_127 ?_
            refine G_bipush hO 10 dX5_simulate_130 (by decide) ?_
            refine KV_Grv hO (rest := []) [.int 10] (rS_st Λ ad O (by decide)) (fun l => c_X3_advance (fun _ h9 => hm _ (id_st (by decide) h9)) hs) cv_X3_advance mw_641 mw_642 mw_640 (hm _ (id_st (by decide) (by decide))) cl3 (by show rS Λ ad O _ _ _ = _; rw [rS_st Λ ad O (by decide)]; exact (st_0 _ _ _ _)) rfl rfl (Nat.le_of_ble_eq_true rfl) (by decide) rfl rfl (Nat.le_of_ble_eq_true rfl) (Nat.le_of_ble_eq_true rfl) dX5_simulate_132 ?_
            intro c17 hs
            refine G_iinc hO 4 (v6 + 1) [(6, .int (v6 + 1)), (7, .int (Int64.toInt32 ((Int64.toUInt64 ((v4 * 6364136223846793005) + 1442695040888963407) >>> ((Int32.toInt64 33).toUInt64 &&& Int64.toUInt64 63)).toInt64))), (4, .long ((v4 * 6364136223846793005) + 1442695040888963407)), (0, .ref (ad 20 0)), (3, .int a3)] dX5_simulate_135 rfl rfl (by decide) rfl ?_
            refine G_goto hO 39 dX5_simulate_138 (by decide) ?_
            refine G_lv hO [(0, .ref (ad 20 0)), (3, .int a3), (4, .long ((v4 * 6364136223846793005) + 1442695040888963407)), (6, .int (v6 + 1))] [3, 4, 2, 0] rfl ?_
            exact ih39 _ _ _ hs
  unfold wX5_simulate at hs
  refine G_iload_n hO 2 dX5_simulate_0 rfl rfl ?_
  refine G_iconst hO 1 dX5_simulate_1 (by decide) ?_
  refine G_icmp_lt hO 11 dX5_simulate_2 (by decide) (fun h4 => ?_) (fun h4 => ?_)
  · replace hs := hs.1 h4
    exact G_throwW_IAE hO (text := "rounds are 1 to 60") hX hF rfl mw_455 (by decide) mw_11 (by decide +kernel) dX5_simulate_11 dX5_simulate_14 dX5_simulate_15 dX5_simulate_18 dX5_simulate_21 (Nat.le_of_ble_eq_true rfl) (Nat.le_of_ble_eq_true rfl) (Nat.le_of_ble_eq_true rfl) (Nat.le_of_ble_eq_true rfl) (Nat.le_of_ble_eq_true rfl) (Nat.le_of_ble_eq_true rfl) ⟨rfl, rfl, _, rfl, hs⟩
  · replace hs := hs.2 h4
    refine G_iload_n hO 2 dX5_simulate_5 rfl rfl ?_
    refine G_bipush hO 60 dX5_simulate_6 (by decide) ?_
    refine G_icmp_le hO 22 dX5_simulate_8 (by decide) (fun h3 => ?_) (fun h3 => ?_)
    · replace hs := hs.1 h3
      refine G_aload_n hO 0 dX5_simulate_22 rfl rfl ?_
      refine M_getf hO (rS_gl Λ ad O) (v := .ref (ad 1 0)) cl5 3 (hm _ (id_gl (by decide))) (gl_0 _ _ _) (by decide) mw_180 rfl rfl dX5_simulate_23 ?_
      refine G_aload_n hO 0 dX5_simulate_26 rfl rfl ?_
      refine M_getf hO (rS_gl Λ ad O) (v := .ref (ad 0 0)) cl5 2 (hm _ (id_gl (by decide))) (gl_0 _ _ _) (by decide) mw_179 rfl rfl dX5_simulate_27 ?_
      refine KV_Grv hO (rest := []) [.ref (ad 0 0)] (rS_st Λ ad O (by decide)) (fun l => c_X3_copyFrom (fun _ h9 => hm _ (id_st (by decide) h9)) (by decide) (fun _ h9 => hm _ (id_st (by decide) h9)) (sh_st (by decide)) hs) cv_X3_copyFrom mw_370 mw_371 mw_369 (hm _ (id_st (by decide) (by decide))) cl3 (by show rS Λ ad O _ _ _ = _; rw [rS_st Λ ad O (by decide)]; exact (st_0 _ _ _ _)) rfl rfl (Nat.le_of_ble_eq_true rfl) (by decide) rfl rfl (Nat.le_of_ble_eq_true rfl) (Nat.le_of_ble_eq_true rfl) dX5_simulate_30 ?_
      intro c1 hs
      refine G_lload_n hO 1 dX5_simulate_33 rfl rfl ?_
      refine G_lstore hO [(4, .long a1), (0, .ref (ad 20 0)), (1, .long a1), (3, .int a3)] dX5_simulate_34 (by decide) rfl ?_
      refine G_iconst hO 0 dX5_simulate_36 (by decide) ?_
      refine G_istore hO [(6, .int 0), (4, .long a1), (0, .ref (ad 20 0)), (1, .long a1), (3, .int a3)] dX5_simulate_37 (by decide) rfl ?_
      obtain ⟨Nf2, hs⟩ := hs
      refine G_lv hO [(0, .ref (ad 20 0)), (3, .int a3), (4, .long a1), (6, .int 0)] [2, 4, 1, 0] rfl ?_
      exact b39 Nf2 _ _ _ hs
    · replace hs := hs.2 h3
      exact G_throwW_IAE hO (text := "rounds are 1 to 60") hX hF rfl mw_455 (by decide) mw_11 (by decide +kernel) dX5_simulate_11 dX5_simulate_14 dX5_simulate_15 dX5_simulate_18 dX5_simulate_21 (Nat.le_of_ble_eq_true rfl) (Nat.le_of_ble_eq_true rfl) (Nat.le_of_ble_eq_true rfl) (Nat.le_of_ble_eq_true rfl) (Nat.le_of_ble_eq_true rfl) (Nat.le_of_ble_eq_true rfl) ⟨rfl, rfl, _, rfl, hs⟩
set_option maxHeartbeats 4000000 in
set_option maxRecDepth 20000 in
theorem c_X5_save {l : Launch} {Λ : Lay} {B : Zn} {ids : List (Nat × Nat)} {ad : Nat → Nat → Nat} (hm : ∀ q, q ∈ ids0 → q ∈ ids) {a1 : Int32} {M : Mem} {O : Nat → Int64} {P : Int32 → Mem → Prop} {X : String → Mem → Prop} (hs : wX5_save a1 M P X) (hst : l.stackTraces = false) : CX l yX5_save cX5_save 2 (some .int) { frames := 6, cells := 1, slots := 6, locals := 91 } Λ B ids ad (sh Λ ad M O) [.ref (ad 20 0), .int a1] (Gi Λ ids ad O P) (Xg Λ ids ad O X) := by
  refine CX.of hst RX5 [(0, .ref (ad 20 0)), (1, .int a1)] (by decide +kernel) rfl (Nat.le_of_ble_eq_true rfl) rfl (fun Γ hO hX hF => ?_)
  unfold wX5_save at hs
  refine G_iload_n hO 1 dX5_save_0 rfl rfl ?_
  refine G_if_lt hO 22 dX5_save_1 (by decide) (fun h5 => ?_) (fun h5 => ?_)
  · replace hs := hs.1 h5
    exact G_throwW_IOB hO (text := "a save slot is 0 or 1") hX hF rfl mw_395 (by decide) mw_12 (by decide +kernel) dX5_save_22 dX5_save_25 dX5_save_26 dX5_save_29 dX5_save_32 (Nat.le_of_ble_eq_true rfl) (Nat.le_of_ble_eq_true rfl) (Nat.le_of_ble_eq_true rfl) (Nat.le_of_ble_eq_true rfl) (Nat.le_of_ble_eq_true rfl) (Nat.le_of_ble_eq_true rfl) ⟨rfl, rfl, _, rfl, hs⟩
  · replace hs := hs.2 h5
    refine G_iload_n hO 1 dX5_save_4 rfl rfl ?_
    refine G_aload_n hO 0 dX5_save_5 rfl rfl ?_
    refine M_getf hO (rS_gl Λ ad O) (v := .ref (ad 20 4)) cl5 5 (hm _ (id_gl (by decide))) (gl_0 _ _ _) (by decide) mw_182 rfl rfl dX5_save_6 ?_
    refine M_alen hO (rS_gl Λ ad O) (v := 2) 4 (hm _ (id_gl (by decide))) (gl_4 _ _ _) rfl rfl dX5_save_9 ?_
    refine G_icmp_ge hO 22 dX5_save_10 (by decide) (fun h4 => ?_) (fun h4 => ?_)
    · replace hs := hs.1 h4
      exact G_throwW_IOB hO (text := "a save slot is 0 or 1") hX hF rfl mw_395 (by decide) mw_12 (by decide +kernel) dX5_save_22 dX5_save_25 dX5_save_26 dX5_save_29 dX5_save_32 (Nat.le_of_ble_eq_true rfl) (Nat.le_of_ble_eq_true rfl) (Nat.le_of_ble_eq_true rfl) (Nat.le_of_ble_eq_true rfl) (Nat.le_of_ble_eq_true rfl) (Nat.le_of_ble_eq_true rfl) ⟨rfl, rfl, _, rfl, hs⟩
    · replace hs := hs.2 h4
      refine G_iload_n hO 1 dX5_save_13 rfl rfl ?_
      refine G_aload_n hO 0 dX5_save_14 rfl rfl ?_
      refine M_getf hO (rS_gl Λ ad O) (v := .ref (ad 20 5)) cl5 6 (hm _ (id_gl (by decide))) (gl_0 _ _ _) (by decide) mw_183 rfl rfl dX5_save_15 ?_
      refine M_alen hO (rS_gl Λ ad O) (v := 2) 2 (hm _ (id_gl (by decide))) (gl_5 _ _ _) rfl rfl dX5_save_18 ?_
      refine G_icmp_lt hO 33 dX5_save_19 (by decide) (fun h3 => ?_) (fun h3 => ?_)
      · replace hs := hs.1 h3
        refine G_aload_n hO 0 dX5_save_33 rfl rfl ?_
        refine M_getf hO (rS_gl Λ ad O) (v := .ref (ad 20 4)) cl5 5 (hm _ (id_gl (by decide))) (gl_0 _ _ _) (by decide) mw_182 rfl rfl dX5_save_34 ?_
        refine G_iload_n hO 1 dX5_save_37 rfl rfl ?_
        have hn1 : Int32.toNatClampNeg a1 + 16 < 18 := by have h9 := lt_in hs.1; omega
        refine M_aaldS hO (rS_gl Λ ad O) (v := .ref (ad (Int32.toNatClampNeg a1 + 16) 0)) (hm _ (id_gl (by decide))) (gl_4 _ _ _) hs.1 rfl dX5_save_38 ?_
        replace hs := hs.2
        refine G_aload_n hO 0 dX5_save_39 rfl rfl ?_
        refine M_getf hO (rS_gl Λ ad O) (v := .ref (ad 0 0)) cl5 2 (hm _ (id_gl (by decide))) (gl_0 _ _ _) (by decide) mw_179 rfl rfl dX5_save_40 ?_
        refine KV_Grv hO (rest := []) [.ref (ad 0 0)] (rS_st Λ ad O hn1) (fun l => c_X3_copyFrom (fun _ h9 => hm _ (id_st hn1 h9)) (by omega) (fun _ h9 => hm _ (id_st (by decide) h9)) (sh_st (by decide)) hs) cv_X3_copyFrom mw_370 mw_371 mw_369 (hm _ (id_st hn1 (by decide))) cl3 (by show rS Λ ad O _ _ _ = _; rw [rS_st Λ ad O hn1]; exact (st_0 _ _ _ _)) rfl rfl (Nat.le_of_ble_eq_true rfl) (by decide) rfl rfl (Nat.le_of_ble_eq_true rfl) (Nat.le_of_ble_eq_true rfl) dX5_save_43 ?_
        intro c2 hs
        refine G_aload_n hO 0 dX5_save_46 rfl rfl ?_
        refine M_getf hO (rS_gl Λ ad O) (v := .ref (ad 20 5)) cl5 6 (hm _ (id_gl (by decide))) (gl_0 _ _ _) (by decide) mw_183 rfl rfl dX5_save_47 ?_
        refine G_iload_n hO 1 dX5_save_50 rfl rfl ?_
        refine G_iconst hO 1 dX5_save_51 (by decide) ?_
        refine M_zast hO (rS_gl Λ ad O) (cw_gl _ _) _ rfl (hm _ (id_gl (by decide))) (gl_5 _ _) hs.1 dX5_save_52 ?_
        replace hs := hs.2
        refine G_aload_n hO 0 dX5_save_53 rfl rfl ?_
        refine M_getf hO (rS_gl Λ ad O) (v := .ref (ad 0 0)) cl5 2 (hm _ (id_gl (by decide))) (gl_0 _ _ _) (by decide) mw_179 rfl rfl dX5_save_54 ?_
        refine M_getf hO (rS_st Λ ad O (by decide)) (v := .int ((va_up (va_up M (Int32.toNatClampNeg a1 + 16) c2) 20 (cu ((va_up M (Int32.toNatClampNeg a1 + 16) c2) 20) 5 (Int32.toNatClampNeg a1) (vp_nar .boolean 1))) 0 0 0)) cl3 0 (hm _ (id_st (by decide) (by decide))) (st_0 _ _ _ _) (by decide) mw_106 rfl rfl dX5_save_57 ?_
        exact G_iretX hO hF rfl (Nat.le_of_ble_eq_true rfl) (Nat.le_of_ble_eq_true rfl) dX5_save_60 ⟨rfl, rfl, _, _, rfl, rfl, hs⟩
      · replace hs := hs.2 h3
        exact G_throwW_IOB hO (text := "a save slot is 0 or 1") hX hF rfl mw_395 (by decide) mw_12 (by decide +kernel) dX5_save_22 dX5_save_25 dX5_save_26 dX5_save_29 dX5_save_32 (Nat.le_of_ble_eq_true rfl) (Nat.le_of_ble_eq_true rfl) (Nat.le_of_ble_eq_true rfl) (Nat.le_of_ble_eq_true rfl) (Nat.le_of_ble_eq_true rfl) (Nat.le_of_ble_eq_true rfl) ⟨rfl, rfl, _, rfl, hs⟩
set_option maxHeartbeats 4000000 in
set_option maxRecDepth 20000 in
theorem c_X5_restore {l : Launch} {Λ : Lay} {B : Zn} {ids : List (Nat × Nat)} {ad : Nat → Nat → Nat} (hm : ∀ q, q ∈ ids0 → q ∈ ids) {a1 : Int32} {M : Mem} {O : Nat → Int64} {P : Int32 → Mem → Prop} {X : String → Mem → Prop} (hs : wX5_restore a1 M P X) (hst : l.stackTraces = false) : CX l yX5_restore cX5_restore 2 (some .int) { frames := 6, cells := 1, slots := 6, locals := 91 } Λ B ids ad (sh Λ ad M O) [.ref (ad 20 0), .int a1] (Gi Λ ids ad O P) (Xg Λ ids ad O X) := by
  refine CX.of hst RX5 [(0, .ref (ad 20 0)), (1, .int a1)] (by decide +kernel) rfl (Nat.le_of_ble_eq_true rfl) rfl (fun Γ hO hX hF => ?_)
  unfold wX5_restore at hs
  refine G_iload_n hO 1 dX5_restore_0 rfl rfl ?_
  refine G_if_lt hO 22 dX5_restore_1 (by decide) (fun h7 => ?_) (fun h7 => ?_)
  · replace hs := hs.1 h7
    exact G_throwW_IOB hO (text := "a save slot is 0 or 1") hX hF rfl mw_395 (by decide) mw_12 (by decide +kernel) dX5_restore_22 dX5_restore_25 dX5_restore_26 dX5_restore_29 dX5_restore_32 (Nat.le_of_ble_eq_true rfl) (Nat.le_of_ble_eq_true rfl) (Nat.le_of_ble_eq_true rfl) (Nat.le_of_ble_eq_true rfl) (Nat.le_of_ble_eq_true rfl) (Nat.le_of_ble_eq_true rfl) ⟨rfl, rfl, _, rfl, hs⟩
  · replace hs := hs.2 h7
    refine G_iload_n hO 1 dX5_restore_4 rfl rfl ?_
    refine G_aload_n hO 0 dX5_restore_5 rfl rfl ?_
    refine M_getf hO (rS_gl Λ ad O) (v := .ref (ad 20 4)) cl5 5 (hm _ (id_gl (by decide))) (gl_0 _ _ _) (by decide) mw_182 rfl rfl dX5_restore_6 ?_
    refine M_alen hO (rS_gl Λ ad O) (v := 2) 4 (hm _ (id_gl (by decide))) (gl_4 _ _ _) rfl rfl dX5_restore_9 ?_
    refine G_icmp_ge hO 22 dX5_restore_10 (by decide) (fun h6 => ?_) (fun h6 => ?_)
    · replace hs := hs.1 h6
      exact G_throwW_IOB hO (text := "a save slot is 0 or 1") hX hF rfl mw_395 (by decide) mw_12 (by decide +kernel) dX5_restore_22 dX5_restore_25 dX5_restore_26 dX5_restore_29 dX5_restore_32 (Nat.le_of_ble_eq_true rfl) (Nat.le_of_ble_eq_true rfl) (Nat.le_of_ble_eq_true rfl) (Nat.le_of_ble_eq_true rfl) (Nat.le_of_ble_eq_true rfl) (Nat.le_of_ble_eq_true rfl) ⟨rfl, rfl, _, rfl, hs⟩
    · replace hs := hs.2 h6
      refine G_iload_n hO 1 dX5_restore_13 rfl rfl ?_
      refine G_aload_n hO 0 dX5_restore_14 rfl rfl ?_
      refine M_getf hO (rS_gl Λ ad O) (v := .ref (ad 20 5)) cl5 6 (hm _ (id_gl (by decide))) (gl_0 _ _ _) (by decide) mw_183 rfl rfl dX5_restore_15 ?_
      refine M_alen hO (rS_gl Λ ad O) (v := 2) 2 (hm _ (id_gl (by decide))) (gl_5 _ _ _) rfl rfl dX5_restore_18 ?_
      refine G_icmp_lt hO 33 dX5_restore_19 (by decide) (fun h5 => ?_) (fun h5 => ?_)
      · replace hs := hs.1 h5
        refine G_aload_n hO 0 dX5_restore_33 rfl rfl ?_
        refine M_getf hO (rS_gl Λ ad O) (v := .ref (ad 20 5)) cl5 6 (hm _ (id_gl (by decide))) (gl_0 _ _ _) (by decide) mw_183 rfl rfl dX5_restore_34 ?_
        refine G_iload_n hO 1 dX5_restore_37 rfl rfl ?_
        refine M_zald hO (rS_gl Λ ad O) _ rfl (hm _ (id_gl (by decide))) (gl_5 _ _ _) hs.1 dX5_restore_38 ?_
        replace hs := hs.2
        refine G_if_ne hO 53 dX5_restore_39 (by decide) (fun h4 => ?_) (fun h4 => ?_)
        · replace hs := hs.1 h4
          refine G_aload_n hO 0 dX5_restore_53 rfl rfl ?_
          refine M_getf hO (rS_gl Λ ad O) (v := .ref (ad 0 0)) cl5 2 (hm _ (id_gl (by decide))) (gl_0 _ _ _) (by decide) mw_179 rfl rfl dX5_restore_54 ?_
          refine G_aload_n hO 0 dX5_restore_57 rfl rfl ?_
          refine M_getf hO (rS_gl Λ ad O) (v := .ref (ad 20 4)) cl5 5 (hm _ (id_gl (by decide))) (gl_0 _ _ _) (by decide) mw_182 rfl rfl dX5_restore_58 ?_
          refine G_iload_n hO 1 dX5_restore_61 rfl rfl ?_
          have hn1 : Int32.toNatClampNeg a1 + 16 < 18 := by have h9 := lt_in hs.1; omega
          refine M_aaldS hO (rS_gl Λ ad O) (v := .ref (ad (Int32.toNatClampNeg a1 + 16) 0)) (hm _ (id_gl (by decide))) (gl_4 _ _ _) hs.1 rfl dX5_restore_62 ?_
          replace hs := hs.2
          refine KV_Grv hO (rest := []) [.ref (ad (Int32.toNatClampNeg a1 + 16) 0)] (rS_st Λ ad O (by decide)) (fun l => c_X3_copyFrom (fun _ h9 => hm _ (id_st (by decide) h9)) (by omega) (fun _ h9 => hm _ (id_st hn1 h9)) (sh_st hn1) hs) cv_X3_copyFrom mw_370 mw_371 mw_369 (hm _ (id_st (by decide) (by decide))) cl3 (by show rS Λ ad O _ _ _ = _; rw [rS_st Λ ad O (by decide)]; exact (st_0 _ _ _ _)) rfl rfl (Nat.le_of_ble_eq_true rfl) (by decide) rfl rfl (Nat.le_of_ble_eq_true rfl) (Nat.le_of_ble_eq_true rfl) dX5_restore_63 ?_
          intro c2 hs
          refine G_aload_n hO 0 dX5_restore_66 rfl rfl ?_
          refine M_getf hO (rS_gl Λ ad O) (v := .ref (ad 20 2)) cl5 4 (hm _ (id_gl (by decide))) (gl_0 _ _ _) (by decide) mw_181 rfl rfl dX5_restore_67 ?_
          refine KV_Gv hO (rest := []) [] (fun l => c_X0_forgetAll hm hs) cv_X0_forgetAll mw_383 mw_384 mw_382 (hm _ (id_gl (by decide))) cl0 (by show rS Λ ad O _ _ _ = _; rw [rS_gl Λ ad O]; exact (gl_2 _ _ _)) rfl rfl (Nat.le_of_ble_eq_true rfl) (by decide) rfl rfl (Nat.le_of_ble_eq_true rfl) (Nat.le_of_ble_eq_true rfl) dX5_restore_70 ?_
          intro M3 hs
          refine G_aload_n hO 0 dX5_restore_73 rfl rfl ?_
          refine M_getf hO (rS_gl Λ ad O) (v := .ref (ad 0 0)) cl5 2 (hm _ (id_gl (by decide))) (gl_0 _ _ _) (by decide) mw_179 rfl rfl dX5_restore_74 ?_
          refine M_getf hO (rS_st Λ ad O (by decide)) (v := .int (M3 0 0 0)) cl3 0 (hm _ (id_st (by decide) (by decide))) (st_0 _ _ _ _) (by decide) mw_106 rfl rfl dX5_restore_77 ?_
          exact G_iretX hO hF rfl (Nat.le_of_ble_eq_true rfl) (Nat.le_of_ble_eq_true rfl) dX5_restore_80 ⟨rfl, rfl, _, _, rfl, rfl, hs⟩
        · replace hs := hs.2 h4
          exact G_throwW_ISE hO (text := "nothing has been saved in this slot") hX hF rfl mw_301 (by decide) mw_14 (by decide +kernel) dX5_restore_42 dX5_restore_45 dX5_restore_46 dX5_restore_49 dX5_restore_52 (Nat.le_of_ble_eq_true rfl) (Nat.le_of_ble_eq_true rfl) (Nat.le_of_ble_eq_true rfl) (Nat.le_of_ble_eq_true rfl) (Nat.le_of_ble_eq_true rfl) (Nat.le_of_ble_eq_true rfl) ⟨rfl, rfl, _, rfl, hs⟩
      · replace hs := hs.2 h5
        exact G_throwW_IOB hO (text := "a save slot is 0 or 1") hX hF rfl mw_395 (by decide) mw_12 (by decide +kernel) dX5_restore_22 dX5_restore_25 dX5_restore_26 dX5_restore_29 dX5_restore_32 (Nat.le_of_ble_eq_true rfl) (Nat.le_of_ble_eq_true rfl) (Nat.le_of_ble_eq_true rfl) (Nat.le_of_ble_eq_true rfl) (Nat.le_of_ble_eq_true rfl) (Nat.le_of_ble_eq_true rfl) ⟨rfl, rfl, _, rfl, hs⟩
