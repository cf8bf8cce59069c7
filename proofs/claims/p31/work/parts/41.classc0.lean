set_option maxHeartbeats 4000000 in
set_option maxRecDepth 20000 in
theorem c_X0_isEmpty {l : Launch} {Λ : Lay} {B : Zn} {ids : List (Nat × Nat)} {ad : Nat → Nat → Nat} (hm : ∀ q, q ∈ ids0 → q ∈ ids) {M : Mem} {O : Nat → Int64} {P : Int32 → Mem → Prop} (hs : wX0_isEmpty M P) : CT l yX0_isEmpty cX0_isEmpty 1 (some .boolean) { frames := 0, cells := 0, slots := 0, locals := 0 } Λ B ids ad (sh Λ ad M O) [.ref (ad 20 2)] (Gi Λ ids ad O P) := by
  refine CT.of RX0 [(0, .ref (ad 20 2))] (plainFor_of_name (by decide +kernel)) rfl (Nat.le_of_ble_eq_true rfl) rfl (fun Γ hO hF => ?_)
  unfold wX0_isEmpty at hs
  refine G_aload_n hO 0 dX0_isEmpty_0 rfl rfl ?_
  refine M_getf hO (rS_gl Λ ad O) (v := .int (M 20 2 1)) cl0 1 (hm _ (id_gl (by decide))) (gl_2 _ _ _) (by decide) mw_170 rfl rfl dX0_isEmpty_1 ?_
  refine G_if_gt hO 11 dX0_isEmpty_4 (by decide) (fun h1 => ?_) (fun h1 => ?_)
  · replace hs := hs.1 h1
    refine G_iconst hO 0 dX0_isEmpty_11 (by decide) ?_
    exact G_zret hO hF rfl (Nat.zero_le _) (Nat.zero_le _) rfl dX0_isEmpty_12 ⟨rfl, rfl, _, _, rfl, rfl, hs⟩
  · replace hs := hs.2 h1
    refine G_iconst hO 1 dX0_isEmpty_7 (by decide) ?_
    refine G_goto hO 12 dX0_isEmpty_8 (by decide) ?_
    exact G_zret hO hF rfl (Nat.zero_le _) (Nat.zero_le _) rfl dX0_isEmpty_12 ⟨rfl, rfl, _, _, rfl, rfl, hs⟩
set_option maxHeartbeats 4000000 in
set_option maxRecDepth 20000 in
theorem c_X0_forgetAll {l : Launch} {Λ : Lay} {B : Zn} {ids : List (Nat × Nat)} {ad : Nat → Nat → Nat} (hm : ∀ q, q ∈ ids0 → q ∈ ids) {M : Mem} {O : Nat → Int64} {P : Mem → Prop} (hs : wX0_forgetAll M P) : CT l yX0_forgetAll cX0_forgetAll 1 none { frames := 0, cells := 0, slots := 0, locals := 0 } Λ B ids ad (sh Λ ad M O) [.ref (ad 20 2)] (Gv Λ ids ad O P) := by
  refine CT.of RX0 [(0, .ref (ad 20 2))] (plainFor_of_name (by decide +kernel)) rfl (Nat.le_of_ble_eq_true rfl) rfl (fun Γ hO hF => ?_)
  unfold wX0_forgetAll at hs
  refine G_aload_n hO 0 dX0_forgetAll_0 rfl rfl ?_
  refine G_iconst hO 0 dX0_forgetAll_1 (by decide) ?_
  refine M_putf hO (rS_gl Λ ad O) (cw_gl _ _) cl0 1 (hm _ (id_gl (by decide))) (gl_2 _ _ _) (by decide) mw_170 rfl rfl rfl rfl (Nat.le_of_ble_eq_true rfl) hiP dX0_forgetAll_2 ?_
  exact G_vret hO hF rfl (Nat.zero_le _) (Nat.zero_le _) dX0_forgetAll_5 ⟨rfl, rfl, _, rfl, rfl, hs⟩
set_option maxHeartbeats 4000000 in
set_option maxRecDepth 20000 in
theorem c_X0_forgetOldest {l : Launch} {Λ : Lay} {B : Zn} {ids : List (Nat × Nat)} {ad : Nat → Nat → Nat} (hm : ∀ q, q ∈ ids0 → q ∈ ids) {M : Mem} {O : Nat → Int64} {P : Mem → Prop} (hs : wX0_forgetOldest M P) : CT l yX0_forgetOldest cX0_forgetOldest 3 none { frames := 0, cells := 0, slots := 0, locals := 0 } Λ B ids ad (sh Λ ad M O) [.ref (ad 20 2)] (Gv Λ ids ad O P) := by
  refine CT.of RX0 [(0, .ref (ad 20 2))] (plainFor_of_name (by decide +kernel)) rfl (Nat.le_of_ble_eq_true rfl) rfl (fun Γ hO hF => ?_)
  have b9 : ∀ (N9 : Nat) (o1 : Int32) (v2 : Int32) (M : Mem), wX0_forgetOldest_L9 P N9 o1 v2 M → G Γ ids ad 0 0 (sh Λ ad M O) 9 [(0, .ref (ad 20 2)), (1, .ref (ad (Int32.toNatClampNeg o1 + 2) 0)), (2, .int v2)] [] := by
    intro N9
    induction N9 with
    | zero => intro o1 v2 M hs; exact False.elim hs
    | succ N9 ih9 =>
      intro o1 v2 M hs
      unfold wX0_forgetOldest_L9 at hs
      have hno1 : Int32.toNatClampNeg o1 + 2 < 18 := by have h9 := hs.1; omega
      replace hs := hs.2
      refine G_iload_n hO 2 dX0_forgetOldest_9 rfl rfl ?_
      refine G_bipush hO 14 dX0_forgetOldest_10 (by decide) ?_
      refine G_icmp_ge hO 35 dX0_forgetOldest_12 (by decide) (fun h4 => ?_) (fun h4 => ?_)
      · replace hs := hs.1 h4
        refine G_aload_n hO 0 dX0_forgetOldest_35 rfl rfl ?_
        refine M_getf hO (rS_gl Λ ad O) (v := .ref (ad 20 3)) cl0 0 (hm _ (id_gl (by decide))) (gl_2 _ _ _) (by decide) mw_169 rfl rfl dX0_forgetOldest_36 ?_
        refine G_bipush hO 13 dX0_forgetOldest_39 (by decide) ?_
        refine G_aload_n hO 1 dX0_forgetOldest_41 rfl rfl ?_
        refine M_aastS hO 13 (by decide) (hm _ (id_gl (by decide))) (hm _ (id_st hno1 (by decide))) hno1 (vp_lit (by decide)) dX0_forgetOldest_42 ?_
        refine G_aload_n hO 0 dX0_forgetOldest_43 rfl rfl ?_
        refine G_bipush hO 13 dX0_forgetOldest_44 (by decide) ?_
        refine M_putf hO (rS_gl Λ ad O) (cw_gl _ _) cl0 1 (hm _ (id_gl (by decide))) (gl_2 _ _ _) (by decide) mw_170 rfl rfl rfl rfl (Nat.le_of_ble_eq_true rfl) hiP dX0_forgetOldest_46 ?_
        exact G_vret hO hF rfl (Nat.zero_le _) (Nat.zero_le _) dX0_forgetOldest_49 ⟨rfl, rfl, _, rfl, rfl, hs⟩
      · replace hs := hs.2 h4
        refine G_aload_n hO 0 dX0_forgetOldest_15 rfl rfl ?_
        refine M_getf hO (rS_gl Λ ad O) (v := .ref (ad 20 3)) cl0 0 (hm _ (id_gl (by decide))) (gl_2 _ _ _) (by decide) mw_169 rfl rfl dX0_forgetOldest_16 ?_
        refine G_iload_n hO 2 dX0_forgetOldest_19 rfl rfl ?_
        refine G_iconst hO 1 dX0_forgetOldest_20 (by decide) ?_
        refine G_isub hO dX0_forgetOldest_21 ?_
        refine G_aload_n hO 0 dX0_forgetOldest_22 rfl rfl ?_
        refine M_getf hO (rS_gl Λ ad O) (v := .ref (ad 20 3)) cl0 0 (hm _ (id_gl (by decide))) (gl_2 _ _ _) (by decide) mw_169 rfl rfl dX0_forgetOldest_23 ?_
        refine G_iload_n hO 2 dX0_forgetOldest_26 rfl rfl ?_
        have hn3 : (Int32.toNatClampNeg (M 20 3 (Int32.toNatClampNeg v2)) + 2) < 18 := by have h9 := hs.2.1; omega
        refine M_aaldS hO (rS_gl Λ ad O) (v := .ref (ad (Int32.toNatClampNeg (M 20 3 (Int32.toNatClampNeg v2)) + 2) 0)) (hm _ (id_gl (by decide))) (gl_3 _ _ _) hs.1 rfl dX0_forgetOldest_27 ?_
        replace hs := hs.2.2
        refine M_aastS hO _ rfl (hm _ (id_gl (by decide))) (hm _ (id_st hn3 (by decide))) hn3 hs.1 dX0_forgetOldest_28 ?_
        replace hs := hs.2
        refine G_iinc hO 2 (v2 + 1) [(2, .int (v2 + 1)), (0, .ref (ad 20 2)), (1, .ref (ad (Int32.toNatClampNeg o1 + 2) 0))] dX0_forgetOldest_29 rfl rfl (by decide) rfl ?_
        refine G_goto hO 9 dX0_forgetOldest_32 (by decide) ?_
        refine G_lv hO [(0, .ref (ad 20 2)), (1, .ref (ad (Int32.toNatClampNeg o1 + 2) 0)), (2, .int (v2 + 1))] [1, 2, 0] rfl ?_
        exact ih9 _ _ _ hs
  unfold wX0_forgetOldest at hs
  refine G_aload_n hO 0 dX0_forgetOldest_0 rfl rfl ?_
  refine M_getf hO (rS_gl Λ ad O) (v := .ref (ad 20 3)) cl0 0 (hm _ (id_gl (by decide))) (gl_2 _ _ _) (by decide) mw_169 rfl rfl dX0_forgetOldest_1 ?_
  refine G_iconst hO 0 dX0_forgetOldest_4 (by decide) ?_
  have hn1 : (Int32.toNatClampNeg (M 20 3 0) + 2) < 18 := by have h9 := hs.1; omega
  refine M_aaldS hO (rS_gl Λ ad O) (v := .ref (ad (Int32.toNatClampNeg (M 20 3 0) + 2) 0)) (hm _ (id_gl (by decide))) (gl_3 _ _ _) (vp_lit (by decide)) rfl dX0_forgetOldest_5 ?_
  replace hs := hs.2
  refine G_astore_n hO [(1, .ref (ad (Int32.toNatClampNeg (M 20 3 0) + 2) 0)), (0, .ref (ad 20 2))] dX0_forgetOldest_6 rfl (by decide) rfl ?_
  refine G_iconst hO 1 dX0_forgetOldest_7 (by decide) ?_
  refine G_istore_n hO [(2, .int 1), (1, .ref (ad (Int32.toNatClampNeg (M 20 3 0) + 2) 0)), (0, .ref (ad 20 2))] dX0_forgetOldest_8 rfl (by decide) rfl ?_
  obtain ⟨Nf2, hs⟩ := hs
  refine G_lv hO [(0, .ref (ad 20 2)), (1, .ref (ad (Int32.toNatClampNeg (M 20 3 0) + 2) 0)), (2, .int 1)] [2, 1, 0] rfl ?_
  exact b9 Nf2 _ _ _ hs
set_option maxHeartbeats 4000000 in
set_option maxRecDepth 20000 in
theorem c_X0_remember {l : Launch} {Λ : Lay} {B : Zn} {ids : List (Nat × Nat)} {ad : Nat → Nat → Nat} (hm : ∀ q, q ∈ ids0 → q ∈ ids) {M : Mem} {O : Nat → Int64} {P : Mem → Prop} (hs : wX0_remember M P) : CT l yX0_remember cX0_remember 2 none { frames := 3, cells := 0, slots := 0, locals := 91 } Λ B ids ad (sh Λ ad M O) [.ref (ad 20 2), .ref (ad 0 0)] (Gv Λ ids ad O P) := by
  refine CT.of RX0 [(0, .ref (ad 20 2)), (1, .ref (ad 0 0))] (plainFor_of_name (by decide +kernel)) rfl (Nat.le_of_ble_eq_true rfl) rfl (fun Γ hO hF => ?_)
  have b13 : ∀ (M : Mem), wX0_remember_L13 P M → G Γ ids ad 0 0 (sh Λ ad M O) 13 [(0, .ref (ad 20 2)), (1, .ref (ad 0 0))] [] := by
    intro M hs
    unfold wX0_remember_L13 at hs
    refine G_aload_n hO 0 dX0_remember_13 rfl rfl ?_
    refine M_getf hO (rS_gl Λ ad O) (v := .int (M 20 2 1)) cl0 1 (hm _ (id_gl (by decide))) (gl_2 _ _ _) (by decide) mw_170 rfl rfl dX0_remember_14 ?_
    refine G_if_lt hO 52 dX0_remember_17 (by decide) (fun h6 => ?_) (fun h6 => ?_)
    · replace hs := hs.1 h6
      exact G_vret hO hF rfl (Nat.zero_le _) (Nat.zero_le _) dX0_remember_52 ⟨rfl, rfl, _, rfl, rfl, hs⟩
    · replace hs := hs.2 h6
      refine G_aload_n hO 0 dX0_remember_20 rfl rfl ?_
      refine M_getf hO (rS_gl Λ ad O) (v := .int (M 20 2 1)) cl0 1 (hm _ (id_gl (by decide))) (gl_2 _ _ _) (by decide) mw_170 rfl rfl dX0_remember_21 ?_
      refine G_bipush hO 14 dX0_remember_24 (by decide) ?_
      refine G_icmp_ge hO 52 dX0_remember_26 (by decide) (fun h5 => ?_) (fun h5 => ?_)
      · replace hs := hs.1 h5
        exact G_vret hO hF rfl (Nat.zero_le _) (Nat.zero_le _) dX0_remember_52 ⟨rfl, rfl, _, rfl, rfl, hs⟩
      · replace hs := hs.2 h5
        refine G_aload_n hO 0 dX0_remember_29 rfl rfl ?_
        refine M_getf hO (rS_gl Λ ad O) (v := .ref (ad 20 3)) cl0 0 (hm _ (id_gl (by decide))) (gl_2 _ _ _) (by decide) mw_169 rfl rfl dX0_remember_30 ?_
        refine G_aload_n hO 0 dX0_remember_33 rfl rfl ?_
        refine M_getf hO (rS_gl Λ ad O) (v := .int (M 20 2 1)) cl0 1 (hm _ (id_gl (by decide))) (gl_2 _ _ _) (by decide) mw_170 rfl rfl dX0_remember_34 ?_
        have hn3 : (Int32.toNatClampNeg (M 20 3 (Int32.toNatClampNeg (M 20 2 1))) + 2) < 18 := by have h9 := hs.2.1; omega
        refine M_aaldS hO (rS_gl Λ ad O) (v := .ref (ad (Int32.toNatClampNeg (M 20 3 (Int32.toNatClampNeg (M 20 2 1))) + 2) 0)) (hm _ (id_gl (by decide))) (gl_3 _ _ _) hs.1 rfl dX0_remember_37 ?_
        replace hs := hs.2.2
        refine G_aload_n hO 1 dX0_remember_38 rfl rfl ?_
        refine KV_Grv hO (rest := []) [.ref (ad 0 0)] (rS_st Λ ad O hn3) (fun l => c_X3_copyFrom (fun _ h9 => hm _ (id_st hn3 h9)) (by omega) (fun _ h9 => hm _ (id_st (by decide) h9)) (sh_st (by decide)) hs) cv_X3_copyFrom mw_370 mw_371 mw_576 (hm _ (id_st hn3 (by decide))) cl3 (by show rS Λ ad O _ _ _ = _; rw [rS_st Λ ad O hn3]; exact (st_0 _ _ _ _)) rfl rfl (Nat.le_of_ble_eq_true rfl) (by decide) rfl rfl (Nat.zero_le _) (Nat.zero_le _) dX0_remember_39 ?_
        intro c4 hs
        refine G_aload_n hO 0 dX0_remember_42 rfl rfl ?_
        refine G_dup hO dX0_remember_43 rfl ?_
        refine M_getf hO (rS_gl Λ ad O) (v := .int ((va_up M (Int32.toNatClampNeg (M 20 3 (Int32.toNatClampNeg (M 20 2 1))) + 2) c4) 20 2 1)) cl0 1 (hm _ (id_gl (by decide))) (gl_2 _ _ _) (by decide) mw_170 rfl rfl dX0_remember_44 ?_
        refine G_iconst hO 1 dX0_remember_47 (by decide) ?_
        refine G_iadd hO dX0_remember_48 ?_
        refine M_putf hO (rS_gl Λ ad O) (cw_gl _ _) cl0 1 (hm _ (id_gl (by decide))) (gl_2 _ _ _) (by decide) mw_170 rfl rfl rfl rfl (Nat.le_of_ble_eq_true rfl) hiP dX0_remember_49 ?_
        exact G_vret hO hF rfl (Nat.zero_le _) (Nat.zero_le _) dX0_remember_52 ⟨rfl, rfl, _, rfl, rfl, hs⟩
  unfold wX0_remember at hs
  refine G_aload_n hO 0 dX0_remember_0 rfl rfl ?_
  refine M_getf hO (rS_gl Λ ad O) (v := .int (M 20 2 1)) cl0 1 (hm _ (id_gl (by decide))) (gl_2 _ _ _) (by decide) mw_170 rfl rfl dX0_remember_1 ?_
  refine G_bipush hO 14 dX0_remember_4 (by decide) ?_
  refine G_icmp_lt hO 13 dX0_remember_6 (by decide) (fun h2 => ?_) (fun h2 => ?_)
  · replace hs := hs.1 h2
    exact b13 _ hs
  · replace hs := hs.2 h2
    refine G_aload_n hO 0 dX0_remember_9 rfl rfl ?_
    refine KV_Gv hO (rest := []) [] (fun l => c_X0_forgetOldest hm hs) cv_X0_forgetOldest mw_574 ms_10 mw_572 (hm _ (id_gl (by decide))) cl0 (by show rS Λ ad O _ _ _ = _; rw [rS_gl Λ ad O]; exact (gl_2 _ _ _)) rfl rfl (Nat.le_of_ble_eq_true rfl) (by decide) rfl rfl (Nat.zero_le _) (Nat.zero_le _) dX0_remember_10 ?_
    intro M1 hs
    exact b13 _ hs
set_option maxHeartbeats 4000000 in
set_option maxRecDepth 20000 in
theorem c_X0_takeBackInto {l : Launch} {Λ : Lay} {B : Zn} {ids : List (Nat × Nat)} {ad : Nat → Nat → Nat} (hm : ∀ q, q ∈ ids0 → q ∈ ids) {M : Mem} {O : Nat → Int64} {P : Mem → Prop} (hs : wX0_takeBackInto M P) : CT l yX0_takeBackInto cX0_takeBackInto 3 none { frames := 3, cells := 0, slots := 0, locals := 91 } Λ B ids ad (sh Λ ad M O) [.ref (ad 20 2), .ref (ad 0 0)] (Gv Λ ids ad O P) := by
  refine CT.of RX0 [(0, .ref (ad 20 2)), (1, .ref (ad 0 0))] (plainFor_of_name (by decide +kernel)) rfl (Nat.le_of_ble_eq_true rfl) rfl (fun Γ hO hF => ?_)
  unfold wX0_takeBackInto at hs
  refine G_aload_n hO 0 dX0_takeBackInto_0 rfl rfl ?_
  refine M_getf hO (rS_gl Λ ad O) (v := .int (M 20 2 1)) cl0 1 (hm _ (id_gl (by decide))) (gl_2 _ _ _) (by decide) mw_170 rfl rfl dX0_takeBackInto_1 ?_
  refine G_iconst hO 1 dX0_takeBackInto_4 (by decide) ?_
  refine G_isub hO dX0_takeBackInto_5 ?_
  refine G_istore_n hO [(2, .int ((M 20 2 1) - 1)), (0, .ref (ad 20 2)), (1, .ref (ad 0 0))] dX0_takeBackInto_6 rfl (by decide) rfl ?_
  refine G_iload_n hO 0 dX0_takeBackInto_7 rfl rfl ?_
  refine G_if_lt hO 32 dX0_takeBackInto_8 (by decide) (fun h4 => ?_) (fun h4 => ?_)
  · replace hs := hs.1 h4
    exact G_vret hO hF rfl (Nat.zero_le _) (Nat.zero_le _) dX0_takeBackInto_32 ⟨rfl, rfl, _, rfl, rfl, hs⟩
  · replace hs := hs.2 h4
    refine G_iload_n hO 0 dX0_takeBackInto_11 rfl rfl ?_
    refine G_bipush hO 14 dX0_takeBackInto_12 (by decide) ?_
    refine G_icmp_ge hO 32 dX0_takeBackInto_14 (by decide) (fun h3 => ?_) (fun h3 => ?_)
    · replace hs := hs.1 h3
      exact G_vret hO hF rfl (Nat.zero_le _) (Nat.zero_le _) dX0_takeBackInto_32 ⟨rfl, rfl, _, rfl, rfl, hs⟩
    · replace hs := hs.2 h3
      refine G_aload_n hO 2 dX0_takeBackInto_17 rfl rfl ?_
      refine G_aload_n hO 1 dX0_takeBackInto_18 rfl rfl ?_
      refine M_getf hO (rS_gl Λ ad O) (v := .ref (ad 20 3)) cl0 0 (hm _ (id_gl (by decide))) (gl_2 _ _ _) (by decide) mw_169 rfl rfl dX0_takeBackInto_19 ?_
      refine G_iload_n hO 0 dX0_takeBackInto_22 rfl rfl ?_
      have hn1 : (Int32.toNatClampNeg (M 20 3 (Int32.toNatClampNeg ((M 20 2 1) - 1))) + 2) < 18 := by have h9 := hs.2.1; omega
      refine M_aaldS hO (rS_gl Λ ad O) (v := .ref (ad (Int32.toNatClampNeg (M 20 3 (Int32.toNatClampNeg ((M 20 2 1) - 1))) + 2) 0)) (hm _ (id_gl (by decide))) (gl_3 _ _ _) hs.1 rfl dX0_takeBackInto_23 ?_
      replace hs := hs.2.2
      refine KV_Grv hO (rest := []) [.ref (ad (Int32.toNatClampNeg (M 20 3 (Int32.toNatClampNeg ((M 20 2 1) - 1))) + 2) 0)] (rS_st Λ ad O (by decide)) (fun l => c_X3_copyFrom (fun _ h9 => hm _ (id_st (by decide) h9)) (by omega) (fun _ h9 => hm _ (id_st hn1 h9)) (sh_st hn1) hs) cv_X3_copyFrom mw_370 mw_371 mw_576 (hm _ (id_st (by decide) (by decide))) cl3 (by show rS Λ ad O _ _ _ = _; rw [rS_st Λ ad O (by decide)]; exact (st_0 _ _ _ _)) rfl rfl (Nat.le_of_ble_eq_true rfl) (by decide) rfl rfl (Nat.zero_le _) (Nat.zero_le _) dX0_takeBackInto_24 ?_
      intro c2 hs
      refine G_aload_n hO 1 dX0_takeBackInto_27 rfl rfl ?_
      refine G_iload_n hO 0 dX0_takeBackInto_28 rfl rfl ?_
      refine M_putf hO (rS_gl Λ ad O) (cw_gl _ _) cl0 1 (hm _ (id_gl (by decide))) (gl_2 _ _ _) (by decide) mw_170 rfl rfl rfl rfl (Nat.le_of_ble_eq_true rfl) hiP dX0_takeBackInto_29 ?_
      exact G_vret hO hF rfl (Nat.zero_le _) (Nat.zero_le _) dX0_takeBackInto_32 ⟨rfl, rfl, _, rfl, rfl, hs⟩
set_option maxHeartbeats 4000000 in
set_option maxRecDepth 20000 in
theorem c_X4_here {l : Launch} {Λ : Lay} {B : Zn} {ids : List (Nat × Nat)} {ad : Nat → Nat → Nat} (hm : ∀ q, q ∈ ids0 → q ∈ ids) (hrd : (20, 6) ∈ ids) {M : Mem} {O : Nat → Int64} {P : Int32 → Mem → Prop} (hs : wX4_here M P) : CT l yX4_here cX4_here 1 (some .int) { frames := 0, cells := 0, slots := 0, locals := 0 } Λ B ids ad (sh Λ ad M O) [.ref (ad 20 6)] (Gi Λ ids ad O P) := by
  refine CT.of RX4 [(0, .ref (ad 20 6))] (plainFor_of_name (by decide +kernel)) rfl (Nat.le_of_ble_eq_true rfl) rfl (fun Γ hO hF => ?_)
  unfold wX4_here at hs
  refine G_aload_n hO 0 dX4_here_0 rfl rfl ?_
  refine M_getf hO (rS_gl Λ ad O) (v := .int (M 20 6 2)) cl4 2 hrd (gl_6 _ _ _) (by decide) mw_221 rfl rfl dX4_here_1 ?_
  refine G_if_lt hO 30 dX4_here_4 (by decide) (fun h3 => ?_) (fun h3 => ?_)
  · replace hs := hs.1 h3
    refine G_iconst hO (-1) dX4_here_30 (by decide) ?_
    exact G_iret hO hF rfl (Nat.zero_le _) (Nat.zero_le _) dX4_here_31 ⟨rfl, rfl, _, _, rfl, rfl, hs⟩
  · replace hs := hs.2 h3
    refine G_aload_n hO 0 dX4_here_7 rfl rfl ?_
    refine M_getf hO (rS_gl Λ ad O) (v := .int (M 20 6 2)) cl4 2 hrd (gl_6 _ _ _) (by decide) mw_221 rfl rfl dX4_here_8 ?_
    refine G_aload_n hO 0 dX4_here_11 rfl rfl ?_
    refine M_getf hO (rS_gl Λ ad O) (v := .int (M 20 6 1)) cl4 1 hrd (gl_6 _ _ _) (by decide) mw_220 rfl rfl dX4_here_12 ?_
    refine G_icmp_ge hO 30 dX4_here_15 (by decide) (fun h2 => ?_) (fun h2 => ?_)
    · replace hs := hs.1 h2
      refine G_iconst hO (-1) dX4_here_30 (by decide) ?_
      exact G_iret hO hF rfl (Nat.zero_le _) (Nat.zero_le _) dX4_here_31 ⟨rfl, rfl, _, _, rfl, rfl, hs⟩
    · replace hs := hs.2 h2
      refine G_aload_n hO 0 dX4_here_18 rfl rfl ?_
      refine M_getf hO (rS_gl Λ ad O) (v := .int (M 20 6 2)) cl4 2 hrd (gl_6 _ _ _) (by decide) mw_221 rfl rfl dX4_here_19 ?_
      refine G_aload_n hO 0 dX4_here_22 rfl rfl ?_
      refine M_getf hO (rS_gl Λ ad O) (v := .ref (ad 20 1)) cl4 0 hrd (gl_6 _ _ _) (by decide) mw_219 rfl (rd_t hs.1) dX4_here_23 ?_
      replace hs := hs.2
      refine M_alen hO (rS_gl Λ ad O) (v := 80) 1 (hm _ (id_gl (by decide))) (gl_1 _ _ _) rfl rfl dX4_here_26 ?_
      refine G_icmp_lt hO 32 dX4_here_27 (by decide) (fun h1 => ?_) (fun h1 => ?_)
      · replace hs := hs.1 h1
        refine G_aload_n hO 0 dX4_here_32 rfl rfl ?_
        refine M_getf hO (rS_gl Λ ad O) (v := .ref (ad 20 1)) cl4 0 hrd (gl_6 _ _ _) (by decide) mw_219 rfl (rd_t hs.1) dX4_here_33 ?_
        replace hs := hs.2
        refine G_aload_n hO 0 dX4_here_36 rfl rfl ?_
        refine M_getf hO (rS_gl Λ ad O) (v := .int (M 20 6 2)) cl4 2 hrd (gl_6 _ _ _) (by decide) mw_221 rfl rfl dX4_here_37 ?_
        refine M_cald hO (rS_gl Λ ad O) _ rfl (hm _ (id_gl (by decide))) (gl_1 _ _ _) hs.1 dX4_here_40 ?_
        replace hs := hs.2
        exact G_iret hO hF rfl (Nat.zero_le _) (Nat.zero_le _) dX4_here_41 ⟨rfl, rfl, _, _, rfl, rfl, hs⟩
      · replace hs := hs.2 h1
        refine G_iconst hO (-1) dX4_here_30 (by decide) ?_
        exact G_iret hO hF rfl (Nat.zero_le _) (Nat.zero_le _) dX4_here_31 ⟨rfl, rfl, _, _, rfl, rfl, hs⟩
set_option maxHeartbeats 4000000 in
set_option maxRecDepth 20000 in
theorem c_X4_readNumber {l : Launch} {Λ : Lay} {B : Zn} {ids : List (Nat × Nat)} {ad : Nat → Nat → Nat} (hm : ∀ q, q ∈ ids0 → q ∈ ids) (hrd : (20, 6) ∈ ids) {a1 : Int32} {a2 : Int32} {a3 : Int32} {M : Mem} {O : Nat → Int64} {P : Int32 → Mem → Prop} (hs : wX4_readNumber a1 a2 a3 M P) : CT l yX4_readNumber cX4_readNumber 9 (some .int) { frames := 1, cells := 0, slots := 0, locals := 20 } Λ B ids ad (sh Λ ad M O) [.ref (ad 20 6), .int a1, .int a2, .int a3] (Gi Λ ids ad O P) := by
  refine CT.of RX4 [(0, .ref (ad 20 6)), (1, .int a1), (2, .int a2), (3, .int a3)] (plainFor_of_name (by decide +kernel)) rfl (Nat.le_of_ble_eq_true rfl) rfl (fun Γ hO hF => ?_)
  have b31 : ∀ (N31 : Nat) (v4 : Int32) (v5 : Int32) (v6 : Int32) (M : Mem), wX4_readNumber_L31 a1 a2 a3 P N31 v4 v5 v6 M → G Γ ids ad 0 0 (sh Λ ad M O) 31 [(0, .ref (ad 20 6)), (1, .int a1), (2, .int a2), (3, .int a3), (4, .int v4), (5, .int v5), (6, .int v6)] [] := by
    intro N31
    induction N31 with
    | zero => intro v4 v5 v6 M hs; exact False.elim hs
    | succ N31 ih31 =>
      intro v4 v5 v6 M hs
      unfold wX4_readNumber_L31 at hs
      refine G_iload hO 6 dX4_readNumber_31 rfl ?_
      refine G_iload_n hO 1 dX4_readNumber_33 rfl rfl ?_
      refine G_icmp_ge hO 118 dX4_readNumber_34 (by decide) (fun h10 => ?_) (fun h10 => ?_)
      · replace hs := hs.1 h10
        refine G_iload hO 5 dX4_readNumber_118 rfl ?_
        exact G_iret hO hF rfl (Nat.zero_le _) (Nat.zero_le _) dX4_readNumber_120 ⟨rfl, rfl, _, _, rfl, rfl, hs⟩
      · replace hs := hs.2 h10
        refine G_aload_n hO 0 dX4_readNumber_37 rfl rfl ?_
        refine KV_Gi hO (rest := []) [] (fun l => c_X4_here hm hrd hs) cv_X4_here mw_241 ms_1 mw_239 hrd cl4 (by show rS Λ ad O _ _ _ = _; rw [rS_gl Λ ad O]; exact (gl_6 _ _ _)) rfl rfl (Nat.le_of_ble_eq_true rfl) (by decide) rfl rfl (Nat.zero_le _) (Nat.zero_le _) dX4_readNumber_38 ?_
        intro r4 M5 hs
        refine G_istore hO [(7, .int r4), (0, .ref (ad 20 6)), (1, .int a1), (2, .int a2), (3, .int a3), (4, .int v4), (5, .int v5), (6, .int v6)] dX4_readNumber_41 (by decide) rfl ?_
        refine G_iload hO 0 dX4_readNumber_43 rfl ?_
        refine G_bipush hO 48 dX4_readNumber_45 (by decide) ?_
        refine G_icmp_lt hO 57 dX4_readNumber_47 (by decide) (fun h9 => ?_) (fun h9 => ?_)
        · replace hs := hs.1 h9
          refine G_iconst hO (-1) dX4_readNumber_57 (by decide) ?_
          exact G_iret hO hF rfl (Nat.zero_le _) (Nat.zero_le _) dX4_readNumber_58 ⟨rfl, rfl, _, _, rfl, rfl, hs⟩
        · replace hs := hs.2 h9
          refine G_iload hO 0 dX4_readNumber_50 rfl ?_
          refine G_bipush hO 57 dX4_readNumber_52 (by decide) ?_
          refine G_icmp_le hO 59 dX4_readNumber_54 (by decide) (fun h8 => ?_) (fun h8 => ?_)
          · replace hs := hs.1 h8
            refine G_iload hO 6 dX4_readNumber_59 rfl ?_
            refine G_iload hO 0 dX4_readNumber_61 rfl ?_
            refine G_bipush hO 48 dX4_readNumber_63 (by decide) ?_
            refine G_isub hO dX4_readNumber_65 ?_
            refine G_iload hO 5 dX4_readNumber_66 rfl ?_
            refine G_imul hO dX4_readNumber_68 ?_
            refine G_iadd hO dX4_readNumber_69 ?_
            refine G_istore hO [(8, .int (v5 + ((r4 - 48) * v4))), (7, .int r4), (0, .ref (ad 20 6)), (1, .int a1), (2, .int a2), (3, .int a3), (4, .int v4), (5, .int v5), (6, .int v6)] dX4_readNumber_70 (by decide) rfl ?_
            refine G_iload hO 0 dX4_readNumber_72 rfl ?_
            refine G_iload_n hO 5 dX4_readNumber_74 rfl rfl ?_
            refine G_icmp_gt hO 89 dX4_readNumber_75 (by decide) (fun h7 => ?_) (fun h7 => ?_)
            · replace hs := hs.1 h7
              refine G_iconst hO (-1) dX4_readNumber_89 (by decide) ?_
              exact G_iret hO hF rfl (Nat.zero_le _) (Nat.zero_le _) dX4_readNumber_90 ⟨rfl, rfl, _, _, rfl, rfl, hs⟩
            · replace hs := hs.2 h7
              refine G_iload hO 0 dX4_readNumber_78 rfl ?_
              refine G_iload hO 6 dX4_readNumber_80 rfl ?_
              refine G_iadd hO dX4_readNumber_82 ?_
              refine G_iconst hO 1 dX4_readNumber_83 (by decide) ?_
              refine G_isub hO dX4_readNumber_84 ?_
              refine G_iload_n hO 4 dX4_readNumber_85 rfl rfl ?_
              refine G_icmp_ge hO 91 dX4_readNumber_86 (by decide) (fun h6 => ?_) (fun h6 => ?_)
              · replace hs := hs.1 h6
                refine G_iload hO 0 dX4_readNumber_91 rfl ?_
                refine G_istore hO [(5, .int (v5 + ((r4 - 48) * v4))), (8, .int (v5 + ((r4 - 48) * v4))), (7, .int r4), (0, .ref (ad 20 6)), (1, .int a1), (2, .int a2), (3, .int a3), (4, .int v4), (6, .int v6)] dX4_readNumber_93 (by decide) rfl ?_
                refine G_iload hO 7 dX4_readNumber_95 rfl ?_
                refine G_bipush hO 10 dX4_readNumber_97 (by decide) ?_
                refine G_idiv hO dX4_readNumber_99 (by decide) ?_
                refine G_istore hO [(4, .int (v4 / 10)), (5, .int (v5 + ((r4 - 48) * v4))), (8, .int (v5 + ((r4 - 48) * v4))), (7, .int r4), (0, .ref (ad 20 6)), (1, .int a1), (2, .int a2), (3, .int a3), (6, .int v6)] dX4_readNumber_100 (by decide) rfl ?_
                refine G_aload_n hO 4 dX4_readNumber_102 rfl rfl ?_
                refine G_dup hO dX4_readNumber_103 rfl ?_
                refine M_getf hO (rS_gl Λ ad O) (v := .int (M5 20 6 2)) cl4 2 hrd (gl_6 _ _ _) (by decide) mw_221 rfl rfl dX4_readNumber_104 ?_
                refine G_iconst hO 1 dX4_readNumber_107 (by decide) ?_
                refine G_iadd hO dX4_readNumber_108 ?_
                refine M_putf hO (rS_gl Λ ad O) (cw_gl _ _) cl4 2 hrd (gl_6 _ _ _) (by decide) mw_221 rfl rfl rfl rfl (Nat.le_of_ble_eq_true rfl) (rdP (by decide)) dX4_readNumber_109 ?_
                refine G_iinc hO 8 (v6 + 1) [(6, .int (v6 + 1)), (4, .int (v4 / 10)), (5, .int (v5 + ((r4 - 48) * v4))), (8, .int (v5 + ((r4 - 48) * v4))), (7, .int r4), (0, .ref (ad 20 6)), (1, .int a1), (2, .int a2), (3, .int a3)] dX4_readNumber_112 rfl rfl (by decide) rfl ?_
                refine G_goto hO 31 dX4_readNumber_115 (by decide) ?_
                refine G_lv hO [(0, .ref (ad 20 6)), (1, .int a1), (2, .int a2), (3, .int a3), (4, .int (v4 / 10)), (5, .int (v5 + ((r4 - 48) * v4))), (6, .int (v6 + 1))] [5, 6, 7, 8, 1, 2, 0] rfl ?_
                exact ih31 _ _ _ _ hs
              · replace hs := hs.2 h6
                refine G_iconst hO (-1) dX4_readNumber_89 (by decide) ?_
                exact G_iret hO hF rfl (Nat.zero_le _) (Nat.zero_le _) dX4_readNumber_90 ⟨rfl, rfl, _, _, rfl, rfl, hs⟩
          · replace hs := hs.2 h8
            refine G_iconst hO (-1) dX4_readNumber_57 (by decide) ?_
            exact G_iret hO hF rfl (Nat.zero_le _) (Nat.zero_le _) dX4_readNumber_58 ⟨rfl, rfl, _, _, rfl, rfl, hs⟩
  have b6 : ∀ (N6 : Nat) (v4 : Int32) (v5 : Int32) (M : Mem), wX4_readNumber_L6 a1 a2 a3 P N6 v4 v5 M → G Γ ids ad 0 0 (sh Λ ad M O) 6 [(0, .ref (ad 20 6)), (1, .int a1), (2, .int a2), (3, .int a3), (4, .int v4), (5, .int v5)] [] := by
    intro N6
    induction N6 with
    | zero => intro v4 v5 M hs; exact False.elim hs
    | succ N6 ih6 =>
      intro v4 v5 M hs
      unfold wX4_readNumber_L6 at hs
      refine G_iload hO 5 dX4_readNumber_6 rfl ?_
      refine G_iload_n hO 1 dX4_readNumber_8 rfl rfl ?_
      refine G_icmp_ge hO 25 dX4_readNumber_9 (by decide) (fun h3 => ?_) (fun h3 => ?_)
      · replace hs := hs.1 h3
        refine G_iconst hO 0 dX4_readNumber_25 (by decide) ?_
        refine G_istore hO [(5, .int 0), (0, .ref (ad 20 6)), (1, .int a1), (2, .int a2), (3, .int a3), (4, .int v4)] dX4_readNumber_26 (by decide) rfl ?_
        refine G_iconst hO 0 dX4_readNumber_28 (by decide) ?_
        refine G_istore hO [(6, .int 0), (5, .int 0), (0, .ref (ad 20 6)), (1, .int a1), (2, .int a2), (3, .int a3), (4, .int v4)] dX4_readNumber_29 (by decide) rfl ?_
        obtain ⟨Nf2, hs⟩ := hs
        refine G_lv hO [(0, .ref (ad 20 6)), (1, .int a1), (2, .int a2), (3, .int a3), (4, .int v4), (5, .int 0), (6, .int 0)] [2, 3, 4, 5, 6, 1, 0] rfl ?_
        exact b31 Nf2 _ _ _ _ hs
      · replace hs := hs.2 h3
        refine G_iload hO 4 dX4_readNumber_12 rfl ?_
        refine G_bipush hO 10 dX4_readNumber_14 (by decide) ?_
        refine G_imul hO dX4_readNumber_16 ?_
        refine G_istore hO [(4, .int (v4 * 10)), (0, .ref (ad 20 6)), (1, .int a1), (2, .int a2), (3, .int a3), (5, .int v5)] dX4_readNumber_17 (by decide) rfl ?_
        refine G_iinc hO 5 (v5 + 1) [(5, .int (v5 + 1)), (4, .int (v4 * 10)), (0, .ref (ad 20 6)), (1, .int a1), (2, .int a2), (3, .int a3)] dX4_readNumber_19 rfl rfl (by decide) rfl ?_
        refine G_goto hO 6 dX4_readNumber_22 (by decide) ?_
        refine G_lv hO [(0, .ref (ad 20 6)), (1, .int a1), (2, .int a2), (3, .int a3), (4, .int (v4 * 10)), (5, .int (v5 + 1))] [2, 3, 4, 5, 1, 0] rfl ?_
        exact ih6 _ _ _ hs
  unfold wX4_readNumber at hs
  refine G_iconst hO 1 dX4_readNumber_0 (by decide) ?_
  refine G_istore hO [(4, .int 1), (0, .ref (ad 20 6)), (1, .int a1), (2, .int a2), (3, .int a3)] dX4_readNumber_1 (by decide) rfl ?_
  refine G_iconst hO 1 dX4_readNumber_3 (by decide) ?_
  refine G_istore hO [(5, .int 1), (4, .int 1), (0, .ref (ad 20 6)), (1, .int a1), (2, .int a2), (3, .int a3)] dX4_readNumber_4 (by decide) rfl ?_
  obtain ⟨Nf1, hs⟩ := hs
  refine G_lv hO [(0, .ref (ad 20 6)), (1, .int a1), (2, .int a2), (3, .int a3), (4, .int 1), (5, .int 1)] [2, 3, 4, 5, 1, 0] rfl ?_
  exact b6 Nf1 _ _ _ hs
set_option maxHeartbeats 4000000 in
set_option maxRecDepth 20000 in
theorem c_X5_highestSetting {l : Launch} {Λ : Lay} {B : Zn} {ids : List (Nat × Nat)} {ad : Nat → Nat → Nat} {w : Nat → Nat → va_E} {a0 : Int32} {P : Int32 → Prop} (hs : wX5_highestSetting a0 P) : CT l yX5_highestSetting cX5_highestSetting 1 (some .int) { frames := 0, cells := 0, slots := 0, locals := 0 } Λ B ids ad w [.int a0] (Ni ids ad w P) := by
  refine CT.of RX5 [(0, .int a0)] (plainFor_of_name (by decide +kernel)) rfl (Nat.le_of_ble_eq_true rfl) rfl (fun Γ hO hF => ?_)
  unfold wX5_highestSetting at hs
  refine G_iload_n hO 0 dX5_highestSetting_0 rfl rfl ?_
  refine G_if_lt hO 20 dX5_highestSetting_1 (by decide) (fun h2 => ?_) (fun h2 => ?_)
  · replace hs := hs.1 h2
    refine G_iconst hO 0 dX5_highestSetting_20 (by decide) ?_
    exact G_iret hO hF rfl (Nat.zero_le _) (Nat.zero_le _) dX5_highestSetting_21 ⟨rfl, rfl, rfl, _, rfl, hs⟩
  · replace hs := hs.2 h2
    refine G_iload_n hO 0 dX5_highestSetting_4 rfl rfl ?_
    refine G_gets2 hO mw_255 dX5_highestSetting_5 ?_
    refine G_slen2 hO dX5_highestSetting_8 ?_
    refine G_icmp_ge hO 20 dX5_highestSetting_9 (by decide) (fun h1 => ?_) (fun h1 => ?_)
    · replace hs := hs.1 h1
      refine G_iconst hO 0 dX5_highestSetting_20 (by decide) ?_
      exact G_iret hO hF rfl (Nat.zero_le _) (Nat.zero_le _) dX5_highestSetting_21 ⟨rfl, rfl, rfl, _, rfl, hs⟩
    · replace hs := hs.2 h1
      refine G_gets2 hO mw_255 dX5_highestSetting_12 ?_
      refine G_iload_n hO 0 dX5_highestSetting_15 rfl rfl ?_
      refine G_sald2 hO hs.1 dX5_highestSetting_16 ?_
      replace hs := hs.2
      refine G_goto hO 21 dX5_highestSetting_17 (by decide) ?_
      exact G_iret hO hF rfl (Nat.zero_le _) (Nat.zero_le _) dX5_highestSetting_21 ⟨rfl, rfl, rfl, _, rfl, hs⟩
set_option maxHeartbeats 4000000 in
set_option maxRecDepth 20000 in
theorem c_X5_lowestSetting {l : Launch} {Λ : Lay} {B : Zn} {ids : List (Nat × Nat)} {ad : Nat → Nat → Nat} {w : Nat → Nat → va_E} {a0 : Int32} {P : Int32 → Prop} (hs : wX5_lowestSetting a0 P) : CT l yX5_lowestSetting cX5_lowestSetting 1 (some .int) { frames := 0, cells := 0, slots := 0, locals := 0 } Λ B ids ad w [.int a0] (Ni ids ad w P) := by
  refine CT.of RX5 [(0, .int a0)] (plainFor_of_name (by decide +kernel)) rfl (Nat.le_of_ble_eq_true rfl) rfl (fun Γ hO hF => ?_)
  unfold wX5_lowestSetting at hs
  refine G_iload_n hO 0 dX5_lowestSetting_0 rfl rfl ?_
  refine G_if_lt hO 20 dX5_lowestSetting_1 (by decide) (fun h2 => ?_) (fun h2 => ?_)
  · replace hs := hs.1 h2
    refine G_iconst hO 1 dX5_lowestSetting_20 (by decide) ?_
    exact G_iret hO hF rfl (Nat.zero_le _) (Nat.zero_le _) dX5_lowestSetting_21 ⟨rfl, rfl, rfl, _, rfl, hs⟩
  · replace hs := hs.2 h2
    refine G_iload_n hO 0 dX5_lowestSetting_4 rfl rfl ?_
    refine G_gets1 hO mw_250 dX5_lowestSetting_5 ?_
    refine G_slen1 hO dX5_lowestSetting_8 ?_
    refine G_icmp_ge hO 20 dX5_lowestSetting_9 (by decide) (fun h1 => ?_) (fun h1 => ?_)
    · replace hs := hs.1 h1
      refine G_iconst hO 1 dX5_lowestSetting_20 (by decide) ?_
      exact G_iret hO hF rfl (Nat.zero_le _) (Nat.zero_le _) dX5_lowestSetting_21 ⟨rfl, rfl, rfl, _, rfl, hs⟩
    · replace hs := hs.2 h1
      refine G_gets1 hO mw_250 dX5_lowestSetting_12 ?_
      refine G_iload_n hO 0 dX5_lowestSetting_15 rfl rfl ?_
      refine G_sald1 hO hs.1 dX5_lowestSetting_16 ?_
      replace hs := hs.2
      refine G_goto hO 21 dX5_lowestSetting_17 (by decide) ?_
      exact G_iret hO hF rfl (Nat.zero_le _) (Nat.zero_le _) dX5_lowestSetting_21 ⟨rfl, rfl, rfl, _, rfl, hs⟩
set_option maxHeartbeats 4000000 in
set_option maxRecDepth 20000 in
theorem c_X4_readSetting {l : Launch} {Λ : Lay} {B : Zn} {ids : List (Nat × Nat)} {ad : Nat → Nat → Nat} (hm : ∀ q, q ∈ ids0 → q ∈ ids) (hrd : (20, 6) ∈ ids) {a2 : Int32} {a3 : Int32} {M : Mem} {O : Nat → Int64} {P : Int32 → Mem → Prop} (hs : wX4_readSetting a2 a3 M P) : CT l yX4_readSetting cX4_readSetting 5 (some .boolean) { frames := 2, cells := 0, slots := 0, locals := 48 } Λ B ids ad (sh Λ ad M O) [.ref (ad 20 6), .ref (ad 1 0), .int a2, .int a3] (Gi Λ ids ad O P) := by
  refine CT.of RX4 [(0, .ref (ad 20 6)), (1, .ref (ad 1 0)), (2, .int a2), (3, .int a3)] (plainFor_of_name (by decide +kernel)) rfl (Nat.le_of_ble_eq_true rfl) rfl (fun Γ hO hF => ?_)
  unfold wX4_readSetting at hs
  refine G_aload_n hO 0 dX4_readSetting_0 rfl rfl ?_
  refine G_iload_n hO 3 dX4_readSetting_1 rfl rfl ?_
  refine G_iload_n hO 2 dX4_readSetting_2 rfl rfl ?_
  refine KSN_Ni hO (rest := [.int a3, .ref (ad 20 6)]) [.int a2] (fun l => c_X5_lowestSetting hs) cv_X5_lowestSetting mw_248 (fun U h => h.2.2.2.1) rfl rfl (Nat.le_of_ble_eq_true rfl) (by decide) rfl rfl (Nat.zero_le _) (Nat.zero_le _) dX4_readSetting_3 ?_
  intro r1 hs
  refine G_iload_n hO 2 dX4_readSetting_6 rfl rfl ?_
  refine KSN_Ni hO (rest := [.int r1, .int a3, .ref (ad 20 6)]) [.int a2] (fun l => c_X5_highestSetting hs) cv_X5_highestSetting mw_253 (fun U h => h.2.2.2.2.1) rfl rfl (Nat.le_of_ble_eq_true rfl) (by decide) rfl rfl (Nat.zero_le _) (Nat.zero_le _) dX4_readSetting_7 ?_
  intro r2 hs
  refine KV_Gi hO (rest := []) [.int a3, .int r1, .int r2] (fun l => c_X4_readNumber hm hrd hs) cv_X4_readNumber mw_259 ms_3 mw_257 hrd cl4 (by show rS Λ ad O _ _ _ = _; rw [rS_gl Λ ad O]; exact (gl_6 _ _ _)) rfl rfl (Nat.le_of_ble_eq_true rfl) (by decide) rfl rfl (Nat.zero_le _) (Nat.zero_le _) dX4_readSetting_10 ?_
  intro r3 M4 hs
  refine G_istore hO [(4, .int r3), (0, .ref (ad 20 6)), (1, .ref (ad 1 0)), (2, .int a2), (3, .int a3)] dX4_readSetting_13 (by decide) rfl ?_
  refine G_iload hO 0 dX4_readSetting_15 rfl ?_
  refine G_iconst hO (-1) dX4_readSetting_17 (by decide) ?_
  refine G_icmp_ne hO 23 dX4_readSetting_18 (by decide) (fun h6 => ?_) (fun h6 => ?_)
  · replace hs := hs.1 h6
    refine G_aload_n hO 2 dX4_readSetting_23 rfl rfl ?_
    refine G_iload_n hO 3 dX4_readSetting_24 rfl rfl ?_
    refine G_iload hO 0 dX4_readSetting_25 rfl ?_
    refine KV_Grv hO (rest := []) [.int a2, .int r3] (rS_st Λ ad O (by decide)) (fun l => c_X3_changeSetting (fun _ h9 => hm _ (id_st (by decide) h9)) hs) cv_X3_changeSetting mw_262 mw_263 mw_261 (hm _ (id_st (by decide) (by decide))) cl3 (by show rS Λ ad O _ _ _ = _; rw [rS_st Λ ad O (by decide)]; exact (st_0 _ _ _ _)) rfl rfl (Nat.le_of_ble_eq_true rfl) (by decide) rfl rfl (Nat.zero_le _) (Nat.zero_le _) dX4_readSetting_27 ?_
    intro c5 hs
    refine G_iconst hO 1 dX4_readSetting_30 (by decide) ?_
    exact G_zret hO hF rfl (Nat.zero_le _) (Nat.zero_le _) rfl dX4_readSetting_31 ⟨rfl, rfl, _, _, rfl, rfl, hs⟩
  · replace hs := hs.2 h6
    refine G_iconst hO 0 dX4_readSetting_21 (by decide) ?_
    exact G_zret hO hF rfl (Nat.zero_le _) (Nat.zero_le _) rfl dX4_readSetting_22 ⟨rfl, rfl, _, _, rfl, rfl, hs⟩
set_option maxHeartbeats 4000000 in
set_option maxRecDepth 20000 in
theorem c_X4_readHead {l : Launch} {Λ : Lay} {B : Zn} {ids : List (Nat × Nat)} {ad : Nat → Nat → Nat} (hm : ∀ q, q ∈ ids0 → q ∈ ids) (hrd : (20, 6) ∈ ids) {M : Mem} {O : Nat → Int64} {P : Int32 → Mem → Prop} (hs : wX4_readHead M P) : CT l yX4_readHead cX4_readHead 2 (some .boolean) { frames := 3, cells := 0, slots := 0, locals := 72 } Λ B ids ad (sh Λ ad M O) [.ref (ad 20 6), .ref (ad 1 0)] (Gi Λ ids ad O P) := by
  refine CT.of RX4 [(0, .ref (ad 20 6)), (1, .ref (ad 1 0))] (plainFor_of_name (by decide +kernel)) rfl (Nat.le_of_ble_eq_true rfl) rfl (fun Γ hO hF => ?_)
  unfold wX4_readHead at hs
  refine G_aload_n hO 0 dX4_readHead_0 rfl rfl ?_
  refine KV_Gi hO (rest := []) [] (fun l => c_X4_here hm hrd hs) cv_X4_here mw_241 ms_1 mw_239 hrd cl4 (by show rS Λ ad O _ _ _ = _; rw [rS_gl Λ ad O]; exact (gl_6 _ _ _)) rfl rfl (Nat.le_of_ble_eq_true rfl) (by decide) rfl rfl (Nat.zero_le _) (Nat.zero_le _) dX4_readHead_1 ?_
  intro r1 M2 hs
  refine G_bipush hO 77 dX4_readHead_4 (by decide) ?_
  refine G_icmp_eq hO 11 dX4_readHead_6 (by decide) (fun h9 => ?_) (fun h9 => ?_)
  · replace hs := hs.1 h9
    refine G_aload_n hO 0 dX4_readHead_11 rfl rfl ?_
    refine G_dup hO dX4_readHead_12 rfl ?_
    refine M_getf hO (rS_gl Λ ad O) (v := .int (M2 20 6 2)) cl4 2 hrd (gl_6 _ _ _) (by decide) mw_221 rfl rfl dX4_readHead_13 ?_
    refine G_iconst hO 1 dX4_readHead_16 (by decide) ?_
    refine G_iadd hO dX4_readHead_17 ?_
    refine M_putf hO (rS_gl Λ ad O) (cw_gl _ _) cl4 2 hrd (gl_6 _ _ _) (by decide) mw_221 rfl rfl rfl rfl (Nat.le_of_ble_eq_true rfl) (rdP (by decide)) dX4_readHead_18 ?_
    refine G_aload_n hO 0 dX4_readHead_21 rfl rfl ?_
    refine G_aload_n hO 1 dX4_readHead_22 rfl rfl ?_
    refine G_iconst hO 0 dX4_readHead_23 (by decide) ?_
    refine G_iconst hO 3 dX4_readHead_24 (by decide) ?_
    refine KV_Gi hO (rest := []) [.ref (ad 1 0), .int 0, .int 3] (fun l => c_X4_readSetting hm hrd hs) cv_X4_readSetting mw_245 ms_2 mw_243 hrd cl4 (by show rS Λ ad O _ _ _ = _; rw [rS_gl Λ ad O]; exact (gl_6 _ _ _)) rfl rfl (Nat.le_of_ble_eq_true rfl) (by decide) rfl rfl (Nat.zero_le _) (Nat.zero_le _) dX4_readHead_25 ?_
    intro r3 M4 hs
    refine G_if_eq hO 45 dX4_readHead_28 (by decide) (fun h8 => ?_) (fun h8 => ?_)
    · replace hs := hs.1 h8
      refine G_iconst hO 0 dX4_readHead_45 (by decide) ?_
      exact G_zret hO hF rfl (Nat.zero_le _) (Nat.zero_le _) rfl dX4_readHead_46 ⟨rfl, rfl, _, _, rfl, rfl, hs⟩
    · replace hs := hs.2 h8
      refine G_aload_n hO 0 dX4_readHead_31 rfl rfl ?_
      refine G_aload_n hO 1 dX4_readHead_32 rfl rfl ?_
      refine G_iconst hO 1 dX4_readHead_33 (by decide) ?_
      refine G_iconst hO 2 dX4_readHead_34 (by decide) ?_
      refine KV_Gi hO (rest := []) [.ref (ad 1 0), .int 1, .int 2] (fun l => c_X4_readSetting hm hrd hs) cv_X4_readSetting mw_245 ms_2 mw_243 hrd cl4 (by show rS Λ ad O _ _ _ = _; rw [rS_gl Λ ad O]; exact (gl_6 _ _ _)) rfl rfl (Nat.le_of_ble_eq_true rfl) (by decide) rfl rfl (Nat.zero_le _) (Nat.zero_le _) dX4_readHead_35 ?_
      intro r5 M6 hs
      refine G_if_eq hO 45 dX4_readHead_38 (by decide) (fun h7 => ?_) (fun h7 => ?_)
      · replace hs := hs.1 h7
        refine G_iconst hO 0 dX4_readHead_45 (by decide) ?_
        exact G_zret hO hF rfl (Nat.zero_le _) (Nat.zero_le _) rfl dX4_readHead_46 ⟨rfl, rfl, _, _, rfl, rfl, hs⟩
      · replace hs := hs.2 h7
        refine G_iconst hO 1 dX4_readHead_41 (by decide) ?_
        refine G_goto hO 46 dX4_readHead_42 (by decide) ?_
        exact G_zret hO hF rfl (Nat.zero_le _) (Nat.zero_le _) rfl dX4_readHead_46 ⟨rfl, rfl, _, _, rfl, rfl, hs⟩
  · replace hs := hs.2 h9
    refine G_iconst hO 0 dX4_readHead_9 (by decide) ?_
    exact G_zret hO hF rfl (Nat.zero_le _) (Nat.zero_le _) rfl dX4_readHead_10 ⟨rfl, rfl, _, _, rfl, rfl, hs⟩
set_option maxHeartbeats 4000000 in
set_option maxRecDepth 20000 in
theorem c_X4_readOutside {l : Launch} {Λ : Lay} {B : Zn} {ids : List (Nat × Nat)} {ad : Nat → Nat → Nat} (hm : ∀ q, q ∈ ids0 → q ∈ ids) (hrd : (20, 6) ∈ ids) {M : Mem} {O : Nat → Int64} {P : Int32 → Mem → Prop} (hs : wX4_readOutside M P) : CT l yX4_readOutside cX4_readOutside 4 (some .boolean) { frames := 2, cells := 0, slots := 0, locals := 48 } Λ B ids ad (sh Λ ad M O) [.ref (ad 20 6), .ref (ad 1 0)] (Gi Λ ids ad O P) := by
  refine CT.of RX4 [(0, .ref (ad 20 6)), (1, .ref (ad 1 0))] (plainFor_of_name (by decide +kernel)) rfl (Nat.le_of_ble_eq_true rfl) rfl (fun Γ hO hF => ?_)
  have b54 : ∀ (v2 : Int32) (s0 : Int32) (M : Mem), wX4_readOutside_L54 P v2 s0 M → G Γ ids ad 0 0 (sh Λ ad M O) 54 [(1, .ref (ad 1 0)), (2, .int v2)] [.int s0] := by
    intro v2 s0 M hs
    unfold wX4_readOutside_L54 at hs
    refine G_istore_n hO [(3, .int s0), (1, .ref (ad 1 0)), (2, .int v2)] dX4_readOutside_54 rfl (by decide) rfl ?_
    refine G_iload_n hO 0 dX4_readOutside_55 rfl rfl ?_
    refine G_iconst hO (-1) dX4_readOutside_56 (by decide) ?_
    refine G_icmp_ne hO 62 dX4_readOutside_57 (by decide) (fun h11 => ?_) (fun h11 => ?_)
    · replace hs := hs.1 h11
      refine G_aload_n hO 1 dX4_readOutside_62 rfl rfl ?_
      refine G_iload_n hO 2 dX4_readOutside_63 rfl rfl ?_
      refine G_bipush hO 43 dX4_readOutside_64 (by decide) ?_
      refine G_icmp_ne hO 73 dX4_readOutside_66 (by decide) (fun h10 => ?_) (fun h10 => ?_)
      · replace hs := hs.1 h10
        refine G_iload_n hO 0 dX4_readOutside_73 rfl rfl ?_
        refine G_ineg hO dX4_readOutside_74 ?_
        refine M_putf hO (rS_st Λ ad O (by decide)) (cw_st _ _ _) cl3 1 (hm _ (id_st (by decide) (by decide))) (st_0 _ _ _ _) (by decide) mw_109 rfl rfl rfl rfl (Nat.le_of_ble_eq_true rfl) (stP (by decide)) dX4_readOutside_75 ?_
        refine G_iconst hO 1 dX4_readOutside_78 (by decide) ?_
        exact G_zret hO hF rfl (Nat.zero_le _) (Nat.zero_le _) rfl dX4_readOutside_79 ⟨rfl, rfl, _, _, rfl, rfl, hs⟩
      · replace hs := hs.2 h10
        refine G_iload_n hO 0 dX4_readOutside_69 rfl rfl ?_
        refine G_goto hO 75 dX4_readOutside_70 (by decide) ?_
        refine M_putf hO (rS_st Λ ad O (by decide)) (cw_st _ _ _) cl3 1 (hm _ (id_st (by decide) (by decide))) (st_0 _ _ _ _) (by decide) mw_109 rfl rfl rfl rfl (Nat.le_of_ble_eq_true rfl) (stP (by decide)) dX4_readOutside_75 ?_
        refine G_iconst hO 1 dX4_readOutside_78 (by decide) ?_
        exact G_zret hO hF rfl (Nat.zero_le _) (Nat.zero_le _) rfl dX4_readOutside_79 ⟨rfl, rfl, _, _, rfl, rfl, hs⟩
    · replace hs := hs.2 h11
      refine G_iconst hO 0 dX4_readOutside_60 (by decide) ?_
      exact G_zret hO hF rfl (Nat.zero_le _) (Nat.zero_le _) rfl dX4_readOutside_61 ⟨rfl, rfl, _, _, rfl, rfl, hs⟩
  have b19 : ∀ (v2 : Int32) (M : Mem), wX4_readOutside_L19 P v2 M → G Γ ids ad 0 0 (sh Λ ad M O) 19 [(0, .ref (ad 20 6)), (1, .ref (ad 1 0)), (2, .int v2)] [] := by
    intro v2 M hs
    unfold wX4_readOutside_L19 at hs
    refine G_aload_n hO 0 dX4_readOutside_19 rfl rfl ?_
    refine G_dup hO dX4_readOutside_20 rfl ?_
    refine M_getf hO (rS_gl Λ ad O) (v := .int (M 20 6 2)) cl4 2 hrd (gl_6 _ _ _) (by decide) mw_221 rfl rfl dX4_readOutside_21 ?_
    refine G_iconst hO 1 dX4_readOutside_24 (by decide) ?_
    refine G_iadd hO dX4_readOutside_25 ?_
    refine M_putf hO (rS_gl Λ ad O) (cw_gl _ _) cl4 2 hrd (gl_6 _ _ _) (by decide) mw_221 rfl rfl rfl rfl (Nat.le_of_ble_eq_true rfl) (rdP (by decide)) dX4_readOutside_26 ?_
    refine G_iload_n hO 2 dX4_readOutside_29 rfl rfl ?_
    refine G_bipush hO 43 dX4_readOutside_30 (by decide) ?_
    refine G_icmp_ne hO 46 dX4_readOutside_32 (by decide) (fun h9 => ?_) (fun h9 => ?_)
    · replace hs := hs.1 h9
      refine G_aload_n hO 0 dX4_readOutside_46 rfl rfl ?_
      refine G_iconst hO 2 dX4_readOutside_47 (by decide) ?_
      refine G_iconst hO 1 dX4_readOutside_48 (by decide) ?_
      refine G_bipush hO 20 dX4_readOutside_49 (by decide) ?_
      refine KV_Gi hO (rest := []) [.int 2, .int 1, .int 20] (fun l => c_X4_readNumber hm hrd hs) cv_X4_readNumber mw_259 ms_3 mw_257 hrd cl4 (by show rS Λ ad O _ _ _ = _; rw [rS_gl Λ ad O]; exact (gl_6 _ _ _)) rfl rfl (Nat.le_of_ble_eq_true rfl) (by decide) rfl rfl (Nat.zero_le _) (Nat.zero_le _) dX4_readOutside_51 ?_
      intro r5 M6 hs
      refine G_lv hO [(1, .ref (ad 1 0)), (2, .int v2)] [1, 2] rfl ?_
      exact b54 _ _ _ hs
    · replace hs := hs.2 h9
      refine G_aload_n hO 0 dX4_readOutside_35 rfl rfl ?_
      refine G_iconst hO 2 dX4_readOutside_36 (by decide) ?_
      refine G_iconst hO 0 dX4_readOutside_37 (by decide) ?_
      refine G_bipush hO 40 dX4_readOutside_38 (by decide) ?_
      refine KV_Gi hO (rest := []) [.int 2, .int 0, .int 40] (fun l => c_X4_readNumber hm hrd hs) cv_X4_readNumber mw_259 ms_3 mw_257 hrd cl4 (by show rS Λ ad O _ _ _ = _; rw [rS_gl Λ ad O]; exact (gl_6 _ _ _)) rfl rfl (Nat.le_of_ble_eq_true rfl) (by decide) rfl rfl (Nat.zero_le _) (Nat.zero_le _) dX4_readOutside_40 ?_
      intro r7 M8 hs
      refine G_goto hO 54 dX4_readOutside_43 (by decide) ?_
      refine G_lv hO [(1, .ref (ad 1 0)), (2, .int v2)] [1, 2] rfl ?_
      exact b54 _ _ _ hs
  unfold wX4_readOutside at hs
  refine G_aload_n hO 0 dX4_readOutside_0 rfl rfl ?_
  refine KV_Gi hO (rest := []) [] (fun l => c_X4_here hm hrd hs) cv_X4_here mw_241 ms_1 mw_239 hrd cl4 (by show rS Λ ad O _ _ _ = _; rw [rS_gl Λ ad O]; exact (gl_6 _ _ _)) rfl rfl (Nat.le_of_ble_eq_true rfl) (by decide) rfl rfl (Nat.zero_le _) (Nat.zero_le _) dX4_readOutside_1 ?_
  intro r1 M2 hs
  refine G_istore_n hO [(2, .int r1), (0, .ref (ad 20 6)), (1, .ref (ad 1 0))] dX4_readOutside_4 rfl (by decide) rfl ?_
  refine G_iload_n hO 0 dX4_readOutside_5 rfl rfl ?_
  refine G_bipush hO 43 dX4_readOutside_6 (by decide) ?_
  refine G_icmp_eq hO 19 dX4_readOutside_8 (by decide) (fun h4 => ?_) (fun h4 => ?_)
  · replace hs := hs.1 h4
    refine G_lv hO [(0, .ref (ad 20 6)), (1, .ref (ad 1 0)), (2, .int r1)] [1, 2, 0] rfl ?_
    exact b19 _ _ hs
  · replace hs := hs.2 h4
    refine G_iload_n hO 0 dX4_readOutside_11 rfl rfl ?_
    refine G_bipush hO 45 dX4_readOutside_12 (by decide) ?_
    refine G_icmp_eq hO 19 dX4_readOutside_14 (by decide) (fun h3 => ?_) (fun h3 => ?_)
    · replace hs := hs.1 h3
      refine G_lv hO [(0, .ref (ad 20 6)), (1, .ref (ad 1 0)), (2, .int r1)] [1, 2, 0] rfl ?_
      exact b19 _ _ hs
    · replace hs := hs.2 h3
      refine G_iconst hO 0 dX4_readOutside_17 (by decide) ?_
      exact G_zret hO hF rfl (Nat.zero_le _) (Nat.zero_le _) rfl dX4_readOutside_18 ⟨rfl, rfl, _, _, rfl, rfl, hs⟩
set_option maxHeartbeats 4000000 in
set_option maxRecDepth 20000 in
theorem c_X4_readRoom {l : Launch} {Λ : Lay} {B : Zn} {ids : List (Nat × Nat)} {ad : Nat → Nat → Nat} (hm : ∀ q, q ∈ ids0 → q ∈ ids) (hrd : (20, 6) ∈ ids) {M : Mem} {O : Nat → Int64} {P : Int32 → Mem → Prop} (hs : wX4_readRoom M P) : CT l yX4_readRoom cX4_readRoom 6 (some .boolean) { frames := 3, cells := 0, slots := 0, locals := 73 } Λ B ids ad (sh Λ ad M O) [.ref (ad 20 6), .ref (ad 1 0)] (Gi Λ ids ad O P) := by
  refine CT.of RX4 [(0, .ref (ad 20 6)), (1, .ref (ad 1 0))] (plainFor_of_name (by decide +kernel)) rfl (Nat.le_of_ble_eq_true rfl) rfl (fun Γ hO hF => ?_)
  have b65 : ∀ (v2 : Int32) (v3 : Int32) (v4 : Int32) (s0 : Int32) (M : Mem), wX4_readRoom_L65 P v2 v3 v4 s0 M → G Γ ids ad 0 0 (sh Λ ad M O) 65 [(1, .ref (ad 1 0)), (2, .int v2), (3, .int v3), (4, .int v4)] [.int s0] := by
    intro v2 v3 v4 s0 M hs
    unfold wX4_readRoom_L65 at hs
    refine G_istore hO [(5, .int s0), (1, .ref (ad 1 0)), (2, .int v2), (3, .int v3), (4, .int v4)] dX4_readRoom_65 (by decide) rfl ?_
    refine G_iload hO 0 dX4_readRoom_67 rfl ?_
    refine G_iconst hO (-1) dX4_readRoom_69 (by decide) ?_
    refine G_icmp_ne hO 75 dX4_readRoom_70 (by decide) (fun h13 => ?_) (fun h13 => ?_)
    · replace hs := hs.1 h13
      refine G_aload_n hO 1 dX4_readRoom_75 rfl rfl ?_
      refine G_iload_n hO 2 dX4_readRoom_76 rfl rfl ?_
      refine G_iload_n hO 3 dX4_readRoom_77 rfl rfl ?_
      refine G_iload hO 4 dX4_readRoom_78 rfl ?_
      refine G_iload hO 0 dX4_readRoom_80 rfl ?_
      refine KV_Grv hO (rest := []) [.int v2, .int v3, .int v4, .int s0] (rS_st Λ ad O (by decide)) (fun l => c_X3_buildRoom (fun _ h9 => hm _ (id_st (by decide) h9)) hs) cv_X3_buildRoom mw_278 mw_279 mw_277 (hm _ (id_st (by decide) (by decide))) cl3 (by show rS Λ ad O _ _ _ = _; rw [rS_st Λ ad O (by decide)]; exact (st_0 _ _ _ _)) rfl rfl (Nat.le_of_ble_eq_true rfl) (by decide) rfl rfl (Nat.zero_le _) (Nat.zero_le _) dX4_readRoom_82 ?_
      intro c12 hs
      refine G_iconst hO 1 dX4_readRoom_85 (by decide) ?_
      exact G_zret hO hF rfl (Nat.zero_le _) (Nat.zero_le _) rfl dX4_readRoom_86 ⟨rfl, rfl, _, _, rfl, rfl, hs⟩
    · replace hs := hs.2 h13
      refine G_iconst hO 0 dX4_readRoom_73 (by decide) ?_
      exact G_zret hO hF rfl (Nat.zero_le _) (Nat.zero_le _) rfl dX4_readRoom_74 ⟨rfl, rfl, _, _, rfl, rfl, hs⟩
  have b45 : ∀ (v2 : Int32) (v3 : Int32) (s0 : Int32) (M : Mem), wX4_readRoom_L45 P v2 v3 s0 M → G Γ ids ad 0 0 (sh Λ ad M O) 45 [(0, .ref (ad 20 6)), (1, .ref (ad 1 0)), (2, .int v2), (3, .int v3)] [.int s0] := by
    intro v2 v3 s0 M hs
    unfold wX4_readRoom_L45 at hs
    refine G_istore hO [(4, .int s0), (0, .ref (ad 20 6)), (1, .ref (ad 1 0)), (2, .int v2), (3, .int v3)] dX4_readRoom_45 (by decide) rfl ?_
    refine G_iload hO 0 dX4_readRoom_47 rfl ?_
    refine G_iconst hO (-1) dX4_readRoom_49 (by decide) ?_
    refine G_icmp_ne hO 57 dX4_readRoom_50 (by decide) (fun h11 => ?_) (fun h11 => ?_)
    · replace hs := hs.1 h11
      refine G_aload_n hO 1 dX4_readRoom_57 rfl rfl ?_
      refine G_iconst hO 1 dX4_readRoom_58 (by decide) ?_
      refine G_iconst hO 0 dX4_readRoom_59 (by decide) ?_
      refine G_bipush hO 9 dX4_readRoom_60 (by decide) ?_
      refine KV_Gi hO (rest := []) [.int 1, .int 0, .int 9] (fun l => c_X4_readNumber hm hrd hs) cv_X4_readNumber mw_259 ms_3 mw_257 hrd cl4 (by show rS Λ ad O _ _ _ = _; rw [rS_gl Λ ad O]; exact (gl_6 _ _ _)) rfl rfl (Nat.le_of_ble_eq_true rfl) (by decide) rfl rfl (Nat.zero_le _) (Nat.zero_le _) dX4_readRoom_62 ?_
      intro r9 M10 hs
      refine G_lv hO [(1, .ref (ad 1 0)), (2, .int v2), (3, .int v3), (4, .int s0)] [2, 3, 4, 0] rfl ?_
      exact b65 _ _ _ _ _ hs
    · replace hs := hs.2 h11
      refine G_iconst hO (-1) dX4_readRoom_53 (by decide) ?_
      refine G_goto hO 65 dX4_readRoom_54 (by decide) ?_
      refine G_lv hO [(1, .ref (ad 1 0)), (2, .int v2), (3, .int v3), (4, .int s0)] [2, 3, 4, 0] rfl ?_
      exact b65 _ _ _ _ _ hs
  have b27 : ∀ (v2 : Int32) (s0 : Int32) (M : Mem), wX4_readRoom_L27 P v2 s0 M → G Γ ids ad 0 0 (sh Λ ad M O) 27 [(0, .ref (ad 20 6)), (1, .ref (ad 1 0)), (2, .int v2)] [.int s0] := by
    intro v2 s0 M hs
    unfold wX4_readRoom_L27 at hs
    refine G_istore_n hO [(3, .int s0), (0, .ref (ad 20 6)), (1, .ref (ad 1 0)), (2, .int v2)] dX4_readRoom_27 rfl (by decide) rfl ?_
    refine G_iload_n hO 0 dX4_readRoom_28 rfl rfl ?_
    refine G_iconst hO (-1) dX4_readRoom_29 (by decide) ?_
    refine G_icmp_ne hO 37 dX4_readRoom_30 (by decide) (fun h8 => ?_) (fun h8 => ?_)
    · replace hs := hs.1 h8
      refine G_aload_n hO 1 dX4_readRoom_37 rfl rfl ?_
      refine G_iconst hO 1 dX4_readRoom_38 (by decide) ?_
      refine G_iconst hO 1 dX4_readRoom_39 (by decide) ?_
      refine G_bipush hO 9 dX4_readRoom_40 (by decide) ?_
      refine KV_Gi hO (rest := []) [.int 1, .int 1, .int 9] (fun l => c_X4_readNumber hm hrd hs) cv_X4_readNumber mw_259 ms_3 mw_257 hrd cl4 (by show rS Λ ad O _ _ _ = _; rw [rS_gl Λ ad O]; exact (gl_6 _ _ _)) rfl rfl (Nat.le_of_ble_eq_true rfl) (by decide) rfl rfl (Nat.zero_le _) (Nat.zero_le _) dX4_readRoom_42 ?_
      intro r6 M7 hs
      refine G_lv hO [(0, .ref (ad 20 6)), (1, .ref (ad 1 0)), (2, .int v2), (3, .int s0)] [1, 2, 3, 0] rfl ?_
      exact b45 _ _ _ _ hs
    · replace hs := hs.2 h8
      refine G_iconst hO (-1) dX4_readRoom_33 (by decide) ?_
      refine G_goto hO 45 dX4_readRoom_34 (by decide) ?_
      refine G_lv hO [(0, .ref (ad 20 6)), (1, .ref (ad 1 0)), (2, .int v2), (3, .int s0)] [1, 2, 3, 0] rfl ?_
      exact b45 _ _ _ _ hs
  unfold wX4_readRoom at hs
  refine G_aload_n hO 0 dX4_readRoom_0 rfl rfl ?_
  refine G_iconst hO 1 dX4_readRoom_1 (by decide) ?_
  refine G_iconst hO 1 dX4_readRoom_2 (by decide) ?_
  refine G_bipush hO 9 dX4_readRoom_3 (by decide) ?_
  refine KV_Gi hO (rest := []) [.int 1, .int 1, .int 9] (fun l => c_X4_readNumber hm hrd hs) cv_X4_readNumber mw_259 ms_3 mw_257 hrd cl4 (by show rS Λ ad O _ _ _ = _; rw [rS_gl Λ ad O]; exact (gl_6 _ _ _)) rfl rfl (Nat.le_of_ble_eq_true rfl) (by decide) rfl rfl (Nat.zero_le _) (Nat.zero_le _) dX4_readRoom_5 ?_
  intro r1 M2 hs
  refine G_istore_n hO [(2, .int r1), (0, .ref (ad 20 6)), (1, .ref (ad 1 0))] dX4_readRoom_8 rfl (by decide) rfl ?_
  refine G_iload_n hO 0 dX4_readRoom_9 rfl rfl ?_
  refine G_iconst hO (-1) dX4_readRoom_10 (by decide) ?_
  refine G_icmp_ne hO 18 dX4_readRoom_11 (by decide) (fun h5 => ?_) (fun h5 => ?_)
  · replace hs := hs.1 h5
    refine G_aload_n hO 1 dX4_readRoom_18 rfl rfl ?_
    refine G_iconst hO 2 dX4_readRoom_19 (by decide) ?_
    refine G_bipush hO 10 dX4_readRoom_20 (by decide) ?_
    refine G_bipush hO 25 dX4_readRoom_22 (by decide) ?_
    refine KV_Gi hO (rest := []) [.int 2, .int 10, .int 25] (fun l => c_X4_readNumber hm hrd hs) cv_X4_readNumber mw_259 ms_3 mw_257 hrd cl4 (by show rS Λ ad O _ _ _ = _; rw [rS_gl Λ ad O]; exact (gl_6 _ _ _)) rfl rfl (Nat.le_of_ble_eq_true rfl) (by decide) rfl rfl (Nat.zero_le _) (Nat.zero_le _) dX4_readRoom_24 ?_
    intro r3 M4 hs
    refine G_lv hO [(0, .ref (ad 20 6)), (1, .ref (ad 1 0)), (2, .int r1)] [1, 2, 0] rfl ?_
    exact b27 _ _ _ hs
  · replace hs := hs.2 h5
    refine G_iconst hO (-1) dX4_readRoom_14 (by decide) ?_
    refine G_goto hO 27 dX4_readRoom_15 (by decide) ?_
    refine G_lv hO [(0, .ref (ad 20 6)), (1, .ref (ad 1 0)), (2, .int r1)] [1, 2, 0] rfl ?_
    exact b27 _ _ _ hs
set_option maxHeartbeats 4000000 in
set_option maxRecDepth 20000 in
theorem c_X4_readPart {l : Launch} {Λ : Lay} {B : Zn} {ids : List (Nat × Nat)} {ad : Nat → Nat → Nat} (hm : ∀ q, q ∈ ids0 → q ∈ ids) (hrd : (20, 6) ∈ ids) {M : Mem} {O : Nat → Int64} {P : Int32 → Mem → Prop} (hs : wX4_readPart M P) : CT l yX4_readPart cX4_readPart 4 (some .boolean) { frames := 4, cells := 0, slots := 0, locals := 98 } Λ B ids ad (sh Λ ad M O) [.ref (ad 20 6), .ref (ad 1 0)] (Gi Λ ids ad O P) := by
  refine CT.of RX4 [(0, .ref (ad 20 6)), (1, .ref (ad 1 0))] (plainFor_of_name (by decide +kernel)) rfl (Nat.le_of_ble_eq_true rfl) rfl (fun Γ hO hF => ?_)
  have b34 : ∀ (v2 : Int32) (M : Mem), wX4_readPart_L34 P v2 M → G Γ ids ad 0 0 (sh Λ ad M O) 34 [(0, .ref (ad 20 6)), (1, .ref (ad 1 0)), (2, .int v2)] [] := by
    intro v2 M hs
    unfold wX4_readPart_L34 at hs
    refine G_iload_n hO 2 dX4_readPart_34 rfl rfl ?_
    refine G_bipush hO 111 dX4_readPart_35 (by decide) ?_
    refine G_icmp_ne hO 56 dX4_readPart_37 (by decide) (fun h18 => ?_) (fun h18 => ?_)
    · replace hs := hs.1 h18
      refine G_iload_n hO 2 dX4_readPart_56 rfl rfl ?_
      refine G_bipush hO 115 dX4_readPart_57 (by decide) ?_
      refine G_icmp_ne hO 102 dX4_readPart_59 (by decide) (fun h15 => ?_) (fun h15 => ?_)
      · replace hs := hs.1 h15
        refine G_iconst hO 0 dX4_readPart_102 (by decide) ?_
        exact G_zret hO hF rfl (Nat.zero_le _) (Nat.zero_le _) rfl dX4_readPart_103 ⟨rfl, rfl, _, _, rfl, rfl, hs⟩
      · replace hs := hs.2 h15
        refine G_aload_n hO 0 dX4_readPart_62 rfl rfl ?_
        refine G_dup hO dX4_readPart_63 rfl ?_
        refine M_getf hO (rS_gl Λ ad O) (v := .int (M 20 6 2)) cl4 2 hrd (gl_6 _ _ _) (by decide) mw_221 rfl rfl dX4_readPart_64 ?_
        refine G_iconst hO 1 dX4_readPart_67 (by decide) ?_
        refine G_iadd hO dX4_readPart_68 ?_
        refine M_putf hO (rS_gl Λ ad O) (cw_gl _ _) cl4 2 hrd (gl_6 _ _ _) (by decide) mw_221 rfl rfl rfl rfl (Nat.le_of_ble_eq_true rfl) (rdP (by decide)) dX4_readPart_69 ?_
        refine G_aload_n hO 0 dX4_readPart_72 rfl rfl ?_
        refine G_iconst hO 1 dX4_readPart_73 (by decide) ?_
        refine G_iconst hO 2 dX4_readPart_74 (by decide) ?_
        refine G_bipush hO 8 dX4_readPart_75 (by decide) ?_
        refine KV_Gi hO (rest := []) [.int 1, .int 2, .int 8] (fun l => c_X4_readNumber hm hrd hs) cv_X4_readNumber mw_259 ms_3 mw_257 hrd cl4 (by show rS Λ ad O _ _ _ = _; rw [rS_gl Λ ad O]; exact (gl_6 _ _ _)) rfl rfl (Nat.le_of_ble_eq_true rfl) (by decide) rfl rfl (Nat.zero_le _) (Nat.zero_le _) dX4_readPart_77 ?_
        intro r9 M10 hs
        refine G_istore_n hO [(3, .int r9), (0, .ref (ad 20 6)), (1, .ref (ad 1 0)), (2, .int v2)] dX4_readPart_80 rfl (by decide) rfl ?_
        refine G_iload_n hO 0 dX4_readPart_81 rfl rfl ?_
        refine G_iconst hO (-1) dX4_readPart_82 (by decide) ?_
        refine G_icmp_eq hO 100 dX4_readPart_83 (by decide) (fun h14 => ?_) (fun h14 => ?_)
        · replace hs := hs.1 h14
          refine G_iconst hO 0 dX4_readPart_100 (by decide) ?_
          exact G_zret hO hF rfl (Nat.zero_le _) (Nat.zero_le _) rfl dX4_readPart_101 ⟨rfl, rfl, _, _, rfl, rfl, hs⟩
        · replace hs := hs.2 h14
          refine G_aload_n hO 1 dX4_readPart_86 rfl rfl ?_
          refine G_aload_n hO 2 dX4_readPart_87 rfl rfl ?_
          refine G_iload_n hO 0 dX4_readPart_88 rfl rfl ?_
          refine G_iconst hO 2 dX4_readPart_89 (by decide) ?_
          refine KV_Gi hO (rest := []) [.ref (ad 1 0), .int r9, .int 2] (fun l => c_X4_readSetting hm hrd hs) cv_X4_readSetting mw_245 ms_2 mw_243 hrd cl4 (by show rS Λ ad O _ _ _ = _; rw [rS_gl Λ ad O]; exact (gl_6 _ _ _)) rfl rfl (Nat.le_of_ble_eq_true rfl) (by decide) rfl rfl (Nat.zero_le _) (Nat.zero_le _) dX4_readPart_90 ?_
          intro r11 M12 hs
          refine G_if_eq hO 100 dX4_readPart_93 (by decide) (fun h13 => ?_) (fun h13 => ?_)
          · replace hs := hs.1 h13
            refine G_iconst hO 0 dX4_readPart_100 (by decide) ?_
            exact G_zret hO hF rfl (Nat.zero_le _) (Nat.zero_le _) rfl dX4_readPart_101 ⟨rfl, rfl, _, _, rfl, rfl, hs⟩
          · replace hs := hs.2 h13
            refine G_iconst hO 1 dX4_readPart_96 (by decide) ?_
            refine G_goto hO 101 dX4_readPart_97 (by decide) ?_
            exact G_zret hO hF rfl (Nat.zero_le _) (Nat.zero_le _) rfl dX4_readPart_101 ⟨rfl, rfl, _, _, rfl, rfl, hs⟩
    · replace hs := hs.2 h18
      refine G_aload_n hO 0 dX4_readPart_40 rfl rfl ?_
      refine G_dup hO dX4_readPart_41 rfl ?_
      refine M_getf hO (rS_gl Λ ad O) (v := .int (M 20 6 2)) cl4 2 hrd (gl_6 _ _ _) (by decide) mw_221 rfl rfl dX4_readPart_42 ?_
      refine G_iconst hO 1 dX4_readPart_45 (by decide) ?_
      refine G_iadd hO dX4_readPart_46 ?_
      refine M_putf hO (rS_gl Λ ad O) (cw_gl _ _) cl4 2 hrd (gl_6 _ _ _) (by decide) mw_221 rfl rfl rfl rfl (Nat.le_of_ble_eq_true rfl) (rdP (by decide)) dX4_readPart_47 ?_
      refine G_aload_n hO 0 dX4_readPart_50 rfl rfl ?_
      refine G_aload_n hO 1 dX4_readPart_51 rfl rfl ?_
      refine KV_Gi hO (rest := []) [.ref (ad 1 0)] (fun l => c_X4_readOutside hm hrd hs) cv_X4_readOutside mw_299 ms_8 mw_297 hrd cl4 (by show rS Λ ad O _ _ _ = _; rw [rS_gl Λ ad O]; exact (gl_6 _ _ _)) rfl rfl (Nat.le_of_ble_eq_true rfl) (by decide) rfl rfl (Nat.zero_le _) (Nat.zero_le _) dX4_readPart_52 ?_
      intro r16 M17 hs
      have hb := hs.1.nar
      replace hs := hs.2
      exact G_zret hO hF rfl (Nat.zero_le _) (Nat.zero_le _) hb dX4_readPart_55 ⟨rfl, rfl, _, _, rfl, rfl, hs⟩
  unfold wX4_readPart at hs
  refine G_aload_n hO 0 dX4_readPart_0 rfl rfl ?_
  refine KV_Gi hO (rest := []) [] (fun l => c_X4_here hm hrd hs) cv_X4_here mw_241 ms_1 mw_239 hrd cl4 (by show rS Λ ad O _ _ _ = _; rw [rS_gl Λ ad O]; exact (gl_6 _ _ _)) rfl rfl (Nat.le_of_ble_eq_true rfl) (by decide) rfl rfl (Nat.zero_le _) (Nat.zero_le _) dX4_readPart_1 ?_
  intro r1 M2 hs
  refine G_istore_n hO [(2, .int r1), (0, .ref (ad 20 6)), (1, .ref (ad 1 0))] dX4_readPart_4 rfl (by decide) rfl ?_
  refine G_iload_n hO 0 dX4_readPart_5 rfl rfl ?_
  refine G_bipush hO 114 dX4_readPart_6 (by decide) ?_
  refine G_icmp_ne hO 34 dX4_readPart_8 (by decide) (fun h8 => ?_) (fun h8 => ?_)
  · replace hs := hs.1 h8
    refine G_lv hO [(0, .ref (ad 20 6)), (1, .ref (ad 1 0)), (2, .int r1)] [1, 2, 0] rfl ?_
    exact b34 _ _ hs
  · replace hs := hs.2 h8
    refine G_aload_n hO 2 dX4_readPart_11 rfl rfl ?_
    refine KV_Gri hO (rest := []) [] (rS_st Λ ad O (by decide)) (fun l => c_X3_isFull (fun _ h9 => hm _ (id_st (by decide) h9)) hs) cv_X3_isFull mw_270 mw_271 mw_269 (hm _ (id_st (by decide) (by decide))) cl3 (by show rS Λ ad O _ _ _ = _; rw [rS_st Λ ad O (by decide)]; exact (st_0 _ _ _ _)) rfl rfl (Nat.le_of_ble_eq_true rfl) (by decide) rfl rfl (Nat.zero_le _) (Nat.zero_le _) dX4_readPart_12 ?_
    intro r3 c4 hs
    refine G_if_ne hO 34 dX4_readPart_15 (by decide) (fun h7 => ?_) (fun h7 => ?_)
    · replace hs := hs.1 h7
      refine G_lv hO [(0, .ref (ad 20 6)), (1, .ref (ad 1 0)), (2, .int r1)] [1, 2, 0] rfl ?_
      exact b34 _ _ hs
    · replace hs := hs.2 h7
      refine G_aload_n hO 1 dX4_readPart_18 rfl rfl ?_
      refine G_dup hO dX4_readPart_19 rfl ?_
      refine M_getf hO (rS_gl Λ ad O) (v := .int ((va_up M2 1 c4) 20 6 2)) cl4 2 hrd (gl_6 _ _ _) (by decide) mw_221 rfl rfl dX4_readPart_20 ?_
      refine G_iconst hO 1 dX4_readPart_23 (by decide) ?_
      refine G_iadd hO dX4_readPart_24 ?_
      refine M_putf hO (rS_gl Λ ad O) (cw_gl _ _) cl4 2 hrd (gl_6 _ _ _) (by decide) mw_221 rfl rfl rfl rfl (Nat.le_of_ble_eq_true rfl) (rdP (by decide)) dX4_readPart_25 ?_
      refine G_aload_n hO 1 dX4_readPart_28 rfl rfl ?_
      refine G_aload_n hO 2 dX4_readPart_29 rfl rfl ?_
      refine KV_Gi hO (rest := []) [.ref (ad 1 0)] (fun l => c_X4_readRoom hm hrd hs) cv_X4_readRoom mw_275 ms_5 mw_273 hrd cl4 (by show rS Λ ad O _ _ _ = _; rw [rS_gl Λ ad O]; exact (gl_6 _ _ _)) rfl rfl (Nat.le_of_ble_eq_true rfl) (by decide) rfl rfl (Nat.zero_le _) (Nat.zero_le _) dX4_readPart_30 ?_
      intro r5 M6 hs
      have hb := hs.1.nar
      replace hs := hs.2
      exact G_zret hO hF rfl (Nat.zero_le _) (Nat.zero_le _) hb dX4_readPart_33 ⟨rfl, rfl, _, _, rfl, rfl, hs⟩
set_option maxHeartbeats 4000000 in
set_option maxRecDepth 20000 in
theorem c_X4_readInto {l : Launch} {Λ : Lay} {B : Zn} {ids : List (Nat × Nat)} {ad : Nat → Nat → Nat} (hm : ∀ q, q ∈ ids0 → q ∈ ids) (hrd : (20, 6) ∈ ids) {M : Mem} {O : Nat → Int64} {P : Int32 → Mem → Prop} (hs : wX4_readInto M P) : CT l yX4_readInto cX4_readInto 3 (some .boolean) { frames := 5, cells := 0, slots := 0, locals := 121 } Λ B ids ad (sh Λ ad M O) [.ref (ad 20 6), .ref (ad 1 0)] (Gi Λ ids ad O P) := by
  refine CT.of RX4 [(0, .ref (ad 20 6)), (1, .ref (ad 1 0))] (plainFor_of_name (by decide +kernel)) rfl (Nat.le_of_ble_eq_true rfl) rfl (fun Γ hO hF => ?_)
  have b49 : ∀ (M : Mem), wX4_readInto_L49 P M → G Γ ids ad 0 0 (sh Λ ad M O) 49 [(0, .ref (ad 20 6))] [] := by
    intro M hs
    unfold wX4_readInto_L49 at hs
    refine G_aload_n hO 0 dX4_readInto_49 rfl rfl ?_
    refine M_getf hO (rS_gl Λ ad O) (v := .int (M 20 6 2)) cl4 2 hrd (gl_6 _ _ _) (by decide) mw_221 rfl rfl dX4_readInto_50 ?_
    refine G_aload_n hO 0 dX4_readInto_53 rfl rfl ?_
    refine M_getf hO (rS_gl Λ ad O) (v := .int (M 20 6 1)) cl4 1 hrd (gl_6 _ _ _) (by decide) mw_220 rfl rfl dX4_readInto_54 ?_
    refine G_icmp_ne hO 64 dX4_readInto_57 (by decide) (fun h11 => ?_) (fun h11 => ?_)
    · replace hs := hs.1 h11
      refine G_iconst hO 0 dX4_readInto_64 (by decide) ?_
      exact G_zret hO hF rfl (Nat.zero_le _) (Nat.zero_le _) rfl dX4_readInto_65 ⟨rfl, rfl, _, _, rfl, rfl, hs⟩
    · replace hs := hs.2 h11
      refine G_iconst hO 1 dX4_readInto_60 (by decide) ?_
      refine G_goto hO 65 dX4_readInto_61 (by decide) ?_
      exact G_zret hO hF rfl (Nat.zero_le _) (Nat.zero_le _) rfl dX4_readInto_65 ⟨rfl, rfl, _, _, rfl, rfl, hs⟩
  have b16 : ∀ (N16 : Nat) (v2 : Int32) (M : Mem), wX4_readInto_L16 P N16 v2 M → G Γ ids ad 0 0 (sh Λ ad M O) 16 [(0, .ref (ad 20 6)), (1, .ref (ad 1 0)), (2, .int v2)] [] := by
    intro N16
    induction N16 with
    | zero => intro v2 M hs; exact False.elim hs
    | succ N16 ih16 =>
      intro v2 M hs
      unfold wX4_readInto_L16 at hs
      refine G_iload_n hO 2 dX4_readInto_16 rfl rfl ?_
      refine G_bipush hO 80 dX4_readInto_17 (by decide) ?_
      refine G_icmp_ge hO 49 dX4_readInto_19 (by decide) (fun h10 => ?_) (fun h10 => ?_)
      · replace hs := hs.1 h10
        refine G_lv hO [(0, .ref (ad 20 6))] [0] rfl ?_
        exact b49 _ hs
      · replace hs := hs.2 h10
        refine G_aload_n hO 0 dX4_readInto_22 rfl rfl ?_
        refine M_getf hO (rS_gl Λ ad O) (v := .int (M 20 6 2)) cl4 2 hrd (gl_6 _ _ _) (by decide) mw_221 rfl rfl dX4_readInto_23 ?_
        refine G_aload_n hO 0 dX4_readInto_26 rfl rfl ?_
        refine M_getf hO (rS_gl Λ ad O) (v := .int (M 20 6 1)) cl4 1 hrd (gl_6 _ _ _) (by decide) mw_220 rfl rfl dX4_readInto_27 ?_
        refine G_icmp_ge hO 49 dX4_readInto_30 (by decide) (fun h9 => ?_) (fun h9 => ?_)
        · replace hs := hs.1 h9
          refine G_lv hO [(0, .ref (ad 20 6))] [0] rfl ?_
          exact b49 _ hs
        · replace hs := hs.2 h9
          refine G_aload_n hO 0 dX4_readInto_33 rfl rfl ?_
          refine G_aload_n hO 1 dX4_readInto_34 rfl rfl ?_
          refine KV_Gi hO (rest := []) [.ref (ad 1 0)] (fun l => c_X4_readPart hm hrd hs) cv_X4_readPart mw_267 ms_4 mw_265 hrd cl4 (by show rS Λ ad O _ _ _ = _; rw [rS_gl Λ ad O]; exact (gl_6 _ _ _)) rfl rfl (Nat.le_of_ble_eq_true rfl) (by decide) rfl rfl (Nat.zero_le _) (Nat.zero_le _) dX4_readInto_35 ?_
          intro r6 M7 hs
          refine G_if_ne hO 43 dX4_readInto_38 (by decide) (fun h8 => ?_) (fun h8 => ?_)
          · replace hs := hs.1 h8
            refine G_iinc hO 2 (v2 + 1) [(2, .int (v2 + 1)), (0, .ref (ad 20 6)), (1, .ref (ad 1 0))] dX4_readInto_43 rfl rfl (by decide) rfl ?_
            refine G_goto hO 16 dX4_readInto_46 (by decide) ?_
            refine G_lv hO [(0, .ref (ad 20 6)), (1, .ref (ad 1 0)), (2, .int (v2 + 1))] [1, 2, 0] rfl ?_
            exact ih16 _ _ hs
          · replace hs := hs.2 h8
            refine G_iconst hO 0 dX4_readInto_41 (by decide) ?_
            exact G_zret hO hF rfl (Nat.zero_le _) (Nat.zero_le _) rfl dX4_readInto_42 ⟨rfl, rfl, _, _, rfl, rfl, hs⟩
  unfold wX4_readInto at hs
  refine G_aload_n hO 1 dX4_readInto_0 rfl rfl ?_
  refine KV_Grv hO (rest := []) [] (rS_st Λ ad O (by decide)) (fun l => c_X3_beginAnew (fun _ h9 => hm _ (id_st (by decide) h9)) hs) cv_X3_beginAnew mw_97 mw_98 mw_234 (hm _ (id_st (by decide) (by decide))) cl3 (by show rS Λ ad O _ _ _ = _; rw [rS_st Λ ad O (by decide)]; exact (st_0 _ _ _ _)) rfl rfl (Nat.le_of_ble_eq_true rfl) (by decide) rfl rfl (Nat.zero_le _) (Nat.zero_le _) dX4_readInto_1 ?_
  intro c1 hs
  refine G_aload_n hO 0 dX4_readInto_4 rfl rfl ?_
  refine G_aload_n hO 1 dX4_readInto_5 rfl rfl ?_
  refine KV_Gi hO (rest := []) [.ref (ad 1 0)] (fun l => c_X4_readHead hm hrd hs) cv_X4_readHead mw_237 ms_0 mw_235 hrd cl4 (by show rS Λ ad O _ _ _ = _; rw [rS_gl Λ ad O]; exact (gl_6 _ _ _)) rfl rfl (Nat.le_of_ble_eq_true rfl) (by decide) rfl rfl (Nat.zero_le _) (Nat.zero_le _) dX4_readInto_6 ?_
  intro r2 M3 hs
  refine G_if_ne hO 14 dX4_readInto_9 (by decide) (fun h5 => ?_) (fun h5 => ?_)
  · replace hs := hs.1 h5
    refine G_iconst hO 0 dX4_readInto_14 (by decide) ?_
    refine G_istore_n hO [(2, .int 0), (0, .ref (ad 20 6)), (1, .ref (ad 1 0))] dX4_readInto_15 rfl (by decide) rfl ?_
    obtain ⟨Nf4, hs⟩ := hs
    refine G_lv hO [(0, .ref (ad 20 6)), (1, .ref (ad 1 0)), (2, .int 0)] [1, 2, 0] rfl ?_
    exact b16 Nf4 _ _ hs
  · replace hs := hs.2 h5
    refine G_iconst hO 0 dX4_readInto_12 (by decide) ?_
    exact G_zret hO hF rfl (Nat.zero_le _) (Nat.zero_le _) rfl dX4_readInto_13 ⟨rfl, rfl, _, _, rfl, rfl, hs⟩
set_option maxHeartbeats 4000000 in
set_option maxRecDepth 20000 in
theorem c_X5_settingAllowed {l : Launch} {Λ : Lay} {B : Zn} {ids : List (Nat × Nat)} {ad : Nat → Nat → Nat} {w : Nat → Nat → va_E} {a0 : Int32} {a1 : Int32} {P : Int32 → Prop} (hs : wX5_settingAllowed a0 a1 P) : CT l yX5_settingAllowed cX5_settingAllowed 2 (some .boolean) { frames := 1, cells := 0, slots := 0, locals := 20 } Λ B ids ad w [.int a0, .int a1] (Ni ids ad w P) := by
  refine CT.of RX5 [(0, .int a0), (1, .int a1)] (plainFor_of_name (by decide +kernel)) rfl (Nat.le_of_ble_eq_true rfl) rfl (fun Γ hO hF => ?_)
  unfold wX5_settingAllowed at hs
  refine G_iload_n hO 1 dX5_settingAllowed_0 rfl rfl ?_
  refine G_iload_n hO 0 dX5_settingAllowed_1 rfl rfl ?_
  refine KS_Ni hO (rest := [.int a1]) [.int a0] (fun l => c_X5_lowestSetting hs) cv_X5_lowestSetting mw_248 mw_614 rfl rfl (Nat.le_of_ble_eq_true rfl) (by decide) rfl rfl (Nat.zero_le _) (Nat.zero_le _) dX5_settingAllowed_2 ?_
  intro r1 hs
  refine G_icmp_lt hO 20 dX5_settingAllowed_5 (by decide) (fun h4 => ?_) (fun h4 => ?_)
  · replace hs := hs.1 h4
    refine G_iconst hO 0 dX5_settingAllowed_20 (by decide) ?_
    exact G_zret hO hF rfl (Nat.zero_le _) (Nat.zero_le _) rfl dX5_settingAllowed_21 ⟨rfl, rfl, rfl, _, rfl, hs⟩
  · replace hs := hs.2 h4
    refine G_iload_n hO 1 dX5_settingAllowed_8 rfl rfl ?_
    refine G_iload_n hO 0 dX5_settingAllowed_9 rfl rfl ?_
    refine KS_Ni hO (rest := [.int a1]) [.int a0] (fun l => c_X5_highestSetting hs) cv_X5_highestSetting mw_253 mw_615 rfl rfl (Nat.le_of_ble_eq_true rfl) (by decide) rfl rfl (Nat.zero_le _) (Nat.zero_le _) dX5_settingAllowed_10 ?_
    intro r2 hs
    refine G_icmp_gt hO 20 dX5_settingAllowed_13 (by decide) (fun h3 => ?_) (fun h3 => ?_)
    · replace hs := hs.1 h3
      refine G_iconst hO 0 dX5_settingAllowed_20 (by decide) ?_
      exact G_zret hO hF rfl (Nat.zero_le _) (Nat.zero_le _) rfl dX5_settingAllowed_21 ⟨rfl, rfl, rfl, _, rfl, hs⟩
    · replace hs := hs.2 h3
      refine G_iconst hO 1 dX5_settingAllowed_16 (by decide) ?_
      refine G_goto hO 21 dX5_settingAllowed_17 (by decide) ?_
      exact G_zret hO hF rfl (Nat.zero_le _) (Nat.zero_le _) rfl dX5_settingAllowed_21 ⟨rfl, rfl, rfl, _, rfl, hs⟩
set_option maxHeartbeats 4000000 in
set_option maxRecDepth 20000 in
theorem c_X5_outsideAllowed {l : Launch} {Λ : Lay} {B : Zn} {ids : List (Nat × Nat)} {ad : Nat → Nat → Nat} {w : Nat → Nat → va_E} {a0 : Int32} {P : Int32 → Prop} (hs : wX5_outsideAllowed a0 P) : CT l yX5_outsideAllowed cX5_outsideAllowed 1 (some .boolean) { frames := 0, cells := 0, slots := 0, locals := 0 } Λ B ids ad w [.int a0] (Ni ids ad w P) := by
  refine CT.of RX5 [(0, .int a0)] (plainFor_of_name (by decide +kernel)) rfl (Nat.le_of_ble_eq_true rfl) rfl (fun Γ hO hF => ?_)
  unfold wX5_outsideAllowed at hs
  refine G_iload_n hO 0 dX5_outsideAllowed_0 rfl rfl ?_
  refine G_bipush hO (-20) dX5_outsideAllowed_1 (by decide) ?_
  refine G_icmp_lt hO 16 dX5_outsideAllowed_3 (by decide) (fun h2 => ?_) (fun h2 => ?_)
  · replace hs := hs.1 h2
    refine G_iconst hO 0 dX5_outsideAllowed_16 (by decide) ?_
    exact G_zret hO hF rfl (Nat.zero_le _) (Nat.zero_le _) rfl dX5_outsideAllowed_17 ⟨rfl, rfl, rfl, _, rfl, hs⟩
  · replace hs := hs.2 h2
    refine G_iload_n hO 0 dX5_outsideAllowed_6 rfl rfl ?_
    refine G_bipush hO 40 dX5_outsideAllowed_7 (by decide) ?_
    refine G_icmp_gt hO 16 dX5_outsideAllowed_9 (by decide) (fun h1 => ?_) (fun h1 => ?_)
    · replace hs := hs.1 h1
      refine G_iconst hO 0 dX5_outsideAllowed_16 (by decide) ?_
      exact G_zret hO hF rfl (Nat.zero_le _) (Nat.zero_le _) rfl dX5_outsideAllowed_17 ⟨rfl, rfl, rfl, _, rfl, hs⟩
    · replace hs := hs.2 h1
      refine G_iconst hO 1 dX5_outsideAllowed_12 (by decide) ?_
      refine G_goto hO 17 dX5_outsideAllowed_13 (by decide) ?_
      exact G_zret hO hF rfl (Nat.zero_le _) (Nat.zero_le _) rfl dX5_outsideAllowed_17 ⟨rfl, rfl, rfl, _, rfl, hs⟩
set_option maxHeartbeats 4000000 in
set_option maxRecDepth 20000 in
theorem c_X5_passAllowed {l : Launch} {Λ : Lay} {B : Zn} {ids : List (Nat × Nat)} {ad : Nat → Nat → Nat} {w : Nat → Nat → va_E} {a0 : Int32} {P : Int32 → Prop} (hs : wX5_passAllowed a0 P) : CT l yX5_passAllowed cX5_passAllowed 1 (some .boolean) { frames := 0, cells := 0, slots := 0, locals := 0 } Λ B ids ad w [.int a0] (Ni ids ad w P) := by
  refine CT.of RX5 [(0, .int a0)] (plainFor_of_name (by decide +kernel)) rfl (Nat.le_of_ble_eq_true rfl) rfl (fun Γ hO hF => ?_)
  unfold wX5_passAllowed at hs
  refine G_iload_n hO 0 dX5_passAllowed_0 rfl rfl ?_
  refine G_iconst hO 1 dX5_passAllowed_1 (by decide) ?_
  refine G_icmp_lt hO 15 dX5_passAllowed_2 (by decide) (fun h2 => ?_) (fun h2 => ?_)
  · replace hs := hs.1 h2
    refine G_iconst hO 0 dX5_passAllowed_15 (by decide) ?_
    exact G_zret hO hF rfl (Nat.zero_le _) (Nat.zero_le _) rfl dX5_passAllowed_16 ⟨rfl, rfl, rfl, _, rfl, hs⟩
  · replace hs := hs.2 h2
    refine G_iload_n hO 0 dX5_passAllowed_5 rfl rfl ?_
    refine G_bipush hO 60 dX5_passAllowed_6 (by decide) ?_
    refine G_icmp_gt hO 15 dX5_passAllowed_8 (by decide) (fun h1 => ?_) (fun h1 => ?_)
    · replace hs := hs.1 h1
      refine G_iconst hO 0 dX5_passAllowed_15 (by decide) ?_
      exact G_zret hO hF rfl (Nat.zero_le _) (Nat.zero_le _) rfl dX5_passAllowed_16 ⟨rfl, rfl, rfl, _, rfl, hs⟩
    · replace hs := hs.2 h1
      refine G_iconst hO 1 dX5_passAllowed_11 (by decide) ?_
      refine G_goto hO 16 dX5_passAllowed_12 (by decide) ?_
      exact G_zret hO hF rfl (Nat.zero_le _) (Nat.zero_le _) rfl dX5_passAllowed_16 ⟨rfl, rfl, rfl, _, rfl, hs⟩
set_option maxHeartbeats 4000000 in
set_option maxRecDepth 20000 in
theorem c_X5_wantedAllowed {l : Launch} {Λ : Lay} {B : Zn} {ids : List (Nat × Nat)} {ad : Nat → Nat → Nat} {w : Nat → Nat → va_E} {a0 : Int32} {P : Int32 → Prop} (hs : wX5_wantedAllowed a0 P) : CT l yX5_wantedAllowed cX5_wantedAllowed 1 (some .boolean) { frames := 0, cells := 0, slots := 0, locals := 0 } Λ B ids ad w [.int a0] (Ni ids ad w P) := by
  refine CT.of RX5 [(0, .int a0)] (plainFor_of_name (by decide +kernel)) rfl (Nat.le_of_ble_eq_true rfl) rfl (fun Γ hO hF => ?_)
  unfold wX5_wantedAllowed at hs
  refine G_iload_n hO 0 dX5_wantedAllowed_0 rfl rfl ?_
  refine G_bipush hO 10 dX5_wantedAllowed_1 (by decide) ?_
  refine G_icmp_lt hO 16 dX5_wantedAllowed_3 (by decide) (fun h2 => ?_) (fun h2 => ?_)
  · replace hs := hs.1 h2
    refine G_iconst hO 0 dX5_wantedAllowed_16 (by decide) ?_
    exact G_zret hO hF rfl (Nat.zero_le _) (Nat.zero_le _) rfl dX5_wantedAllowed_17 ⟨rfl, rfl, rfl, _, rfl, hs⟩
  · replace hs := hs.2 h2
    refine G_iload_n hO 0 dX5_wantedAllowed_6 rfl rfl ?_
    refine G_bipush hO 25 dX5_wantedAllowed_7 (by decide) ?_
    refine G_icmp_gt hO 16 dX5_wantedAllowed_9 (by decide) (fun h1 => ?_) (fun h1 => ?_)
    · replace hs := hs.1 h1
      refine G_iconst hO 0 dX5_wantedAllowed_16 (by decide) ?_
      exact G_zret hO hF rfl (Nat.zero_le _) (Nat.zero_le _) rfl dX5_wantedAllowed_17 ⟨rfl, rfl, rfl, _, rfl, hs⟩
    · replace hs := hs.2 h1
      refine G_iconst hO 1 dX5_wantedAllowed_12 (by decide) ?_
      refine G_goto hO 17 dX5_wantedAllowed_13 (by decide) ?_
      exact G_zret hO hF rfl (Nat.zero_le _) (Nat.zero_le _) rfl dX5_wantedAllowed_17 ⟨rfl, rfl, rfl, _, rfl, hs⟩
set_option maxHeartbeats 4000000 in
set_option maxRecDepth 20000 in
theorem c_X5_radiatorsAllowed {l : Launch} {Λ : Lay} {B : Zn} {ids : List (Nat × Nat)} {ad : Nat → Nat → Nat} {w : Nat → Nat → va_E} {a0 : Int32} {P : Int32 → Prop} (hs : wX5_radiatorsAllowed a0 P) : CT l yX5_radiatorsAllowed cX5_radiatorsAllowed 1 (some .boolean) { frames := 0, cells := 0, slots := 0, locals := 0 } Λ B ids ad w [.int a0] (Ni ids ad w P) := by
  refine CT.of RX5 [(0, .int a0)] (plainFor_of_name (by decide +kernel)) rfl (Nat.le_of_ble_eq_true rfl) rfl (fun Γ hO hF => ?_)
  unfold wX5_radiatorsAllowed at hs
  refine G_iload_n hO 0 dX5_radiatorsAllowed_0 rfl rfl ?_
  refine G_iconst hO 1 dX5_radiatorsAllowed_1 (by decide) ?_
  refine G_icmp_lt hO 15 dX5_radiatorsAllowed_2 (by decide) (fun h2 => ?_) (fun h2 => ?_)
  · replace hs := hs.1 h2
    refine G_iconst hO 0 dX5_radiatorsAllowed_15 (by decide) ?_
    exact G_zret hO hF rfl (Nat.zero_le _) (Nat.zero_le _) rfl dX5_radiatorsAllowed_16 ⟨rfl, rfl, rfl, _, rfl, hs⟩
  · replace hs := hs.2 h2
    refine G_iload_n hO 0 dX5_radiatorsAllowed_5 rfl rfl ?_
    refine G_bipush hO 9 dX5_radiatorsAllowed_6 (by decide) ?_
    refine G_icmp_gt hO 15 dX5_radiatorsAllowed_8 (by decide) (fun h1 => ?_) (fun h1 => ?_)
    · replace hs := hs.1 h1
      refine G_iconst hO 0 dX5_radiatorsAllowed_15 (by decide) ?_
      exact G_zret hO hF rfl (Nat.zero_le _) (Nat.zero_le _) rfl dX5_radiatorsAllowed_16 ⟨rfl, rfl, rfl, _, rfl, hs⟩
    · replace hs := hs.2 h1
      refine G_iconst hO 1 dX5_radiatorsAllowed_11 (by decide) ?_
      refine G_goto hO 16 dX5_radiatorsAllowed_12 (by decide) ?_
      exact G_zret hO hF rfl (Nat.zero_le _) (Nat.zero_le _) rfl dX5_radiatorsAllowed_16 ⟨rfl, rfl, rfl, _, rfl, hs⟩
set_option maxHeartbeats 4000000 in
set_option maxRecDepth 20000 in
theorem c_X5_leakAllowed {l : Launch} {Λ : Lay} {B : Zn} {ids : List (Nat × Nat)} {ad : Nat → Nat → Nat} {w : Nat → Nat → va_E} {a0 : Int32} {P : Int32 → Prop} (hs : wX5_leakAllowed a0 P) : CT l yX5_leakAllowed cX5_leakAllowed 1 (some .boolean) { frames := 0, cells := 0, slots := 0, locals := 0 } Λ B ids ad w [.int a0] (Ni ids ad w P) := by
  refine CT.of RX5 [(0, .int a0)] (plainFor_of_name (by decide +kernel)) rfl (Nat.le_of_ble_eq_true rfl) rfl (fun Γ hO hF => ?_)
  unfold wX5_leakAllowed at hs
  refine G_iload_n hO 0 dX5_leakAllowed_0 rfl rfl ?_
  refine G_if_lt hO 14 dX5_leakAllowed_1 (by decide) (fun h2 => ?_) (fun h2 => ?_)
  · replace hs := hs.1 h2
    refine G_iconst hO 0 dX5_leakAllowed_14 (by decide) ?_
    exact G_zret hO hF rfl (Nat.zero_le _) (Nat.zero_le _) rfl dX5_leakAllowed_15 ⟨rfl, rfl, rfl, _, rfl, hs⟩
  · replace hs := hs.2 h2
    refine G_iload_n hO 0 dX5_leakAllowed_4 rfl rfl ?_
    refine G_bipush hO 9 dX5_leakAllowed_5 (by decide) ?_
    refine G_icmp_gt hO 14 dX5_leakAllowed_7 (by decide) (fun h1 => ?_) (fun h1 => ?_)
    · replace hs := hs.1 h1
      refine G_iconst hO 0 dX5_leakAllowed_14 (by decide) ?_
      exact G_zret hO hF rfl (Nat.zero_le _) (Nat.zero_le _) rfl dX5_leakAllowed_15 ⟨rfl, rfl, rfl, _, rfl, hs⟩
    · replace hs := hs.2 h1
      refine G_iconst hO 1 dX5_leakAllowed_10 (by decide) ?_
      refine G_goto hO 15 dX5_leakAllowed_11 (by decide) ?_
      exact G_zret hO hF rfl (Nat.zero_le _) (Nat.zero_le _) rfl dX5_leakAllowed_15 ⟨rfl, rfl, rfl, _, rfl, hs⟩
set_option maxHeartbeats 4000000 in
set_option maxRecDepth 20000 in
theorem c_X5_roomNumberAllowed {l : Launch} {Λ : Lay} {B : Zn} {ids : List (Nat × Nat)} {ad : Nat → Nat → Nat} {w : Nat → Nat → va_E} {a0 : Int32} {a1 : Int32} {P : Int32 → Prop} (hs : wX5_roomNumberAllowed a0 a1 P) : CT l yX5_roomNumberAllowed cX5_roomNumberAllowed 2 (some .boolean) { frames := 1, cells := 0, slots := 0, locals := 20 } Λ B ids ad w [.int a0, .int a1] (Ni ids ad w P) := by
  refine CT.of RX5 [(0, .int a0), (1, .int a1)] (plainFor_of_name (by decide +kernel)) rfl (Nat.le_of_ble_eq_true rfl) rfl (fun Γ hO hF => ?_)
  unfold wX5_roomNumberAllowed at hs
  refine G_iload_n hO 0 dX5_roomNumberAllowed_0 rfl rfl ?_
  rcases sw_0_2 a0 with hq | hq
  · replace hs := hs.1 hq
    refine G_tableOut hO 43 dX5_roomNumberAllowed_1 hq (by decide) ?_
    refine G_iconst hO 0 dX5_roomNumberAllowed_43 (by decide) ?_
    exact G_zret hO hF rfl (Nat.zero_le _) (Nat.zero_le _) rfl dX5_roomNumberAllowed_44 ⟨rfl, rfl, rfl, _, rfl, hs⟩
  · replace hs := hs.2
    rcases hq with hq | hq | hq
    · replace hs := hs.1 hq
      refine G_tableIn hO 28 dX5_roomNumberAllowed_1 (by rw [hq]; decide) (by rw [hq]; decide) (by rw [hq]; rfl) (by decide) ?_
      refine G_iload_n hO 1 dX5_roomNumberAllowed_28 rfl rfl ?_
      refine KS_Ni hO (rest := []) [.int a1] (fun l => c_X5_wantedAllowed hs) cv_X5_wantedAllowed mw_557 mw_556 rfl rfl (Nat.le_of_ble_eq_true rfl) (by decide) rfl rfl (Nat.zero_le _) (Nat.zero_le _) dX5_roomNumberAllowed_29 ?_
      intro r1 hs
      have hb := hs.1.nar
      replace hs := hs.2
      exact G_zret hO hF rfl (Nat.zero_le _) (Nat.zero_le _) hb dX5_roomNumberAllowed_32 ⟨rfl, rfl, rfl, _, rfl, hs⟩
    · replace hs := hs.2.1 hq
      refine G_tableIn hO 33 dX5_roomNumberAllowed_1 (by rw [hq]; decide) (by rw [hq]; decide) (by rw [hq]; rfl) (by decide) ?_
      refine G_iload_n hO 1 dX5_roomNumberAllowed_33 rfl rfl ?_
      refine KS_Ni hO (rest := []) [.int a1] (fun l => c_X5_radiatorsAllowed hs) cv_X5_radiatorsAllowed mw_560 mw_559 rfl rfl (Nat.le_of_ble_eq_true rfl) (by decide) rfl rfl (Nat.zero_le _) (Nat.zero_le _) dX5_roomNumberAllowed_34 ?_
      intro r2 hs
      have hb := hs.1.nar
      replace hs := hs.2
      exact G_zret hO hF rfl (Nat.zero_le _) (Nat.zero_le _) hb dX5_roomNumberAllowed_37 ⟨rfl, rfl, rfl, _, rfl, hs⟩
    · replace hs := hs.2.2 hq
      refine G_tableIn hO 38 dX5_roomNumberAllowed_1 (by rw [hq]; decide) (by rw [hq]; decide) (by rw [hq]; rfl) (by decide) ?_
      refine G_iload_n hO 1 dX5_roomNumberAllowed_38 rfl rfl ?_
      refine KS_Ni hO (rest := []) [.int a1] (fun l => c_X5_leakAllowed hs) cv_X5_leakAllowed mw_563 mw_562 rfl rfl (Nat.le_of_ble_eq_true rfl) (by decide) rfl rfl (Nat.zero_le _) (Nat.zero_le _) dX5_roomNumberAllowed_39 ?_
      intro r3 hs
      have hb := hs.1.nar
      replace hs := hs.2
      exact G_zret hO hF rfl (Nat.zero_le _) (Nat.zero_le _) hb dX5_roomNumberAllowed_42 ⟨rfl, rfl, rfl, _, rfl, hs⟩
set_option maxHeartbeats 4000000 in
set_option maxRecDepth 20000 in
theorem c_X5_allRoomsGetWarm {l : Launch} {Λ : Lay} {B : Zn} {ids : List (Nat × Nat)} {ad : Nat → Nat → Nat} (hm : ∀ q, q ∈ ids0 → q ∈ ids) {a1 : Int32} {M : Mem} {O : Nat → Int64} {P : Int32 → Mem → Prop} (hs : wX5_allRoomsGetWarm a1 M P) : CT l yX5_allRoomsGetWarm cX5_allRoomsGetWarm 5 (some .boolean) { frames := 5, cells := 0, slots := 0, locals := 108 } Λ B ids ad (sh Λ ad M O) [.ref (ad 1 0), .int a1] (Gi Λ ids ad O P) := by
  refine CT.of RX5 [(0, .ref (ad 1 0)), (1, .int a1)] (plainFor_of_name (by decide +kernel)) rfl (Nat.le_of_ble_eq_true rfl) rfl (fun Γ hO hF => ?_)
  have b46 : ∀ (v2 : Int32) (v3 : Int32) (M : Mem), wX5_allRoomsGetWarm_L46 a1 P v2 v3 M → G Γ ids ad 0 0 (sh Λ ad M O) 46 [(2, .int v2), (3, .int v3)] [] := by
    intro v2 v3 M hs
    unfold wX5_allRoomsGetWarm_L46 at hs
    refine G_iload_n hO 1 dX5_allRoomsGetWarm_46 rfl rfl ?_
    refine G_iload_n hO 0 dX5_allRoomsGetWarm_47 rfl rfl ?_
    refine G_icmp_ne hO 55 dX5_allRoomsGetWarm_48 (by decide) (fun h9 => ?_) (fun h9 => ?_)
    · replace hs := hs.1 h9
      refine G_iconst hO 0 dX5_allRoomsGetWarm_55 (by decide) ?_
      exact G_zret hO hF rfl (Nat.zero_le _) (Nat.zero_le _) rfl dX5_allRoomsGetWarm_56 ⟨rfl, rfl, _, _, rfl, rfl, hs⟩
    · replace hs := hs.2 h9
      refine G_iconst hO 1 dX5_allRoomsGetWarm_51 (by decide) ?_
      refine G_goto hO 56 dX5_allRoomsGetWarm_52 (by decide) ?_
      exact G_zret hO hF rfl (Nat.zero_le _) (Nat.zero_le _) rfl dX5_allRoomsGetWarm_56 ⟨rfl, rfl, _, _, rfl, rfl, hs⟩
  have b17 : ∀ (N17 : Nat) (v2 : Int32) (v3 : Int32) (v4 : Int32) (M : Mem), wX5_allRoomsGetWarm_L17 a1 P N17 v2 v3 v4 M → G Γ ids ad 0 0 (sh Λ ad M O) 17 [(0, .ref (ad 1 0)), (1, .int a1), (2, .int v2), (3, .int v3), (4, .int v4)] [] := by
    intro N17
    induction N17 with
    | zero => intro v2 v3 v4 M hs; exact False.elim hs
    | succ N17 ih17 =>
      intro v2 v3 v4 M hs
      unfold wX5_allRoomsGetWarm_L17 at hs
      refine G_iload hO 4 dX5_allRoomsGetWarm_17 rfl ?_
      refine G_iload_n hO 1 dX5_allRoomsGetWarm_19 rfl rfl ?_
      refine G_icmp_ge hO 46 dX5_allRoomsGetWarm_20 (by decide) (fun h8 => ?_) (fun h8 => ?_)
      · replace hs := hs.1 h8
        refine G_lv hO [(2, .int v2), (3, .int v3)] [2, 3] rfl ?_
        exact b46 _ _ _ hs
      · replace hs := hs.2 h8
        refine G_iload_n hO 3 dX5_allRoomsGetWarm_23 rfl rfl ?_
        refine G_iload_n hO 2 dX5_allRoomsGetWarm_24 rfl rfl ?_
        refine G_icmp_eq hO 46 dX5_allRoomsGetWarm_25 (by decide) (fun h7 => ?_) (fun h7 => ?_)
        · replace hs := hs.1 h7
          refine G_lv hO [(2, .int v2), (3, .int v3)] [2, 3] rfl ?_
          exact b46 _ _ _ hs
        · replace hs := hs.2 h7
          refine G_aload_n hO 0 dX5_allRoomsGetWarm_28 rfl rfl ?_
          refine G_iconst hO 1 dX5_allRoomsGetWarm_29 (by decide) ?_
          refine KV_Grv hO (rest := []) [.int 1] (rS_st Λ ad O (by decide)) (fun l => c_X3_advance (fun _ h9 => hm _ (id_st (by decide) h9)) hs) cv_X3_advance mw_641 mw_642 mw_640 (hm _ (id_st (by decide) (by decide))) cl3 (by show rS Λ ad O _ _ _ = _; rw [rS_st Λ ad O (by decide)]; exact (st_0 _ _ _ _)) rfl rfl (Nat.le_of_ble_eq_true rfl) (by decide) rfl rfl (Nat.zero_le _) (Nat.zero_le _) dX5_allRoomsGetWarm_30 ?_
          intro c4 hs
          refine G_iload_n hO 3 dX5_allRoomsGetWarm_33 rfl rfl ?_
          refine G_aload_n hO 0 dX5_allRoomsGetWarm_34 rfl rfl ?_
          refine KV_Gri hO (rest := [.int v3]) [] (rS_st Λ ad O (by decide)) (fun l => c_X3_warmRooms (fun _ h9 => hm _ (id_st (by decide) h9)) hs) cv_X3_warmRooms mw_736 mw_737 mw_735 (hm _ (id_st (by decide) (by decide))) cl3 (by show rS Λ ad O _ _ _ = _; rw [rS_st Λ ad O (by decide)]; exact (st_0 _ _ _ _)) rfl rfl (Nat.le_of_ble_eq_true rfl) (by decide) rfl rfl (Nat.zero_le _) (Nat.zero_le _) dX5_allRoomsGetWarm_35 ?_
          intro r5 c6 hs
          refine G_ior hO dX5_allRoomsGetWarm_38 ?_
          refine G_istore_n hO [(3, .int (v3 ||| r5)), (0, .ref (ad 1 0)), (1, .int a1), (2, .int v2), (4, .int v4)] dX5_allRoomsGetWarm_39 rfl (by decide) rfl ?_
          refine G_iinc hO 4 (v4 + 1) [(4, .int (v4 + 1)), (3, .int (v3 ||| r5)), (0, .ref (ad 1 0)), (1, .int a1), (2, .int v2)] dX5_allRoomsGetWarm_40 rfl rfl (by decide) rfl ?_
          refine G_goto hO 17 dX5_allRoomsGetWarm_43 (by decide) ?_
          refine G_lv hO [(0, .ref (ad 1 0)), (1, .int a1), (2, .int v2), (3, .int (v3 ||| r5)), (4, .int (v4 + 1))] [2, 3, 4, 1, 0] rfl ?_
          exact ih17 _ _ _ _ hs
  unfold wX5_allRoomsGetWarm at hs
  refine G_iconst hO 1 dX5_allRoomsGetWarm_0 (by decide) ?_
  refine G_aload_n hO 0 dX5_allRoomsGetWarm_1 rfl rfl ?_
  refine M_getf hO (rS_st Λ ad O (by decide)) (v := .int (M 1 0 8)) cl3 8 (hm _ (id_st (by decide) (by decide))) (st_0 _ _ _ _) (by decide) mw_123 rfl rfl dX5_allRoomsGetWarm_2 ?_
  refine G_ishl hO dX5_allRoomsGetWarm_5 ?_
  refine G_iconst hO 1 dX5_allRoomsGetWarm_6 (by decide) ?_
  refine G_isub hO dX5_allRoomsGetWarm_7 ?_
  refine G_istore_n hO [(2, .int ((1 <<< ((M 1 0 8) &&& 31)) - 1)), (0, .ref (ad 1 0)), (1, .int a1)] dX5_allRoomsGetWarm_8 rfl (by decide) rfl ?_
  refine G_aload_n hO 1 dX5_allRoomsGetWarm_9 rfl rfl ?_
  refine KV_Gri hO (rest := []) [] (rS_st Λ ad O (by decide)) (fun l => c_X3_warmRooms (fun _ h9 => hm _ (id_st (by decide) h9)) hs) cv_X3_warmRooms mw_736 mw_737 mw_735 (hm _ (id_st (by decide) (by decide))) cl3 (by show rS Λ ad O _ _ _ = _; rw [rS_st Λ ad O (by decide)]; exact (st_0 _ _ _ _)) rfl rfl (Nat.le_of_ble_eq_true rfl) (by decide) rfl rfl (Nat.zero_le _) (Nat.zero_le _) dX5_allRoomsGetWarm_10 ?_
  intro r1 c2 hs
  refine G_istore_n hO [(3, .int r1), (2, .int ((1 <<< ((M 1 0 8) &&& 31)) - 1)), (0, .ref (ad 1 0)), (1, .int a1)] dX5_allRoomsGetWarm_13 rfl (by decide) rfl ?_
  refine G_iconst hO 0 dX5_allRoomsGetWarm_14 (by decide) ?_
  refine G_istore hO [(4, .int 0), (3, .int r1), (2, .int ((1 <<< ((M 1 0 8) &&& 31)) - 1)), (0, .ref (ad 1 0)), (1, .int a1)] dX5_allRoomsGetWarm_15 (by decide) rfl ?_
  obtain ⟨Nf3, hs⟩ := hs
  refine G_lv hO [(0, .ref (ad 1 0)), (1, .int a1), (2, .int ((1 <<< ((M 1 0 8) &&& 31)) - 1)), (3, .int r1), (4, .int 0)] [3, 4, 2, 1, 0] rfl ?_
  exact b17 Nf3 _ _ _ _ hs
set_option maxHeartbeats 4000000 in
set_option maxRecDepth 20000 in
theorem c_X5_longestScript {l : Launch} {Λ : Lay} {B : Zn} {ids : List (Nat × Nat)} {ad : Nat → Nat → Nat} {w : Nat → Nat → va_E} {a0 : Int32} {P : Int64 → Prop} (hs : wX5_longestScript a0 P) : CT l yX5_longestScript cX5_longestScript 4 (some .long) { frames := 0, cells := 0, slots := 0, locals := 0 } Λ B ids ad w [.int a0] (Nl ids ad w P) := by
  refine CT.of RX5 [(0, .int a0)] (plainFor_of_name (by decide +kernel)) rfl (Nat.le_of_ble_eq_true rfl) rfl (fun Γ hO hF => ?_)
  have b4 : ∀ (N4 : Nat) (v1 : Int64) (v3 : Int32), wX5_longestScript_L4 a0 P N4 v1 v3 → G Γ ids ad 0 0 w 4 [(0, .int a0), (1, .long v1), (3, .int v3)] [] := by
    intro N4
    induction N4 with
    | zero => intro v1 v3 hs; exact False.elim hs
    | succ N4 ih4 =>
      intro v1 v3 hs
      unfold wX5_longestScript_L4 at hs
      refine G_iload_n hO 2 dX5_longestScript_4 rfl rfl ?_
      refine G_iload_n hO 0 dX5_longestScript_5 rfl rfl ?_
      refine G_icmp_ge hO 21 dX5_longestScript_6 (by decide) (fun h2 => ?_) (fun h2 => ?_)
      · replace hs := hs.1 h2
        refine G_lload_n hO 1 dX5_longestScript_21 rfl rfl ?_
        refine G_lconst hO 1 dX5_longestScript_22 (by decide) ?_
        refine G_lsub hO dX5_longestScript_23 ?_
        exact G_lret hO hF rfl (Nat.zero_le _) (Nat.zero_le _) dX5_longestScript_24 ⟨rfl, rfl, rfl, _, rfl, hs⟩
      · replace hs := hs.2 h2
        refine G_lload_n hO 1 dX5_longestScript_9 rfl rfl ?_
        refine G_ldc2 hO mw_763 dX5_longestScript_10 ?_
        refine G_lmul hO dX5_longestScript_13 ?_
        refine G_lstore_n hO [(1, .long (v1 * 10000)), (0, .int a0), (3, .int v3)] dX5_longestScript_14 rfl (by decide) rfl ?_
        refine G_iinc hO 2 (v3 + 1) [(3, .int (v3 + 1)), (1, .long (v1 * 10000)), (0, .int a0)] dX5_longestScript_15 rfl rfl (by decide) rfl ?_
        refine G_goto hO 4 dX5_longestScript_18 (by decide) ?_
        refine G_lv hO [(0, .int a0), (1, .long (v1 * 10000)), (3, .int (v3 + 1))] [2, 1, 0] rfl ?_
        exact ih4 _ _ hs
  unfold wX5_longestScript at hs
  refine G_lconst hO 1 dX5_longestScript_0 (by decide) ?_
  refine G_lstore_n hO [(1, .long 1), (0, .int a0)] dX5_longestScript_1 rfl (by decide) rfl ?_
  refine G_iconst hO 0 dX5_longestScript_2 (by decide) ?_
  refine G_istore_n hO [(3, .int 0), (1, .long 1), (0, .int a0)] dX5_longestScript_3 rfl (by decide) rfl ?_
  obtain ⟨Nf1, hs⟩ := hs
  refine G_lv hO [(0, .int a0), (1, .long 1), (3, .int 0)] [2, 1, 0] rfl ?_
  exact b4 Nf1 _ _ hs
set_option maxHeartbeats 4000000 in
set_option maxRecDepth 20000 in
theorem c_X5_groupAt {l : Launch} {Λ : Lay} {B : Zn} {ids : List (Nat × Nat)} {ad : Nat → Nat → Nat} {w : Nat → Nat → va_E} {a0 : Int32} {a1 : Int64} {a3 : Int32} {P : Int32 → Prop} (hs : wX5_groupAt a0 a1 a3 P) : CT l yX5_groupAt cX5_groupAt 7 (some .int) { frames := 0, cells := 0, slots := 0, locals := 0 } Λ B ids ad w [.int a0, .long a1, .int a3] (Ni ids ad w P) := by
  refine CT.of RX5 [(0, .int a0), (1, .long a1), (3, .int a3)] (plainFor_of_name (by decide +kernel)) rfl (Nat.le_of_ble_eq_true rfl) rfl (fun Γ hO hF => ?_)
  have b8 : ∀ (N8 : Nat) (v4 : Int64) (v6 : Int32), wX5_groupAt_L8 a0 a1 a3 P N8 v4 v6 → G Γ ids ad 0 0 w 8 [(0, .int a0), (4, .long v4), (6, .int v6)] [] := by
    intro N8
    induction N8 with
    | zero => intro v4 v6 hs; exact False.elim hs
    | succ N8 ih8 =>
      intro v4 v6 hs
      unfold wX5_groupAt_L8 at hs
      refine G_iload hO 2 dX5_groupAt_8 rfl ?_
      refine G_iload_n hO 0 dX5_groupAt_10 rfl rfl ?_
      refine G_icmp_ge hO 28 dX5_groupAt_11 (by decide) (fun h2 => ?_) (fun h2 => ?_)
      · replace hs := hs.1 h2
        refine G_lload hO 1 dX5_groupAt_28 rfl ?_
        refine G_ldc2 hO mw_763 dX5_groupAt_30 ?_
        refine G_lrem hO dX5_groupAt_33 (by decide) ?_
        refine G_l2i hO dX5_groupAt_34 ?_
        exact G_iret hO hF rfl (Nat.zero_le _) (Nat.zero_le _) dX5_groupAt_35 ⟨rfl, rfl, rfl, _, rfl, hs⟩
      · replace hs := hs.2 h2
        refine G_lload hO 1 dX5_groupAt_14 rfl ?_
        refine G_ldc2 hO mw_763 dX5_groupAt_16 ?_
        refine G_ldiv hO dX5_groupAt_19 (by decide) ?_
        refine G_lstore hO [(4, .long (v4 / 10000)), (0, .int a0), (6, .int v6)] dX5_groupAt_20 (by decide) rfl ?_
        refine G_iinc hO 2 (v6 + 1) [(6, .int (v6 + 1)), (4, .long (v4 / 10000)), (0, .int a0)] dX5_groupAt_22 rfl rfl (by decide) rfl ?_
        refine G_goto hO 8 dX5_groupAt_25 (by decide) ?_
        refine G_lv hO [(0, .int a0), (4, .long (v4 / 10000)), (6, .int (v6 + 1))] [2, 1, 0] rfl ?_
        exact ih8 _ _ hs
  unfold wX5_groupAt at hs
  refine G_lload_n hO 1 dX5_groupAt_0 rfl rfl ?_
  refine G_lstore hO [(4, .long a1), (0, .int a0), (1, .long a1), (3, .int a3)] dX5_groupAt_1 (by decide) rfl ?_
  refine G_iload_n hO 3 dX5_groupAt_3 rfl rfl ?_
  refine G_iconst hO 1 dX5_groupAt_4 (by decide) ?_
  refine G_iadd hO dX5_groupAt_5 ?_
  refine G_istore hO [(6, .int (a3 + 1)), (4, .long a1), (0, .int a0), (1, .long a1), (3, .int a3)] dX5_groupAt_6 (by decide) rfl ?_
  obtain ⟨Nf1, hs⟩ := hs
  refine G_lv hO [(0, .int a0), (4, .long a1), (6, .int (a3 + 1))] [2, 1, 0] rfl ?_
  exact b8 Nf1 _ _ hs
set_option maxHeartbeats 4000000 in
set_option maxRecDepth 20000 in
theorem c_X5_outsideCommand {l : Launch} {Λ : Lay} {B : Zn} {ids : List (Nat × Nat)} {ad : Nat → Nat → Nat} (hm : ∀ q, q ∈ ids0 → q ∈ ids) {a1 : Int32} {M : Mem} {O : Nat → Int64} {P : Int32 → Mem → Prop} (hs : wX5_outsideCommand a1 M P) : CT l yX5_outsideCommand cX5_outsideCommand 2 (some .boolean) { frames := 1, cells := 0, slots := 0, locals := 20 } Λ B ids ad (sh Λ ad M O) [.ref (ad 1 0), .int a1] (Gi Λ ids ad O P) := by
  refine CT.of RX5 [(0, .ref (ad 1 0)), (1, .int a1)] (plainFor_of_name (by decide +kernel)) rfl (Nat.le_of_ble_eq_true rfl) rfl (fun Γ hO hF => ?_)
  unfold wX5_outsideCommand at hs
  refine G_iload_n hO 1 dX5_outsideCommand_0 rfl rfl ?_
  refine KS_Ni hO (rest := []) [.int a1] (fun l => c_X5_outsideAllowed hs) cv_X5_outsideAllowed mw_626 mw_625 rfl rfl (Nat.le_of_ble_eq_true rfl) (by decide) rfl rfl (Nat.zero_le _) (Nat.zero_le _) dX5_outsideCommand_1 ?_
  intro r1 hs
  refine G_if_ne hO 9 dX5_outsideCommand_4 (by decide) (fun h2 => ?_) (fun h2 => ?_)
  · replace hs := hs.1 h2
    refine G_aload_n hO 0 dX5_outsideCommand_9 rfl rfl ?_
    refine G_iload_n hO 1 dX5_outsideCommand_10 rfl rfl ?_
    refine M_putf hO (rS_st Λ ad O (by decide)) (cw_st _ _ _) cl3 1 (hm _ (id_st (by decide) (by decide))) (st_0 _ _ _ _) (by decide) mw_108 rfl rfl rfl rfl (Nat.le_of_ble_eq_true rfl) (stP (by decide)) dX5_outsideCommand_11 ?_
    refine G_iconst hO 1 dX5_outsideCommand_14 (by decide) ?_
    exact G_zret hO hF rfl (Nat.zero_le _) (Nat.zero_le _) rfl dX5_outsideCommand_15 ⟨rfl, rfl, _, _, rfl, rfl, hs⟩
  · replace hs := hs.2 h2
    refine G_iconst hO 0 dX5_outsideCommand_7 (by decide) ?_
    exact G_zret hO hF rfl (Nat.zero_le _) (Nat.zero_le _) rfl dX5_outsideCommand_8 ⟨rfl, rfl, _, _, rfl, rfl, hs⟩
set_option maxHeartbeats 4000000 in
set_option maxRecDepth 20000 in
theorem c_X5_settingCommand {l : Launch} {Λ : Lay} {B : Zn} {ids : List (Nat × Nat)} {ad : Nat → Nat → Nat} (hm : ∀ q, q ∈ ids0 → q ∈ ids) {a1 : Int32} {a2 : Int32} {M : Mem} {O : Nat → Int64} {P : Int32 → Mem → Prop} (hs : wX5_settingCommand a1 a2 M P) : CT l yX5_settingCommand cX5_settingCommand 3 (some .boolean) { frames := 2, cells := 0, slots := 0, locals := 41 } Λ B ids ad (sh Λ ad M O) [.ref (ad 1 0), .int a1, .int a2] (Gi Λ ids ad O P) := by
  refine CT.of RX5 [(0, .ref (ad 1 0)), (1, .int a1), (2, .int a2)] (plainFor_of_name (by decide +kernel)) rfl (Nat.le_of_ble_eq_true rfl) rfl (fun Γ hO hF => ?_)
  unfold wX5_settingCommand at hs
  refine G_iload_n hO 1 dX5_settingCommand_0 rfl rfl ?_
  refine G_iload_n hO 2 dX5_settingCommand_1 rfl rfl ?_
  refine KS_Ni hO (rest := []) [.int a1, .int a2] (fun l => c_X5_settingAllowed hs) cv_X5_settingAllowed mw_612 mw_611 rfl rfl (Nat.le_of_ble_eq_true rfl) (by decide) rfl rfl (Nat.zero_le _) (Nat.zero_le _) dX5_settingCommand_2 ?_
  intro r1 hs
  refine G_if_ne hO 10 dX5_settingCommand_5 (by decide) (fun h3 => ?_) (fun h3 => ?_)
  · replace hs := hs.1 h3
    refine G_aload_n hO 0 dX5_settingCommand_10 rfl rfl ?_
    refine G_iload_n hO 1 dX5_settingCommand_11 rfl rfl ?_
    refine G_iload_n hO 2 dX5_settingCommand_12 rfl rfl ?_
    refine KV_Grv hO (rest := []) [.int a1, .int a2] (rS_st Λ ad O (by decide)) (fun l => c_X3_changeSetting (fun _ h9 => hm _ (id_st (by decide) h9)) hs) cv_X3_changeSetting mw_262 mw_263 mw_617 (hm _ (id_st (by decide) (by decide))) cl3 (by show rS Λ ad O _ _ _ = _; rw [rS_st Λ ad O (by decide)]; exact (st_0 _ _ _ _)) rfl rfl (Nat.le_of_ble_eq_true rfl) (by decide) rfl rfl (Nat.zero_le _) (Nat.zero_le _) dX5_settingCommand_13 ?_
    intro c2 hs
    refine G_iconst hO 1 dX5_settingCommand_16 (by decide) ?_
    exact G_zret hO hF rfl (Nat.zero_le _) (Nat.zero_le _) rfl dX5_settingCommand_17 ⟨rfl, rfl, _, _, rfl, rfl, hs⟩
  · replace hs := hs.2 h3
    refine G_iconst hO 0 dX5_settingCommand_8 (by decide) ?_
    exact G_zret hO hF rfl (Nat.zero_le _) (Nat.zero_le _) rfl dX5_settingCommand_9 ⟨rfl, rfl, _, _, rfl, rfl, hs⟩
set_option maxHeartbeats 4000000 in
set_option maxRecDepth 20000 in
theorem c_X5_wantedCommand {l : Launch} {Λ : Lay} {B : Zn} {ids : List (Nat × Nat)} {ad : Nat → Nat → Nat} (hm : ∀ q, q ∈ ids0 → q ∈ ids) {a1 : Int32} {a2 : Int32} {M : Mem} {O : Nat → Int64} {P : Int32 → Mem → Prop} (hs : wX5_wantedCommand a1 a2 M P) : CT l yX5_wantedCommand cX5_wantedCommand 3 (some .boolean) { frames := 1, cells := 0, slots := 0, locals := 21 } Λ B ids ad (sh Λ ad M O) [.ref (ad 1 0), .int a1, .int a2] (Gi Λ ids ad O P) := by
  refine CT.of RX5 [(0, .ref (ad 1 0)), (1, .int a1), (2, .int a2)] (plainFor_of_name (by decide +kernel)) rfl (Nat.le_of_ble_eq_true rfl) rfl (fun Γ hO hF => ?_)
  unfold wX5_wantedCommand at hs
  refine G_aload_n hO 0 dX5_wantedCommand_0 rfl rfl ?_
  refine G_iload_n hO 1 dX5_wantedCommand_1 rfl rfl ?_
  refine KV_Gri hO (rest := []) [.int a1] (rS_st Λ ad O (by decide)) (fun l => c_X3_hasRoom (fun _ h9 => hm _ (id_st (by decide) h9)) hs) cv_X3_hasRoom mw_494 mw_495 mw_521 (hm _ (id_st (by decide) (by decide))) cl3 (by show rS Λ ad O _ _ _ = _; rw [rS_st Λ ad O (by decide)]; exact (st_0 _ _ _ _)) rfl rfl (Nat.le_of_ble_eq_true rfl) (by decide) rfl rfl (Nat.zero_le _) (Nat.zero_le _) dX5_wantedCommand_2 ?_
  intro r1 c2 hs
  refine G_if_eq hO 15 dX5_wantedCommand_5 (by decide) (fun h6 => ?_) (fun h6 => ?_)
  · replace hs := hs.1 h6
    refine G_iconst hO 0 dX5_wantedCommand_15 (by decide) ?_
    exact G_zret hO hF rfl (Nat.zero_le _) (Nat.zero_le _) rfl dX5_wantedCommand_16 ⟨rfl, rfl, _, _, rfl, rfl, hs⟩
  · replace hs := hs.2 h6
    refine G_iload_n hO 2 dX5_wantedCommand_8 rfl rfl ?_
    refine KS_Ni hO (rest := []) [.int a2] (fun l => c_X5_wantedAllowed hs) cv_X5_wantedAllowed mw_557 mw_556 rfl rfl (Nat.le_of_ble_eq_true rfl) (by decide) rfl rfl (Nat.zero_le _) (Nat.zero_le _) dX5_wantedCommand_9 ?_
    intro r3 hs
    refine G_if_ne hO 17 dX5_wantedCommand_12 (by decide) (fun h5 => ?_) (fun h5 => ?_)
    · replace hs := hs.1 h5
      refine G_aload_n hO 0 dX5_wantedCommand_17 rfl rfl ?_
      refine M_getf hO (rS_st Λ ad O (by decide)) (v := .ref (ad 1 4)) cl3 12 (hm _ (id_st (by decide) (by decide))) (st_0 _ _ _ _) (by decide) mw_128 rfl rfl dX5_wantedCommand_18 ?_
      refine G_iload_n hO 1 dX5_wantedCommand_21 rfl rfl ?_
      have hr4 : Int32.toNatClampNeg a1 < 6 := lt_in hs.1
      refine M_aaldR hO (rS_st Λ ad O (by decide)) (v := .ref (ad 1 ((Int32.toNatClampNeg a1) + 9))) (hm _ (id_st (by decide) (by decide))) (st_4 _ _ _ _) hs.1 rfl dX5_wantedCommand_22 ?_
      replace hs := hs.2
      refine G_iload_n hO 2 dX5_wantedCommand_23 rfl rfl ?_
      refine M_putf hO (rS_st Λ ad O (by decide)) (cw_st _ _ _) cl2 0 (hm _ (id_st (by decide) (l15_9 hr4))) (st_r _ _ _ _ _) (by decide) mw_63 rfl rfl rfl rfl (Nat.le_of_ble_eq_true rfl) (rmP (by decide)) dX5_wantedCommand_24 ?_
      refine G_iconst hO 1 dX5_wantedCommand_27 (by decide) ?_
      exact G_zret hO hF rfl (Nat.zero_le _) (Nat.zero_le _) rfl dX5_wantedCommand_28 ⟨rfl, rfl, _, _, rfl, rfl, hs⟩
    · replace hs := hs.2 h5
      refine G_iconst hO 0 dX5_wantedCommand_15 (by decide) ?_
      exact G_zret hO hF rfl (Nat.zero_le _) (Nat.zero_le _) rfl dX5_wantedCommand_16 ⟨rfl, rfl, _, _, rfl, rfl, hs⟩
set_option maxHeartbeats 4000000 in
set_option maxRecDepth 20000 in
theorem c_X5_windowCommand {l : Launch} {Λ : Lay} {B : Zn} {ids : List (Nat × Nat)} {ad : Nat → Nat → Nat} (hm : ∀ q, q ∈ ids0 → q ∈ ids) {a1 : Int32} {a2 : Int32} {M : Mem} {O : Nat → Int64} {P : Int32 → Mem → Prop} (hs : wX5_windowCommand a1 a2 M P) : CT l yX5_windowCommand cX5_windowCommand 3 (some .boolean) { frames := 2, cells := 0, slots := 0, locals := 43 } Λ B ids ad (sh Λ ad M O) [.ref (ad 1 0), .int a1, .int a2] (Gi Λ ids ad O P) := by
  refine CT.of RX5 [(0, .ref (ad 1 0)), (1, .int a1), (2, .int a2)] (plainFor_of_name (by decide +kernel)) rfl (Nat.le_of_ble_eq_true rfl) rfl (fun Γ hO hF => ?_)
  unfold wX5_windowCommand at hs
  refine G_aload_n hO 0 dX5_windowCommand_0 rfl rfl ?_
  refine G_iload_n hO 1 dX5_windowCommand_1 rfl rfl ?_
  refine KV_Gri hO (rest := []) [.int a1] (rS_st Λ ad O (by decide)) (fun l => c_X3_hasRoom (fun _ h9 => hm _ (id_st (by decide) h9)) hs) cv_X3_hasRoom mw_494 mw_495 mw_521 (hm _ (id_st (by decide) (by decide))) cl3 (by show rS Λ ad O _ _ _ = _; rw [rS_st Λ ad O (by decide)]; exact (st_0 _ _ _ _)) rfl rfl (Nat.le_of_ble_eq_true rfl) (by decide) rfl rfl (Nat.zero_le _) (Nat.zero_le _) dX5_windowCommand_2 ?_
  intro r1 c2 hs
  refine G_if_ne hO 10 dX5_windowCommand_5 (by decide) (fun h4 => ?_) (fun h4 => ?_)
  · replace hs := hs.1 h4
    refine G_aload_n hO 0 dX5_windowCommand_10 rfl rfl ?_
    refine G_iload_n hO 1 dX5_windowCommand_11 rfl rfl ?_
    refine G_iload_n hO 2 dX5_windowCommand_12 rfl rfl ?_
    refine KV_Grv hO (rest := []) [.int a1, .int a2] (rS_st Λ ad O (by decide)) (fun l => c_X3_turnWindow (fun _ h9 => hm _ (id_st (by decide) h9)) hs) cv_X3_turnWindow mw_781 mw_782 mw_780 (hm _ (id_st (by decide) (by decide))) cl3 (by show rS Λ ad O _ _ _ = _; rw [rS_st Λ ad O (by decide)]; exact (st_0 _ _ _ _)) rfl rfl (Nat.le_of_ble_eq_true rfl) (by decide) rfl rfl (Nat.zero_le _) (Nat.zero_le _) dX5_windowCommand_13 ?_
    intro c3 hs
    refine G_iconst hO 1 dX5_windowCommand_16 (by decide) ?_
    exact G_zret hO hF rfl (Nat.zero_le _) (Nat.zero_le _) rfl dX5_windowCommand_17 ⟨rfl, rfl, _, _, rfl, rfl, hs⟩
  · replace hs := hs.2 h4
    refine G_iconst hO 0 dX5_windowCommand_8 (by decide) ?_
    exact G_zret hO hF rfl (Nat.zero_le _) (Nat.zero_le _) rfl dX5_windowCommand_9 ⟨rfl, rfl, _, _, rfl, rfl, hs⟩
set_option maxHeartbeats 4000000 in
set_option maxRecDepth 20000 in
theorem c_X5_commandSucceeds {l : Launch} {Λ : Lay} {B : Zn} {ids : List (Nat × Nat)} {ad : Nat → Nat → Nat} (hm : ∀ q, q ∈ ids0 → q ∈ ids) {a1 : Int32} {M : Mem} {O : Nat → Int64} {P : Int32 → Mem → Prop} (hs : wX5_commandSucceeds a1 M P) : CT l yX5_commandSucceeds cX5_commandSucceeds 5 (some .boolean) { frames := 5, cells := 0, slots := 0, locals := 108 } Λ B ids ad (sh Λ ad M O) [.ref (ad 1 0), .int a1] (Gi Λ ids ad O P) := by
  refine CT.of RX5 [(0, .ref (ad 1 0)), (1, .int a1)] (plainFor_of_name (by decide +kernel)) rfl (Nat.le_of_ble_eq_true rfl) rfl (fun Γ hO hF => ?_)
  have b112 : ∀ (s0 : Int32) (M : Mem), wX5_commandSucceeds_L112 a1 P s0 M → G Γ ids ad 0 0 (sh Λ ad M O) 112 [] [.int s0, .ref (ad 1 0)] := by
    intro s0 M hs
    unfold wX5_commandSucceeds_L112 at hs
    refine KS_Gi hO (rest := []) [.ref (ad 1 0), .int s0] (fun l => c_X5_outsideCommand hm hs) cv_X5_outsideCommand mw_772 mw_771 rfl rfl (Nat.le_of_ble_eq_true rfl) (by decide) rfl rfl (Nat.zero_le _) (Nat.zero_le _) dX5_commandSucceeds_112 ?_
    intro r29 M30 hs
    refine G_if_eq hO 122 dX5_commandSucceeds_115 (by decide) (fun h31 => ?_) (fun h31 => ?_)
    · replace hs := hs.1 h31
      refine G_iconst hO 0 dX5_commandSucceeds_122 (by decide) ?_
      exact G_zret hO hF rfl (Nat.zero_le _) (Nat.zero_le _) rfl dX5_commandSucceeds_123 ⟨rfl, rfl, _, _, rfl, rfl, hs⟩
    · replace hs := hs.2 h31
      refine G_iconst hO 1 dX5_commandSucceeds_118 (by decide) ?_
      refine G_goto hO 123 dX5_commandSucceeds_119 (by decide) ?_
      exact G_zret hO hF rfl (Nat.zero_le _) (Nat.zero_le _) rfl dX5_commandSucceeds_123 ⟨rfl, rfl, _, _, rfl, rfl, hs⟩
  have b151 : ∀ (s0 : Int32) (s1 : Int32) (M : Mem), wX5_commandSucceeds_L151 a1 P s0 s1 M → G Γ ids ad 0 0 (sh Λ ad M O) 151 [] [.int s0, .int s1, .ref (ad 1 0)] := by
    intro s0 s1 M hs
    unfold wX5_commandSucceeds_L151 at hs
    refine KS_Gi hO (rest := []) [.ref (ad 1 0), .int s1, .int s0] (fun l => c_X5_windowCommand hm hs) cv_X5_windowCommand mw_778 mw_777 rfl rfl (Nat.le_of_ble_eq_true rfl) (by decide) rfl rfl (Nat.zero_le _) (Nat.zero_le _) dX5_commandSucceeds_151 ?_
    intro r32 M33 hs
    refine G_if_eq hO 161 dX5_commandSucceeds_154 (by decide) (fun h34 => ?_) (fun h34 => ?_)
    · replace hs := hs.1 h34
      refine G_iconst hO 0 dX5_commandSucceeds_161 (by decide) ?_
      exact G_zret hO hF rfl (Nat.zero_le _) (Nat.zero_le _) rfl dX5_commandSucceeds_162 ⟨rfl, rfl, _, _, rfl, rfl, hs⟩
    · replace hs := hs.2 h34
      refine G_iconst hO 1 dX5_commandSucceeds_157 (by decide) ?_
      refine G_goto hO 162 dX5_commandSucceeds_158 (by decide) ?_
      exact G_zret hO hF rfl (Nat.zero_le _) (Nat.zero_le _) rfl dX5_commandSucceeds_162 ⟨rfl, rfl, _, _, rfl, rfl, hs⟩
  have b267 : ∀ (s0 : Int32) (s1 : Int32) (M : Mem), wX5_commandSucceeds_L267 a1 P s0 s1 M → G Γ ids ad 0 0 (sh Λ ad M O) 267 [] [.int s0, .int s1] := by
    intro s0 s1 M hs
    unfold wX5_commandSucceeds_L267 at hs
    refine G_icmp_ne hO 274 dX5_commandSucceeds_267 (by decide) (fun h35 => ?_) (fun h35 => ?_)
    · replace hs := hs.1 h35
      refine G_iconst hO 0 dX5_commandSucceeds_274 (by decide) ?_
      exact G_zret hO hF rfl (Nat.zero_le _) (Nat.zero_le _) rfl dX5_commandSucceeds_275 ⟨rfl, rfl, _, _, rfl, rfl, hs⟩
    · replace hs := hs.2 h35
      refine G_iconst hO 1 dX5_commandSucceeds_270 (by decide) ?_
      refine G_goto hO 275 dX5_commandSucceeds_271 (by decide) ?_
      exact G_zret hO hF rfl (Nat.zero_le _) (Nat.zero_le _) rfl dX5_commandSucceeds_275 ⟨rfl, rfl, _, _, rfl, rfl, hs⟩
  unfold wX5_commandSucceeds at hs
  refine G_iload_n hO 1 dX5_commandSucceeds_0 rfl rfl ?_
  refine G_sipush hO 1000 dX5_commandSucceeds_1 (by decide) ?_
  refine G_idiv hO dX5_commandSucceeds_4 (by decide) ?_
  refine G_istore_n hO [(2, .int (a1 / 1000)), (0, .ref (ad 1 0)), (1, .int a1)] dX5_commandSucceeds_5 rfl (by decide) rfl ?_
  refine G_iload_n hO 2 dX5_commandSucceeds_6 rfl rfl ?_
  refine G_bipush hO 100 dX5_commandSucceeds_7 (by decide) ?_
  refine G_idiv hO dX5_commandSucceeds_9 (by decide) ?_
  refine G_bipush hO 10 dX5_commandSucceeds_10 (by decide) ?_
  refine G_irem hO dX5_commandSucceeds_12 (by decide) ?_
  refine G_istore_n hO [(3, .int ((a1 / 100) - (a1 / 100) / 10 * 10)), (2, .int (a1 / 1000)), (0, .ref (ad 1 0)), (1, .int a1)] dX5_commandSucceeds_13 rfl (by decide) rfl ?_
  refine G_iload_n hO 3 dX5_commandSucceeds_14 rfl rfl ?_
  refine G_bipush hO 100 dX5_commandSucceeds_15 (by decide) ?_
  refine G_irem hO dX5_commandSucceeds_17 (by decide) ?_
  refine G_istore hO [(4, .int (a1 - a1 / 100 * 100)), (3, .int ((a1 / 100) - (a1 / 100) / 10 * 10)), (2, .int (a1 / 1000)), (0, .ref (ad 1 0)), (1, .int a1)] dX5_commandSucceeds_18 (by decide) rfl ?_
  refine G_iload_n hO 2 dX5_commandSucceeds_20 rfl rfl ?_
  rcases sw_1_9 (a1 / 1000) with hq | hq
  · replace hs := hs.1 hq
    refine G_tableOut hO 276 dX5_commandSucceeds_21 hq (by decide) ?_
    refine G_iconst hO 0 dX5_commandSucceeds_276 (by decide) ?_
    exact G_zret hO hF rfl (Nat.zero_le _) (Nat.zero_le _) rfl dX5_commandSucceeds_277 ⟨rfl, rfl, _, _, rfl, rfl, hs⟩
  · replace hs := hs.2
    rcases hq with hq | hq | hq | hq | hq | hq | hq | hq | hq
    · replace hs := hs.1 hq
      refine G_tableIn hO 72 dX5_commandSucceeds_21 (by rw [hq]; decide) (by rw [hq]; decide) (by rw [hq]; rfl) (by decide) ?_
      refine G_iload_n hO 1 dX5_commandSucceeds_72 rfl rfl ?_
      refine G_if_ne hO 84 dX5_commandSucceeds_73 (by decide) (fun h4 => ?_) (fun h4 => ?_)
      · replace hs := hs.1 h4
        refine G_iconst hO 0 dX5_commandSucceeds_84 (by decide) ?_
        exact G_zret hO hF rfl (Nat.zero_le _) (Nat.zero_le _) rfl dX5_commandSucceeds_85 ⟨rfl, rfl, _, _, rfl, rfl, hs⟩
      · replace hs := hs.2 h4
        refine G_iload hO 0 dX5_commandSucceeds_76 rfl ?_
        refine KS_Ni hO (rest := []) [.int (a1 - a1 / 100 * 100)] (fun l => c_X5_passAllowed hs) cv_X5_passAllowed mw_637 mw_636 rfl rfl (Nat.le_of_ble_eq_true rfl) (by decide) rfl rfl (Nat.zero_le _) (Nat.zero_le _) dX5_commandSucceeds_78 ?_
        intro r1 hs
        refine G_if_ne hO 86 dX5_commandSucceeds_81 (by decide) (fun h3 => ?_) (fun h3 => ?_)
        · replace hs := hs.1 h3
          refine G_aload_n hO 3 dX5_commandSucceeds_86 rfl rfl ?_
          refine G_iload hO 0 dX5_commandSucceeds_87 rfl ?_
          refine KV_Grv hO (rest := []) [.int (a1 - a1 / 100 * 100)] (rS_st Λ ad O (by decide)) (fun l => c_X3_advance (fun _ h9 => hm _ (id_st (by decide) h9)) hs) cv_X3_advance mw_641 mw_642 mw_640 (hm _ (id_st (by decide) (by decide))) cl3 (by show rS Λ ad O _ _ _ = _; rw [rS_st Λ ad O (by decide)]; exact (st_0 _ _ _ _)) rfl rfl (Nat.le_of_ble_eq_true rfl) (by decide) rfl rfl (Nat.zero_le _) (Nat.zero_le _) dX5_commandSucceeds_89 ?_
          intro c2 hs
          refine G_iconst hO 1 dX5_commandSucceeds_92 (by decide) ?_
          exact G_zret hO hF rfl (Nat.zero_le _) (Nat.zero_le _) rfl dX5_commandSucceeds_93 ⟨rfl, rfl, _, _, rfl, rfl, hs⟩
        · replace hs := hs.2 h3
          refine G_iconst hO 0 dX5_commandSucceeds_84 (by decide) ?_
          exact G_zret hO hF rfl (Nat.zero_le _) (Nat.zero_le _) rfl dX5_commandSucceeds_85 ⟨rfl, rfl, _, _, rfl, rfl, hs⟩
    · replace hs := hs.2.1 hq
      refine G_tableIn hO 94 dX5_commandSucceeds_21 (by rw [hq]; decide) (by rw [hq]; decide) (by rw [hq]; rfl) (by decide) ?_
      refine G_iload_n hO 1 dX5_commandSucceeds_94 rfl rfl ?_
      refine G_iconst hO 1 dX5_commandSucceeds_95 (by decide) ?_
      refine G_icmp_gt hO 122 dX5_commandSucceeds_96 (by decide) (fun h6 => ?_) (fun h6 => ?_)
      · replace hs := hs.1 h6
        refine G_iconst hO 0 dX5_commandSucceeds_122 (by decide) ?_
        exact G_zret hO hF rfl (Nat.zero_le _) (Nat.zero_le _) rfl dX5_commandSucceeds_123 ⟨rfl, rfl, _, _, rfl, rfl, hs⟩
      · replace hs := hs.2 h6
        refine G_aload_n hO 3 dX5_commandSucceeds_99 rfl rfl ?_
        refine G_iload_n hO 1 dX5_commandSucceeds_100 rfl rfl ?_
        refine G_if_ne hO 109 dX5_commandSucceeds_101 (by decide) (fun h5 => ?_) (fun h5 => ?_)
        · replace hs := hs.1 h5
          refine G_iload hO 0 dX5_commandSucceeds_109 rfl ?_
          refine G_ineg hO dX5_commandSucceeds_111 ?_
          refine G_lv hO [] [] rfl ?_
          exact b112 _ _ hs
        · replace hs := hs.2 h5
          refine G_iload hO 0 dX5_commandSucceeds_104 rfl ?_
          refine G_goto hO 112 dX5_commandSucceeds_106 (by decide) ?_
          refine G_lv hO [] [] rfl ?_
          exact b112 _ _ hs
    · replace hs := hs.2.2.1 hq
      refine G_tableIn hO 124 dX5_commandSucceeds_21 (by rw [hq]; decide) (by rw [hq]; decide) (by rw [hq]; rfl) (by decide) ?_
      refine G_aload_n hO 3 dX5_commandSucceeds_124 rfl rfl ?_
      refine G_iload_n hO 1 dX5_commandSucceeds_125 rfl rfl ?_
      refine G_iload hO 0 dX5_commandSucceeds_126 rfl ?_
      refine KS_Gi hO (rest := []) [.ref (ad 1 0), .int ((a1 / 100) - (a1 / 100) / 10 * 10), .int (a1 - a1 / 100 * 100)] (fun l => c_X5_settingCommand hm hs) cv_X5_settingCommand mw_775 mw_774 rfl rfl (Nat.le_of_ble_eq_true rfl) (by decide) rfl rfl (Nat.zero_le _) (Nat.zero_le _) dX5_commandSucceeds_128 ?_
      intro r7 M8 hs
      have hb := hs.1.nar
      replace hs := hs.2
      exact G_zret hO hF rfl (Nat.zero_le _) (Nat.zero_le _) hb dX5_commandSucceeds_131 ⟨rfl, rfl, _, _, rfl, rfl, hs⟩
    · replace hs := hs.2.2.2.1 hq
      refine G_tableIn hO 132 dX5_commandSucceeds_21 (by rw [hq]; decide) (by rw [hq]; decide) (by rw [hq]; rfl) (by decide) ?_
      refine G_iload hO 0 dX5_commandSucceeds_132 rfl ?_
      refine G_iconst hO 1 dX5_commandSucceeds_134 (by decide) ?_
      refine G_icmp_gt hO 161 dX5_commandSucceeds_135 (by decide) (fun h10 => ?_) (fun h10 => ?_)
      · replace hs := hs.1 h10
        refine G_iconst hO 0 dX5_commandSucceeds_161 (by decide) ?_
        exact G_zret hO hF rfl (Nat.zero_le _) (Nat.zero_le _) rfl dX5_commandSucceeds_162 ⟨rfl, rfl, _, _, rfl, rfl, hs⟩
      · replace hs := hs.2 h10
        refine G_aload_n hO 3 dX5_commandSucceeds_138 rfl rfl ?_
        refine G_iload_n hO 1 dX5_commandSucceeds_139 rfl rfl ?_
        refine G_iload hO 0 dX5_commandSucceeds_140 rfl ?_
        refine G_iconst hO 1 dX5_commandSucceeds_142 (by decide) ?_
        refine G_icmp_ne hO 150 dX5_commandSucceeds_143 (by decide) (fun h9 => ?_) (fun h9 => ?_)
        · replace hs := hs.1 h9
          refine G_iconst hO 0 dX5_commandSucceeds_150 (by decide) ?_
          refine G_lv hO [] [] rfl ?_
          exact b151 _ _ _ hs
        · replace hs := hs.2 h9
          refine G_iconst hO 1 dX5_commandSucceeds_146 (by decide) ?_
          refine G_goto hO 151 dX5_commandSucceeds_147 (by decide) ?_
          refine G_lv hO [] [] rfl ?_
          exact b151 _ _ _ hs
    · replace hs := hs.2.2.2.2.1 hq
      refine G_tableIn hO 163 dX5_commandSucceeds_21 (by rw [hq]; decide) (by rw [hq]; decide) (by rw [hq]; rfl) (by decide) ?_
      refine G_aload_n hO 3 dX5_commandSucceeds_163 rfl rfl ?_
      refine G_iload_n hO 1 dX5_commandSucceeds_164 rfl rfl ?_
      refine G_iload hO 0 dX5_commandSucceeds_165 rfl ?_
      refine KS_Gi hO (rest := []) [.ref (ad 1 0), .int ((a1 / 100) - (a1 / 100) / 10 * 10), .int (a1 - a1 / 100 * 100)] (fun l => c_X5_wantedCommand hm hs) cv_X5_wantedCommand mw_785 mw_784 rfl rfl (Nat.le_of_ble_eq_true rfl) (by decide) rfl rfl (Nat.zero_le _) (Nat.zero_le _) dX5_commandSucceeds_167 ?_
      intro r11 M12 hs
      have hb := hs.1.nar
      replace hs := hs.2
      exact G_zret hO hF rfl (Nat.zero_le _) (Nat.zero_le _) hb dX5_commandSucceeds_170 ⟨rfl, rfl, _, _, rfl, rfl, hs⟩
    · replace hs := hs.2.2.2.2.2.1 hq
      refine G_tableIn hO 171 dX5_commandSucceeds_21 (by rw [hq]; decide) (by rw [hq]; decide) (by rw [hq]; rfl) (by decide) ?_
      refine G_aload_n hO 3 dX5_commandSucceeds_171 rfl rfl ?_
      refine G_iload_n hO 1 dX5_commandSucceeds_172 rfl rfl ?_
      refine KV_Gri hO (rest := []) [.int ((a1 / 100) - (a1 / 100) / 10 * 10)] (rS_st Λ ad O (by decide)) (fun l => c_X3_hasPlace (fun _ h9 => hm _ (id_st (by decide) h9)) hs) cv_X3_hasPlace mw_490 mw_491 mw_489 (hm _ (id_st (by decide) (by decide))) cl3 (by show rS Λ ad O _ _ _ = _; rw [rS_st Λ ad O (by decide)]; exact (st_0 _ _ _ _)) rfl rfl (Nat.le_of_ble_eq_true rfl) (by decide) rfl rfl (Nat.zero_le _) (Nat.zero_le _) dX5_commandSucceeds_173 ?_
      intro r13 c14 hs
      refine G_if_eq hO 193 dX5_commandSucceeds_176 (by decide) (fun h18 => ?_) (fun h18 => ?_)
      · replace hs := hs.1 h18
        refine G_iconst hO 0 dX5_commandSucceeds_193 (by decide) ?_
        exact G_zret hO hF rfl (Nat.zero_le _) (Nat.zero_le _) rfl dX5_commandSucceeds_194 ⟨rfl, rfl, _, _, rfl, rfl, hs⟩
      · replace hs := hs.2 h18
        refine G_aload_n hO 3 dX5_commandSucceeds_179 rfl rfl ?_
        refine G_iload_n hO 1 dX5_commandSucceeds_180 rfl rfl ?_
        refine KV_Gri hO (rest := []) [.int ((a1 / 100) - (a1 / 100) / 10 * 10)] (rS_st Λ ad O (by decide)) (fun l => c_X3_degrees (fun _ h9 => hm _ (id_st (by decide) h9)) hs) cv_X3_degrees mw_503 mw_504 mw_502 (hm _ (id_st (by decide) (by decide))) cl3 (by show rS Λ ad O _ _ _ = _; rw [rS_st Λ ad O (by decide)]; exact (st_0 _ _ _ _)) rfl rfl (Nat.le_of_ble_eq_true rfl) (by decide) rfl rfl (Nat.zero_le _) (Nat.zero_le _) dX5_commandSucceeds_181 ?_
        intro r15 c16 hs
        refine G_iload hO 0 dX5_commandSucceeds_184 rfl ?_
        refine G_icmp_lt hO 193 dX5_commandSucceeds_186 (by decide) (fun h17 => ?_) (fun h17 => ?_)
        · replace hs := hs.1 h17
          refine G_iconst hO 0 dX5_commandSucceeds_193 (by decide) ?_
          exact G_zret hO hF rfl (Nat.zero_le _) (Nat.zero_le _) rfl dX5_commandSucceeds_194 ⟨rfl, rfl, _, _, rfl, rfl, hs⟩
        · replace hs := hs.2 h17
          refine G_iconst hO 1 dX5_commandSucceeds_189 (by decide) ?_
          refine G_goto hO 194 dX5_commandSucceeds_190 (by decide) ?_
          exact G_zret hO hF rfl (Nat.zero_le _) (Nat.zero_le _) rfl dX5_commandSucceeds_194 ⟨rfl, rfl, _, _, rfl, rfl, hs⟩
    · replace hs := hs.2.2.2.2.2.2.1 hq
      refine G_tableIn hO 195 dX5_commandSucceeds_21 (by rw [hq]; decide) (by rw [hq]; decide) (by rw [hq]; rfl) (by decide) ?_
      refine G_iload_n hO 1 dX5_commandSucceeds_195 rfl rfl ?_
      refine G_if_ne hO 212 dX5_commandSucceeds_196 (by decide) (fun h20 => ?_) (fun h20 => ?_)
      · replace hs := hs.1 h20
        refine G_iconst hO 0 dX5_commandSucceeds_212 (by decide) ?_
        exact G_zret hO hF rfl (Nat.zero_le _) (Nat.zero_le _) rfl dX5_commandSucceeds_213 ⟨rfl, rfl, _, _, rfl, rfl, hs⟩
      · replace hs := hs.2 h20
        refine G_aload_n hO 3 dX5_commandSucceeds_199 rfl rfl ?_
        refine M_getf hO (rS_st Λ ad O (by decide)) (v := .int (M 1 0 5)) cl3 5 (hm _ (id_st (by decide) (by decide))) (st_0 _ _ _ _) (by decide) mw_117 rfl rfl dX5_commandSucceeds_200 ?_
        refine G_iload hO 0 dX5_commandSucceeds_203 rfl ?_
        refine G_icmp_lt hO 212 dX5_commandSucceeds_205 (by decide) (fun h19 => ?_) (fun h19 => ?_)
        · replace hs := hs.1 h19
          refine G_iconst hO 0 dX5_commandSucceeds_212 (by decide) ?_
          exact G_zret hO hF rfl (Nat.zero_le _) (Nat.zero_le _) rfl dX5_commandSucceeds_213 ⟨rfl, rfl, _, _, rfl, rfl, hs⟩
        · replace hs := hs.2 h19
          refine G_iconst hO 1 dX5_commandSucceeds_208 (by decide) ?_
          refine G_goto hO 213 dX5_commandSucceeds_209 (by decide) ?_
          exact G_zret hO hF rfl (Nat.zero_le _) (Nat.zero_le _) rfl dX5_commandSucceeds_213 ⟨rfl, rfl, _, _, rfl, rfl, hs⟩
    · replace hs := hs.2.2.2.2.2.2.2.1 hq
      refine G_tableIn hO 214 dX5_commandSucceeds_21 (by rw [hq]; decide) (by rw [hq]; decide) (by rw [hq]; rfl) (by decide) ?_
      refine G_aload_n hO 3 dX5_commandSucceeds_214 rfl rfl ?_
      refine G_iload_n hO 1 dX5_commandSucceeds_215 rfl rfl ?_
      refine KV_Gri hO (rest := []) [.int ((a1 / 100) - (a1 / 100) / 10 * 10)] (rS_st Λ ad O (by decide)) (fun l => c_X3_hasRoom (fun _ h9 => hm _ (id_st (by decide) h9)) hs) cv_X3_hasRoom mw_494 mw_495 mw_521 (hm _ (id_st (by decide) (by decide))) cl3 (by show rS Λ ad O _ _ _ = _; rw [rS_st Λ ad O (by decide)]; exact (st_0 _ _ _ _)) rfl rfl (Nat.le_of_ble_eq_true rfl) (by decide) rfl rfl (Nat.zero_le _) (Nat.zero_le _) dX5_commandSucceeds_216 ?_
      intro r21 c22 hs
      refine G_if_eq hO 240 dX5_commandSucceeds_219 (by decide) (fun h25 => ?_) (fun h25 => ?_)
      · replace hs := hs.1 h25
        refine G_iconst hO 0 dX5_commandSucceeds_240 (by decide) ?_
        exact G_zret hO hF rfl (Nat.zero_le _) (Nat.zero_le _) rfl dX5_commandSucceeds_241 ⟨rfl, rfl, _, _, rfl, rfl, hs⟩
      · replace hs := hs.2 h25
        refine G_aload_n hO 3 dX5_commandSucceeds_222 rfl rfl ?_
        refine M_getf hO (rS_st Λ ad O (by decide)) (v := .ref (ad 1 4)) cl3 12 (hm _ (id_st (by decide) (by decide))) (st_0 _ _ _ _) (by decide) mw_128 rfl rfl dX5_commandSucceeds_223 ?_
        refine G_iload_n hO 1 dX5_commandSucceeds_226 rfl rfl ?_
        have hr23 : Int32.toNatClampNeg ((a1 / 100) - (a1 / 100) / 10 * 10) < 6 := lt_in hs.1
        refine M_aaldR hO (rS_st Λ ad O (by decide)) (v := .ref (ad 1 ((Int32.toNatClampNeg ((a1 / 100) - (a1 / 100) / 10 * 10)) + 9))) (hm _ (id_st (by decide) (by decide))) (st_4 _ _ _ _) hs.1 rfl dX5_commandSucceeds_227 ?_
        replace hs := hs.2
        refine M_getf hO (rS_st Λ ad O (by decide)) (v := .int ((va_up M 1 c22) 1 ((Int32.toNatClampNeg ((a1 / 100) - (a1 / 100) / 10 * 10)) + 9) 4)) cl2 4 (hm _ (id_st (by decide) (l15_9 hr23))) (st_r _ _ _ _ _) (by decide) mw_75 rfl rfl dX5_commandSucceeds_228 ?_
        refine G_iload hO 0 dX5_commandSucceeds_231 rfl ?_
        refine G_icmp_lt hO 240 dX5_commandSucceeds_233 (by decide) (fun h24 => ?_) (fun h24 => ?_)
        · replace hs := hs.1 h24
          refine G_iconst hO 0 dX5_commandSucceeds_240 (by decide) ?_
          exact G_zret hO hF rfl (Nat.zero_le _) (Nat.zero_le _) rfl dX5_commandSucceeds_241 ⟨rfl, rfl, _, _, rfl, rfl, hs⟩
        · replace hs := hs.2 h24
          refine G_iconst hO 1 dX5_commandSucceeds_236 (by decide) ?_
          refine G_goto hO 241 dX5_commandSucceeds_237 (by decide) ?_
          exact G_zret hO hF rfl (Nat.zero_le _) (Nat.zero_le _) rfl dX5_commandSucceeds_241 ⟨rfl, rfl, _, _, rfl, rfl, hs⟩
    · replace hs := hs.2.2.2.2.2.2.2.2 hq
      refine G_tableIn hO 242 dX5_commandSucceeds_21 (by rw [hq]; decide) (by rw [hq]; decide) (by rw [hq]; rfl) (by decide) ?_
      refine G_iload_n hO 1 dX5_commandSucceeds_242 rfl rfl ?_
      refine G_if_ne hO 274 dX5_commandSucceeds_243 (by decide) (fun h28 => ?_) (fun h28 => ?_)
      · replace hs := hs.1 h28
        refine G_iconst hO 0 dX5_commandSucceeds_274 (by decide) ?_
        exact G_zret hO hF rfl (Nat.zero_le _) (Nat.zero_le _) rfl dX5_commandSucceeds_275 ⟨rfl, rfl, _, _, rfl, rfl, hs⟩
      · replace hs := hs.2 h28
        refine G_iload hO 0 dX5_commandSucceeds_246 rfl ?_
        refine G_iconst hO 1 dX5_commandSucceeds_248 (by decide) ?_
        refine G_icmp_gt hO 274 dX5_commandSucceeds_249 (by decide) (fun h27 => ?_) (fun h27 => ?_)
        · replace hs := hs.1 h27
          refine G_iconst hO 0 dX5_commandSucceeds_274 (by decide) ?_
          exact G_zret hO hF rfl (Nat.zero_le _) (Nat.zero_le _) rfl dX5_commandSucceeds_275 ⟨rfl, rfl, _, _, rfl, rfl, hs⟩
        · replace hs := hs.2 h27
          refine G_aload_n hO 3 dX5_commandSucceeds_252 rfl rfl ?_
          refine M_getf hO (rS_st Λ ad O (by decide)) (v := .int (M 1 0 2)) cl3 2 (hm _ (id_st (by decide) (by decide))) (st_0 _ _ _ _) (by decide) mw_111 rfl rfl dX5_commandSucceeds_253 ?_
          refine G_iload hO 0 dX5_commandSucceeds_256 rfl ?_
          refine G_iconst hO 1 dX5_commandSucceeds_258 (by decide) ?_
          refine G_icmp_ne hO 266 dX5_commandSucceeds_259 (by decide) (fun h26 => ?_) (fun h26 => ?_)
          · replace hs := hs.1 h26
            refine G_iconst hO 0 dX5_commandSucceeds_266 (by decide) ?_
            refine G_lv hO [] [] rfl ?_
            exact b267 _ _ _ hs
          · replace hs := hs.2 h26
            refine G_iconst hO 1 dX5_commandSucceeds_262 (by decide) ?_
            refine G_goto hO 267 dX5_commandSucceeds_263 (by decide) ?_
            refine G_lv hO [] [] rfl ?_
            exact b267 _ _ _ hs
