set_option maxHeartbeats 4000000 in
set_option maxRecDepth 20000 in
theorem c_L_load {l : Launch} {Λ : Lay} {B : Zn} {ids : List (Nat × Nat)} {ad : Nat → Nat → Nat} (hm : ∀ q, q ∈ ids0 → q ∈ ids) (hnr : (20, 6) ∉ ids) {M : Mem} {O : Nat → Int64} {P : Int64 → Mem → Prop} (hs : wL_load M P) (hst : l.stackTraces = false) : CH l yL_load cL_load 2 (some .long) [(0, 5, 6, 19)] { frames := 7, cells := 2, slots := 9, locals := 165 } Λ B ids ad (sh Λ ad M O) [.ref (ad 20 0)] (Gl Λ ids ad O P) := by
  refine CH.of hst RL [(0, .ref (ad 20 0))] (by decide +kernel) rfl (Nat.le_of_ble_eq_true rfl) rfl (fun Γ hO hX hF => ?_)
  unfold wL_load at hs
  refine G_aload_n hO 0 dL_load_0 rfl rfl ?_
  refine G_callVX hO (rest := []) [] hX (fun l h => c_X5_load hm hnr hs h) cv_X5_load mw_210 mw_211 mw_209 (hm _ (id_gl (by decide))) cl5 (show sh Λ ad M O 20 0 = _ by unfold sh; rw [rS_gl]; exact gl_0 _ _ _) rfl rfl (Nat.le_of_ble_eq_true rfl) (by decide) (by decide) dL_load_1 ?_ ?_
  · rintro v ids ad w' ⟨rfl, rfl, M1, r, rfl, rfl, hs⟩
    show G Γ ids ad 2 9 (sh Λ ad M1 O) 4 [(0, .ref (ad 20 0))] (.int r :: [])
    refine G_i2l hO dL_load_4 ?_
    exact G_lret hO hF rfl (Nat.le_of_ble_eq_true rfl) (Nat.le_of_ble_eq_true rfl) dL_load_5 ⟨rfl, rfl, _, _, rfl, rfl, hs⟩
  · rintro E ids ad w' ⟨rfl, rfl, M1, rfl, hs⟩
    obtain ⟨rfl, hs⟩ := hs
    refine GX_catch1 hO hX rfl (by decide) (by decide) mw_208 (by decide +kernel) (fun q => ?_)
    refine G_astore_n hO [(1, .ref q), (0, .ref (ad 20 0))] dL_load_6 rfl (by decide) rfl ?_
    refine G_ldc2 hO mw_386 dL_load_7 ?_
    exact G_lret hO hF rfl (Nat.le_of_ble_eq_true rfl) (Nat.le_of_ble_eq_true rfl) dL_load_10 ⟨rfl, rfl, _, _, rfl, rfl, hs⟩
set_option maxHeartbeats 4000000 in
set_option maxRecDepth 20000 in
theorem c_L_save {l : Launch} {Λ : Lay} {B : Zn} {ids : List (Nat × Nat)} {ad : Nat → Nat → Nat} (hm : ∀ q, q ∈ ids0 → q ∈ ids) {a1 : Int32} {M : Mem} {O : Nat → Int64} {P : Int64 → Mem → Prop} (hs : wL_save a1 M P) (hst : l.stackTraces = false) : CH l yL_save cL_save 3 (some .long) [(0, 6, 7, 37)] { frames := 7, cells := 1, slots := 6, locals := 112 } Λ B ids ad (sh Λ ad M O) [.ref (ad 20 0), .int a1] (Gl Λ ids ad O P) := by
  refine CH.of hst RL [(0, .ref (ad 20 0)), (1, .int a1)] (by decide +kernel) rfl (Nat.le_of_ble_eq_true rfl) rfl (fun Γ hO hX hF => ?_)
  unfold wL_save at hs
  refine G_aload_n hO 0 dL_save_0 rfl rfl ?_
  refine G_iload_n hO 1 dL_save_1 rfl rfl ?_
  refine G_callVX hO (rest := []) [.int a1] hX (fun l h => c_X5_save hm hs h) cv_X5_save mw_392 mw_393 mw_391 (hm _ (id_gl (by decide))) cl5 (show sh Λ ad M O 20 0 = _ by unfold sh; rw [rS_gl]; exact gl_0 _ _ _) rfl rfl (Nat.le_of_ble_eq_true rfl) (by decide) (by decide) dL_save_2 ?_ ?_
  · rintro v ids ad w' ⟨rfl, rfl, M1, r, rfl, rfl, hs⟩
    show G Γ ids ad 1 6 (sh Λ ad M1 O) 5 [(0, .ref (ad 20 0)), (1, .int a1)] (.int r :: [])
    refine G_i2l hO dL_save_5 ?_
    exact G_lret hO hF rfl (Nat.le_of_ble_eq_true rfl) (Nat.le_of_ble_eq_true rfl) dL_save_6 ⟨rfl, rfl, _, _, rfl, rfl, hs⟩
  · rintro E ids ad w' ⟨rfl, rfl, M1, rfl, hs⟩
    obtain ⟨rfl, hs⟩ := hs
    refine GX_catch1 hO hX rfl (by decide) (by decide) mw_390 (by decide +kernel) (fun q => ?_)
    refine G_astore_n hO [(2, .ref q), (0, .ref (ad 20 0)), (1, .int a1)] dL_save_7 rfl (by decide) rfl ?_
    refine G_ldc2 hO mw_411 dL_save_8 ?_
    exact G_lret hO hF rfl (Nat.le_of_ble_eq_true rfl) (Nat.le_of_ble_eq_true rfl) dL_save_11 ⟨rfl, rfl, _, _, rfl, rfl, hs⟩
set_option maxHeartbeats 4000000 in
set_option maxRecDepth 20000 in
theorem c_L_restore {l : Launch} {Λ : Lay} {B : Zn} {ids : List (Nat × Nat)} {ad : Nat → Nat → Nat} (hm : ∀ q, q ∈ ids0 → q ∈ ids) {a1 : Int32} {M : Mem} {O : Nat → Int64} {P : Int64 → Mem → Prop} (hs : wL_restore a1 M P) (hst : l.stackTraces = false) : CH l yL_restore cL_restore 3 (some .long) [(0, 6, 7, 37), (0, 6, 12, 19)] { frames := 7, cells := 1, slots := 6, locals := 112 } Λ B ids ad (sh Λ ad M O) [.ref (ad 20 0), .int a1] (Gl Λ ids ad O P) := by
  refine CH.of hst RL [(0, .ref (ad 20 0)), (1, .int a1)] (by decide +kernel) rfl (Nat.le_of_ble_eq_true rfl) rfl (fun Γ hO hX hF => ?_)
  unfold wL_restore at hs
  refine G_aload_n hO 0 dL_restore_0 rfl rfl ?_
  refine G_iload_n hO 1 dL_restore_1 rfl rfl ?_
  refine G_callVX hO (rest := []) [.int a1] hX (fun l h => c_X5_restore hm hs h) cv_X5_restore mw_416 mw_417 mw_415 (hm _ (id_gl (by decide))) cl5 (show sh Λ ad M O 20 0 = _ by unfold sh; rw [rS_gl]; exact gl_0 _ _ _) rfl rfl (Nat.le_of_ble_eq_true rfl) (by decide) (by decide) dL_restore_2 ?_ ?_
  · rintro v ids ad w' ⟨rfl, rfl, M1, r, rfl, rfl, hs⟩
    show G Γ ids ad 1 6 (sh Λ ad M1 O) 5 [(0, .ref (ad 20 0)), (1, .int a1)] (.int r :: [])
    refine G_i2l hO dL_restore_5 ?_
    exact G_lret hO hF rfl (Nat.le_of_ble_eq_true rfl) (Nat.le_of_ble_eq_true rfl) dL_restore_6 ⟨rfl, rfl, _, _, rfl, rfl, hs⟩
  · rintro E ids ad w' ⟨rfl, rfl, M1, rfl, hs⟩
    rcases hs with ⟨rfl, hs⟩ | ⟨rfl, hs⟩
    · refine GX_catch1 hO hX rfl (by decide) (by decide) mw_390 (by decide +kernel) (fun q => ?_)
      refine G_astore_n hO [(2, .ref q), (0, .ref (ad 20 0)), (1, .int a1)] dL_restore_7 rfl (by decide) rfl ?_
      refine G_ldc2 hO mw_411 dL_restore_8 ?_
      exact G_lret hO hF rfl (Nat.le_of_ble_eq_true rfl) (Nat.le_of_ble_eq_true rfl) dL_restore_11 ⟨rfl, rfl, _, _, rfl, rfl, hs⟩
    · refine GX_catch2 (F := eIOB) hO hX rfl (by decide) (by decide) mw_208 (by decide +kernel) (by decide) mw_390 (fun _ h9 => h9.2.2.2.2.2.2) (fun q => ?_)
      refine G_astore_n hO [(2, .ref q), (0, .ref (ad 20 0)), (1, .int a1)] dL_restore_12 rfl (by decide) rfl ?_
      refine G_ldc2 hO mw_386 dL_restore_13 ?_
      exact G_lret hO hF rfl (Nat.le_of_ble_eq_true rfl) (Nat.le_of_ble_eq_true rfl) dL_restore_16 ⟨rfl, rfl, _, _, rfl, rfl, hs⟩
set_option maxHeartbeats 4000000 in
set_option maxRecDepth 20000 in
theorem c_L_about {l : Launch} {Λ : Lay} {B : Zn} {ids : List (Nat × Nat)} {ad : Nat → Nat → Nat} (hm : ∀ q, q ∈ ids0 → q ∈ ids) {a1 : Int32} {M : Mem} {O : Nat → Int64} {P : Int64 → Mem → Prop} (hs : wL_about a1 M P) (hst : l.stackTraces = false) : CH l yL_about cL_about 3 (some .long) [(0, 6, 7, 15)] { frames := 7, cells := 1, slots := 6, locals := 111 } Λ B ids ad (sh Λ ad M O) [.ref (ad 20 0), .int a1] (Gl Λ ids ad O P) := by
  refine CH.of hst RL [(0, .ref (ad 20 0)), (1, .int a1)] (by decide +kernel) rfl (Nat.le_of_ble_eq_true rfl) rfl (fun Γ hO hX hF => ?_)
  unfold wL_about at hs
  refine G_aload_n hO 0 dL_about_0 rfl rfl ?_
  refine G_iload_n hO 1 dL_about_1 rfl rfl ?_
  refine G_callVX hO (rest := []) [.int a1] hX (fun l h => c_X5_about hm hs h) cv_X5_about mw_433 mw_434 mw_432 (hm _ (id_gl (by decide))) cl5 (show sh Λ ad M O 20 0 = _ by unfold sh; rw [rS_gl]; exact gl_0 _ _ _) rfl rfl (Nat.le_of_ble_eq_true rfl) (by decide) (by decide) dL_about_2 ?_ ?_
  · rintro v ids ad w' ⟨rfl, rfl, M1, r, rfl, rfl, hs⟩
    show G Γ ids ad 1 6 (sh Λ ad M1 O) 5 [(0, .ref (ad 20 0)), (1, .int a1)] (.int r :: [])
    refine G_i2l hO dL_about_5 ?_
    exact G_lret hO hF rfl (Nat.le_of_ble_eq_true rfl) (Nat.le_of_ble_eq_true rfl) dL_about_6 ⟨rfl, rfl, _, _, rfl, rfl, hs⟩
  · rintro E ids ad w' ⟨rfl, rfl, M1, rfl, hs⟩
    obtain ⟨rfl, hs⟩ := hs
    refine GX_catch1 hO hX rfl (by decide) (by decide) mw_431 (by decide +kernel) (fun q => ?_)
    refine G_astore_n hO [(2, .ref q), (0, .ref (ad 20 0)), (1, .int a1)] dL_about_7 rfl (by decide) rfl ?_
    refine G_ldc2 hO mw_471 dL_about_8 ?_
    exact G_lret hO hF rfl (Nat.le_of_ble_eq_true rfl) (Nat.le_of_ble_eq_true rfl) dL_about_11 ⟨rfl, rfl, _, _, rfl, rfl, hs⟩
set_option maxHeartbeats 4000000 in
set_option maxRecDepth 20000 in
theorem c_L_setting {l : Launch} {Λ : Lay} {B : Zn} {ids : List (Nat × Nat)} {ad : Nat → Nat → Nat} (hm : ∀ q, q ∈ ids0 → q ∈ ids) {a1 : Int32} {M : Mem} {O : Nat → Int64} {P : Int64 → Mem → Prop} (hs : wL_setting a1 M P) (hst : l.stackTraces = false) : CH l yL_setting cL_setting 3 (some .long) [(0, 6, 7, 15)] { frames := 7, cells := 1, slots := 6, locals := 111 } Λ B ids ad (sh Λ ad M O) [.ref (ad 20 0), .int a1] (Gl Λ ids ad O P) := by
  refine CH.of hst RL [(0, .ref (ad 20 0)), (1, .int a1)] (by decide +kernel) rfl (Nat.le_of_ble_eq_true rfl) rfl (fun Γ hO hX hF => ?_)
  unfold wL_setting at hs
  refine G_aload_n hO 0 dL_setting_0 rfl rfl ?_
  refine G_iload_n hO 1 dL_setting_1 rfl rfl ?_
  refine G_callVX hO (rest := []) [.int a1] hX (fun l h => c_X5_setting hm hs h) cv_X5_setting mw_476 mw_477 mw_475 (hm _ (id_gl (by decide))) cl5 (show sh Λ ad M O 20 0 = _ by unfold sh; rw [rS_gl]; exact gl_0 _ _ _) rfl rfl (Nat.le_of_ble_eq_true rfl) (by decide) (by decide) dL_setting_2 ?_ ?_
  · rintro v ids ad w' ⟨rfl, rfl, M1, r, rfl, rfl, hs⟩
    show G Γ ids ad 1 6 (sh Λ ad M1 O) 5 [(0, .ref (ad 20 0)), (1, .int a1)] (.int r :: [])
    refine G_i2l hO dL_setting_5 ?_
    exact G_lret hO hF rfl (Nat.le_of_ble_eq_true rfl) (Nat.le_of_ble_eq_true rfl) dL_setting_6 ⟨rfl, rfl, _, _, rfl, rfl, hs⟩
  · rintro E ids ad w' ⟨rfl, rfl, M1, rfl, hs⟩
    obtain ⟨rfl, hs⟩ := hs
    refine GX_catch1 hO hX rfl (by decide) (by decide) mw_431 (by decide +kernel) (fun q => ?_)
    refine G_astore_n hO [(2, .ref q), (0, .ref (ad 20 0)), (1, .int a1)] dL_setting_7 rfl (by decide) rfl ?_
    refine G_ldc2 hO mw_471 dL_setting_8 ?_
    exact G_lret hO hF rfl (Nat.le_of_ble_eq_true rfl) (Nat.le_of_ble_eq_true rfl) dL_setting_11 ⟨rfl, rfl, _, _, rfl, rfl, hs⟩
set_option maxHeartbeats 4000000 in
set_option maxRecDepth 20000 in
theorem c_L_place {l : Launch} {Λ : Lay} {B : Zn} {ids : List (Nat × Nat)} {ad : Nat → Nat → Nat} (hm : ∀ q, q ∈ ids0 → q ∈ ids) {a1 : Int32} {a2 : Int32} {M : Mem} {O : Nat → Int64} {P : Int64 → Mem → Prop} (hs : wL_place a1 a2 M P) (hst : l.stackTraces = false) : CH l yL_place cL_place 4 (some .long) [(0, 7, 8, 37), (0, 7, 13, 15)] { frames := 7, cells := 1, slots := 6, locals := 112 } Λ B ids ad (sh Λ ad M O) [.ref (ad 20 0), .int a1, .int a2] (Gl Λ ids ad O P) := by
  refine CH.of hst RL [(0, .ref (ad 20 0)), (1, .int a1), (2, .int a2)] (by decide +kernel) rfl (Nat.le_of_ble_eq_true rfl) rfl (fun Γ hO hX hF => ?_)
  unfold wL_place at hs
  refine G_aload_n hO 0 dL_place_0 rfl rfl ?_
  refine G_iload_n hO 1 dL_place_1 rfl rfl ?_
  refine G_iload_n hO 2 dL_place_2 rfl rfl ?_
  refine G_callVX hO (rest := []) [.int a1, .int a2] hX (fun l h => c_X5_place hm hs h) cv_X5_place mw_486 mw_487 mw_485 (hm _ (id_gl (by decide))) cl5 (show sh Λ ad M O 20 0 = _ by unfold sh; rw [rS_gl]; exact gl_0 _ _ _) rfl rfl (Nat.le_of_ble_eq_true rfl) (by decide) (by decide) dL_place_3 ?_ ?_
  · rintro v ids ad w' ⟨rfl, rfl, M1, r, rfl, rfl, hs⟩
    show G Γ ids ad 1 6 (sh Λ ad M1 O) 6 [(0, .ref (ad 20 0)), (1, .int a1), (2, .int a2)] (.int r :: [])
    refine G_i2l hO dL_place_6 ?_
    exact G_lret hO hF rfl (Nat.le_of_ble_eq_true rfl) (Nat.le_of_ble_eq_true rfl) dL_place_7 ⟨rfl, rfl, _, _, rfl, rfl, hs⟩
  · rintro E ids ad w' ⟨rfl, rfl, M1, rfl, hs⟩
    rcases hs with ⟨rfl, hs⟩ | ⟨rfl, hs⟩
    · refine GX_catch1 hO hX rfl (by decide) (by decide) mw_390 (by decide +kernel) (fun q => ?_)
      refine G_astore_n hO [(3, .ref q), (0, .ref (ad 20 0)), (1, .int a1), (2, .int a2)] dL_place_8 rfl (by decide) rfl ?_
      refine G_ldc2 hO mw_411 dL_place_9 ?_
      exact G_lret hO hF rfl (Nat.le_of_ble_eq_true rfl) (Nat.le_of_ble_eq_true rfl) dL_place_12 ⟨rfl, rfl, _, _, rfl, rfl, hs⟩
    · refine GX_catch2 (F := eIOB) hO hX rfl (by decide) (by decide) mw_431 (by decide +kernel) (by decide) mw_390 (fun _ h9 => h9.2.2.2.2.2.1) (fun q => ?_)
      refine G_astore_n hO [(3, .ref q), (0, .ref (ad 20 0)), (1, .int a1), (2, .int a2)] dL_place_13 rfl (by decide) rfl ?_
      refine G_ldc2 hO mw_471 dL_place_14 ?_
      exact G_lret hO hF rfl (Nat.le_of_ble_eq_true rfl) (Nat.le_of_ble_eq_true rfl) dL_place_17 ⟨rfl, rfl, _, _, rfl, rfl, hs⟩
set_option maxHeartbeats 4000000 in
set_option maxRecDepth 20000 in
theorem c_L_room {l : Launch} {Λ : Lay} {B : Zn} {ids : List (Nat × Nat)} {ad : Nat → Nat → Nat} (hm : ∀ q, q ∈ ids0 → q ∈ ids) {a1 : Int32} {a2 : Int32} {M : Mem} {O : Nat → Int64} {P : Int64 → Mem → Prop} (hs : wL_room a1 a2 M P) (hst : l.stackTraces = false) : CH l yL_room cL_room 4 (some .long) [(0, 7, 8, 37), (0, 7, 13, 15)] { frames := 7, cells := 1, slots := 6, locals := 113 } Λ B ids ad (sh Λ ad M O) [.ref (ad 20 0), .int a1, .int a2] (Gl Λ ids ad O P) := by
  refine CH.of hst RL [(0, .ref (ad 20 0)), (1, .int a1), (2, .int a2)] (by decide +kernel) rfl (Nat.le_of_ble_eq_true rfl) rfl (fun Γ hO hX hF => ?_)
  unfold wL_room at hs
  refine G_aload_n hO 0 dL_room_0 rfl rfl ?_
  refine G_iload_n hO 1 dL_room_1 rfl rfl ?_
  refine G_iload_n hO 2 dL_room_2 rfl rfl ?_
  refine G_callVX hO (rest := []) [.int a1, .int a2] hX (fun l h => c_X5_room hm hs h) cv_X5_room mw_518 mw_519 mw_517 (hm _ (id_gl (by decide))) cl5 (show sh Λ ad M O 20 0 = _ by unfold sh; rw [rS_gl]; exact gl_0 _ _ _) rfl rfl (Nat.le_of_ble_eq_true rfl) (by decide) (by decide) dL_room_3 ?_ ?_
  · rintro v ids ad w' ⟨rfl, rfl, M1, r, rfl, rfl, hs⟩
    show G Γ ids ad 1 6 (sh Λ ad M1 O) 6 [(0, .ref (ad 20 0)), (1, .int a1), (2, .int a2)] (.int r :: [])
    refine G_i2l hO dL_room_6 ?_
    exact G_lret hO hF rfl (Nat.le_of_ble_eq_true rfl) (Nat.le_of_ble_eq_true rfl) dL_room_7 ⟨rfl, rfl, _, _, rfl, rfl, hs⟩
  · rintro E ids ad w' ⟨rfl, rfl, M1, rfl, hs⟩
    rcases hs with ⟨rfl, hs⟩ | ⟨rfl, hs⟩
    · refine GX_catch1 hO hX rfl (by decide) (by decide) mw_390 (by decide +kernel) (fun q => ?_)
      refine G_astore_n hO [(3, .ref q), (0, .ref (ad 20 0)), (1, .int a1), (2, .int a2)] dL_room_8 rfl (by decide) rfl ?_
      refine G_ldc2 hO mw_411 dL_room_9 ?_
      exact G_lret hO hF rfl (Nat.le_of_ble_eq_true rfl) (Nat.le_of_ble_eq_true rfl) dL_room_12 ⟨rfl, rfl, _, _, rfl, rfl, hs⟩
    · refine GX_catch2 (F := eIOB) hO hX rfl (by decide) (by decide) mw_431 (by decide +kernel) (by decide) mw_390 (fun _ h9 => h9.2.2.2.2.2.1) (fun q => ?_)
      refine G_astore_n hO [(3, .ref q), (0, .ref (ad 20 0)), (1, .int a1), (2, .int a2)] dL_room_13 rfl (by decide) rfl ?_
      refine G_ldc2 hO mw_471 dL_room_14 ?_
      exact G_lret hO hF rfl (Nat.le_of_ble_eq_true rfl) (Nat.le_of_ble_eq_true rfl) dL_room_17 ⟨rfl, rfl, _, _, rfl, rfl, hs⟩
set_option maxHeartbeats 4000000 in
set_option maxRecDepth 20000 in
theorem c_L_way {l : Launch} {Λ : Lay} {B : Zn} {ids : List (Nat × Nat)} {ad : Nat → Nat → Nat} (hm : ∀ q, q ∈ ids0 → q ∈ ids) {a1 : Int32} {a2 : Int32} {M : Mem} {O : Nat → Int64} {P : Int64 → Mem → Prop} (hs : wL_way a1 a2 M P) (hst : l.stackTraces = false) : CH l yL_way cL_way 4 (some .long) [(0, 7, 8, 37), (0, 7, 13, 15)] { frames := 7, cells := 1, slots := 6, locals := 112 } Λ B ids ad (sh Λ ad M O) [.ref (ad 20 0), .int a1, .int a2] (Gl Λ ids ad O P) := by
  refine CH.of hst RL [(0, .ref (ad 20 0)), (1, .int a1), (2, .int a2)] (by decide +kernel) rfl (Nat.le_of_ble_eq_true rfl) rfl (fun Γ hO hX hF => ?_)
  unfold wL_way at hs
  refine G_aload_n hO 0 dL_way_0 rfl rfl ?_
  refine G_iload_n hO 1 dL_way_1 rfl rfl ?_
  refine G_iload_n hO 2 dL_way_2 rfl rfl ?_
  refine G_callVX hO (rest := []) [.int a1, .int a2] hX (fun l h => c_X5_way hm hs h) cv_X5_way mw_528 mw_529 mw_527 (hm _ (id_gl (by decide))) cl5 (show sh Λ ad M O 20 0 = _ by unfold sh; rw [rS_gl]; exact gl_0 _ _ _) rfl rfl (Nat.le_of_ble_eq_true rfl) (by decide) (by decide) dL_way_3 ?_ ?_
  · rintro v ids ad w' ⟨rfl, rfl, M1, r, rfl, rfl, hs⟩
    show G Γ ids ad 1 6 (sh Λ ad M1 O) 6 [(0, .ref (ad 20 0)), (1, .int a1), (2, .int a2)] (.int r :: [])
    refine G_i2l hO dL_way_6 ?_
    exact G_lret hO hF rfl (Nat.le_of_ble_eq_true rfl) (Nat.le_of_ble_eq_true rfl) dL_way_7 ⟨rfl, rfl, _, _, rfl, rfl, hs⟩
  · rintro E ids ad w' ⟨rfl, rfl, M1, rfl, hs⟩
    rcases hs with ⟨rfl, hs⟩ | ⟨rfl, hs⟩
    · refine GX_catch1 hO hX rfl (by decide) (by decide) mw_390 (by decide +kernel) (fun q => ?_)
      refine G_astore_n hO [(3, .ref q), (0, .ref (ad 20 0)), (1, .int a1), (2, .int a2)] dL_way_8 rfl (by decide) rfl ?_
      refine G_ldc2 hO mw_411 dL_way_9 ?_
      exact G_lret hO hF rfl (Nat.le_of_ble_eq_true rfl) (Nat.le_of_ble_eq_true rfl) dL_way_12 ⟨rfl, rfl, _, _, rfl, rfl, hs⟩
    · refine GX_catch2 (F := eIOB) hO hX rfl (by decide) (by decide) mw_431 (by decide +kernel) (by decide) mw_390 (fun _ h9 => h9.2.2.2.2.2.1) (fun q => ?_)
      refine G_astore_n hO [(3, .ref q), (0, .ref (ad 20 0)), (1, .int a1), (2, .int a2)] dL_way_13 rfl (by decide) rfl ?_
      refine G_ldc2 hO mw_471 dL_way_14 ?_
      exact G_lret hO hF rfl (Nat.le_of_ble_eq_true rfl) (Nat.le_of_ble_eq_true rfl) dL_way_17 ⟨rfl, rfl, _, _, rfl, rfl, hs⟩
set_option maxHeartbeats 4000000 in
set_option maxRecDepth 20000 in
theorem c_L_moved {l : Launch} {Λ : Lay} {B : Zn} {ids : List (Nat × Nat)} {ad : Nat → Nat → Nat} (hm : ∀ q, q ∈ ids0 → q ∈ ids) {a1 : Int32} {a2 : Int32} {M : Mem} {O : Nat → Int64} {P : Int64 → Mem → Prop} (hs : wL_moved a1 a2 M P) (hst : l.stackTraces = false) : CH l yL_moved cL_moved 4 (some .long) [(0, 7, 8, 15)] { frames := 7, cells := 1, slots := 6, locals := 112 } Λ B ids ad (sh Λ ad M O) [.ref (ad 20 0), .int a1, .int a2] (Gl Λ ids ad O P) := by
  refine CH.of hst RL [(0, .ref (ad 20 0)), (1, .int a1), (2, .int a2)] (by decide +kernel) rfl (Nat.le_of_ble_eq_true rfl) rfl (fun Γ hO hX hF => ?_)
  unfold wL_moved at hs
  refine G_aload_n hO 0 dL_moved_0 rfl rfl ?_
  refine G_iload_n hO 1 dL_moved_1 rfl rfl ?_
  refine G_iload_n hO 2 dL_moved_2 rfl rfl ?_
  refine G_callVX hO (rest := []) [.int a1, .int a2] hX (fun l h => c_X5_moved hm hs h) cv_X5_moved mw_541 mw_542 mw_540 (hm _ (id_gl (by decide))) cl5 (show sh Λ ad M O 20 0 = _ by unfold sh; rw [rS_gl]; exact gl_0 _ _ _) rfl rfl (Nat.le_of_ble_eq_true rfl) (by decide) (by decide) dL_moved_3 ?_ ?_
  · rintro v ids ad w' ⟨rfl, rfl, M1, r, rfl, rfl, hs⟩
    show G Γ ids ad 1 6 (sh Λ ad M1 O) 6 [(0, .ref (ad 20 0)), (1, .int a1), (2, .int a2)] (.int r :: [])
    refine G_i2l hO dL_moved_6 ?_
    exact G_lret hO hF rfl (Nat.le_of_ble_eq_true rfl) (Nat.le_of_ble_eq_true rfl) dL_moved_7 ⟨rfl, rfl, _, _, rfl, rfl, hs⟩
  · rintro E ids ad w' ⟨rfl, rfl, M1, rfl, hs⟩
    obtain ⟨rfl, hs⟩ := hs
    refine GX_catch1 hO hX rfl (by decide) (by decide) mw_431 (by decide +kernel) (fun q => ?_)
    refine G_astore_n hO [(3, .ref q), (0, .ref (ad 20 0)), (1, .int a1), (2, .int a2)] dL_moved_8 rfl (by decide) rfl ?_
    refine G_ldc2 hO mw_471 dL_moved_9 ?_
    exact G_lret hO hF rfl (Nat.le_of_ble_eq_true rfl) (Nat.le_of_ble_eq_true rfl) dL_moved_12 ⟨rfl, rfl, _, _, rfl, rfl, hs⟩
set_option maxHeartbeats 4000000 in
set_option maxRecDepth 20000 in
theorem c_L_addRoom {l : Launch} {Λ : Lay} {B : Zn} {ids : List (Nat × Nat)} {ad : Nat → Nat → Nat} (hm : ∀ q, q ∈ ids0 → q ∈ ids) {a1 : Int32} {a2 : Int32} {a3 : Int32} {a4 : Int32} {M : Mem} {O : Nat → Int64} {P : Int64 → Mem → Prop} (hs : wL_addRoom a1 a2 a3 a4 M P) (hst : l.stackTraces = false) : CH l yL_addRoom cL_addRoom 6 (some .long) [(0, 10, 11, 15), (0, 10, 17, 19)] { frames := 7, cells := 1, slots := 6, locals := 136 } Λ B ids ad (sh Λ ad M O) [.ref (ad 20 0), .int a1, .int a2, .int a3, .int a4] (Gl Λ ids ad O P) := by
  refine CH.of hst RL [(0, .ref (ad 20 0)), (1, .int a1), (2, .int a2), (3, .int a3), (4, .int a4)] (by decide +kernel) rfl (Nat.le_of_ble_eq_true rfl) rfl (fun Γ hO hX hF => ?_)
  unfold wL_addRoom at hs
  refine G_aload_n hO 0 dL_addRoom_0 rfl rfl ?_
  refine G_iload_n hO 1 dL_addRoom_1 rfl rfl ?_
  refine G_iload_n hO 2 dL_addRoom_2 rfl rfl ?_
  refine G_iload_n hO 3 dL_addRoom_3 rfl rfl ?_
  refine G_iload hO 4 dL_addRoom_4 rfl ?_
  refine G_callVX hO (rest := []) [.int a1, .int a2, .int a3, .int a4] hX (fun l h => c_X5_addRoom hm hs h) cv_X5_addRoom mw_553 mw_554 mw_552 (hm _ (id_gl (by decide))) cl5 (show sh Λ ad M O 20 0 = _ by unfold sh; rw [rS_gl]; exact gl_0 _ _ _) rfl rfl (Nat.le_of_ble_eq_true rfl) (by decide) (by decide) dL_addRoom_6 ?_ ?_
  · rintro v ids ad w' ⟨rfl, rfl, M1, r, rfl, rfl, hs⟩
    show G Γ ids ad 1 6 (sh Λ ad M1 O) 9 [(0, .ref (ad 20 0)), (1, .int a1), (2, .int a2), (3, .int a3), (4, .int a4)] (.int r :: [])
    refine G_i2l hO dL_addRoom_9 ?_
    exact G_lret hO hF rfl (Nat.le_of_ble_eq_true rfl) (Nat.le_of_ble_eq_true rfl) dL_addRoom_10 ⟨rfl, rfl, _, _, rfl, rfl, hs⟩
  · rintro E ids ad w' ⟨rfl, rfl, M1, rfl, hs⟩
    rcases hs with ⟨rfl, hs⟩ | ⟨rfl, hs⟩
    · refine GX_catch1 hO hX rfl (by decide) (by decide) mw_431 (by decide +kernel) (fun q => ?_)
      refine G_astore hO [(5, .ref q), (0, .ref (ad 20 0)), (1, .int a1), (2, .int a2), (3, .int a3), (4, .int a4)] dL_addRoom_11 (by decide) rfl ?_
      refine G_ldc2 hO mw_471 dL_addRoom_13 ?_
      exact G_lret hO hF rfl (Nat.le_of_ble_eq_true rfl) (Nat.le_of_ble_eq_true rfl) dL_addRoom_16 ⟨rfl, rfl, _, _, rfl, rfl, hs⟩
    · refine GX_catch2 (F := eIAE) hO hX rfl (by decide) (by decide) mw_208 (by decide +kernel) (by decide) mw_431 (fun _ h9 => h9.2.2.2.2.1) (fun q => ?_)
      refine G_astore hO [(5, .ref q), (0, .ref (ad 20 0)), (1, .int a1), (2, .int a2), (3, .int a3), (4, .int a4)] dL_addRoom_17 (by decide) rfl ?_
      refine G_ldc2 hO mw_386 dL_addRoom_19 ?_
      exact G_lret hO hF rfl (Nat.le_of_ble_eq_true rfl) (Nat.le_of_ble_eq_true rfl) dL_addRoom_22 ⟨rfl, rfl, _, _, rfl, rfl, hs⟩
set_option maxHeartbeats 4000000 in
set_option maxRecDepth 20000 in
theorem c_L_setRoom {l : Launch} {Λ : Lay} {B : Zn} {ids : List (Nat × Nat)} {ad : Nat → Nat → Nat} (hm : ∀ q, q ∈ ids0 → q ∈ ids) {a1 : Int32} {a2 : Int32} {a3 : Int32} {M : Mem} {O : Nat → Int64} {P : Int64 → Mem → Prop} (hs : wL_setRoom a1 a2 a3 M P) (hst : l.stackTraces = false) : CH l yL_setRoom cL_setRoom 5 (some .long) [(0, 8, 9, 37), (0, 8, 15, 15)] { frames := 7, cells := 1, slots := 6, locals := 135 } Λ B ids ad (sh Λ ad M O) [.ref (ad 20 0), .int a1, .int a2, .int a3] (Gl Λ ids ad O P) := by
  refine CH.of hst RL [(0, .ref (ad 20 0)), (1, .int a1), (2, .int a2), (3, .int a3)] (by decide +kernel) rfl (Nat.le_of_ble_eq_true rfl) rfl (fun Γ hO hX hF => ?_)
  unfold wL_setRoom at hs
  refine G_aload_n hO 0 dL_setRoom_0 rfl rfl ?_
  refine G_iload_n hO 1 dL_setRoom_1 rfl rfl ?_
  refine G_iload_n hO 2 dL_setRoom_2 rfl rfl ?_
  refine G_iload_n hO 3 dL_setRoom_3 rfl rfl ?_
  refine G_callVX hO (rest := []) [.int a1, .int a2, .int a3] hX (fun l h => c_X5_setRoom hm hs h) cv_X5_setRoom mw_582 mw_583 mw_581 (hm _ (id_gl (by decide))) cl5 (show sh Λ ad M O 20 0 = _ by unfold sh; rw [rS_gl]; exact gl_0 _ _ _) rfl rfl (Nat.le_of_ble_eq_true rfl) (by decide) (by decide) dL_setRoom_4 ?_ ?_
  · rintro v ids ad w' ⟨rfl, rfl, M1, r, rfl, rfl, hs⟩
    show G Γ ids ad 1 6 (sh Λ ad M1 O) 7 [(0, .ref (ad 20 0)), (1, .int a1), (2, .int a2), (3, .int a3)] (.int r :: [])
    refine G_i2l hO dL_setRoom_7 ?_
    exact G_lret hO hF rfl (Nat.le_of_ble_eq_true rfl) (Nat.le_of_ble_eq_true rfl) dL_setRoom_8 ⟨rfl, rfl, _, _, rfl, rfl, hs⟩
  · rintro E ids ad w' ⟨rfl, rfl, M1, rfl, hs⟩
    rcases hs with ⟨rfl, hs⟩ | ⟨rfl, hs⟩
    · refine GX_catch1 hO hX rfl (by decide) (by decide) mw_390 (by decide +kernel) (fun q => ?_)
      refine G_astore hO [(4, .ref q), (0, .ref (ad 20 0)), (1, .int a1), (2, .int a2), (3, .int a3)] dL_setRoom_9 (by decide) rfl ?_
      refine G_ldc2 hO mw_411 dL_setRoom_11 ?_
      exact G_lret hO hF rfl (Nat.le_of_ble_eq_true rfl) (Nat.le_of_ble_eq_true rfl) dL_setRoom_14 ⟨rfl, rfl, _, _, rfl, rfl, hs⟩
    · refine GX_catch2 (F := eIOB) hO hX rfl (by decide) (by decide) mw_431 (by decide +kernel) (by decide) mw_390 (fun _ h9 => h9.2.2.2.2.2.1) (fun q => ?_)
      refine G_astore hO [(4, .ref q), (0, .ref (ad 20 0)), (1, .int a1), (2, .int a2), (3, .int a3)] dL_setRoom_15 (by decide) rfl ?_
      refine G_ldc2 hO mw_471 dL_setRoom_17 ?_
      exact G_lret hO hF rfl (Nat.le_of_ble_eq_true rfl) (Nat.le_of_ble_eq_true rfl) dL_setRoom_20 ⟨rfl, rfl, _, _, rfl, rfl, hs⟩
set_option maxHeartbeats 4000000 in
set_option maxRecDepth 20000 in
theorem c_L_window {l : Launch} {Λ : Lay} {B : Zn} {ids : List (Nat × Nat)} {ad : Nat → Nat → Nat} (hm : ∀ q, q ∈ ids0 → q ∈ ids) {a1 : Int32} {a2 : Int32} {M : Mem} {O : Nat → Int64} {P : Int64 → Mem → Prop} (hs : wL_window a1 a2 M P) (hst : l.stackTraces = false) : CH l yL_window cL_window 4 (some .long) [(0, 7, 8, 37)] { frames := 7, cells := 1, slots := 6, locals := 134 } Λ B ids ad (sh Λ ad M O) [.ref (ad 20 0), .int a1, .int a2] (Gl Λ ids ad O P) := by
  refine CH.of hst RL [(0, .ref (ad 20 0)), (1, .int a1), (2, .int a2)] (by decide +kernel) rfl (Nat.le_of_ble_eq_true rfl) rfl (fun Γ hO hX hF => ?_)
  unfold wL_window at hs
  refine G_aload_n hO 0 dL_window_0 rfl rfl ?_
  refine G_iload_n hO 1 dL_window_1 rfl rfl ?_
  refine G_iload_n hO 2 dL_window_2 rfl rfl ?_
  refine G_callVX hO (rest := []) [.int a1, .int a2] hX (fun l h => c_X5_window hm hs h) cv_X5_window mw_597 mw_598 mw_596 (hm _ (id_gl (by decide))) cl5 (show sh Λ ad M O 20 0 = _ by unfold sh; rw [rS_gl]; exact gl_0 _ _ _) rfl rfl (Nat.le_of_ble_eq_true rfl) (by decide) (by decide) dL_window_3 ?_ ?_
  · rintro v ids ad w' ⟨rfl, rfl, M1, r, rfl, rfl, hs⟩
    show G Γ ids ad 1 6 (sh Λ ad M1 O) 6 [(0, .ref (ad 20 0)), (1, .int a1), (2, .int a2)] (.int r :: [])
    refine G_i2l hO dL_window_6 ?_
    exact G_lret hO hF rfl (Nat.le_of_ble_eq_true rfl) (Nat.le_of_ble_eq_true rfl) dL_window_7 ⟨rfl, rfl, _, _, rfl, rfl, hs⟩
  · rintro E ids ad w' ⟨rfl, rfl, M1, rfl, hs⟩
    obtain ⟨rfl, hs⟩ := hs
    refine GX_catch1 hO hX rfl (by decide) (by decide) mw_390 (by decide +kernel) (fun q => ?_)
    refine G_astore_n hO [(3, .ref q), (0, .ref (ad 20 0)), (1, .int a1), (2, .int a2)] dL_window_8 rfl (by decide) rfl ?_
    refine G_ldc2 hO mw_411 dL_window_9 ?_
    exact G_lret hO hF rfl (Nat.le_of_ble_eq_true rfl) (Nat.le_of_ble_eq_true rfl) dL_window_12 ⟨rfl, rfl, _, _, rfl, rfl, hs⟩
set_option maxHeartbeats 4000000 in
set_option maxRecDepth 20000 in
theorem c_L_set {l : Launch} {Λ : Lay} {B : Zn} {ids : List (Nat × Nat)} {ad : Nat → Nat → Nat} (hm : ∀ q, q ∈ ids0 → q ∈ ids) {a1 : Int32} {a2 : Int32} {M : Mem} {O : Nat → Int64} {P : Int64 → Mem → Prop} (hs : wL_set a1 a2 M P) (hst : l.stackTraces = false) : CH l yL_set cL_set 4 (some .long) [(0, 7, 8, 15)] { frames := 7, cells := 1, slots := 6, locals := 135 } Λ B ids ad (sh Λ ad M O) [.ref (ad 20 0), .int a1, .int a2] (Gl Λ ids ad O P) := by
  refine CH.of hst RL [(0, .ref (ad 20 0)), (1, .int a1), (2, .int a2)] (by decide +kernel) rfl (Nat.le_of_ble_eq_true rfl) rfl (fun Γ hO hX hF => ?_)
  unfold wL_set at hs
  refine G_aload_n hO 0 dL_set_0 rfl rfl ?_
  refine G_iload_n hO 1 dL_set_1 rfl rfl ?_
  refine G_iload_n hO 2 dL_set_2 rfl rfl ?_
  refine G_callVX hO (rest := []) [.int a1, .int a2] hX (fun l h => c_X5_set hm hs h) cv_X5_set mw_608 mw_609 mw_607 (hm _ (id_gl (by decide))) cl5 (show sh Λ ad M O 20 0 = _ by unfold sh; rw [rS_gl]; exact gl_0 _ _ _) rfl rfl (Nat.le_of_ble_eq_true rfl) (by decide) (by decide) dL_set_3 ?_ ?_
  · rintro v ids ad w' ⟨rfl, rfl, M1, r, rfl, rfl, hs⟩
    show G Γ ids ad 1 6 (sh Λ ad M1 O) 6 [(0, .ref (ad 20 0)), (1, .int a1), (2, .int a2)] (.int r :: [])
    refine G_i2l hO dL_set_6 ?_
    exact G_lret hO hF rfl (Nat.le_of_ble_eq_true rfl) (Nat.le_of_ble_eq_true rfl) dL_set_7 ⟨rfl, rfl, _, _, rfl, rfl, hs⟩
  · rintro E ids ad w' ⟨rfl, rfl, M1, rfl, hs⟩
    obtain ⟨rfl, hs⟩ := hs
    refine GX_catch1 hO hX rfl (by decide) (by decide) mw_431 (by decide +kernel) (fun q => ?_)
    refine G_astore_n hO [(3, .ref q), (0, .ref (ad 20 0)), (1, .int a1), (2, .int a2)] dL_set_8 rfl (by decide) rfl ?_
    refine G_ldc2 hO mw_471 dL_set_9 ?_
    exact G_lret hO hF rfl (Nat.le_of_ble_eq_true rfl) (Nat.le_of_ble_eq_true rfl) dL_set_12 ⟨rfl, rfl, _, _, rfl, rfl, hs⟩
set_option maxHeartbeats 4000000 in
set_option maxRecDepth 20000 in
theorem c_L_outside {l : Launch} {Λ : Lay} {B : Zn} {ids : List (Nat × Nat)} {ad : Nat → Nat → Nat} (hm : ∀ q, q ∈ ids0 → q ∈ ids) {a1 : Int32} {M : Mem} {O : Nat → Int64} {P : Int64 → Mem → Prop} (hs : wL_outside a1 M P) (hst : l.stackTraces = false) : CH l yL_outside cL_outside 3 (some .long) [(0, 6, 7, 15)] { frames := 7, cells := 1, slots := 6, locals := 134 } Λ B ids ad (sh Λ ad M O) [.ref (ad 20 0), .int a1] (Gl Λ ids ad O P) := by
  refine CH.of hst RL [(0, .ref (ad 20 0)), (1, .int a1)] (by decide +kernel) rfl (Nat.le_of_ble_eq_true rfl) rfl (fun Γ hO hX hF => ?_)
  unfold wL_outside at hs
  refine G_aload_n hO 0 dL_outside_0 rfl rfl ?_
  refine G_iload_n hO 1 dL_outside_1 rfl rfl ?_
  refine G_callVX hO (rest := []) [.int a1] hX (fun l h => c_X5_outside hm hs h) cv_X5_outside mw_622 mw_623 mw_621 (hm _ (id_gl (by decide))) cl5 (show sh Λ ad M O 20 0 = _ by unfold sh; rw [rS_gl]; exact gl_0 _ _ _) rfl rfl (Nat.le_of_ble_eq_true rfl) (by decide) (by decide) dL_outside_2 ?_ ?_
  · rintro v ids ad w' ⟨rfl, rfl, M1, r, rfl, rfl, hs⟩
    show G Γ ids ad 1 6 (sh Λ ad M1 O) 5 [(0, .ref (ad 20 0)), (1, .int a1)] (.int r :: [])
    refine G_i2l hO dL_outside_5 ?_
    exact G_lret hO hF rfl (Nat.le_of_ble_eq_true rfl) (Nat.le_of_ble_eq_true rfl) dL_outside_6 ⟨rfl, rfl, _, _, rfl, rfl, hs⟩
  · rintro E ids ad w' ⟨rfl, rfl, M1, rfl, hs⟩
    obtain ⟨rfl, hs⟩ := hs
    refine GX_catch1 hO hX rfl (by decide) (by decide) mw_431 (by decide +kernel) (fun q => ?_)
    refine G_astore_n hO [(2, .ref q), (0, .ref (ad 20 0)), (1, .int a1)] dL_outside_7 rfl (by decide) rfl ?_
    refine G_ldc2 hO mw_471 dL_outside_8 ?_
    exact G_lret hO hF rfl (Nat.le_of_ble_eq_true rfl) (Nat.le_of_ble_eq_true rfl) dL_outside_11 ⟨rfl, rfl, _, _, rfl, rfl, hs⟩
set_option maxHeartbeats 4000000 in
set_option maxRecDepth 20000 in
theorem c_L_pass {l : Launch} {Λ : Lay} {B : Zn} {ids : List (Nat × Nat)} {ad : Nat → Nat → Nat} (hm : ∀ q, q ∈ ids0 → q ∈ ids) {a1 : Int32} {M : Mem} {O : Nat → Int64} {P : Int64 → Mem → Prop} (hs : wL_pass a1 M P) (hst : l.stackTraces = false) : CH l yL_pass cL_pass 3 (some .long) [(0, 6, 7, 15)] { frames := 7, cells := 1, slots := 6, locals := 134 } Λ B ids ad (sh Λ ad M O) [.ref (ad 20 0), .int a1] (Gl Λ ids ad O P) := by
  refine CH.of hst RL [(0, .ref (ad 20 0)), (1, .int a1)] (by decide +kernel) rfl (Nat.le_of_ble_eq_true rfl) rfl (fun Γ hO hX hF => ?_)
  unfold wL_pass at hs
  refine G_aload_n hO 0 dL_pass_0 rfl rfl ?_
  refine G_iload_n hO 1 dL_pass_1 rfl rfl ?_
  refine G_callVX hO (rest := []) [.int a1] hX (fun l h => c_X5_pass hm hs h) cv_X5_pass mw_633 mw_634 mw_632 (hm _ (id_gl (by decide))) cl5 (show sh Λ ad M O 20 0 = _ by unfold sh; rw [rS_gl]; exact gl_0 _ _ _) rfl rfl (Nat.le_of_ble_eq_true rfl) (by decide) (by decide) dL_pass_2 ?_ ?_
  · rintro v ids ad w' ⟨rfl, rfl, M1, r, rfl, rfl, hs⟩
    show G Γ ids ad 1 6 (sh Λ ad M1 O) 5 [(0, .ref (ad 20 0)), (1, .int a1)] (.int r :: [])
    refine G_i2l hO dL_pass_5 ?_
    exact G_lret hO hF rfl (Nat.le_of_ble_eq_true rfl) (Nat.le_of_ble_eq_true rfl) dL_pass_6 ⟨rfl, rfl, _, _, rfl, rfl, hs⟩
  · rintro E ids ad w' ⟨rfl, rfl, M1, rfl, hs⟩
    obtain ⟨rfl, hs⟩ := hs
    refine GX_catch1 hO hX rfl (by decide) (by decide) mw_431 (by decide +kernel) (fun q => ?_)
    refine G_astore_n hO [(2, .ref q), (0, .ref (ad 20 0)), (1, .int a1)] dL_pass_7 rfl (by decide) rfl ?_
    refine G_ldc2 hO mw_471 dL_pass_8 ?_
    exact G_lret hO hF rfl (Nat.le_of_ble_eq_true rfl) (Nat.le_of_ble_eq_true rfl) dL_pass_11 ⟨rfl, rfl, _, _, rfl, rfl, hs⟩
set_option maxHeartbeats 4000000 in
set_option maxRecDepth 20000 in
theorem c_L_ahead {l : Launch} {Λ : Lay} {B : Zn} {ids : List (Nat × Nat)} {ad : Nat → Nat → Nat} (hm : ∀ q, q ∈ ids0 → q ∈ ids) {a1 : Int32} {a2 : Int32} {M : Mem} {O : Nat → Int64} {P : Int64 → Mem → Prop} (hs : wL_ahead a1 a2 M P) (hst : l.stackTraces = false) : CH l yL_ahead cL_ahead 4 (some .long) [(0, 7, 8, 37), (0, 7, 13, 15)] { frames := 7, cells := 1, slots := 6, locals := 130 } Λ B ids ad (sh Λ ad M O) [.ref (ad 20 0), .int a1, .int a2] (Gl Λ ids ad O P) := by
  refine CH.of hst RL [(0, .ref (ad 20 0)), (1, .int a1), (2, .int a2)] (by decide +kernel) rfl (Nat.le_of_ble_eq_true rfl) rfl (fun Γ hO hX hF => ?_)
  unfold wL_ahead at hs
  refine G_aload_n hO 0 dL_ahead_0 rfl rfl ?_
  refine G_iload_n hO 1 dL_ahead_1 rfl rfl ?_
  refine G_iload_n hO 2 dL_ahead_2 rfl rfl ?_
  refine G_callVX hO (rest := []) [.int a1, .int a2] hX (fun l h => c_X5_ahead hm hs h) cv_X5_ahead mw_701 mw_702 mw_700 (hm _ (id_gl (by decide))) cl5 (show sh Λ ad M O 20 0 = _ by unfold sh; rw [rS_gl]; exact gl_0 _ _ _) rfl rfl (Nat.le_of_ble_eq_true rfl) (by decide) (by decide) dL_ahead_3 ?_ ?_
  · rintro v ids ad w' ⟨rfl, rfl, M1, r, rfl, rfl, hs⟩
    show G Γ ids ad 1 6 (sh Λ ad M1 O) 6 [(0, .ref (ad 20 0)), (1, .int a1), (2, .int a2)] (.int r :: [])
    refine G_i2l hO dL_ahead_6 ?_
    exact G_lret hO hF rfl (Nat.le_of_ble_eq_true rfl) (Nat.le_of_ble_eq_true rfl) dL_ahead_7 ⟨rfl, rfl, _, _, rfl, rfl, hs⟩
  · rintro E ids ad w' ⟨rfl, rfl, M1, rfl, hs⟩
    rcases hs with ⟨rfl, hs⟩ | ⟨rfl, hs⟩
    · refine GX_catch1 hO hX rfl (by decide) (by decide) mw_390 (by decide +kernel) (fun q => ?_)
      refine G_astore_n hO [(3, .ref q), (0, .ref (ad 20 0)), (1, .int a1), (2, .int a2)] dL_ahead_8 rfl (by decide) rfl ?_
      refine G_ldc2 hO mw_411 dL_ahead_9 ?_
      exact G_lret hO hF rfl (Nat.le_of_ble_eq_true rfl) (Nat.le_of_ble_eq_true rfl) dL_ahead_12 ⟨rfl, rfl, _, _, rfl, rfl, hs⟩
    · refine GX_catch2 (F := eIOB) hO hX rfl (by decide) (by decide) mw_431 (by decide +kernel) (by decide) mw_390 (fun _ h9 => h9.2.2.2.2.2.1) (fun q => ?_)
      refine G_astore_n hO [(3, .ref q), (0, .ref (ad 20 0)), (1, .int a1), (2, .int a2)] dL_ahead_13 rfl (by decide) rfl ?_
      refine G_ldc2 hO mw_471 dL_ahead_14 ?_
      exact G_lret hO hF rfl (Nat.le_of_ble_eq_true rfl) (Nat.le_of_ble_eq_true rfl) dL_ahead_17 ⟨rfl, rfl, _, _, rfl, rfl, hs⟩
set_option maxHeartbeats 4000000 in
set_option maxRecDepth 20000 in
theorem c_L_minutesTo {l : Launch} {Λ : Lay} {B : Zn} {ids : List (Nat × Nat)} {ad : Nat → Nat → Nat} (hm : ∀ q, q ∈ ids0 → q ∈ ids) {a1 : Int32} {M : Mem} {O : Nat → Int64} {P : Int64 → Mem → Prop} (hs : wL_minutesTo a1 M P) (hst : l.stackTraces = false) : CH l yL_minutesTo cL_minutesTo 3 (some .long) [(0, 6, 7, 37)] { frames := 7, cells := 1, slots := 6, locals := 130 } Λ B ids ad (sh Λ ad M O) [.ref (ad 20 0), .int a1] (Gl Λ ids ad O P) := by
  refine CH.of hst RL [(0, .ref (ad 20 0)), (1, .int a1)] (by decide +kernel) rfl (Nat.le_of_ble_eq_true rfl) rfl (fun Γ hO hX hF => ?_)
  unfold wL_minutesTo at hs
  refine G_aload_n hO 0 dL_minutesTo_0 rfl rfl ?_
  refine G_iload_n hO 1 dL_minutesTo_1 rfl rfl ?_
  refine G_callVX hO (rest := []) [.int a1] hX (fun l h => c_X5_minutesTo hm hs h) cv_X5_minutesTo mw_709 mw_710 mw_708 (hm _ (id_gl (by decide))) cl5 (show sh Λ ad M O 20 0 = _ by unfold sh; rw [rS_gl]; exact gl_0 _ _ _) rfl rfl (Nat.le_of_ble_eq_true rfl) (by decide) (by decide) dL_minutesTo_2 ?_ ?_
  · rintro v ids ad w' ⟨rfl, rfl, M1, r, rfl, rfl, hs⟩
    show G Γ ids ad 1 6 (sh Λ ad M1 O) 5 [(0, .ref (ad 20 0)), (1, .int a1)] (.int r :: [])
    refine G_i2l hO dL_minutesTo_5 ?_
    exact G_lret hO hF rfl (Nat.le_of_ble_eq_true rfl) (Nat.le_of_ble_eq_true rfl) dL_minutesTo_6 ⟨rfl, rfl, _, _, rfl, rfl, hs⟩
  · rintro E ids ad w' ⟨rfl, rfl, M1, rfl, hs⟩
    obtain ⟨rfl, hs⟩ := hs
    refine GX_catch1 hO hX rfl (by decide) (by decide) mw_390 (by decide +kernel) (fun q => ?_)
    refine G_astore_n hO [(2, .ref q), (0, .ref (ad 20 0)), (1, .int a1)] dL_minutesTo_7 rfl (by decide) rfl ?_
    refine G_ldc2 hO mw_411 dL_minutesTo_8 ?_
    exact G_lret hO hF rfl (Nat.le_of_ble_eq_true rfl) (Nat.le_of_ble_eq_true rfl) dL_minutesTo_11 ⟨rfl, rfl, _, _, rfl, rfl, hs⟩
set_option maxHeartbeats 4000000 in
set_option maxRecDepth 20000 in
theorem c_L_bestSlope {l : Launch} {Λ : Lay} {B : Zn} {ids : List (Nat × Nat)} {ad : Nat → Nat → Nat} (hm : ∀ q, q ∈ ids0 → q ∈ ids) {a1 : Int32} {M : Mem} {O : Nat → Int64} {P : Int64 → Mem → Prop} (hs : wL_bestSlope a1 M P) (hst : l.stackTraces = false) : CH l yL_bestSlope cL_bestSlope 3 (some .long) [(0, 6, 7, 15)] { frames := 7, cells := 1, slots := 6, locals := 133 } Λ B ids ad (sh Λ ad M O) [.ref (ad 20 0), .int a1] (Gl Λ ids ad O P) := by
  refine CH.of hst RL [(0, .ref (ad 20 0)), (1, .int a1)] (by decide +kernel) rfl (Nat.le_of_ble_eq_true rfl) rfl (fun Γ hO hX hF => ?_)
  unfold wL_bestSlope at hs
  refine G_aload_n hO 0 dL_bestSlope_0 rfl rfl ?_
  refine G_iload_n hO 1 dL_bestSlope_1 rfl rfl ?_
  refine G_callVX hO (rest := []) [.int a1] hX (fun l h => c_X5_bestSlope hm hs h) cv_X5_bestSlope mw_721 mw_722 mw_720 (hm _ (id_gl (by decide))) cl5 (show sh Λ ad M O 20 0 = _ by unfold sh; rw [rS_gl]; exact gl_0 _ _ _) rfl rfl (Nat.le_of_ble_eq_true rfl) (by decide) (by decide) dL_bestSlope_2 ?_ ?_
  · rintro v ids ad w' ⟨rfl, rfl, M1, r, rfl, rfl, hs⟩
    show G Γ ids ad 1 6 (sh Λ ad M1 O) 5 [(0, .ref (ad 20 0)), (1, .int a1)] (.int r :: [])
    refine G_i2l hO dL_bestSlope_5 ?_
    exact G_lret hO hF rfl (Nat.le_of_ble_eq_true rfl) (Nat.le_of_ble_eq_true rfl) dL_bestSlope_6 ⟨rfl, rfl, _, _, rfl, rfl, hs⟩
  · rintro E ids ad w' ⟨rfl, rfl, M1, rfl, hs⟩
    obtain ⟨rfl, hs⟩ := hs
    refine GX_catch1 hO hX rfl (by decide) (by decide) mw_431 (by decide +kernel) (fun q => ?_)
    refine G_astore_n hO [(2, .ref q), (0, .ref (ad 20 0)), (1, .int a1)] dL_bestSlope_7 rfl (by decide) rfl ?_
    refine G_ldc2 hO mw_471 dL_bestSlope_8 ?_
    exact G_lret hO hF rfl (Nat.le_of_ble_eq_true rfl) (Nat.le_of_ble_eq_true rfl) dL_bestSlope_11 ⟨rfl, rfl, _, _, rfl, rfl, hs⟩
set_option maxHeartbeats 4000000 in
set_option maxRecDepth 20000 in
theorem c_L_leastPower {l : Launch} {Λ : Lay} {B : Zn} {ids : List (Nat × Nat)} {ad : Nat → Nat → Nat} (hm : ∀ q, q ∈ ids0 → q ∈ ids) {a1 : Int32} {M : Mem} {O : Nat → Int64} {P : Int64 → Mem → Prop} (hs : wL_leastPower a1 M P) (hst : l.stackTraces = false) : CH l yL_leastPower cL_leastPower 3 (some .long) [(0, 6, 7, 15)] { frames := 7, cells := 1, slots := 6, locals := 154 } Λ B ids ad (sh Λ ad M O) [.ref (ad 20 0), .int a1] (Gl Λ ids ad O P) := by
  refine CH.of hst RL [(0, .ref (ad 20 0)), (1, .int a1)] (by decide +kernel) rfl (Nat.le_of_ble_eq_true rfl) rfl (fun Γ hO hX hF => ?_)
  unfold wL_leastPower at hs
  refine G_aload_n hO 0 dL_leastPower_0 rfl rfl ?_
  refine G_iload_n hO 1 dL_leastPower_1 rfl rfl ?_
  refine G_callVX hO (rest := []) [.int a1] hX (fun l h => c_X5_leastPower hm hs h) cv_X5_leastPower mw_729 mw_730 mw_728 (hm _ (id_gl (by decide))) cl5 (show sh Λ ad M O 20 0 = _ by unfold sh; rw [rS_gl]; exact gl_0 _ _ _) rfl rfl (Nat.le_of_ble_eq_true rfl) (by decide) (by decide) dL_leastPower_2 ?_ ?_
  · rintro v ids ad w' ⟨rfl, rfl, M1, r, rfl, rfl, hs⟩
    show G Γ ids ad 1 6 (sh Λ ad M1 O) 5 [(0, .ref (ad 20 0)), (1, .int a1)] (.int r :: [])
    refine G_i2l hO dL_leastPower_5 ?_
    exact G_lret hO hF rfl (Nat.le_of_ble_eq_true rfl) (Nat.le_of_ble_eq_true rfl) dL_leastPower_6 ⟨rfl, rfl, _, _, rfl, rfl, hs⟩
  · rintro E ids ad w' ⟨rfl, rfl, M1, rfl, hs⟩
    obtain ⟨rfl, hs⟩ := hs
    refine GX_catch1 hO hX rfl (by decide) (by decide) mw_431 (by decide +kernel) (fun q => ?_)
    refine G_astore_n hO [(2, .ref q), (0, .ref (ad 20 0)), (1, .int a1)] dL_leastPower_7 rfl (by decide) rfl ?_
    refine G_ldc2 hO mw_471 dL_leastPower_8 ?_
    exact G_lret hO hF rfl (Nat.le_of_ble_eq_true rfl) (Nat.le_of_ble_eq_true rfl) dL_leastPower_11 ⟨rfl, rfl, _, _, rfl, rfl, hs⟩
set_option maxHeartbeats 4000000 in
set_option maxRecDepth 20000 in
theorem c_L_heatFor {l : Launch} {Λ : Lay} {B : Zn} {ids : List (Nat × Nat)} {ad : Nat → Nat → Nat} (hm : ∀ q, q ∈ ids0 → q ∈ ids) {a1 : Int32} {M : Mem} {O : Nat → Int64} {P : Int64 → Mem → Prop} (hs : wL_heatFor a1 M P) (hst : l.stackTraces = false) : CH l yL_heatFor cL_heatFor 3 (some .long) [(0, 6, 7, 15)] { frames := 7, cells := 1, slots := 6, locals := 129 } Λ B ids ad (sh Λ ad M O) [.ref (ad 20 0), .int a1] (Gl Λ ids ad O P) := by
  refine CH.of hst RL [(0, .ref (ad 20 0)), (1, .int a1)] (by decide +kernel) rfl (Nat.le_of_ble_eq_true rfl) rfl (fun Γ hO hX hF => ?_)
  unfold wL_heatFor at hs
  refine G_aload_n hO 0 dL_heatFor_0 rfl rfl ?_
  refine G_iload_n hO 1 dL_heatFor_1 rfl rfl ?_
  refine G_callVX hO (rest := []) [.int a1] hX (fun l h => c_X5_heatFor hm hs h) cv_X5_heatFor mw_744 mw_745 mw_743 (hm _ (id_gl (by decide))) cl5 (show sh Λ ad M O 20 0 = _ by unfold sh; rw [rS_gl]; exact gl_0 _ _ _) rfl rfl (Nat.le_of_ble_eq_true rfl) (by decide) (by decide) dL_heatFor_2 ?_ ?_
  · rintro v ids ad w' ⟨rfl, rfl, M1, r, rfl, rfl, hs⟩
    show G Γ ids ad 1 6 (sh Λ ad M1 O) 5 [(0, .ref (ad 20 0)), (1, .int a1)] (.int r :: [])
    refine G_i2l hO dL_heatFor_5 ?_
    exact G_lret hO hF rfl (Nat.le_of_ble_eq_true rfl) (Nat.le_of_ble_eq_true rfl) dL_heatFor_6 ⟨rfl, rfl, _, _, rfl, rfl, hs⟩
  · rintro E ids ad w' ⟨rfl, rfl, M1, rfl, hs⟩
    obtain ⟨rfl, hs⟩ := hs
    refine GX_catch1 hO hX rfl (by decide) (by decide) mw_431 (by decide +kernel) (fun q => ?_)
    refine G_astore_n hO [(2, .ref q), (0, .ref (ad 20 0)), (1, .int a1)] dL_heatFor_7 rfl (by decide) rfl ?_
    refine G_ldc2 hO mw_471 dL_heatFor_8 ?_
    exact G_lret hO hF rfl (Nat.le_of_ble_eq_true rfl) (Nat.le_of_ble_eq_true rfl) dL_heatFor_11 ⟨rfl, rfl, _, _, rfl, rfl, hs⟩
set_option maxHeartbeats 4000000 in
set_option maxRecDepth 20000 in
theorem c_L_script {l : Launch} {Λ : Lay} {B : Zn} {ids : List (Nat × Nat)} {ad : Nat → Nat → Nat} (hm : ∀ q, q ∈ ids0 → q ∈ ids) {a1 : Int32} {a2 : Int64} {M : Mem} {O : Nat → Int64} {P : Int64 → Mem → Prop} (hs : wL_script a1 a2 M P) (hst : l.stackTraces = false) : CH l yL_script cL_script 5 (some .long) [(0, 7, 8, 15)] { frames := 7, cells := 1, slots := 6, locals := 156 } Λ B ids ad (sh Λ ad M O) [.ref (ad 20 0), .int a1, .long a2] (Gl Λ ids ad O P) := by
  refine CH.of hst RL [(0, .ref (ad 20 0)), (1, .int a1), (2, .long a2)] (by decide +kernel) rfl (Nat.le_of_ble_eq_true rfl) rfl (fun Γ hO hX hF => ?_)
  unfold wL_script at hs
  refine G_aload_n hO 0 dL_script_0 rfl rfl ?_
  refine G_iload_n hO 1 dL_script_1 rfl rfl ?_
  refine G_lload_n hO 2 dL_script_2 rfl rfl ?_
  refine G_callVX hO (rest := []) [.int a1, .long a2] hX (fun l h => c_X5_runScript hm hs h) cv_X5_runScript mw_756 mw_757 mw_755 (hm _ (id_gl (by decide))) cl5 (show sh Λ ad M O 20 0 = _ by unfold sh; rw [rS_gl]; exact gl_0 _ _ _) rfl rfl (Nat.le_of_ble_eq_true rfl) (by decide) (by decide) dL_script_3 ?_ ?_
  · rintro v ids ad w' ⟨rfl, rfl, M1, r, rfl, rfl, hs⟩
    show G Γ ids ad 1 6 (sh Λ ad M1 O) 6 [(0, .ref (ad 20 0)), (1, .int a1), (2, .long a2)] (.int r :: [])
    refine G_i2l hO dL_script_6 ?_
    exact G_lret hO hF rfl (Nat.le_of_ble_eq_true rfl) (Nat.le_of_ble_eq_true rfl) dL_script_7 ⟨rfl, rfl, _, _, rfl, rfl, hs⟩
  · rintro E ids ad w' ⟨rfl, rfl, M1, rfl, hs⟩
    obtain ⟨rfl, hs⟩ := hs
    refine GX_catch1 hO hX rfl (by decide) (by decide) mw_431 (by decide +kernel) (fun q => ?_)
    refine G_astore hO [(4, .ref q), (0, .ref (ad 20 0)), (1, .int a1), (2, .long a2)] dL_script_8 (by decide) rfl ?_
    refine G_ldc2 hO mw_471 dL_script_10 ?_
    exact G_lret hO hF rfl (Nat.le_of_ble_eq_true rfl) (Nat.le_of_ble_eq_true rfl) dL_script_13 ⟨rfl, rfl, _, _, rfl, rfl, hs⟩
set_option maxHeartbeats 4000000 in
set_option maxRecDepth 20000 in
theorem c_L_simulate {l : Launch} {Λ : Lay} {B : Zn} {ids : List (Nat × Nat)} {ad : Nat → Nat → Nat} (hm : ∀ q, q ∈ ids0 → q ∈ ids) {a1 : Int64} {a3 : Int32} {M : Mem} {O : Nat → Int64} {P : Int64 → Mem → Prop} (hs : wL_simulate a1 a3 M P) (hst : l.stackTraces = false) : CH l yL_simulate cL_simulate 5 (some .long) [(0, 6, 7, 15)] { frames := 7, cells := 1, slots := 6, locals := 135 } Λ B ids ad (sh Λ ad M O) [.ref (ad 20 0), .long a1, .int a3] (Gl Λ ids ad O P) := by
  refine CH.of hst RL [(0, .ref (ad 20 0)), (1, .long a1), (3, .int a3)] (by decide +kernel) rfl (Nat.le_of_ble_eq_true rfl) rfl (fun Γ hO hX hF => ?_)
  unfold wL_simulate at hs
  refine G_aload_n hO 0 dL_simulate_0 rfl rfl ?_
  refine G_lload_n hO 1 dL_simulate_1 rfl rfl ?_
  refine G_iload_n hO 2 dL_simulate_2 rfl rfl ?_
  refine G_callVX hO (rest := []) [.long a1, .int a3] hX (fun l h => c_X5_simulate hm hs h) cv_X5_simulate mw_792 mw_793 mw_791 (hm _ (id_gl (by decide))) cl5 (show sh Λ ad M O 20 0 = _ by unfold sh; rw [rS_gl]; exact gl_0 _ _ _) rfl rfl (Nat.le_of_ble_eq_true rfl) (by decide) (by decide) dL_simulate_3 ?_ ?_
  · rintro v ids ad w' ⟨rfl, rfl, M1, r, rfl, rfl, hs⟩
    show G Γ ids ad 1 6 (sh Λ ad M1 O) 6 [(0, .ref (ad 20 0)), (1, .long a1), (3, .int a3)] (.long r :: [])
    exact G_lret hO hF rfl (Nat.le_of_ble_eq_true rfl) (Nat.le_of_ble_eq_true rfl) dL_simulate_6 ⟨rfl, rfl, _, _, rfl, rfl, hs⟩
  · rintro E ids ad w' ⟨rfl, rfl, M1, rfl, hs⟩
    obtain ⟨rfl, hs⟩ := hs
    refine GX_catch1 hO hX rfl (by decide) (by decide) mw_431 (by decide +kernel) (fun q => ?_)
    refine G_astore hO [(4, .ref q), (0, .ref (ad 20 0)), (1, .long a1), (3, .int a3)] dL_simulate_7 (by decide) rfl ?_
    refine G_ldc2 hO mw_471 dL_simulate_9 ?_
    exact G_lret hO hF rfl (Nat.le_of_ble_eq_true rfl) (Nat.le_of_ble_eq_true rfl) dL_simulate_12 ⟨rfl, rfl, _, _, rfl, rfl, hs⟩
set_option maxHeartbeats 4000000 in
set_option maxRecDepth 20000 in
theorem c_L_append {l : Launch} {Λ : Lay} {B : Zn} {ids : List (Nat × Nat)} {ad : Nat → Nat → Nat} (hm : ∀ q, q ∈ ids0 → q ∈ ids) {a1 : Int32} {M : Mem} {O : Nat → Int64} {P : Int64 → Mem → Prop} (hs : wL_append a1 M P) (hst : l.stackTraces = false) : CH l yL_append cL_append 3 (some .long) [(0, 6, 7, 15), (0, 6, 12, 19)] { frames := 7, cells := 1, slots := 6, locals := 111 } Λ B ids ad (sh Λ ad M O) [.ref (ad 20 0), .int a1] (Gl Λ ids ad O P) := by
  refine CH.of hst RL [(0, .ref (ad 20 0)), (1, .int a1)] (by decide +kernel) rfl (Nat.le_of_ble_eq_true rfl) rfl (fun Γ hO hX hF => ?_)
  unfold wL_append at hs
  refine G_aload_n hO 0 dL_append_0 rfl rfl ?_
  refine G_iload_n hO 1 dL_append_1 rfl rfl ?_
  refine G_callVX hO (rest := []) [.int a1] hX (fun l h => c_X5_append hm hs h) cv_X5_append mw_803 mw_804 mw_802 (hm _ (id_gl (by decide))) cl5 (show sh Λ ad M O 20 0 = _ by unfold sh; rw [rS_gl]; exact gl_0 _ _ _) rfl rfl (Nat.le_of_ble_eq_true rfl) (by decide) (by decide) dL_append_2 ?_ ?_
  · rintro v ids ad w' ⟨rfl, rfl, M1, r, rfl, rfl, hs⟩
    show G Γ ids ad 1 6 (sh Λ ad M1 O) 5 [(0, .ref (ad 20 0)), (1, .int a1)] (.int r :: [])
    refine G_i2l hO dL_append_5 ?_
    exact G_lret hO hF rfl (Nat.le_of_ble_eq_true rfl) (Nat.le_of_ble_eq_true rfl) dL_append_6 ⟨rfl, rfl, _, _, rfl, rfl, hs⟩
  · rintro E ids ad w' ⟨rfl, rfl, M1, rfl, hs⟩
    rcases hs with ⟨rfl, hs⟩ | ⟨rfl, hs⟩
    · refine GX_catch1 hO hX rfl (by decide) (by decide) mw_431 (by decide +kernel) (fun q => ?_)
      refine G_astore_n hO [(2, .ref q), (0, .ref (ad 20 0)), (1, .int a1)] dL_append_7 rfl (by decide) rfl ?_
      refine G_ldc2 hO mw_471 dL_append_8 ?_
      exact G_lret hO hF rfl (Nat.le_of_ble_eq_true rfl) (Nat.le_of_ble_eq_true rfl) dL_append_11 ⟨rfl, rfl, _, _, rfl, rfl, hs⟩
    · refine GX_catch2 (F := eIAE) hO hX rfl (by decide) (by decide) mw_208 (by decide +kernel) (by decide) mw_431 (fun _ h9 => h9.2.2.2.2.1) (fun q => ?_)
      refine G_astore_n hO [(2, .ref q), (0, .ref (ad 20 0)), (1, .int a1)] dL_append_12 rfl (by decide) rfl ?_
      refine G_ldc2 hO mw_386 dL_append_13 ?_
      exact G_lret hO hF rfl (Nat.le_of_ble_eq_true rfl) (Nat.le_of_ble_eq_true rfl) dL_append_16 ⟨rfl, rfl, _, _, rfl, rfl, hs⟩
set_option maxHeartbeats 4000000 in
set_option maxRecDepth 20000 in
theorem c_L_undo {l : Launch} {Λ : Lay} {B : Zn} {ids : List (Nat × Nat)} {ad : Nat → Nat → Nat} (hm : ∀ q, q ∈ ids0 → q ∈ ids) {M : Mem} {O : Nat → Int64} {P : Int64 → Mem → Prop} (hs : wL_undo M P) (hst : l.stackTraces = false) : CH l yL_undo cL_undo 2 (some .long) [(0, 5, 6, 19)] { frames := 7, cells := 1, slots := 6, locals := 133 } Λ B ids ad (sh Λ ad M O) [.ref (ad 20 0)] (Gl Λ ids ad O P) := by
  refine CH.of hst RL [(0, .ref (ad 20 0))] (by decide +kernel) rfl (Nat.le_of_ble_eq_true rfl) rfl (fun Γ hO hX hF => ?_)
  unfold wL_undo at hs
  refine G_aload_n hO 0 dL_undo_0 rfl rfl ?_
  refine G_callVX hO (rest := []) [] hX (fun l h => c_X5_undo hm hs h) cv_X5_undo mw_845 mw_846 mw_844 (hm _ (id_gl (by decide))) cl5 (show sh Λ ad M O 20 0 = _ by unfold sh; rw [rS_gl]; exact gl_0 _ _ _) rfl rfl (Nat.le_of_ble_eq_true rfl) (by decide) (by decide) dL_undo_1 ?_ ?_
  · rintro v ids ad w' ⟨rfl, rfl, M1, r, rfl, rfl, hs⟩
    show G Γ ids ad 1 6 (sh Λ ad M1 O) 4 [(0, .ref (ad 20 0))] (.int r :: [])
    refine G_i2l hO dL_undo_4 ?_
    exact G_lret hO hF rfl (Nat.le_of_ble_eq_true rfl) (Nat.le_of_ble_eq_true rfl) dL_undo_5 ⟨rfl, rfl, _, _, rfl, rfl, hs⟩
  · rintro E ids ad w' ⟨rfl, rfl, M1, rfl, hs⟩
    obtain ⟨rfl, hs⟩ := hs
    refine GX_catch1 hO hX rfl (by decide) (by decide) mw_208 (by decide +kernel) (fun q => ?_)
    refine G_astore_n hO [(1, .ref q), (0, .ref (ad 20 0))] dL_undo_6 rfl (by decide) rfl ?_
    refine G_ldc2 hO mw_386 dL_undo_7 ?_
    exact G_lret hO hF rfl (Nat.le_of_ble_eq_true rfl) (Nat.le_of_ble_eq_true rfl) dL_undo_10 ⟨rfl, rfl, _, _, rfl, rfl, hs⟩
theorem cw_load : CW yL_load cL_load 2 (some .long) [(0, 5, 6, 19)] 1 := ⟨mw_0, mw_207, by decide +kernel⟩
theorem cw_save : CW yL_save cL_save 3 (some .long) [(0, 6, 7, 37)] 2 := ⟨mw_0, mw_389, by decide +kernel⟩
theorem cw_restore : CW yL_restore cL_restore 3 (some .long) [(0, 6, 7, 37), (0, 6, 12, 19)] 2 := ⟨mw_0, mw_414, by decide +kernel⟩
theorem cw_about : CW yL_about cL_about 3 (some .long) [(0, 6, 7, 15)] 2 := ⟨mw_0, mw_430, by decide +kernel⟩
theorem cw_setting : CW yL_setting cL_setting 3 (some .long) [(0, 6, 7, 15)] 2 := ⟨mw_0, mw_474, by decide +kernel⟩
theorem cw_place : CW yL_place cL_place 4 (some .long) [(0, 7, 8, 37), (0, 7, 13, 15)] 3 := ⟨mw_0, mw_484, by decide +kernel⟩
theorem cw_room : CW yL_room cL_room 4 (some .long) [(0, 7, 8, 37), (0, 7, 13, 15)] 3 := ⟨mw_0, mw_516, by decide +kernel⟩
theorem cw_way : CW yL_way cL_way 4 (some .long) [(0, 7, 8, 37), (0, 7, 13, 15)] 3 := ⟨mw_0, mw_526, by decide +kernel⟩
theorem cw_moved : CW yL_moved cL_moved 4 (some .long) [(0, 7, 8, 15)] 3 := ⟨mw_0, mw_539, by decide +kernel⟩
theorem cw_addRoom : CW yL_addRoom cL_addRoom 6 (some .long) [(0, 10, 11, 15), (0, 10, 17, 19)] 5 := ⟨mw_0, mw_551, by decide +kernel⟩
theorem cw_setRoom : CW yL_setRoom cL_setRoom 5 (some .long) [(0, 8, 9, 37), (0, 8, 15, 15)] 4 := ⟨mw_0, mw_580, by decide +kernel⟩
theorem cw_window : CW yL_window cL_window 4 (some .long) [(0, 7, 8, 37)] 3 := ⟨mw_0, mw_595, by decide +kernel⟩
theorem cw_set : CW yL_set cL_set 4 (some .long) [(0, 7, 8, 15)] 3 := ⟨mw_0, mw_606, by decide +kernel⟩
theorem cw_outside : CW yL_outside cL_outside 3 (some .long) [(0, 6, 7, 15)] 2 := ⟨mw_0, mw_620, by decide +kernel⟩
theorem cw_pass : CW yL_pass cL_pass 3 (some .long) [(0, 6, 7, 15)] 2 := ⟨mw_0, mw_631, by decide +kernel⟩
theorem cw_ahead : CW yL_ahead cL_ahead 4 (some .long) [(0, 7, 8, 37), (0, 7, 13, 15)] 3 := ⟨mw_0, mw_699, by decide +kernel⟩
theorem cw_minutesTo : CW yL_minutesTo cL_minutesTo 3 (some .long) [(0, 6, 7, 37)] 2 := ⟨mw_0, mw_707, by decide +kernel⟩
theorem cw_bestSlope : CW yL_bestSlope cL_bestSlope 3 (some .long) [(0, 6, 7, 15)] 2 := ⟨mw_0, mw_719, by decide +kernel⟩
theorem cw_leastPower : CW yL_leastPower cL_leastPower 3 (some .long) [(0, 6, 7, 15)] 2 := ⟨mw_0, mw_727, by decide +kernel⟩
theorem cw_heatFor : CW yL_heatFor cL_heatFor 3 (some .long) [(0, 6, 7, 15)] 2 := ⟨mw_0, mw_742, by decide +kernel⟩
theorem cw_script : CW yL_script cL_script 5 (some .long) [(0, 7, 8, 15)] 3 := ⟨mw_0, mw_754, by decide +kernel⟩
theorem cw_simulate : CW yL_simulate cL_simulate 5 (some .long) [(0, 6, 7, 15)] 3 := ⟨mw_0, mw_790, by decide +kernel⟩
theorem cw_append : CW yL_append cL_append 3 (some .long) [(0, 6, 7, 15), (0, 6, 12, 19)] 2 := ⟨mw_0, mw_801, by decide +kernel⟩
theorem cw_undo : CW yL_undo cL_undo 2 (some .long) [(0, 5, 6, 19)] 1 := ⟨mw_0, mw_843, by decide +kernel⟩
