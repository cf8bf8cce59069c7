set_option maxHeartbeats 4000000 in
set_option maxRecDepth 20000 in
theorem c_L_append {l : Launch} {Λ : Lay} {B : Nat} {ids : List (Nat × Nat)} {ad : Nat → Nat → Nat} (hm : ∀ q, q ∈ ids0 → q ∈ ids) {a1 : Int32} {M : Mem} {O : Nat → Int64} {P : Int32 → Mem → (Nat → Int64) → Prop} (hs : wL_append a1 M O P) (hst : l.stackTraces = false) : CH l yL_append cL_append 4 (some .int) [(0, 9, 12, 13), (0, 9, 15, 15)] { frames := 7, cells := 1, slots := 6, locals := 111 } Λ B ids ad (sh Λ ad M O) [.ref (ad 20 0), .int a1, .ref (ad 22 0)] (Go Λ ids ad P) := by
  refine CH.of hst RL [(0, .ref (ad 20 0)), (1, .int a1), (2, .ref (ad 22 0))] (by decide +kernel) rfl (Nat.le_of_ble_eq_true rfl) rfl (fun Γ hO hX hF => ?_)
  unfold wL_append at hs
  refine G_aload_n hO 2 dL_append_0 rfl rfl ?_
  refine G_iconst hO 0 dL_append_1 (by decide) ?_
  refine G_aload_n hO 0 dL_append_2 rfl rfl ?_
  refine G_iload_n hO 1 dL_append_3 rfl rfl ?_
  refine G_callVX hO (rest := [.int 0, .ref (ad 22 0)]) [.int a1] hX (fun l h => c_X5_append hm hs h) cv_X5_append mw_378 mw_379 mw_377 (hm _ (id_gl (by decide))) cl5 (show sh Λ ad M O 20 0 = _ by unfold sh; rw [rS_gl]; exact gl_0 _ _ _) rfl rfl (Nat.le_of_ble_eq_true rfl) (by decide) (by decide) dL_append_4 ?_ ?_
  · rintro v ids ad w' ⟨rfl, rfl, M1, r, rfl, rfl, hs⟩
    show G Γ ids ad 1 6 (sh Λ ad M1 O) 7 [(0, .ref (ad 20 0)), (1, .int a1), (2, .ref (ad 22 0))] (.int r :: [.int 0, .ref (ad 22 0)])
    refine G_i2l hO dL_append_7 ?_
    refine M_last hO 0 (by decide) (hm _ id_ou) (vp_lit (by decide)) dL_append_8 ?_
    refine G_goto hO 18 dL_append_9 (by decide) ?_
    refine G_iconst hO 0 dL_append_18 (by decide) ?_
    exact G_iret hO hF rfl (Nat.le_of_ble_eq_true rfl) (Nat.le_of_ble_eq_true rfl) dL_append_19 ⟨rfl, rfl, _, _, _, rfl, rfl, hs⟩
  · rintro E ids ad w' ⟨rfl, rfl, M1, rfl, hs⟩
    rcases hs with ⟨rfl, hs⟩ | ⟨rfl, hs⟩
    · refine GX_catch1 hO hX rfl (by decide) (by decide) mw_375 (by decide +kernel) (fun q => ?_)
      refine G_astore_n hO [(3, .ref q), (0, .ref (ad 20 0)), (1, .int a1), (2, .ref (ad 22 0))] dL_append_12 rfl (by decide) rfl ?_
      refine G_iconst hO 1 dL_append_13 (by decide) ?_
      exact G_iret hO hF rfl (Nat.le_of_ble_eq_true rfl) (Nat.le_of_ble_eq_true rfl) dL_append_14 ⟨rfl, rfl, _, _, _, rfl, rfl, hs⟩
    · refine GX_catch2 (F := eIAE) hO hX rfl (by decide) (by decide) mw_376 (by decide +kernel) (by decide) mw_375 (fun _ h9 => h9.2.2.2.2.1) (fun q => ?_)
      refine G_astore_n hO [(3, .ref q), (0, .ref (ad 20 0)), (1, .int a1), (2, .ref (ad 22 0))] dL_append_15 rfl (by decide) rfl ?_
      refine G_iconst hO 2 dL_append_16 (by decide) ?_
      exact G_iret hO hF rfl (Nat.le_of_ble_eq_true rfl) (Nat.le_of_ble_eq_true rfl) dL_append_17 ⟨rfl, rfl, _, _, _, rfl, rfl, hs⟩
set_option maxHeartbeats 4000000 in
set_option maxRecDepth 20000 in
theorem c_L_load {l : Launch} {Λ : Lay} {B : Nat} {ids : List (Nat × Nat)} {ad : Nat → Nat → Nat} (hm : ∀ q, q ∈ ids0 → q ∈ ids) (hnr : (20, 6) ∉ ids) {M : Mem} {O : Nat → Int64} {P : Int32 → Mem → (Nat → Int64) → Prop} (hs : wL_load M O P) (hst : l.stackTraces = false) : CH l yL_load cL_load 3 (some .int) [(0, 8, 11, 15)] { frames := 7, cells := 2, slots := 9, locals := 165 } Λ B ids ad (sh Λ ad M O) [.ref (ad 20 0), .ref (ad 22 0)] (Go Λ ids ad P) := by
  refine CH.of hst RL [(0, .ref (ad 20 0)), (1, .ref (ad 22 0))] (by decide +kernel) rfl (Nat.le_of_ble_eq_true rfl) rfl (fun Γ hO hX hF => ?_)
  unfold wL_load at hs
  refine G_aload_n hO 1 dL_load_0 rfl rfl ?_
  refine G_iconst hO 0 dL_load_1 (by decide) ?_
  refine G_aload_n hO 0 dL_load_2 rfl rfl ?_
  refine G_callVX hO (rest := [.int 0, .ref (ad 22 0)]) [] hX (fun l h => c_X5_load hm hnr hs h) cv_X5_load mw_469 mw_470 mw_468 (hm _ (id_gl (by decide))) cl5 (show sh Λ ad M O 20 0 = _ by unfold sh; rw [rS_gl]; exact gl_0 _ _ _) rfl rfl (Nat.le_of_ble_eq_true rfl) (by decide) (by decide) dL_load_3 ?_ ?_
  · rintro v ids ad w' ⟨rfl, rfl, M1, r, rfl, rfl, hs⟩
    show G Γ ids ad 2 9 (sh Λ ad M1 O) 6 [(0, .ref (ad 20 0)), (1, .ref (ad 22 0))] (.int r :: [.int 0, .ref (ad 22 0)])
    refine G_i2l hO dL_load_6 ?_
    refine M_last hO 0 (by decide) (hm _ id_ou) (vp_lit (by decide)) dL_load_7 ?_
    refine G_goto hO 14 dL_load_8 (by decide) ?_
    refine G_iconst hO 0 dL_load_14 (by decide) ?_
    exact G_iret hO hF rfl (Nat.le_of_ble_eq_true rfl) (Nat.le_of_ble_eq_true rfl) dL_load_15 ⟨rfl, rfl, _, _, _, rfl, rfl, hs⟩
  · rintro E ids ad w' ⟨rfl, rfl, M1, rfl, hs⟩
    obtain ⟨rfl, hs⟩ := hs
    refine GX_catch1 hO hX rfl (by decide) (by decide) mw_376 (by decide +kernel) (fun q => ?_)
    refine G_astore_n hO [(2, .ref q), (0, .ref (ad 20 0)), (1, .ref (ad 22 0))] dL_load_11 rfl (by decide) rfl ?_
    refine G_iconst hO 1 dL_load_12 (by decide) ?_
    exact G_iret hO hF rfl (Nat.le_of_ble_eq_true rfl) (Nat.le_of_ble_eq_true rfl) dL_load_13 ⟨rfl, rfl, _, _, _, rfl, rfl, hs⟩
set_option maxHeartbeats 4000000 in
set_option maxRecDepth 20000 in
theorem c_L_about {l : Launch} {Λ : Lay} {B : Nat} {ids : List (Nat × Nat)} {ad : Nat → Nat → Nat} (hm : ∀ q, q ∈ ids0 → q ∈ ids) {a1 : Int32} {M : Mem} {O : Nat → Int64} {P : Int32 → Mem → (Nat → Int64) → Prop} (hs : wL_about a1 M O P) (hst : l.stackTraces = false) : CH l yL_about cL_about 4 (some .int) [(0, 9, 12, 13)] { frames := 7, cells := 1, slots := 6, locals := 111 } Λ B ids ad (sh Λ ad M O) [.ref (ad 20 0), .int a1, .ref (ad 22 0)] (Go Λ ids ad P) := by
  refine CH.of hst RL [(0, .ref (ad 20 0)), (1, .int a1), (2, .ref (ad 22 0))] (by decide +kernel) rfl (Nat.le_of_ble_eq_true rfl) rfl (fun Γ hO hX hF => ?_)
  unfold wL_about at hs
  refine G_aload_n hO 2 dL_about_0 rfl rfl ?_
  refine G_iconst hO 0 dL_about_1 (by decide) ?_
  refine G_aload_n hO 0 dL_about_2 rfl rfl ?_
  refine G_iload_n hO 1 dL_about_3 rfl rfl ?_
  refine G_callVX hO (rest := [.int 0, .ref (ad 22 0)]) [.int a1] hX (fun l h => c_X5_about hm hs h) cv_X5_about mw_481 mw_482 mw_480 (hm _ (id_gl (by decide))) cl5 (show sh Λ ad M O 20 0 = _ by unfold sh; rw [rS_gl]; exact gl_0 _ _ _) rfl rfl (Nat.le_of_ble_eq_true rfl) (by decide) (by decide) dL_about_4 ?_ ?_
  · rintro v ids ad w' ⟨rfl, rfl, M1, r, rfl, rfl, hs⟩
    show G Γ ids ad 1 6 (sh Λ ad M1 O) 7 [(0, .ref (ad 20 0)), (1, .int a1), (2, .ref (ad 22 0))] (.int r :: [.int 0, .ref (ad 22 0)])
    refine G_i2l hO dL_about_7 ?_
    refine M_last hO 0 (by decide) (hm _ id_ou) (vp_lit (by decide)) dL_about_8 ?_
    refine G_goto hO 15 dL_about_9 (by decide) ?_
    refine G_iconst hO 0 dL_about_15 (by decide) ?_
    exact G_iret hO hF rfl (Nat.le_of_ble_eq_true rfl) (Nat.le_of_ble_eq_true rfl) dL_about_16 ⟨rfl, rfl, _, _, _, rfl, rfl, hs⟩
  · rintro E ids ad w' ⟨rfl, rfl, M1, rfl, hs⟩
    obtain ⟨rfl, hs⟩ := hs
    refine GX_catch1 hO hX rfl (by decide) (by decide) mw_375 (by decide +kernel) (fun q => ?_)
    refine G_astore_n hO [(3, .ref q), (0, .ref (ad 20 0)), (1, .int a1), (2, .ref (ad 22 0))] dL_about_12 rfl (by decide) rfl ?_
    refine G_iconst hO 1 dL_about_13 (by decide) ?_
    exact G_iret hO hF rfl (Nat.le_of_ble_eq_true rfl) (Nat.le_of_ble_eq_true rfl) dL_about_14 ⟨rfl, rfl, _, _, _, rfl, rfl, hs⟩
set_option maxHeartbeats 4000000 in
set_option maxRecDepth 20000 in
theorem c_L_setting {l : Launch} {Λ : Lay} {B : Nat} {ids : List (Nat × Nat)} {ad : Nat → Nat → Nat} (hm : ∀ q, q ∈ ids0 → q ∈ ids) {a1 : Int32} {M : Mem} {O : Nat → Int64} {P : Int32 → Mem → (Nat → Int64) → Prop} (hs : wL_setting a1 M O P) (hst : l.stackTraces = false) : CH l yL_setting cL_setting 4 (some .int) [(0, 9, 12, 13)] { frames := 7, cells := 1, slots := 6, locals := 111 } Λ B ids ad (sh Λ ad M O) [.ref (ad 20 0), .int a1, .ref (ad 22 0)] (Go Λ ids ad P) := by
  refine CH.of hst RL [(0, .ref (ad 20 0)), (1, .int a1), (2, .ref (ad 22 0))] (by decide +kernel) rfl (Nat.le_of_ble_eq_true rfl) rfl (fun Γ hO hX hF => ?_)
  unfold wL_setting at hs
  refine G_aload_n hO 2 dL_setting_0 rfl rfl ?_
  refine G_iconst hO 0 dL_setting_1 (by decide) ?_
  refine G_aload_n hO 0 dL_setting_2 rfl rfl ?_
  refine G_iload_n hO 1 dL_setting_3 rfl rfl ?_
  refine G_callVX hO (rest := [.int 0, .ref (ad 22 0)]) [.int a1] hX (fun l h => c_X5_setting hm hs h) cv_X5_setting mw_498 mw_499 mw_497 (hm _ (id_gl (by decide))) cl5 (show sh Λ ad M O 20 0 = _ by unfold sh; rw [rS_gl]; exact gl_0 _ _ _) rfl rfl (Nat.le_of_ble_eq_true rfl) (by decide) (by decide) dL_setting_4 ?_ ?_
  · rintro v ids ad w' ⟨rfl, rfl, M1, r, rfl, rfl, hs⟩
    show G Γ ids ad 1 6 (sh Λ ad M1 O) 7 [(0, .ref (ad 20 0)), (1, .int a1), (2, .ref (ad 22 0))] (.int r :: [.int 0, .ref (ad 22 0)])
    refine G_i2l hO dL_setting_7 ?_
    refine M_last hO 0 (by decide) (hm _ id_ou) (vp_lit (by decide)) dL_setting_8 ?_
    refine G_goto hO 15 dL_setting_9 (by decide) ?_
    refine G_iconst hO 0 dL_setting_15 (by decide) ?_
    exact G_iret hO hF rfl (Nat.le_of_ble_eq_true rfl) (Nat.le_of_ble_eq_true rfl) dL_setting_16 ⟨rfl, rfl, _, _, _, rfl, rfl, hs⟩
  · rintro E ids ad w' ⟨rfl, rfl, M1, rfl, hs⟩
    obtain ⟨rfl, hs⟩ := hs
    refine GX_catch1 hO hX rfl (by decide) (by decide) mw_375 (by decide +kernel) (fun q => ?_)
    refine G_astore_n hO [(3, .ref q), (0, .ref (ad 20 0)), (1, .int a1), (2, .ref (ad 22 0))] dL_setting_12 rfl (by decide) rfl ?_
    refine G_iconst hO 1 dL_setting_13 (by decide) ?_
    exact G_iret hO hF rfl (Nat.le_of_ble_eq_true rfl) (Nat.le_of_ble_eq_true rfl) dL_setting_14 ⟨rfl, rfl, _, _, _, rfl, rfl, hs⟩
set_option maxHeartbeats 4000000 in
set_option maxRecDepth 20000 in
theorem c_L_place {l : Launch} {Λ : Lay} {B : Nat} {ids : List (Nat × Nat)} {ad : Nat → Nat → Nat} (hm : ∀ q, q ∈ ids0 → q ∈ ids) {a1 : Int32} {a2 : Int32} {M : Mem} {O : Nat → Int64} {P : Int32 → Mem → (Nat → Int64) → Prop} (hs : wL_place a1 a2 M O P) (hst : l.stackTraces = false) : CH l yL_place cL_place 5 (some .int) [(0, 10, 13, 31), (0, 10, 17, 13)] { frames := 7, cells := 1, slots := 6, locals := 112 } Λ B ids ad (sh Λ ad M O) [.ref (ad 20 0), .int a1, .int a2, .ref (ad 22 0)] (Go Λ ids ad P) := by
  refine CH.of hst RL [(0, .ref (ad 20 0)), (1, .int a1), (2, .int a2), (3, .ref (ad 22 0))] (by decide +kernel) rfl (Nat.le_of_ble_eq_true rfl) rfl (fun Γ hO hX hF => ?_)
  unfold wL_place at hs
  refine G_aload_n hO 3 dL_place_0 rfl rfl ?_
  refine G_iconst hO 0 dL_place_1 (by decide) ?_
  refine G_aload_n hO 0 dL_place_2 rfl rfl ?_
  refine G_iload_n hO 1 dL_place_3 rfl rfl ?_
  refine G_iload_n hO 2 dL_place_4 rfl rfl ?_
  refine G_callVX hO (rest := [.int 0, .ref (ad 22 0)]) [.int a1, .int a2] hX (fun l h => c_X5_place hm hs h) cv_X5_place mw_507 mw_508 mw_506 (hm _ (id_gl (by decide))) cl5 (show sh Λ ad M O 20 0 = _ by unfold sh; rw [rS_gl]; exact gl_0 _ _ _) rfl rfl (Nat.le_of_ble_eq_true rfl) (by decide) (by decide) dL_place_5 ?_ ?_
  · rintro v ids ad w' ⟨rfl, rfl, M1, r, rfl, rfl, hs⟩
    show G Γ ids ad 1 6 (sh Λ ad M1 O) 8 [(0, .ref (ad 20 0)), (1, .int a1), (2, .int a2), (3, .ref (ad 22 0))] (.int r :: [.int 0, .ref (ad 22 0)])
    refine G_i2l hO dL_place_8 ?_
    refine M_last hO 0 (by decide) (hm _ id_ou) (vp_lit (by decide)) dL_place_9 ?_
    refine G_goto hO 21 dL_place_10 (by decide) ?_
    refine G_iconst hO 0 dL_place_21 (by decide) ?_
    exact G_iret hO hF rfl (Nat.le_of_ble_eq_true rfl) (Nat.le_of_ble_eq_true rfl) dL_place_22 ⟨rfl, rfl, _, _, _, rfl, rfl, hs⟩
  · rintro E ids ad w' ⟨rfl, rfl, M1, rfl, hs⟩
    rcases hs with ⟨rfl, hs⟩ | ⟨rfl, hs⟩
    · refine GX_catch1 hO hX rfl (by decide) (by decide) mw_505 (by decide +kernel) (fun q => ?_)
      refine G_astore hO [(4, .ref q), (0, .ref (ad 20 0)), (1, .int a1), (2, .int a2), (3, .ref (ad 22 0))] dL_place_13 (by decide) rfl ?_
      refine G_iconst hO 1 dL_place_15 (by decide) ?_
      exact G_iret hO hF rfl (Nat.le_of_ble_eq_true rfl) (Nat.le_of_ble_eq_true rfl) dL_place_16 ⟨rfl, rfl, _, _, _, rfl, rfl, hs⟩
    · refine GX_catch2 (F := eIOB) hO hX rfl (by decide) (by decide) mw_375 (by decide +kernel) (by decide) mw_505 (fun _ h9 => h9.2.2.2.2.2.1) (fun q => ?_)
      refine G_astore hO [(4, .ref q), (0, .ref (ad 20 0)), (1, .int a1), (2, .int a2), (3, .ref (ad 22 0))] dL_place_17 (by decide) rfl ?_
      refine G_iconst hO 2 dL_place_19 (by decide) ?_
      exact G_iret hO hF rfl (Nat.le_of_ble_eq_true rfl) (Nat.le_of_ble_eq_true rfl) dL_place_20 ⟨rfl, rfl, _, _, _, rfl, rfl, hs⟩
set_option maxHeartbeats 4000000 in
set_option maxRecDepth 20000 in
theorem c_L_room {l : Launch} {Λ : Lay} {B : Nat} {ids : List (Nat × Nat)} {ad : Nat → Nat → Nat} (hm : ∀ q, q ∈ ids0 → q ∈ ids) {a1 : Int32} {a2 : Int32} {M : Mem} {O : Nat → Int64} {P : Int32 → Mem → (Nat → Int64) → Prop} (hs : wL_room a1 a2 M O P) (hst : l.stackTraces = false) : CH l yL_room cL_room 5 (some .int) [(0, 10, 13, 31), (0, 10, 17, 13)] { frames := 7, cells := 1, slots := 6, locals := 113 } Λ B ids ad (sh Λ ad M O) [.ref (ad 20 0), .int a1, .int a2, .ref (ad 22 0)] (Go Λ ids ad P) := by
  refine CH.of hst RL [(0, .ref (ad 20 0)), (1, .int a1), (2, .int a2), (3, .ref (ad 22 0))] (by decide +kernel) rfl (Nat.le_of_ble_eq_true rfl) rfl (fun Γ hO hX hF => ?_)
  unfold wL_room at hs
  refine G_aload_n hO 3 dL_room_0 rfl rfl ?_
  refine G_iconst hO 0 dL_room_1 (by decide) ?_
  refine G_aload_n hO 0 dL_room_2 rfl rfl ?_
  refine G_iload_n hO 1 dL_room_3 rfl rfl ?_
  refine G_iload_n hO 2 dL_room_4 rfl rfl ?_
  refine G_callVX hO (rest := [.int 0, .ref (ad 22 0)]) [.int a1, .int a2] hX (fun l h => c_X5_room hm hs h) cv_X5_room mw_547 mw_548 mw_546 (hm _ (id_gl (by decide))) cl5 (show sh Λ ad M O 20 0 = _ by unfold sh; rw [rS_gl]; exact gl_0 _ _ _) rfl rfl (Nat.le_of_ble_eq_true rfl) (by decide) (by decide) dL_room_5 ?_ ?_
  · rintro v ids ad w' ⟨rfl, rfl, M1, r, rfl, rfl, hs⟩
    show G Γ ids ad 1 6 (sh Λ ad M1 O) 8 [(0, .ref (ad 20 0)), (1, .int a1), (2, .int a2), (3, .ref (ad 22 0))] (.int r :: [.int 0, .ref (ad 22 0)])
    refine G_i2l hO dL_room_8 ?_
    refine M_last hO 0 (by decide) (hm _ id_ou) (vp_lit (by decide)) dL_room_9 ?_
    refine G_goto hO 21 dL_room_10 (by decide) ?_
    refine G_iconst hO 0 dL_room_21 (by decide) ?_
    exact G_iret hO hF rfl (Nat.le_of_ble_eq_true rfl) (Nat.le_of_ble_eq_true rfl) dL_room_22 ⟨rfl, rfl, _, _, _, rfl, rfl, hs⟩
  · rintro E ids ad w' ⟨rfl, rfl, M1, rfl, hs⟩
    rcases hs with ⟨rfl, hs⟩ | ⟨rfl, hs⟩
    · refine GX_catch1 hO hX rfl (by decide) (by decide) mw_505 (by decide +kernel) (fun q => ?_)
      refine G_astore hO [(4, .ref q), (0, .ref (ad 20 0)), (1, .int a1), (2, .int a2), (3, .ref (ad 22 0))] dL_room_13 (by decide) rfl ?_
      refine G_iconst hO 1 dL_room_15 (by decide) ?_
      exact G_iret hO hF rfl (Nat.le_of_ble_eq_true rfl) (Nat.le_of_ble_eq_true rfl) dL_room_16 ⟨rfl, rfl, _, _, _, rfl, rfl, hs⟩
    · refine GX_catch2 (F := eIOB) hO hX rfl (by decide) (by decide) mw_375 (by decide +kernel) (by decide) mw_505 (fun _ h9 => h9.2.2.2.2.2.1) (fun q => ?_)
      refine G_astore hO [(4, .ref q), (0, .ref (ad 20 0)), (1, .int a1), (2, .int a2), (3, .ref (ad 22 0))] dL_room_17 (by decide) rfl ?_
      refine G_iconst hO 2 dL_room_19 (by decide) ?_
      exact G_iret hO hF rfl (Nat.le_of_ble_eq_true rfl) (Nat.le_of_ble_eq_true rfl) dL_room_20 ⟨rfl, rfl, _, _, _, rfl, rfl, hs⟩
set_option maxHeartbeats 4000000 in
set_option maxRecDepth 20000 in
theorem c_L_moved {l : Launch} {Λ : Lay} {B : Nat} {ids : List (Nat × Nat)} {ad : Nat → Nat → Nat} (hm : ∀ q, q ∈ ids0 → q ∈ ids) {a1 : Int32} {a2 : Int32} {M : Mem} {O : Nat → Int64} {P : Int32 → Mem → (Nat → Int64) → Prop} (hs : wL_moved a1 a2 M O P) (hst : l.stackTraces = false) : CH l yL_moved cL_moved 5 (some .int) [(0, 10, 13, 13)] { frames := 7, cells := 1, slots := 6, locals := 112 } Λ B ids ad (sh Λ ad M O) [.ref (ad 20 0), .int a1, .int a2, .ref (ad 22 0)] (Go Λ ids ad P) := by
  refine CH.of hst RL [(0, .ref (ad 20 0)), (1, .int a1), (2, .int a2), (3, .ref (ad 22 0))] (by decide +kernel) rfl (Nat.le_of_ble_eq_true rfl) rfl (fun Γ hO hX hF => ?_)
  unfold wL_moved at hs
  refine G_aload_n hO 3 dL_moved_0 rfl rfl ?_
  refine G_iconst hO 0 dL_moved_1 (by decide) ?_
  refine G_aload_n hO 0 dL_moved_2 rfl rfl ?_
  refine G_iload_n hO 1 dL_moved_3 rfl rfl ?_
  refine G_iload_n hO 2 dL_moved_4 rfl rfl ?_
  refine G_callVX hO (rest := [.int 0, .ref (ad 22 0)]) [.int a1, .int a2] hX (fun l h => c_X5_moved hm hs h) cv_X5_moved mw_557 mw_558 mw_556 (hm _ (id_gl (by decide))) cl5 (show sh Λ ad M O 20 0 = _ by unfold sh; rw [rS_gl]; exact gl_0 _ _ _) rfl rfl (Nat.le_of_ble_eq_true rfl) (by decide) (by decide) dL_moved_5 ?_ ?_
  · rintro v ids ad w' ⟨rfl, rfl, M1, r, rfl, rfl, hs⟩
    show G Γ ids ad 1 6 (sh Λ ad M1 O) 8 [(0, .ref (ad 20 0)), (1, .int a1), (2, .int a2), (3, .ref (ad 22 0))] (.int r :: [.int 0, .ref (ad 22 0)])
    refine G_i2l hO dL_moved_8 ?_
    refine M_last hO 0 (by decide) (hm _ id_ou) (vp_lit (by decide)) dL_moved_9 ?_
    refine G_goto hO 17 dL_moved_10 (by decide) ?_
    refine G_iconst hO 0 dL_moved_17 (by decide) ?_
    exact G_iret hO hF rfl (Nat.le_of_ble_eq_true rfl) (Nat.le_of_ble_eq_true rfl) dL_moved_18 ⟨rfl, rfl, _, _, _, rfl, rfl, hs⟩
  · rintro E ids ad w' ⟨rfl, rfl, M1, rfl, hs⟩
    obtain ⟨rfl, hs⟩ := hs
    refine GX_catch1 hO hX rfl (by decide) (by decide) mw_375 (by decide +kernel) (fun q => ?_)
    refine G_astore hO [(4, .ref q), (0, .ref (ad 20 0)), (1, .int a1), (2, .int a2), (3, .ref (ad 22 0))] dL_moved_13 (by decide) rfl ?_
    refine G_iconst hO 1 dL_moved_15 (by decide) ?_
    exact G_iret hO hF rfl (Nat.le_of_ble_eq_true rfl) (Nat.le_of_ble_eq_true rfl) dL_moved_16 ⟨rfl, rfl, _, _, _, rfl, rfl, hs⟩
set_option maxHeartbeats 4000000 in
set_option maxRecDepth 20000 in
theorem c_L_way {l : Launch} {Λ : Lay} {B : Nat} {ids : List (Nat × Nat)} {ad : Nat → Nat → Nat} (hm : ∀ q, q ∈ ids0 → q ∈ ids) {a1 : Int32} {a2 : Int32} {M : Mem} {O : Nat → Int64} {P : Int32 → Mem → (Nat → Int64) → Prop} (hs : wL_way a1 a2 M O P) (hst : l.stackTraces = false) : CH l yL_way cL_way 5 (some .int) [(0, 10, 13, 31), (0, 10, 17, 13)] { frames := 7, cells := 1, slots := 6, locals := 112 } Λ B ids ad (sh Λ ad M O) [.ref (ad 20 0), .int a1, .int a2, .ref (ad 22 0)] (Go Λ ids ad P) := by
  refine CH.of hst RL [(0, .ref (ad 20 0)), (1, .int a1), (2, .int a2), (3, .ref (ad 22 0))] (by decide +kernel) rfl (Nat.le_of_ble_eq_true rfl) rfl (fun Γ hO hX hF => ?_)
  unfold wL_way at hs
  refine G_aload_n hO 3 dL_way_0 rfl rfl ?_
  refine G_iconst hO 0 dL_way_1 (by decide) ?_
  refine G_aload_n hO 0 dL_way_2 rfl rfl ?_
  refine G_iload_n hO 1 dL_way_3 rfl rfl ?_
  refine G_iload_n hO 2 dL_way_4 rfl rfl ?_
  refine G_callVX hO (rest := [.int 0, .ref (ad 22 0)]) [.int a1, .int a2] hX (fun l h => c_X5_way hm hs h) cv_X5_way mw_569 mw_570 mw_568 (hm _ (id_gl (by decide))) cl5 (show sh Λ ad M O 20 0 = _ by unfold sh; rw [rS_gl]; exact gl_0 _ _ _) rfl rfl (Nat.le_of_ble_eq_true rfl) (by decide) (by decide) dL_way_5 ?_ ?_
  · rintro v ids ad w' ⟨rfl, rfl, M1, r, rfl, rfl, hs⟩
    show G Γ ids ad 1 6 (sh Λ ad M1 O) 8 [(0, .ref (ad 20 0)), (1, .int a1), (2, .int a2), (3, .ref (ad 22 0))] (.int r :: [.int 0, .ref (ad 22 0)])
    refine G_i2l hO dL_way_8 ?_
    refine M_last hO 0 (by decide) (hm _ id_ou) (vp_lit (by decide)) dL_way_9 ?_
    refine G_goto hO 21 dL_way_10 (by decide) ?_
    refine G_iconst hO 0 dL_way_21 (by decide) ?_
    exact G_iret hO hF rfl (Nat.le_of_ble_eq_true rfl) (Nat.le_of_ble_eq_true rfl) dL_way_22 ⟨rfl, rfl, _, _, _, rfl, rfl, hs⟩
  · rintro E ids ad w' ⟨rfl, rfl, M1, rfl, hs⟩
    rcases hs with ⟨rfl, hs⟩ | ⟨rfl, hs⟩
    · refine GX_catch1 hO hX rfl (by decide) (by decide) mw_505 (by decide +kernel) (fun q => ?_)
      refine G_astore hO [(4, .ref q), (0, .ref (ad 20 0)), (1, .int a1), (2, .int a2), (3, .ref (ad 22 0))] dL_way_13 (by decide) rfl ?_
      refine G_iconst hO 1 dL_way_15 (by decide) ?_
      exact G_iret hO hF rfl (Nat.le_of_ble_eq_true rfl) (Nat.le_of_ble_eq_true rfl) dL_way_16 ⟨rfl, rfl, _, _, _, rfl, rfl, hs⟩
    · refine GX_catch2 (F := eIOB) hO hX rfl (by decide) (by decide) mw_375 (by decide +kernel) (by decide) mw_505 (fun _ h9 => h9.2.2.2.2.2.1) (fun q => ?_)
      refine G_astore hO [(4, .ref q), (0, .ref (ad 20 0)), (1, .int a1), (2, .int a2), (3, .ref (ad 22 0))] dL_way_17 (by decide) rfl ?_
      refine G_iconst hO 2 dL_way_19 (by decide) ?_
      exact G_iret hO hF rfl (Nat.le_of_ble_eq_true rfl) (Nat.le_of_ble_eq_true rfl) dL_way_20 ⟨rfl, rfl, _, _, _, rfl, rfl, hs⟩
set_option maxHeartbeats 4000000 in
set_option maxRecDepth 20000 in
theorem c_L_addRoom {l : Launch} {Λ : Lay} {B : Nat} {ids : List (Nat × Nat)} {ad : Nat → Nat → Nat} (hm : ∀ q, q ∈ ids0 → q ∈ ids) {a1 : Int32} {a2 : Int32} {a3 : Int32} {a4 : Int32} {M : Mem} {O : Nat → Int64} {P : Int32 → Mem → (Nat → Int64) → Prop} (hs : wL_addRoom a1 a2 a3 a4 M O P) (hst : l.stackTraces = false) : CH l yL_addRoom cL_addRoom 7 (some .int) [(0, 14, 17, 13), (0, 14, 21, 15)] { frames := 7, cells := 1, slots := 6, locals := 136 } Λ B ids ad (sh Λ ad M O) [.ref (ad 20 0), .int a1, .int a2, .int a3, .int a4, .ref (ad 22 0)] (Go Λ ids ad P) := by
  refine CH.of hst RL [(0, .ref (ad 20 0)), (1, .int a1), (2, .int a2), (3, .int a3), (4, .int a4), (5, .ref (ad 22 0))] (by decide +kernel) rfl (Nat.le_of_ble_eq_true rfl) rfl (fun Γ hO hX hF => ?_)
  unfold wL_addRoom at hs
  refine G_aload hO 5 dL_addRoom_0 rfl ?_
  refine G_iconst hO 0 dL_addRoom_2 (by decide) ?_
  refine G_aload_n hO 0 dL_addRoom_3 rfl rfl ?_
  refine G_iload_n hO 1 dL_addRoom_4 rfl rfl ?_
  refine G_iload_n hO 2 dL_addRoom_5 rfl rfl ?_
  refine G_iload_n hO 3 dL_addRoom_6 rfl rfl ?_
  refine G_iload hO 4 dL_addRoom_7 rfl ?_
  refine G_callVX hO (rest := [.int 0, .ref (ad 22 0)]) [.int a1, .int a2, .int a3, .int a4] hX (fun l h => c_X5_addRoom hm hs h) cv_X5_addRoom mw_582 mw_583 mw_581 (hm _ (id_gl (by decide))) cl5 (show sh Λ ad M O 20 0 = _ by unfold sh; rw [rS_gl]; exact gl_0 _ _ _) rfl rfl (Nat.le_of_ble_eq_true rfl) (by decide) (by decide) dL_addRoom_9 ?_ ?_
  · rintro v ids ad w' ⟨rfl, rfl, M1, r, rfl, rfl, hs⟩
    show G Γ ids ad 1 6 (sh Λ ad M1 O) 12 [(0, .ref (ad 20 0)), (1, .int a1), (2, .int a2), (3, .int a3), (4, .int a4), (5, .ref (ad 22 0))] (.int r :: [.int 0, .ref (ad 22 0)])
    refine G_i2l hO dL_addRoom_12 ?_
    refine M_last hO 0 (by decide) (hm _ id_ou) (vp_lit (by decide)) dL_addRoom_13 ?_
    refine G_goto hO 25 dL_addRoom_14 (by decide) ?_
    refine G_iconst hO 0 dL_addRoom_25 (by decide) ?_
    exact G_iret hO hF rfl (Nat.le_of_ble_eq_true rfl) (Nat.le_of_ble_eq_true rfl) dL_addRoom_26 ⟨rfl, rfl, _, _, _, rfl, rfl, hs⟩
  · rintro E ids ad w' ⟨rfl, rfl, M1, rfl, hs⟩
    rcases hs with ⟨rfl, hs⟩ | ⟨rfl, hs⟩
    · refine GX_catch1 hO hX rfl (by decide) (by decide) mw_375 (by decide +kernel) (fun q => ?_)
      refine G_astore hO [(6, .ref q), (0, .ref (ad 20 0)), (1, .int a1), (2, .int a2), (3, .int a3), (4, .int a4), (5, .ref (ad 22 0))] dL_addRoom_17 (by decide) rfl ?_
      refine G_iconst hO 1 dL_addRoom_19 (by decide) ?_
      exact G_iret hO hF rfl (Nat.le_of_ble_eq_true rfl) (Nat.le_of_ble_eq_true rfl) dL_addRoom_20 ⟨rfl, rfl, _, _, _, rfl, rfl, hs⟩
    · refine GX_catch2 (F := eIAE) hO hX rfl (by decide) (by decide) mw_376 (by decide +kernel) (by decide) mw_375 (fun _ h9 => h9.2.2.2.2.1) (fun q => ?_)
      refine G_astore hO [(6, .ref q), (0, .ref (ad 20 0)), (1, .int a1), (2, .int a2), (3, .int a3), (4, .int a4), (5, .ref (ad 22 0))] dL_addRoom_21 (by decide) rfl ?_
      refine G_iconst hO 2 dL_addRoom_23 (by decide) ?_
      exact G_iret hO hF rfl (Nat.le_of_ble_eq_true rfl) (Nat.le_of_ble_eq_true rfl) dL_addRoom_24 ⟨rfl, rfl, _, _, _, rfl, rfl, hs⟩
set_option maxHeartbeats 4000000 in
set_option maxRecDepth 20000 in
theorem c_L_setRoom {l : Launch} {Λ : Lay} {B : Nat} {ids : List (Nat × Nat)} {ad : Nat → Nat → Nat} (hm : ∀ q, q ∈ ids0 → q ∈ ids) {a1 : Int32} {a2 : Int32} {a3 : Int32} {M : Mem} {O : Nat → Int64} {P : Int32 → Mem → (Nat → Int64) → Prop} (hs : wL_setRoom a1 a2 a3 M O P) (hst : l.stackTraces = false) : CH l yL_setRoom cL_setRoom 6 (some .int) [(0, 12, 15, 31), (0, 12, 19, 13)] { frames := 7, cells := 1, slots := 6, locals := 135 } Λ B ids ad (sh Λ ad M O) [.ref (ad 20 0), .int a1, .int a2, .int a3, .ref (ad 22 0)] (Go Λ ids ad P) := by
  refine CH.of hst RL [(0, .ref (ad 20 0)), (1, .int a1), (2, .int a2), (3, .int a3), (4, .ref (ad 22 0))] (by decide +kernel) rfl (Nat.le_of_ble_eq_true rfl) rfl (fun Γ hO hX hF => ?_)
  unfold wL_setRoom at hs
  refine G_aload hO 4 dL_setRoom_0 rfl ?_
  refine G_iconst hO 0 dL_setRoom_2 (by decide) ?_
  refine G_aload_n hO 0 dL_setRoom_3 rfl rfl ?_
  refine G_iload_n hO 1 dL_setRoom_4 rfl rfl ?_
  refine G_iload_n hO 2 dL_setRoom_5 rfl rfl ?_
  refine G_iload_n hO 3 dL_setRoom_6 rfl rfl ?_
  refine G_callVX hO (rest := [.int 0, .ref (ad 22 0)]) [.int a1, .int a2, .int a3] hX (fun l h => c_X5_setRoom hm hs h) cv_X5_setRoom mw_611 mw_612 mw_610 (hm _ (id_gl (by decide))) cl5 (show sh Λ ad M O 20 0 = _ by unfold sh; rw [rS_gl]; exact gl_0 _ _ _) rfl rfl (Nat.le_of_ble_eq_true rfl) (by decide) (by decide) dL_setRoom_7 ?_ ?_
  · rintro v ids ad w' ⟨rfl, rfl, M1, r, rfl, rfl, hs⟩
    show G Γ ids ad 1 6 (sh Λ ad M1 O) 10 [(0, .ref (ad 20 0)), (1, .int a1), (2, .int a2), (3, .int a3), (4, .ref (ad 22 0))] (.int r :: [.int 0, .ref (ad 22 0)])
    refine G_i2l hO dL_setRoom_10 ?_
    refine M_last hO 0 (by decide) (hm _ id_ou) (vp_lit (by decide)) dL_setRoom_11 ?_
    refine G_goto hO 23 dL_setRoom_12 (by decide) ?_
    refine G_iconst hO 0 dL_setRoom_23 (by decide) ?_
    exact G_iret hO hF rfl (Nat.le_of_ble_eq_true rfl) (Nat.le_of_ble_eq_true rfl) dL_setRoom_24 ⟨rfl, rfl, _, _, _, rfl, rfl, hs⟩
  · rintro E ids ad w' ⟨rfl, rfl, M1, rfl, hs⟩
    rcases hs with ⟨rfl, hs⟩ | ⟨rfl, hs⟩
    · refine GX_catch1 hO hX rfl (by decide) (by decide) mw_505 (by decide +kernel) (fun q => ?_)
      refine G_astore hO [(5, .ref q), (0, .ref (ad 20 0)), (1, .int a1), (2, .int a2), (3, .int a3), (4, .ref (ad 22 0))] dL_setRoom_15 (by decide) rfl ?_
      refine G_iconst hO 1 dL_setRoom_17 (by decide) ?_
      exact G_iret hO hF rfl (Nat.le_of_ble_eq_true rfl) (Nat.le_of_ble_eq_true rfl) dL_setRoom_18 ⟨rfl, rfl, _, _, _, rfl, rfl, hs⟩
    · refine GX_catch2 (F := eIOB) hO hX rfl (by decide) (by decide) mw_375 (by decide +kernel) (by decide) mw_505 (fun _ h9 => h9.2.2.2.2.2.1) (fun q => ?_)
      refine G_astore hO [(5, .ref q), (0, .ref (ad 20 0)), (1, .int a1), (2, .int a2), (3, .int a3), (4, .ref (ad 22 0))] dL_setRoom_19 (by decide) rfl ?_
      refine G_iconst hO 2 dL_setRoom_21 (by decide) ?_
      exact G_iret hO hF rfl (Nat.le_of_ble_eq_true rfl) (Nat.le_of_ble_eq_true rfl) dL_setRoom_22 ⟨rfl, rfl, _, _, _, rfl, rfl, hs⟩
set_option maxHeartbeats 4000000 in
set_option maxRecDepth 20000 in
theorem c_L_window {l : Launch} {Λ : Lay} {B : Nat} {ids : List (Nat × Nat)} {ad : Nat → Nat → Nat} (hm : ∀ q, q ∈ ids0 → q ∈ ids) {a1 : Int32} {a2 : Int32} {M : Mem} {O : Nat → Int64} {P : Int32 → Mem → (Nat → Int64) → Prop} (hs : wL_window a1 a2 M O P) (hst : l.stackTraces = false) : CH l yL_window cL_window 5 (some .int) [(0, 10, 13, 31)] { frames := 7, cells := 1, slots := 6, locals := 134 } Λ B ids ad (sh Λ ad M O) [.ref (ad 20 0), .int a1, .int a2, .ref (ad 22 0)] (Go Λ ids ad P) := by
  refine CH.of hst RL [(0, .ref (ad 20 0)), (1, .int a1), (2, .int a2), (3, .ref (ad 22 0))] (by decide +kernel) rfl (Nat.le_of_ble_eq_true rfl) rfl (fun Γ hO hX hF => ?_)
  unfold wL_window at hs
  refine G_aload_n hO 3 dL_window_0 rfl rfl ?_
  refine G_iconst hO 0 dL_window_1 (by decide) ?_
  refine G_aload_n hO 0 dL_window_2 rfl rfl ?_
  refine G_iload_n hO 1 dL_window_3 rfl rfl ?_
  refine G_iload_n hO 2 dL_window_4 rfl rfl ?_
  refine G_callVX hO (rest := [.int 0, .ref (ad 22 0)]) [.int a1, .int a2] hX (fun l h => c_X5_window hm hs h) cv_X5_window mw_626 mw_627 mw_625 (hm _ (id_gl (by decide))) cl5 (show sh Λ ad M O 20 0 = _ by unfold sh; rw [rS_gl]; exact gl_0 _ _ _) rfl rfl (Nat.le_of_ble_eq_true rfl) (by decide) (by decide) dL_window_5 ?_ ?_
  · rintro v ids ad w' ⟨rfl, rfl, M1, r, rfl, rfl, hs⟩
    show G Γ ids ad 1 6 (sh Λ ad M1 O) 8 [(0, .ref (ad 20 0)), (1, .int a1), (2, .int a2), (3, .ref (ad 22 0))] (.int r :: [.int 0, .ref (ad 22 0)])
    refine G_i2l hO dL_window_8 ?_
    refine M_last hO 0 (by decide) (hm _ id_ou) (vp_lit (by decide)) dL_window_9 ?_
    refine G_goto hO 17 dL_window_10 (by decide) ?_
    refine G_iconst hO 0 dL_window_17 (by decide) ?_
    exact G_iret hO hF rfl (Nat.le_of_ble_eq_true rfl) (Nat.le_of_ble_eq_true rfl) dL_window_18 ⟨rfl, rfl, _, _, _, rfl, rfl, hs⟩
  · rintro E ids ad w' ⟨rfl, rfl, M1, rfl, hs⟩
    obtain ⟨rfl, hs⟩ := hs
    refine GX_catch1 hO hX rfl (by decide) (by decide) mw_505 (by decide +kernel) (fun q => ?_)
    refine G_astore hO [(4, .ref q), (0, .ref (ad 20 0)), (1, .int a1), (2, .int a2), (3, .ref (ad 22 0))] dL_window_13 (by decide) rfl ?_
    refine G_iconst hO 1 dL_window_15 (by decide) ?_
    exact G_iret hO hF rfl (Nat.le_of_ble_eq_true rfl) (Nat.le_of_ble_eq_true rfl) dL_window_16 ⟨rfl, rfl, _, _, _, rfl, rfl, hs⟩
set_option maxHeartbeats 4000000 in
set_option maxRecDepth 20000 in
theorem c_L_set {l : Launch} {Λ : Lay} {B : Nat} {ids : List (Nat × Nat)} {ad : Nat → Nat → Nat} (hm : ∀ q, q ∈ ids0 → q ∈ ids) {a1 : Int32} {a2 : Int32} {M : Mem} {O : Nat → Int64} {P : Int32 → Mem → (Nat → Int64) → Prop} (hs : wL_set a1 a2 M O P) (hst : l.stackTraces = false) : CH l yL_set cL_set 5 (some .int) [(0, 10, 13, 13)] { frames := 7, cells := 1, slots := 6, locals := 135 } Λ B ids ad (sh Λ ad M O) [.ref (ad 20 0), .int a1, .int a2, .ref (ad 22 0)] (Go Λ ids ad P) := by
  refine CH.of hst RL [(0, .ref (ad 20 0)), (1, .int a1), (2, .int a2), (3, .ref (ad 22 0))] (by decide +kernel) rfl (Nat.le_of_ble_eq_true rfl) rfl (fun Γ hO hX hF => ?_)
  unfold wL_set at hs
  refine G_aload_n hO 3 dL_set_0 rfl rfl ?_
  refine G_iconst hO 0 dL_set_1 (by decide) ?_
  refine G_aload_n hO 0 dL_set_2 rfl rfl ?_
  refine G_iload_n hO 1 dL_set_3 rfl rfl ?_
  refine G_iload_n hO 2 dL_set_4 rfl rfl ?_
  refine G_callVX hO (rest := [.int 0, .ref (ad 22 0)]) [.int a1, .int a2] hX (fun l h => c_X5_set hm hs h) cv_X5_set mw_637 mw_638 mw_636 (hm _ (id_gl (by decide))) cl5 (show sh Λ ad M O 20 0 = _ by unfold sh; rw [rS_gl]; exact gl_0 _ _ _) rfl rfl (Nat.le_of_ble_eq_true rfl) (by decide) (by decide) dL_set_5 ?_ ?_
  · rintro v ids ad w' ⟨rfl, rfl, M1, r, rfl, rfl, hs⟩
    show G Γ ids ad 1 6 (sh Λ ad M1 O) 8 [(0, .ref (ad 20 0)), (1, .int a1), (2, .int a2), (3, .ref (ad 22 0))] (.int r :: [.int 0, .ref (ad 22 0)])
    refine G_i2l hO dL_set_8 ?_
    refine M_last hO 0 (by decide) (hm _ id_ou) (vp_lit (by decide)) dL_set_9 ?_
    refine G_goto hO 17 dL_set_10 (by decide) ?_
    refine G_iconst hO 0 dL_set_17 (by decide) ?_
    exact G_iret hO hF rfl (Nat.le_of_ble_eq_true rfl) (Nat.le_of_ble_eq_true rfl) dL_set_18 ⟨rfl, rfl, _, _, _, rfl, rfl, hs⟩
  · rintro E ids ad w' ⟨rfl, rfl, M1, rfl, hs⟩
    obtain ⟨rfl, hs⟩ := hs
    refine GX_catch1 hO hX rfl (by decide) (by decide) mw_375 (by decide +kernel) (fun q => ?_)
    refine G_astore hO [(4, .ref q), (0, .ref (ad 20 0)), (1, .int a1), (2, .int a2), (3, .ref (ad 22 0))] dL_set_13 (by decide) rfl ?_
    refine G_iconst hO 1 dL_set_15 (by decide) ?_
    exact G_iret hO hF rfl (Nat.le_of_ble_eq_true rfl) (Nat.le_of_ble_eq_true rfl) dL_set_16 ⟨rfl, rfl, _, _, _, rfl, rfl, hs⟩
set_option maxHeartbeats 4000000 in
set_option maxRecDepth 20000 in
theorem c_L_outside {l : Launch} {Λ : Lay} {B : Nat} {ids : List (Nat × Nat)} {ad : Nat → Nat → Nat} (hm : ∀ q, q ∈ ids0 → q ∈ ids) {a1 : Int32} {M : Mem} {O : Nat → Int64} {P : Int32 → Mem → (Nat → Int64) → Prop} (hs : wL_outside a1 M O P) (hst : l.stackTraces = false) : CH l yL_outside cL_outside 4 (some .int) [(0, 9, 12, 13)] { frames := 7, cells := 1, slots := 6, locals := 134 } Λ B ids ad (sh Λ ad M O) [.ref (ad 20 0), .int a1, .ref (ad 22 0)] (Go Λ ids ad P) := by
  refine CH.of hst RL [(0, .ref (ad 20 0)), (1, .int a1), (2, .ref (ad 22 0))] (by decide +kernel) rfl (Nat.le_of_ble_eq_true rfl) rfl (fun Γ hO hX hF => ?_)
  unfold wL_outside at hs
  refine G_aload_n hO 2 dL_outside_0 rfl rfl ?_
  refine G_iconst hO 0 dL_outside_1 (by decide) ?_
  refine G_aload_n hO 0 dL_outside_2 rfl rfl ?_
  refine G_iload_n hO 1 dL_outside_3 rfl rfl ?_
  refine G_callVX hO (rest := [.int 0, .ref (ad 22 0)]) [.int a1] hX (fun l h => c_X5_outside hm hs h) cv_X5_outside mw_651 mw_652 mw_650 (hm _ (id_gl (by decide))) cl5 (show sh Λ ad M O 20 0 = _ by unfold sh; rw [rS_gl]; exact gl_0 _ _ _) rfl rfl (Nat.le_of_ble_eq_true rfl) (by decide) (by decide) dL_outside_4 ?_ ?_
  · rintro v ids ad w' ⟨rfl, rfl, M1, r, rfl, rfl, hs⟩
    show G Γ ids ad 1 6 (sh Λ ad M1 O) 7 [(0, .ref (ad 20 0)), (1, .int a1), (2, .ref (ad 22 0))] (.int r :: [.int 0, .ref (ad 22 0)])
    refine G_i2l hO dL_outside_7 ?_
    refine M_last hO 0 (by decide) (hm _ id_ou) (vp_lit (by decide)) dL_outside_8 ?_
    refine G_goto hO 15 dL_outside_9 (by decide) ?_
    refine G_iconst hO 0 dL_outside_15 (by decide) ?_
    exact G_iret hO hF rfl (Nat.le_of_ble_eq_true rfl) (Nat.le_of_ble_eq_true rfl) dL_outside_16 ⟨rfl, rfl, _, _, _, rfl, rfl, hs⟩
  · rintro E ids ad w' ⟨rfl, rfl, M1, rfl, hs⟩
    obtain ⟨rfl, hs⟩ := hs
    refine GX_catch1 hO hX rfl (by decide) (by decide) mw_375 (by decide +kernel) (fun q => ?_)
    refine G_astore_n hO [(3, .ref q), (0, .ref (ad 20 0)), (1, .int a1), (2, .ref (ad 22 0))] dL_outside_12 rfl (by decide) rfl ?_
    refine G_iconst hO 1 dL_outside_13 (by decide) ?_
    exact G_iret hO hF rfl (Nat.le_of_ble_eq_true rfl) (Nat.le_of_ble_eq_true rfl) dL_outside_14 ⟨rfl, rfl, _, _, _, rfl, rfl, hs⟩
set_option maxHeartbeats 4000000 in
set_option maxRecDepth 20000 in
theorem c_L_pass {l : Launch} {Λ : Lay} {B : Nat} {ids : List (Nat × Nat)} {ad : Nat → Nat → Nat} (hm : ∀ q, q ∈ ids0 → q ∈ ids) {a1 : Int32} {M : Mem} {O : Nat → Int64} {P : Int32 → Mem → (Nat → Int64) → Prop} (hs : wL_pass a1 M O P) (hst : l.stackTraces = false) : CH l yL_pass cL_pass 4 (some .int) [(0, 9, 12, 13)] { frames := 7, cells := 1, slots := 6, locals := 134 } Λ B ids ad (sh Λ ad M O) [.ref (ad 20 0), .int a1, .ref (ad 22 0)] (Go Λ ids ad P) := by
  refine CH.of hst RL [(0, .ref (ad 20 0)), (1, .int a1), (2, .ref (ad 22 0))] (by decide +kernel) rfl (Nat.le_of_ble_eq_true rfl) rfl (fun Γ hO hX hF => ?_)
  unfold wL_pass at hs
  refine G_aload_n hO 2 dL_pass_0 rfl rfl ?_
  refine G_iconst hO 0 dL_pass_1 (by decide) ?_
  refine G_aload_n hO 0 dL_pass_2 rfl rfl ?_
  refine G_iload_n hO 1 dL_pass_3 rfl rfl ?_
  refine G_callVX hO (rest := [.int 0, .ref (ad 22 0)]) [.int a1] hX (fun l h => c_X5_pass hm hs h) cv_X5_pass mw_662 mw_663 mw_661 (hm _ (id_gl (by decide))) cl5 (show sh Λ ad M O 20 0 = _ by unfold sh; rw [rS_gl]; exact gl_0 _ _ _) rfl rfl (Nat.le_of_ble_eq_true rfl) (by decide) (by decide) dL_pass_4 ?_ ?_
  · rintro v ids ad w' ⟨rfl, rfl, M1, r, rfl, rfl, hs⟩
    show G Γ ids ad 1 6 (sh Λ ad M1 O) 7 [(0, .ref (ad 20 0)), (1, .int a1), (2, .ref (ad 22 0))] (.int r :: [.int 0, .ref (ad 22 0)])
    refine G_i2l hO dL_pass_7 ?_
    refine M_last hO 0 (by decide) (hm _ id_ou) (vp_lit (by decide)) dL_pass_8 ?_
    refine G_goto hO 15 dL_pass_9 (by decide) ?_
    refine G_iconst hO 0 dL_pass_15 (by decide) ?_
    exact G_iret hO hF rfl (Nat.le_of_ble_eq_true rfl) (Nat.le_of_ble_eq_true rfl) dL_pass_16 ⟨rfl, rfl, _, _, _, rfl, rfl, hs⟩
  · rintro E ids ad w' ⟨rfl, rfl, M1, rfl, hs⟩
    obtain ⟨rfl, hs⟩ := hs
    refine GX_catch1 hO hX rfl (by decide) (by decide) mw_375 (by decide +kernel) (fun q => ?_)
    refine G_astore_n hO [(3, .ref q), (0, .ref (ad 20 0)), (1, .int a1), (2, .ref (ad 22 0))] dL_pass_12 rfl (by decide) rfl ?_
    refine G_iconst hO 1 dL_pass_13 (by decide) ?_
    exact G_iret hO hF rfl (Nat.le_of_ble_eq_true rfl) (Nat.le_of_ble_eq_true rfl) dL_pass_14 ⟨rfl, rfl, _, _, _, rfl, rfl, hs⟩
set_option maxHeartbeats 4000000 in
set_option maxRecDepth 20000 in
theorem c_L_undo {l : Launch} {Λ : Lay} {B : Nat} {ids : List (Nat × Nat)} {ad : Nat → Nat → Nat} (hm : ∀ q, q ∈ ids0 → q ∈ ids) {M : Mem} {O : Nat → Int64} {P : Int32 → Mem → (Nat → Int64) → Prop} (hs : wL_undo M O P) (hst : l.stackTraces = false) : CH l yL_undo cL_undo 3 (some .int) [(0, 8, 11, 15)] { frames := 7, cells := 1, slots := 6, locals := 133 } Λ B ids ad (sh Λ ad M O) [.ref (ad 20 0), .ref (ad 22 0)] (Go Λ ids ad P) := by
  refine CH.of hst RL [(0, .ref (ad 20 0)), (1, .ref (ad 22 0))] (by decide +kernel) rfl (Nat.le_of_ble_eq_true rfl) rfl (fun Γ hO hX hF => ?_)
  unfold wL_undo at hs
  refine G_aload_n hO 1 dL_undo_0 rfl rfl ?_
  refine G_iconst hO 0 dL_undo_1 (by decide) ?_
  refine G_aload_n hO 0 dL_undo_2 rfl rfl ?_
  refine G_callVX hO (rest := [.int 0, .ref (ad 22 0)]) [] hX (fun l h => c_X5_undo hm hs h) cv_X5_undo mw_700 mw_701 mw_699 (hm _ (id_gl (by decide))) cl5 (show sh Λ ad M O 20 0 = _ by unfold sh; rw [rS_gl]; exact gl_0 _ _ _) rfl rfl (Nat.le_of_ble_eq_true rfl) (by decide) (by decide) dL_undo_3 ?_ ?_
  · rintro v ids ad w' ⟨rfl, rfl, M1, r, rfl, rfl, hs⟩
    show G Γ ids ad 1 6 (sh Λ ad M1 O) 6 [(0, .ref (ad 20 0)), (1, .ref (ad 22 0))] (.int r :: [.int 0, .ref (ad 22 0)])
    refine G_i2l hO dL_undo_6 ?_
    refine M_last hO 0 (by decide) (hm _ id_ou) (vp_lit (by decide)) dL_undo_7 ?_
    refine G_goto hO 14 dL_undo_8 (by decide) ?_
    refine G_iconst hO 0 dL_undo_14 (by decide) ?_
    exact G_iret hO hF rfl (Nat.le_of_ble_eq_true rfl) (Nat.le_of_ble_eq_true rfl) dL_undo_15 ⟨rfl, rfl, _, _, _, rfl, rfl, hs⟩
  · rintro E ids ad w' ⟨rfl, rfl, M1, rfl, hs⟩
    obtain ⟨rfl, hs⟩ := hs
    refine GX_catch1 hO hX rfl (by decide) (by decide) mw_376 (by decide +kernel) (fun q => ?_)
    refine G_astore_n hO [(2, .ref q), (0, .ref (ad 20 0)), (1, .ref (ad 22 0))] dL_undo_11 rfl (by decide) rfl ?_
    refine G_iconst hO 1 dL_undo_12 (by decide) ?_
    exact G_iret hO hF rfl (Nat.le_of_ble_eq_true rfl) (Nat.le_of_ble_eq_true rfl) dL_undo_13 ⟨rfl, rfl, _, _, _, rfl, rfl, hs⟩
set_option maxHeartbeats 4000000 in
set_option maxRecDepth 20000 in
theorem c_L_ahead {l : Launch} {Λ : Lay} {B : Nat} {ids : List (Nat × Nat)} {ad : Nat → Nat → Nat} (hm : ∀ q, q ∈ ids0 → q ∈ ids) {a1 : Int32} {a2 : Int32} {M : Mem} {O : Nat → Int64} {P : Int32 → Mem → (Nat → Int64) → Prop} (hs : wL_ahead a1 a2 M O P) (hst : l.stackTraces = false) : CH l yL_ahead cL_ahead 5 (some .int) [(0, 10, 13, 31), (0, 10, 17, 13)] { frames := 7, cells := 1, slots := 6, locals := 130 } Λ B ids ad (sh Λ ad M O) [.ref (ad 20 0), .int a1, .int a2, .ref (ad 22 0)] (Go Λ ids ad P) := by
  refine CH.of hst RL [(0, .ref (ad 20 0)), (1, .int a1), (2, .int a2), (3, .ref (ad 22 0))] (by decide +kernel) rfl (Nat.le_of_ble_eq_true rfl) rfl (fun Γ hO hX hF => ?_)
  unfold wL_ahead at hs
  refine G_aload_n hO 3 dL_ahead_0 rfl rfl ?_
  refine G_iconst hO 0 dL_ahead_1 (by decide) ?_
  refine G_aload_n hO 0 dL_ahead_2 rfl rfl ?_
  refine G_iload_n hO 1 dL_ahead_3 rfl rfl ?_
  refine G_iload_n hO 2 dL_ahead_4 rfl rfl ?_
  refine G_callVX hO (rest := [.int 0, .ref (ad 22 0)]) [.int a1, .int a2] hX (fun l h => c_X5_ahead hm hs h) cv_X5_ahead mw_716 mw_717 mw_715 (hm _ (id_gl (by decide))) cl5 (show sh Λ ad M O 20 0 = _ by unfold sh; rw [rS_gl]; exact gl_0 _ _ _) rfl rfl (Nat.le_of_ble_eq_true rfl) (by decide) (by decide) dL_ahead_5 ?_ ?_
  · rintro v ids ad w' ⟨rfl, rfl, M1, r, rfl, rfl, hs⟩
    show G Γ ids ad 1 6 (sh Λ ad M1 O) 8 [(0, .ref (ad 20 0)), (1, .int a1), (2, .int a2), (3, .ref (ad 22 0))] (.int r :: [.int 0, .ref (ad 22 0)])
    refine G_i2l hO dL_ahead_8 ?_
    refine M_last hO 0 (by decide) (hm _ id_ou) (vp_lit (by decide)) dL_ahead_9 ?_
    refine G_goto hO 21 dL_ahead_10 (by decide) ?_
    refine G_iconst hO 0 dL_ahead_21 (by decide) ?_
    exact G_iret hO hF rfl (Nat.le_of_ble_eq_true rfl) (Nat.le_of_ble_eq_true rfl) dL_ahead_22 ⟨rfl, rfl, _, _, _, rfl, rfl, hs⟩
  · rintro E ids ad w' ⟨rfl, rfl, M1, rfl, hs⟩
    rcases hs with ⟨rfl, hs⟩ | ⟨rfl, hs⟩
    · refine GX_catch1 hO hX rfl (by decide) (by decide) mw_505 (by decide +kernel) (fun q => ?_)
      refine G_astore hO [(4, .ref q), (0, .ref (ad 20 0)), (1, .int a1), (2, .int a2), (3, .ref (ad 22 0))] dL_ahead_13 (by decide) rfl ?_
      refine G_iconst hO 1 dL_ahead_15 (by decide) ?_
      exact G_iret hO hF rfl (Nat.le_of_ble_eq_true rfl) (Nat.le_of_ble_eq_true rfl) dL_ahead_16 ⟨rfl, rfl, _, _, _, rfl, rfl, hs⟩
    · refine GX_catch2 (F := eIOB) hO hX rfl (by decide) (by decide) mw_375 (by decide +kernel) (by decide) mw_505 (fun _ h9 => h9.2.2.2.2.2.1) (fun q => ?_)
      refine G_astore hO [(4, .ref q), (0, .ref (ad 20 0)), (1, .int a1), (2, .int a2), (3, .ref (ad 22 0))] dL_ahead_17 (by decide) rfl ?_
      refine G_iconst hO 2 dL_ahead_19 (by decide) ?_
      exact G_iret hO hF rfl (Nat.le_of_ble_eq_true rfl) (Nat.le_of_ble_eq_true rfl) dL_ahead_20 ⟨rfl, rfl, _, _, _, rfl, rfl, hs⟩
set_option maxHeartbeats 4000000 in
set_option maxRecDepth 20000 in
theorem c_L_minutesTo {l : Launch} {Λ : Lay} {B : Nat} {ids : List (Nat × Nat)} {ad : Nat → Nat → Nat} (hm : ∀ q, q ∈ ids0 → q ∈ ids) {a1 : Int32} {M : Mem} {O : Nat → Int64} {P : Int32 → Mem → (Nat → Int64) → Prop} (hs : wL_minutesTo a1 M O P) (hst : l.stackTraces = false) : CH l yL_minutesTo cL_minutesTo 4 (some .int) [(0, 9, 12, 31)] { frames := 7, cells := 1, slots := 6, locals := 130 } Λ B ids ad (sh Λ ad M O) [.ref (ad 20 0), .int a1, .ref (ad 22 0)] (Go Λ ids ad P) := by
  refine CH.of hst RL [(0, .ref (ad 20 0)), (1, .int a1), (2, .ref (ad 22 0))] (by decide +kernel) rfl (Nat.le_of_ble_eq_true rfl) rfl (fun Γ hO hX hF => ?_)
  unfold wL_minutesTo at hs
  refine G_aload_n hO 2 dL_minutesTo_0 rfl rfl ?_
  refine G_iconst hO 0 dL_minutesTo_1 (by decide) ?_
  refine G_aload_n hO 0 dL_minutesTo_2 rfl rfl ?_
  refine G_iload_n hO 1 dL_minutesTo_3 rfl rfl ?_
  refine G_callVX hO (rest := [.int 0, .ref (ad 22 0)]) [.int a1] hX (fun l h => c_X5_minutesTo hm hs h) cv_X5_minutesTo mw_724 mw_725 mw_723 (hm _ (id_gl (by decide))) cl5 (show sh Λ ad M O 20 0 = _ by unfold sh; rw [rS_gl]; exact gl_0 _ _ _) rfl rfl (Nat.le_of_ble_eq_true rfl) (by decide) (by decide) dL_minutesTo_4 ?_ ?_
  · rintro v ids ad w' ⟨rfl, rfl, M1, r, rfl, rfl, hs⟩
    show G Γ ids ad 1 6 (sh Λ ad M1 O) 7 [(0, .ref (ad 20 0)), (1, .int a1), (2, .ref (ad 22 0))] (.int r :: [.int 0, .ref (ad 22 0)])
    refine G_i2l hO dL_minutesTo_7 ?_
    refine M_last hO 0 (by decide) (hm _ id_ou) (vp_lit (by decide)) dL_minutesTo_8 ?_
    refine G_goto hO 15 dL_minutesTo_9 (by decide) ?_
    refine G_iconst hO 0 dL_minutesTo_15 (by decide) ?_
    exact G_iret hO hF rfl (Nat.le_of_ble_eq_true rfl) (Nat.le_of_ble_eq_true rfl) dL_minutesTo_16 ⟨rfl, rfl, _, _, _, rfl, rfl, hs⟩
  · rintro E ids ad w' ⟨rfl, rfl, M1, rfl, hs⟩
    obtain ⟨rfl, hs⟩ := hs
    refine GX_catch1 hO hX rfl (by decide) (by decide) mw_505 (by decide +kernel) (fun q => ?_)
    refine G_astore_n hO [(3, .ref q), (0, .ref (ad 20 0)), (1, .int a1), (2, .ref (ad 22 0))] dL_minutesTo_12 rfl (by decide) rfl ?_
    refine G_iconst hO 1 dL_minutesTo_13 (by decide) ?_
    exact G_iret hO hF rfl (Nat.le_of_ble_eq_true rfl) (Nat.le_of_ble_eq_true rfl) dL_minutesTo_14 ⟨rfl, rfl, _, _, _, rfl, rfl, hs⟩
set_option maxHeartbeats 4000000 in
set_option maxRecDepth 20000 in
theorem c_L_bestSlope {l : Launch} {Λ : Lay} {B : Nat} {ids : List (Nat × Nat)} {ad : Nat → Nat → Nat} (hm : ∀ q, q ∈ ids0 → q ∈ ids) {a1 : Int32} {M : Mem} {O : Nat → Int64} {P : Int32 → Mem → (Nat → Int64) → Prop} (hs : wL_bestSlope a1 M O P) (hst : l.stackTraces = false) : CH l yL_bestSlope cL_bestSlope 4 (some .int) [(0, 9, 12, 13)] { frames := 7, cells := 1, slots := 6, locals := 133 } Λ B ids ad (sh Λ ad M O) [.ref (ad 20 0), .int a1, .ref (ad 22 0)] (Go Λ ids ad P) := by
  refine CH.of hst RL [(0, .ref (ad 20 0)), (1, .int a1), (2, .ref (ad 22 0))] (by decide +kernel) rfl (Nat.le_of_ble_eq_true rfl) rfl (fun Γ hO hX hF => ?_)
  unfold wL_bestSlope at hs
  refine G_aload_n hO 2 dL_bestSlope_0 rfl rfl ?_
  refine G_iconst hO 0 dL_bestSlope_1 (by decide) ?_
  refine G_aload_n hO 0 dL_bestSlope_2 rfl rfl ?_
  refine G_iload_n hO 1 dL_bestSlope_3 rfl rfl ?_
  refine G_callVX hO (rest := [.int 0, .ref (ad 22 0)]) [.int a1] hX (fun l h => c_X5_bestSlope hm hs h) cv_X5_bestSlope mw_735 mw_736 mw_734 (hm _ (id_gl (by decide))) cl5 (show sh Λ ad M O 20 0 = _ by unfold sh; rw [rS_gl]; exact gl_0 _ _ _) rfl rfl (Nat.le_of_ble_eq_true rfl) (by decide) (by decide) dL_bestSlope_4 ?_ ?_
  · rintro v ids ad w' ⟨rfl, rfl, M1, r, rfl, rfl, hs⟩
    show G Γ ids ad 1 6 (sh Λ ad M1 O) 7 [(0, .ref (ad 20 0)), (1, .int a1), (2, .ref (ad 22 0))] (.int r :: [.int 0, .ref (ad 22 0)])
    refine G_i2l hO dL_bestSlope_7 ?_
    refine M_last hO 0 (by decide) (hm _ id_ou) (vp_lit (by decide)) dL_bestSlope_8 ?_
    refine G_goto hO 15 dL_bestSlope_9 (by decide) ?_
    refine G_iconst hO 0 dL_bestSlope_15 (by decide) ?_
    exact G_iret hO hF rfl (Nat.le_of_ble_eq_true rfl) (Nat.le_of_ble_eq_true rfl) dL_bestSlope_16 ⟨rfl, rfl, _, _, _, rfl, rfl, hs⟩
  · rintro E ids ad w' ⟨rfl, rfl, M1, rfl, hs⟩
    obtain ⟨rfl, hs⟩ := hs
    refine GX_catch1 hO hX rfl (by decide) (by decide) mw_375 (by decide +kernel) (fun q => ?_)
    refine G_astore_n hO [(3, .ref q), (0, .ref (ad 20 0)), (1, .int a1), (2, .ref (ad 22 0))] dL_bestSlope_12 rfl (by decide) rfl ?_
    refine G_iconst hO 1 dL_bestSlope_13 (by decide) ?_
    exact G_iret hO hF rfl (Nat.le_of_ble_eq_true rfl) (Nat.le_of_ble_eq_true rfl) dL_bestSlope_14 ⟨rfl, rfl, _, _, _, rfl, rfl, hs⟩
set_option maxHeartbeats 4000000 in
set_option maxRecDepth 20000 in
theorem c_L_leastPower {l : Launch} {Λ : Lay} {B : Nat} {ids : List (Nat × Nat)} {ad : Nat → Nat → Nat} (hm : ∀ q, q ∈ ids0 → q ∈ ids) {a1 : Int32} {M : Mem} {O : Nat → Int64} {P : Int32 → Mem → (Nat → Int64) → Prop} (hs : wL_leastPower a1 M O P) (hst : l.stackTraces = false) : CH l yL_leastPower cL_leastPower 4 (some .int) [(0, 9, 12, 13)] { frames := 7, cells := 1, slots := 6, locals := 154 } Λ B ids ad (sh Λ ad M O) [.ref (ad 20 0), .int a1, .ref (ad 22 0)] (Go Λ ids ad P) := by
  refine CH.of hst RL [(0, .ref (ad 20 0)), (1, .int a1), (2, .ref (ad 22 0))] (by decide +kernel) rfl (Nat.le_of_ble_eq_true rfl) rfl (fun Γ hO hX hF => ?_)
  unfold wL_leastPower at hs
  refine G_aload_n hO 2 dL_leastPower_0 rfl rfl ?_
  refine G_iconst hO 0 dL_leastPower_1 (by decide) ?_
  refine G_aload_n hO 0 dL_leastPower_2 rfl rfl ?_
  refine G_iload_n hO 1 dL_leastPower_3 rfl rfl ?_
  refine G_callVX hO (rest := [.int 0, .ref (ad 22 0)]) [.int a1] hX (fun l h => c_X5_leastPower hm hs h) cv_X5_leastPower mw_743 mw_744 mw_742 (hm _ (id_gl (by decide))) cl5 (show sh Λ ad M O 20 0 = _ by unfold sh; rw [rS_gl]; exact gl_0 _ _ _) rfl rfl (Nat.le_of_ble_eq_true rfl) (by decide) (by decide) dL_leastPower_4 ?_ ?_
  · rintro v ids ad w' ⟨rfl, rfl, M1, r, rfl, rfl, hs⟩
    show G Γ ids ad 1 6 (sh Λ ad M1 O) 7 [(0, .ref (ad 20 0)), (1, .int a1), (2, .ref (ad 22 0))] (.int r :: [.int 0, .ref (ad 22 0)])
    refine G_i2l hO dL_leastPower_7 ?_
    refine M_last hO 0 (by decide) (hm _ id_ou) (vp_lit (by decide)) dL_leastPower_8 ?_
    refine G_goto hO 15 dL_leastPower_9 (by decide) ?_
    refine G_iconst hO 0 dL_leastPower_15 (by decide) ?_
    exact G_iret hO hF rfl (Nat.le_of_ble_eq_true rfl) (Nat.le_of_ble_eq_true rfl) dL_leastPower_16 ⟨rfl, rfl, _, _, _, rfl, rfl, hs⟩
  · rintro E ids ad w' ⟨rfl, rfl, M1, rfl, hs⟩
    obtain ⟨rfl, hs⟩ := hs
    refine GX_catch1 hO hX rfl (by decide) (by decide) mw_375 (by decide +kernel) (fun q => ?_)
    refine G_astore_n hO [(3, .ref q), (0, .ref (ad 20 0)), (1, .int a1), (2, .ref (ad 22 0))] dL_leastPower_12 rfl (by decide) rfl ?_
    refine G_iconst hO 1 dL_leastPower_13 (by decide) ?_
    exact G_iret hO hF rfl (Nat.le_of_ble_eq_true rfl) (Nat.le_of_ble_eq_true rfl) dL_leastPower_14 ⟨rfl, rfl, _, _, _, rfl, rfl, hs⟩
set_option maxHeartbeats 4000000 in
set_option maxRecDepth 20000 in
theorem c_L_heatFor {l : Launch} {Λ : Lay} {B : Nat} {ids : List (Nat × Nat)} {ad : Nat → Nat → Nat} (hm : ∀ q, q ∈ ids0 → q ∈ ids) {a1 : Int32} {M : Mem} {O : Nat → Int64} {P : Int32 → Mem → (Nat → Int64) → Prop} (hs : wL_heatFor a1 M O P) (hst : l.stackTraces = false) : CH l yL_heatFor cL_heatFor 4 (some .int) [(0, 9, 12, 13)] { frames := 7, cells := 1, slots := 6, locals := 129 } Λ B ids ad (sh Λ ad M O) [.ref (ad 20 0), .int a1, .ref (ad 22 0)] (Go Λ ids ad P) := by
  refine CH.of hst RL [(0, .ref (ad 20 0)), (1, .int a1), (2, .ref (ad 22 0))] (by decide +kernel) rfl (Nat.le_of_ble_eq_true rfl) rfl (fun Γ hO hX hF => ?_)
  unfold wL_heatFor at hs
  refine G_aload_n hO 2 dL_heatFor_0 rfl rfl ?_
  refine G_iconst hO 0 dL_heatFor_1 (by decide) ?_
  refine G_aload_n hO 0 dL_heatFor_2 rfl rfl ?_
  refine G_iload_n hO 1 dL_heatFor_3 rfl rfl ?_
  refine G_callVX hO (rest := [.int 0, .ref (ad 22 0)]) [.int a1] hX (fun l h => c_X5_heatFor hm hs h) cv_X5_heatFor mw_758 mw_759 mw_757 (hm _ (id_gl (by decide))) cl5 (show sh Λ ad M O 20 0 = _ by unfold sh; rw [rS_gl]; exact gl_0 _ _ _) rfl rfl (Nat.le_of_ble_eq_true rfl) (by decide) (by decide) dL_heatFor_4 ?_ ?_
  · rintro v ids ad w' ⟨rfl, rfl, M1, r, rfl, rfl, hs⟩
    show G Γ ids ad 1 6 (sh Λ ad M1 O) 7 [(0, .ref (ad 20 0)), (1, .int a1), (2, .ref (ad 22 0))] (.int r :: [.int 0, .ref (ad 22 0)])
    refine G_i2l hO dL_heatFor_7 ?_
    refine M_last hO 0 (by decide) (hm _ id_ou) (vp_lit (by decide)) dL_heatFor_8 ?_
    refine G_goto hO 15 dL_heatFor_9 (by decide) ?_
    refine G_iconst hO 0 dL_heatFor_15 (by decide) ?_
    exact G_iret hO hF rfl (Nat.le_of_ble_eq_true rfl) (Nat.le_of_ble_eq_true rfl) dL_heatFor_16 ⟨rfl, rfl, _, _, _, rfl, rfl, hs⟩
  · rintro E ids ad w' ⟨rfl, rfl, M1, rfl, hs⟩
    obtain ⟨rfl, hs⟩ := hs
    refine GX_catch1 hO hX rfl (by decide) (by decide) mw_375 (by decide +kernel) (fun q => ?_)
    refine G_astore_n hO [(3, .ref q), (0, .ref (ad 20 0)), (1, .int a1), (2, .ref (ad 22 0))] dL_heatFor_12 rfl (by decide) rfl ?_
    refine G_iconst hO 1 dL_heatFor_13 (by decide) ?_
    exact G_iret hO hF rfl (Nat.le_of_ble_eq_true rfl) (Nat.le_of_ble_eq_true rfl) dL_heatFor_14 ⟨rfl, rfl, _, _, _, rfl, rfl, hs⟩
set_option maxHeartbeats 4000000 in
set_option maxRecDepth 20000 in
theorem c_L_runScript {l : Launch} {Λ : Lay} {B : Nat} {ids : List (Nat × Nat)} {ad : Nat → Nat → Nat} (hm : ∀ q, q ∈ ids0 → q ∈ ids) {a1 : Int32} {a2 : Int64} {M : Mem} {O : Nat → Int64} {P : Int32 → Mem → (Nat → Int64) → Prop} (hs : wL_runScript a1 a2 M O P) (hst : l.stackTraces = false) : CH l yL_runScript cL_runScript 6 (some .int) [(0, 11, 14, 13)] { frames := 7, cells := 1, slots := 6, locals := 156 } Λ B ids ad (sh Λ ad M O) [.ref (ad 20 0), .int a1, .long a2, .ref (ad 22 0)] (Go Λ ids ad P) := by
  refine CH.of hst RL [(0, .ref (ad 20 0)), (1, .int a1), (2, .long a2), (4, .ref (ad 22 0))] (by decide +kernel) rfl (Nat.le_of_ble_eq_true rfl) rfl (fun Γ hO hX hF => ?_)
  unfold wL_runScript at hs
  refine G_aload hO 3 dL_runScript_0 rfl ?_
  refine G_iconst hO 0 dL_runScript_2 (by decide) ?_
  refine G_aload_n hO 0 dL_runScript_3 rfl rfl ?_
  refine G_iload_n hO 1 dL_runScript_4 rfl rfl ?_
  refine G_lload_n hO 2 dL_runScript_5 rfl rfl ?_
  refine G_callVX hO (rest := [.int 0, .ref (ad 22 0)]) [.int a1, .long a2] hX (fun l h => c_X5_runScript hm hs h) cv_X5_runScript mw_770 mw_771 mw_769 (hm _ (id_gl (by decide))) cl5 (show sh Λ ad M O 20 0 = _ by unfold sh; rw [rS_gl]; exact gl_0 _ _ _) rfl rfl (Nat.le_of_ble_eq_true rfl) (by decide) (by decide) dL_runScript_6 ?_ ?_
  · rintro v ids ad w' ⟨rfl, rfl, M1, r, rfl, rfl, hs⟩
    show G Γ ids ad 1 6 (sh Λ ad M1 O) 9 [(0, .ref (ad 20 0)), (1, .int a1), (2, .long a2), (4, .ref (ad 22 0))] (.int r :: [.int 0, .ref (ad 22 0)])
    refine G_i2l hO dL_runScript_9 ?_
    refine M_last hO 0 (by decide) (hm _ id_ou) (vp_lit (by decide)) dL_runScript_10 ?_
    refine G_goto hO 18 dL_runScript_11 (by decide) ?_
    refine G_iconst hO 0 dL_runScript_18 (by decide) ?_
    exact G_iret hO hF rfl (Nat.le_of_ble_eq_true rfl) (Nat.le_of_ble_eq_true rfl) dL_runScript_19 ⟨rfl, rfl, _, _, _, rfl, rfl, hs⟩
  · rintro E ids ad w' ⟨rfl, rfl, M1, rfl, hs⟩
    obtain ⟨rfl, hs⟩ := hs
    refine GX_catch1 hO hX rfl (by decide) (by decide) mw_375 (by decide +kernel) (fun q => ?_)
    refine G_astore hO [(5, .ref q), (0, .ref (ad 20 0)), (1, .int a1), (2, .long a2), (4, .ref (ad 22 0))] dL_runScript_14 (by decide) rfl ?_
    refine G_iconst hO 1 dL_runScript_16 (by decide) ?_
    exact G_iret hO hF rfl (Nat.le_of_ble_eq_true rfl) (Nat.le_of_ble_eq_true rfl) dL_runScript_17 ⟨rfl, rfl, _, _, _, rfl, rfl, hs⟩
set_option maxHeartbeats 4000000 in
set_option maxRecDepth 20000 in
theorem c_L_simulate {l : Launch} {Λ : Lay} {B : Nat} {ids : List (Nat × Nat)} {ad : Nat → Nat → Nat} (hm : ∀ q, q ∈ ids0 → q ∈ ids) {a1 : Int64} {a3 : Int32} {M : Mem} {O : Nat → Int64} {P : Int32 → Mem → (Nat → Int64) → Prop} (hs : wL_simulate a1 a3 M O P) (hst : l.stackTraces = false) : CH l yL_simulate cL_simulate 6 (some .int) [(0, 10, 13, 13)] { frames := 7, cells := 1, slots := 6, locals := 135 } Λ B ids ad (sh Λ ad M O) [.ref (ad 20 0), .long a1, .int a3, .ref (ad 22 0)] (Go Λ ids ad P) := by
  refine CH.of hst RL [(0, .ref (ad 20 0)), (1, .long a1), (3, .int a3), (4, .ref (ad 22 0))] (by decide +kernel) rfl (Nat.le_of_ble_eq_true rfl) rfl (fun Γ hO hX hF => ?_)
  unfold wL_simulate at hs
  refine G_aload hO 3 dL_simulate_0 rfl ?_
  refine G_iconst hO 0 dL_simulate_2 (by decide) ?_
  refine G_aload_n hO 0 dL_simulate_3 rfl rfl ?_
  refine G_lload_n hO 1 dL_simulate_4 rfl rfl ?_
  refine G_iload_n hO 2 dL_simulate_5 rfl rfl ?_
  refine G_callVX hO (rest := [.int 0, .ref (ad 22 0)]) [.long a1, .int a3] hX (fun l h => c_X5_simulate hm hs h) cv_X5_simulate mw_805 mw_806 mw_804 (hm _ (id_gl (by decide))) cl5 (show sh Λ ad M O 20 0 = _ by unfold sh; rw [rS_gl]; exact gl_0 _ _ _) rfl rfl (Nat.le_of_ble_eq_true rfl) (by decide) (by decide) dL_simulate_6 ?_ ?_
  · rintro v ids ad w' ⟨rfl, rfl, M1, r, rfl, rfl, hs⟩
    show G Γ ids ad 1 6 (sh Λ ad M1 O) 9 [(0, .ref (ad 20 0)), (1, .long a1), (3, .int a3), (4, .ref (ad 22 0))] (.long r :: [.int 0, .ref (ad 22 0)])
    refine M_last hO 0 (by decide) (hm _ id_ou) (vp_lit (by decide)) dL_simulate_9 ?_
    refine G_goto hO 17 dL_simulate_10 (by decide) ?_
    refine G_iconst hO 0 dL_simulate_17 (by decide) ?_
    exact G_iret hO hF rfl (Nat.le_of_ble_eq_true rfl) (Nat.le_of_ble_eq_true rfl) dL_simulate_18 ⟨rfl, rfl, _, _, _, rfl, rfl, hs⟩
  · rintro E ids ad w' ⟨rfl, rfl, M1, rfl, hs⟩
    obtain ⟨rfl, hs⟩ := hs
    refine GX_catch1 hO hX rfl (by decide) (by decide) mw_375 (by decide +kernel) (fun q => ?_)
    refine G_astore hO [(5, .ref q), (0, .ref (ad 20 0)), (1, .long a1), (3, .int a3), (4, .ref (ad 22 0))] dL_simulate_13 (by decide) rfl ?_
    refine G_iconst hO 1 dL_simulate_15 (by decide) ?_
    exact G_iret hO hF rfl (Nat.le_of_ble_eq_true rfl) (Nat.le_of_ble_eq_true rfl) dL_simulate_16 ⟨rfl, rfl, _, _, _, rfl, rfl, hs⟩
set_option maxHeartbeats 4000000 in
set_option maxRecDepth 20000 in
theorem c_L_save {l : Launch} {Λ : Lay} {B : Nat} {ids : List (Nat × Nat)} {ad : Nat → Nat → Nat} (hm : ∀ q, q ∈ ids0 → q ∈ ids) {a1 : Int32} {M : Mem} {O : Nat → Int64} {P : Int32 → Mem → (Nat → Int64) → Prop} (hs : wL_save a1 M O P) (hst : l.stackTraces = false) : CH l yL_save cL_save 4 (some .int) [(0, 9, 12, 31)] { frames := 7, cells := 1, slots := 6, locals := 112 } Λ B ids ad (sh Λ ad M O) [.ref (ad 20 0), .int a1, .ref (ad 22 0)] (Go Λ ids ad P) := by
  refine CH.of hst RL [(0, .ref (ad 20 0)), (1, .int a1), (2, .ref (ad 22 0))] (by decide +kernel) rfl (Nat.le_of_ble_eq_true rfl) rfl (fun Γ hO hX hF => ?_)
  unfold wL_save at hs
  refine G_aload_n hO 2 dL_save_0 rfl rfl ?_
  refine G_iconst hO 0 dL_save_1 (by decide) ?_
  refine G_aload_n hO 0 dL_save_2 rfl rfl ?_
  refine G_iload_n hO 1 dL_save_3 rfl rfl ?_
  refine G_callVX hO (rest := [.int 0, .ref (ad 22 0)]) [.int a1] hX (fun l h => c_X5_save hm hs h) cv_X5_save mw_816 mw_817 mw_815 (hm _ (id_gl (by decide))) cl5 (show sh Λ ad M O 20 0 = _ by unfold sh; rw [rS_gl]; exact gl_0 _ _ _) rfl rfl (Nat.le_of_ble_eq_true rfl) (by decide) (by decide) dL_save_4 ?_ ?_
  · rintro v ids ad w' ⟨rfl, rfl, M1, r, rfl, rfl, hs⟩
    show G Γ ids ad 1 6 (sh Λ ad M1 O) 7 [(0, .ref (ad 20 0)), (1, .int a1), (2, .ref (ad 22 0))] (.int r :: [.int 0, .ref (ad 22 0)])
    refine G_i2l hO dL_save_7 ?_
    refine M_last hO 0 (by decide) (hm _ id_ou) (vp_lit (by decide)) dL_save_8 ?_
    refine G_goto hO 15 dL_save_9 (by decide) ?_
    refine G_iconst hO 0 dL_save_15 (by decide) ?_
    exact G_iret hO hF rfl (Nat.le_of_ble_eq_true rfl) (Nat.le_of_ble_eq_true rfl) dL_save_16 ⟨rfl, rfl, _, _, _, rfl, rfl, hs⟩
  · rintro E ids ad w' ⟨rfl, rfl, M1, rfl, hs⟩
    obtain ⟨rfl, hs⟩ := hs
    refine GX_catch1 hO hX rfl (by decide) (by decide) mw_505 (by decide +kernel) (fun q => ?_)
    refine G_astore_n hO [(3, .ref q), (0, .ref (ad 20 0)), (1, .int a1), (2, .ref (ad 22 0))] dL_save_12 rfl (by decide) rfl ?_
    refine G_iconst hO 1 dL_save_13 (by decide) ?_
    exact G_iret hO hF rfl (Nat.le_of_ble_eq_true rfl) (Nat.le_of_ble_eq_true rfl) dL_save_14 ⟨rfl, rfl, _, _, _, rfl, rfl, hs⟩
set_option maxHeartbeats 4000000 in
set_option maxRecDepth 20000 in
theorem c_L_restore {l : Launch} {Λ : Lay} {B : Nat} {ids : List (Nat × Nat)} {ad : Nat → Nat → Nat} (hm : ∀ q, q ∈ ids0 → q ∈ ids) {a1 : Int32} {M : Mem} {O : Nat → Int64} {P : Int32 → Mem → (Nat → Int64) → Prop} (hs : wL_restore a1 M O P) (hst : l.stackTraces = false) : CH l yL_restore cL_restore 4 (some .int) [(0, 9, 12, 31), (0, 9, 15, 15)] { frames := 7, cells := 1, slots := 6, locals := 112 } Λ B ids ad (sh Λ ad M O) [.ref (ad 20 0), .int a1, .ref (ad 22 0)] (Go Λ ids ad P) := by
  refine CH.of hst RL [(0, .ref (ad 20 0)), (1, .int a1), (2, .ref (ad 22 0))] (by decide +kernel) rfl (Nat.le_of_ble_eq_true rfl) rfl (fun Γ hO hX hF => ?_)
  unfold wL_restore at hs
  refine G_aload_n hO 2 dL_restore_0 rfl rfl ?_
  refine G_iconst hO 0 dL_restore_1 (by decide) ?_
  refine G_aload_n hO 0 dL_restore_2 rfl rfl ?_
  refine G_iload_n hO 1 dL_restore_3 rfl rfl ?_
  refine G_callVX hO (rest := [.int 0, .ref (ad 22 0)]) [.int a1] hX (fun l h => c_X5_restore hm hs h) cv_X5_restore mw_824 mw_825 mw_823 (hm _ (id_gl (by decide))) cl5 (show sh Λ ad M O 20 0 = _ by unfold sh; rw [rS_gl]; exact gl_0 _ _ _) rfl rfl (Nat.le_of_ble_eq_true rfl) (by decide) (by decide) dL_restore_4 ?_ ?_
  · rintro v ids ad w' ⟨rfl, rfl, M1, r, rfl, rfl, hs⟩
    show G Γ ids ad 1 6 (sh Λ ad M1 O) 7 [(0, .ref (ad 20 0)), (1, .int a1), (2, .ref (ad 22 0))] (.int r :: [.int 0, .ref (ad 22 0)])
    refine G_i2l hO dL_restore_7 ?_
    refine M_last hO 0 (by decide) (hm _ id_ou) (vp_lit (by decide)) dL_restore_8 ?_
    refine G_goto hO 18 dL_restore_9 (by decide) ?_
    refine G_iconst hO 0 dL_restore_18 (by decide) ?_
    exact G_iret hO hF rfl (Nat.le_of_ble_eq_true rfl) (Nat.le_of_ble_eq_true rfl) dL_restore_19 ⟨rfl, rfl, _, _, _, rfl, rfl, hs⟩
  · rintro E ids ad w' ⟨rfl, rfl, M1, rfl, hs⟩
    rcases hs with ⟨rfl, hs⟩ | ⟨rfl, hs⟩
    · refine GX_catch1 hO hX rfl (by decide) (by decide) mw_505 (by decide +kernel) (fun q => ?_)
      refine G_astore_n hO [(3, .ref q), (0, .ref (ad 20 0)), (1, .int a1), (2, .ref (ad 22 0))] dL_restore_12 rfl (by decide) rfl ?_
      refine G_iconst hO 1 dL_restore_13 (by decide) ?_
      exact G_iret hO hF rfl (Nat.le_of_ble_eq_true rfl) (Nat.le_of_ble_eq_true rfl) dL_restore_14 ⟨rfl, rfl, _, _, _, rfl, rfl, hs⟩
    · refine GX_catch2 (F := eIOB) hO hX rfl (by decide) (by decide) mw_376 (by decide +kernel) (by decide) mw_505 (fun _ h9 => h9.2.2.2.2.2.2) (fun q => ?_)
      refine G_astore_n hO [(3, .ref q), (0, .ref (ad 20 0)), (1, .int a1), (2, .ref (ad 22 0))] dL_restore_15 rfl (by decide) rfl ?_
      refine G_iconst hO 2 dL_restore_16 (by decide) ?_
      exact G_iret hO hF rfl (Nat.le_of_ble_eq_true rfl) (Nat.le_of_ble_eq_true rfl) dL_restore_17 ⟨rfl, rfl, _, _, _, rfl, rfl, hs⟩
