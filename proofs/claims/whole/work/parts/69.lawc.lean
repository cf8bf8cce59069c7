theorem cw_restore : CW yL_restore cL_restore 4 (some .int) [(0, 9, 12, 31), (0, 9, 15, 15)] 3 := ⟨mw_0, mw_822, by decide +kernel⟩
theorem cw_save : CW yL_save cL_save 4 (some .int) [(0, 9, 12, 31)] 3 := ⟨mw_0, mw_814, by decide +kernel⟩
theorem cw_simulate : CW yL_simulate cL_simulate 6 (some .int) [(0, 10, 13, 13)] 4 := ⟨mw_0, mw_803, by decide +kernel⟩
theorem cw_runScript : CW yL_runScript cL_runScript 6 (some .int) [(0, 11, 14, 13)] 4 := ⟨mw_0, mw_768, by decide +kernel⟩
theorem cw_heatFor : CW yL_heatFor cL_heatFor 4 (some .int) [(0, 9, 12, 13)] 3 := ⟨mw_0, mw_756, by decide +kernel⟩
theorem cw_leastPower : CW yL_leastPower cL_leastPower 4 (some .int) [(0, 9, 12, 13)] 3 := ⟨mw_0, mw_741, by decide +kernel⟩
theorem cw_bestSlope : CW yL_bestSlope cL_bestSlope 4 (some .int) [(0, 9, 12, 13)] 3 := ⟨mw_0, mw_733, by decide +kernel⟩
theorem cw_minutesTo : CW yL_minutesTo cL_minutesTo 4 (some .int) [(0, 9, 12, 31)] 3 := ⟨mw_0, mw_722, by decide +kernel⟩
theorem cw_ahead : CW yL_ahead cL_ahead 5 (some .int) [(0, 10, 13, 31), (0, 10, 17, 13)] 4 := ⟨mw_0, mw_714, by decide +kernel⟩
theorem cw_undo : CW yL_undo cL_undo 3 (some .int) [(0, 8, 11, 15)] 2 := ⟨mw_0, mw_698, by decide +kernel⟩
theorem cw_pass : CW yL_pass cL_pass 4 (some .int) [(0, 9, 12, 13)] 3 := ⟨mw_0, mw_660, by decide +kernel⟩
theorem cw_outside : CW yL_outside cL_outside 4 (some .int) [(0, 9, 12, 13)] 3 := ⟨mw_0, mw_649, by decide +kernel⟩
theorem cw_set : CW yL_set cL_set 5 (some .int) [(0, 10, 13, 13)] 4 := ⟨mw_0, mw_635, by decide +kernel⟩
theorem cw_window : CW yL_window cL_window 5 (some .int) [(0, 10, 13, 31)] 4 := ⟨mw_0, mw_624, by decide +kernel⟩
theorem cw_setRoom : CW yL_setRoom cL_setRoom 6 (some .int) [(0, 12, 15, 31), (0, 12, 19, 13)] 5 := ⟨mw_0, mw_609, by decide +kernel⟩
theorem cw_addRoom : CW yL_addRoom cL_addRoom 7 (some .int) [(0, 14, 17, 13), (0, 14, 21, 15)] 6 := ⟨mw_0, mw_580, by decide +kernel⟩
theorem cw_way : CW yL_way cL_way 5 (some .int) [(0, 10, 13, 31), (0, 10, 17, 13)] 4 := ⟨mw_0, mw_567, by decide +kernel⟩
theorem cw_moved : CW yL_moved cL_moved 5 (some .int) [(0, 10, 13, 13)] 4 := ⟨mw_0, mw_555, by decide +kernel⟩
theorem cw_room : CW yL_room cL_room 5 (some .int) [(0, 10, 13, 31), (0, 10, 17, 13)] 4 := ⟨mw_0, mw_545, by decide +kernel⟩
theorem cw_place : CW yL_place cL_place 5 (some .int) [(0, 10, 13, 31), (0, 10, 17, 13)] 4 := ⟨mw_0, mw_504, by decide +kernel⟩
theorem cw_setting : CW yL_setting cL_setting 4 (some .int) [(0, 9, 12, 13)] 3 := ⟨mw_0, mw_496, by decide +kernel⟩
theorem cw_about : CW yL_about cL_about 4 (some .int) [(0, 9, 12, 13)] 3 := ⟨mw_0, mw_479, by decide +kernel⟩
theorem cw_load : CW yL_load cL_load 3 (some .int) [(0, 8, 11, 15)] 2 := ⟨mw_0, mw_467, by decide +kernel⟩
theorem cw_append : CW yL_append cL_append 4 (some .int) [(0, 9, 12, 13), (0, 9, 15, 15)] 3 := ⟨mw_0, mw_374, by decide +kernel⟩
set_option maxHeartbeats 4000000 in
set_option maxRecDepth 20000 in
theorem c_law_C0 {Γ : Cx} {Λ : Lay} {B : Nat} {ids : List (Nat × Nat)} {ad : Nat → Nat → Nat} {k z : Nat} {b L : Nat} {xs : Nat → Int32} (hO : Ok Γ RL cL_law 8 room_1 Λ B) (hL : LX Γ b L xs) (hm : ∀ q, q ∈ ids0 → q ∈ ids) (hnr : (20, 6) ∉ ids) {v4 : Int32} {K : Mem → (Nat → Int64) → Prop} {M : Mem} {O : Nat → Int64} (hs : wL_law_C0 L xs v4 K M O) (hk : k + 2 ≤ 601024) (hz : z + 9 ≤ 7293034) (hK : ∀ (M : Mem) (O : Nat → Int64), K M O → G Γ ids ad (k + 2) (z + 9) (sh Λ ad M O) 1783 [(4, .int v4), (3, .ref (ad 22 0)), (2, .ref (ad 21 0)), (1, .ref (ad 20 0)), (0, .ref b)] []) : G Γ ids ad k z (sh Λ ad M O) 164 [(4, .int v4), (3, .ref (ad 22 0)), (2, .ref (ad 21 0)), (1, .ref (ad 20 0)), (0, .ref b)] [] := by
  unfold wL_law_C0 at hs
  have hk1 : ∀ {q : Nat}, q ≤ k + 2 → q ≤ room_1.cells := fun h => Nat.le_trans h hk
  have hz1 : ∀ {q : Nat}, q ≤ z + 9 → q ≤ room_1.slots := fun h => Nat.le_trans h hz
  refine G_aload_n hO 3 dL_law_164 rfl rfl ?_
  refine G_aload_n hO 4 dL_law_165 rfl rfl ?_
  refine G_iload hO 0 dL_law_166 rfl ?_
  refine G_iconst hO 1 dL_law_168 (by decide) ?_
  refine G_iadd hO dL_law_169 ?_
  refine L_iald hO hL hs.1 dL_law_170 ?_
  replace hs := hs.2
  refine G_aload_n hO 1 dL_law_171 rfl rfl ?_
  refine L_call hO hL (rest := []) [.ref (ad 20 0), .int (xs (Int32.toNatClampNeg (v4 + 1))), .ref (ad 22 0)] (fun l h => c_L_append hm hs h) cw_append mw_373 mw_372 rfl rfl (Nat.le_of_ble_eq_true rfl) (by decide) ⟨hk1 (Nat.add_le_add_left (by decide) k), hz1 (Nat.add_le_add_left (by decide) z)⟩ dL_law_172 ?_
  rintro v ids ad w9 ⟨rfl, rfl, M2, O3, r1, rfl, rfl, hs⟩
  show G Γ _ _ (k + 1) (z + 6) (sh Λ _ M2 O3) 175 [(4, .int v4), (3, .ref (ad 22 0)), (2, .ref (ad 21 0)), (1, .ref (ad 20 0)), (0, .ref b)] [.int r1]
  refine G_istore hO [(5, .int r1), (4, .int v4), (3, .ref (ad 22 0)), (2, .ref (ad 21 0)), (1, .ref (ad 20 0)), (0, .ref b)] dL_law_175 (by decide) rfl ?_
  refine G_aload_n hO 3 dL_law_177 rfl rfl ?_
  refine G_aload_n hO 5 dL_law_178 rfl rfl ?_
  refine G_iload hO 1 dL_law_179 rfl ?_
  refine G_iconst hO 1 dL_law_181 (by decide) ?_
  refine G_iadd hO dL_law_182 ?_
  refine L_iald hO hL hs.1 dL_law_183 ?_
  replace hs := hs.2
  refine KV_Gri hO (rest := []) [.int (xs (Int32.toNatClampNeg (v4 + 1)))] (rS_md Λ ad O3) (fun l => c_X6_append (fun _ h9 => hm _ (id_md h9)) hs) cv_X6_append mw_879 mw_880 mw_878 (hm _ (id_md (by decide))) cl6 (by show rS Λ ad _ _ _ _ = _; rw [rS_md]; exact md_0 _ _ _) rfl rfl (Nat.le_of_ble_eq_true rfl) (by decide) rfl rfl (hk1 (by omega)) (hz1 (by omega)) dL_law_184 ?_
  intro r4 c5 hs
  refine G_istore hO [(6, .int r4), (5, .int r1), (4, .int v4), (3, .ref (ad 22 0)), (2, .ref (ad 21 0)), (1, .ref (ad 20 0)), (0, .ref b)] dL_law_187 (by decide) rfl ?_
  refine G_aload_n hO 4 dL_law_189 rfl rfl ?_
  refine KV_Gri hO (rest := []) [] (rS_md Λ ad O3) (fun l => c_X6_thrown (fun _ h9 => hm _ (id_md h9)) hs) cv_X6_thrown mw_875 mw_876 mw_874 (hm _ (id_md (by decide))) cl6 (by show rS Λ ad _ _ _ _ = _; rw [rS_md]; exact md_0 _ _ _) rfl rfl (Nat.le_of_ble_eq_true rfl) (by decide) rfl rfl (hk1 (by omega)) (hz1 (by omega)) dL_law_190 ?_
  intro r6 c7 hs
  refine G_iload hO 1 dL_law_193 rfl ?_
  refine G_icmp_eq hO 200 dL_law_195 (by decide) (fun h10 => ?_) (fun h10 => ?_)
  · replace hs := hs.1 h10
    refine G_iload hO 1 dL_law_200 rfl ?_
    refine G_if_ne hO 217 dL_law_202 (by decide) (fun h9 => ?_) (fun h9 => ?_)
    · replace hs := hs.1 h9
      refine G_goto hO 1783 dL_law_217 (by decide) ?_
      refine G_lv hO [(4, .int v4), (3, .ref (ad 22 0)), (2, .ref (ad 21 0)), (1, .ref (ad 20 0)), (0, .ref b)] [2, 3, 4, 5, 6] rfl ?_
      exact G_widen hO (by omega) (by omega) (hK _ _ hs)
    · replace hs := hs.2 h9
      refine G_aload_n hO 3 dL_law_205 rfl rfl ?_
      refine G_iconst hO 0 dL_law_206 (by decide) ?_
      refine M_lald hO 0 (by decide) (hm _ id_ou) (vp_lit (by decide)) dL_law_207 ?_
      refine G_iload hO 0 dL_law_208 rfl ?_
      refine G_i2l hO dL_law_210 ?_
      refine G_lcmp hO dL_law_211 ?_
      refine G_if_eq hO 217 dL_law_212 (by decide) (fun h8 => ?_) (fun h8 => ?_)
      · replace hs := hs.1 h8
        refine G_goto hO 1783 dL_law_217 (by decide) ?_
        refine G_lv hO [(4, .int v4), (3, .ref (ad 22 0)), (2, .ref (ad 21 0)), (1, .ref (ad 20 0)), (0, .ref b)] [2, 3, 4, 5, 6] rfl ?_
        exact G_widen hO (by omega) (by omega) (hK _ _ hs)
      · replace hs := hs.2 h8
        refine G_iconst hO 0 dL_law_215 (by decide) ?_
        exact False.elim hs
  · replace hs := hs.2 h10
    refine G_iconst hO 0 dL_law_198 (by decide) ?_
    exact False.elim hs
set_option maxHeartbeats 4000000 in
set_option maxRecDepth 20000 in
theorem c_law_C1 {Γ : Cx} {Λ : Lay} {B : Nat} {ids : List (Nat × Nat)} {ad : Nat → Nat → Nat} {k z : Nat} {b L : Nat} {xs : Nat → Int32} (hO : Ok Γ RL cL_law 8 room_1 Λ B) (hL : LX Γ b L xs) (hm : ∀ q, q ∈ ids0 → q ∈ ids) (hnr : (20, 6) ∉ ids) {v4 : Int32} {K : Mem → (Nat → Int64) → Prop} {M : Mem} {O : Nat → Int64} (hs : wL_law_C1 L xs v4 K M O) (hk : k + 2 ≤ 601024) (hz : z + 9 ≤ 7293034) (hK : ∀ (M : Mem) (O : Nat → Int64), K M O → G Γ ids ad (k + 2) (z + 9) (sh Λ ad M O) 1783 [(4, .int v4), (3, .ref (ad 22 0)), (2, .ref (ad 21 0)), (1, .ref (ad 20 0)), (0, .ref b)] []) : G Γ ids ad k z (sh Λ ad M O) 220 [(4, .int v4), (3, .ref (ad 22 0)), (2, .ref (ad 21 0)), (1, .ref (ad 20 0)), (0, .ref b)] [] := by
  unfold wL_law_C1 at hs
  have hk1 : ∀ {q : Nat}, q ≤ k + 2 → q ≤ room_1.cells := fun h => Nat.le_trans h hk
  have hz1 : ∀ {q : Nat}, q ≤ z + 9 → q ≤ room_1.slots := fun h => Nat.le_trans h hz
  refine G_aload_n hO 3 dL_law_220 rfl rfl ?_
  refine KV_Gi hO (rest := []) [] (fun l => c_X5_clearText hm hs) cv_X5_clearText mw_202 mw_203 mw_201 (hm _ (id_gl (by decide))) cl5 (by show rS Λ ad _ _ _ _ = _; rw [rS_gl]; exact gl_0 _ _ _) rfl rfl (Nat.le_of_ble_eq_true rfl) (by decide) rfl rfl (hk1 (by omega)) (hz1 (by omega)) dL_law_221 ?_
  intro r1 M2 hs
  refine G_aload_n hO 2 dL_law_224 rfl rfl ?_
  refine KV_Gri hO (rest := [.int r1]) [] (rS_md Λ ad O) (fun l => c_X6_clearText (fun _ h9 => hm _ (id_md h9)) hs) cv_X6_clearText mw_891 mw_892 mw_890 (hm _ (id_md (by decide))) cl6 (by show rS Λ ad _ _ _ _ = _; rw [rS_md]; exact md_0 _ _ _) rfl rfl (Nat.le_of_ble_eq_true rfl) (by decide) rfl rfl (hk1 (by omega)) (hz1 (by omega)) dL_law_225 ?_
  intro r3 c4 hs
  refine G_icmp_eq hO 1783 dL_law_228 (by decide) (fun h5 => ?_) (fun h5 => ?_)
  · replace hs := hs.1 h5
    exact G_widen hO (by omega) (by omega) (hK _ _ hs)
  · replace hs := hs.2 h5
    refine G_iconst hO 0 dL_law_231 (by decide) ?_
    exact False.elim hs
set_option maxHeartbeats 4000000 in
set_option maxRecDepth 20000 in
theorem c_law_C2 {Γ : Cx} {Λ : Lay} {B : Nat} {ids : List (Nat × Nat)} {ad : Nat → Nat → Nat} {k z : Nat} {b L : Nat} {xs : Nat → Int32} (hO : Ok Γ RL cL_law 8 room_1 Λ B) (hL : LX Γ b L xs) (hm : ∀ q, q ∈ ids0 → q ∈ ids) (hnr : (20, 6) ∉ ids) {v4 : Int32} {K : Mem → (Nat → Int64) → Prop} {M : Mem} {O : Nat → Int64} (hs : wL_law_C2 L xs v4 K M O) (hk : k + 2 ≤ 601024) (hz : z + 9 ≤ 7293034) (hK : ∀ (M : Mem) (O : Nat → Int64), K M O → G Γ ids ad (k + 2) (z + 9) (sh Λ ad M O) 1783 [(4, .int v4), (3, .ref (ad 22 0)), (2, .ref (ad 21 0)), (1, .ref (ad 20 0)), (0, .ref b)] []) : G Γ ids ad k z (sh Λ ad M O) 233 [(4, .int v4), (3, .ref (ad 22 0)), (2, .ref (ad 21 0)), (1, .ref (ad 20 0)), (0, .ref b)] [] := by
  unfold wL_law_C2 at hs
  have hk1 : ∀ {q : Nat}, q ≤ k + 2 → q ≤ room_1.cells := fun h => Nat.le_trans h hk
  have hz1 : ∀ {q : Nat}, q ≤ z + 9 → q ≤ room_1.slots := fun h => Nat.le_trans h hz
  refine G_aload_n hO 3 dL_law_233 rfl rfl ?_
  refine G_callV hO (rest := []) [] (fun l => c_X5_errorPosition hm hnr hs) cv_X5_errorPosition mw_206 mw_207 mw_205 (hm _ (id_gl (by decide))) cl5 (by show rS Λ ad _ _ _ _ = _; rw [rS_gl]; exact gl_0 _ _ _) rfl rfl (Nat.le_of_ble_eq_true rfl) (by decide) ⟨hk1 (Nat.add_le_add_left (by decide) k), hz1 (Nat.add_le_add_left (by decide) z)⟩ dL_law_234 ?_
  rintro v ids ad w9 ⟨rfl, rfl, M2, r1, rfl, rfl, hs⟩
  show G Γ _ _ (k + 1) (z + 3) (sh Λ _ M2 O) 237 [(4, .int v4), (3, .ref (ad 22 0)), (2, .ref (ad 21 0)), (1, .ref (ad 20 0)), (0, .ref b)] [.int r1]
  refine G_aload_n hO 2 dL_law_237 rfl rfl ?_
  refine KV_Gri hO (rest := [.int r1]) [] (rS_md Λ ad O) (fun l => c_X6_errorPosition (fun _ h9 => hm _ (id_md h9)) hs) cv_X6_errorPosition mw_895 mw_896 mw_894 (hm _ (id_md (by decide))) cl6 (by show rS Λ ad _ _ _ _ = _; rw [rS_md]; exact md_0 _ _ _) rfl rfl (Nat.le_of_ble_eq_true rfl) (by decide) rfl rfl (hk1 (by omega)) (hz1 (by omega)) dL_law_238 ?_
  intro r3 c4 hs
  refine G_icmp_eq hO 1783 dL_law_241 (by decide) (fun h5 => ?_) (fun h5 => ?_)
  · replace hs := hs.1 h5
    exact G_widen hO (by omega) (by omega) (hK _ _ hs)
  · replace hs := hs.2 h5
    refine G_iconst hO 0 dL_law_244 (by decide) ?_
    exact False.elim hs
set_option maxHeartbeats 4000000 in
set_option maxRecDepth 20000 in
theorem c_law_C3 {Γ : Cx} {Λ : Lay} {B : Nat} {ids : List (Nat × Nat)} {ad : Nat → Nat → Nat} {k z : Nat} {b L : Nat} {xs : Nat → Int32} (hO : Ok Γ RL cL_law 8 room_1 Λ B) (hL : LX Γ b L xs) (hm : ∀ q, q ∈ ids0 → q ∈ ids) (hnr : (20, 6) ∉ ids) {v4 : Int32} {K : Mem → (Nat → Int64) → Prop} {M : Mem} {O : Nat → Int64} (hs : wL_law_C3 L xs v4 K M O) (hk : k + 2 ≤ 601024) (hz : z + 9 ≤ 7293034) (hK : ∀ (M : Mem) (O : Nat → Int64), K M O → G Γ ids ad (k + 2) (z + 9) (sh Λ ad M O) 1783 [(4, .int v4), (3, .ref (ad 22 0)), (2, .ref (ad 21 0)), (1, .ref (ad 20 0)), (0, .ref b)] []) : G Γ ids ad k z (sh Λ ad M O) 246 [(4, .int v4), (3, .ref (ad 22 0)), (2, .ref (ad 21 0)), (1, .ref (ad 20 0)), (0, .ref b)] [] := by
  unfold wL_law_C3 at hs
  have hk1 : ∀ {q : Nat}, q ≤ k + 2 → q ≤ room_1.cells := fun h => Nat.le_trans h hk
  have hz1 : ∀ {q : Nat}, q ≤ z + 9 → q ≤ room_1.slots := fun h => Nat.le_trans h hz
  refine G_aload_n hO 3 dL_law_246 rfl rfl ?_
  refine G_aload_n hO 1 dL_law_247 rfl rfl ?_
  refine L_call hO hL (rest := []) [.ref (ad 20 0), .ref (ad 22 0)] (fun l h => c_L_load hm hnr hs h) cw_load mw_466 mw_465 rfl rfl (Nat.le_of_ble_eq_true rfl) (by decide) ⟨hk1 (Nat.add_le_add_left (by decide) k), hz1 (Nat.add_le_add_left (by decide) z)⟩ dL_law_248 ?_
  rintro v ids ad w9 ⟨rfl, rfl, M2, O3, r1, rfl, rfl, hs⟩
  show G Γ _ _ (k + 2) (z + 9) (sh Λ _ M2 O3) 251 [(4, .int v4), (3, .ref (ad 22 0)), (2, .ref (ad 21 0)), (1, .ref (ad 20 0)), (0, .ref b)] [.int r1]
  refine G_istore hO [(5, .int r1), (4, .int v4), (3, .ref (ad 22 0)), (2, .ref (ad 21 0)), (1, .ref (ad 20 0)), (0, .ref b)] dL_law_251 (by decide) rfl ?_
  refine G_aload_n hO 3 dL_law_253 rfl rfl ?_
  refine KV_Gri hO (rest := []) [] (rS_md Λ ad O3) (fun l => c_X6_load (fun _ h9 => hm _ (id_md h9)) hs) cv_X6_load mw_951 mw_952 mw_950 (hm _ (id_md (by decide))) cl6 (by show rS Λ ad _ _ _ _ = _; rw [rS_md]; exact md_0 _ _ _) rfl rfl (Nat.le_of_ble_eq_true rfl) (by decide) rfl rfl (hk1 (by omega)) (hz1 (by omega)) dL_law_254 ?_
  intro r4 c5 hs
  refine G_istore hO [(6, .int r4), (5, .int r1), (4, .int v4), (3, .ref (ad 22 0)), (2, .ref (ad 21 0)), (1, .ref (ad 20 0)), (0, .ref b)] dL_law_257 (by decide) rfl ?_
  refine G_aload_n hO 4 dL_law_259 rfl rfl ?_
  refine KV_Gri hO (rest := []) [] (rS_md Λ ad O3) (fun l => c_X6_thrown (fun _ h9 => hm _ (id_md h9)) hs) cv_X6_thrown mw_875 mw_876 mw_874 (hm _ (id_md (by decide))) cl6 (by show rS Λ ad _ _ _ _ = _; rw [rS_md]; exact md_0 _ _ _) rfl rfl (Nat.le_of_ble_eq_true rfl) (by decide) rfl rfl (hk1 (by omega)) (hz1 (by omega)) dL_law_260 ?_
  intro r6 c7 hs
  refine G_iload hO 1 dL_law_263 rfl ?_
  refine G_icmp_eq hO 270 dL_law_265 (by decide) (fun h10 => ?_) (fun h10 => ?_)
  · replace hs := hs.1 h10
    refine G_iload hO 1 dL_law_270 rfl ?_
    refine G_if_ne hO 287 dL_law_272 (by decide) (fun h9 => ?_) (fun h9 => ?_)
    · replace hs := hs.1 h9
      refine G_goto hO 1783 dL_law_287 (by decide) ?_
      refine G_lv hO [(4, .int v4), (3, .ref (ad 22 0)), (2, .ref (ad 21 0)), (1, .ref (ad 20 0)), (0, .ref b)] [2, 3, 4, 5, 6] rfl ?_
      exact G_widen hO (by omega) (by omega) (hK _ _ hs)
    · replace hs := hs.2 h9
      refine G_aload_n hO 3 dL_law_275 rfl rfl ?_
      refine G_iconst hO 0 dL_law_276 (by decide) ?_
      refine M_lald hO 0 (by decide) (hm _ id_ou) (vp_lit (by decide)) dL_law_277 ?_
      refine G_iload hO 0 dL_law_278 rfl ?_
      refine G_i2l hO dL_law_280 ?_
      refine G_lcmp hO dL_law_281 ?_
      refine G_if_eq hO 287 dL_law_282 (by decide) (fun h8 => ?_) (fun h8 => ?_)
      · replace hs := hs.1 h8
        refine G_goto hO 1783 dL_law_287 (by decide) ?_
        refine G_lv hO [(4, .int v4), (3, .ref (ad 22 0)), (2, .ref (ad 21 0)), (1, .ref (ad 20 0)), (0, .ref b)] [2, 3, 4, 5, 6] rfl ?_
        exact G_widen hO (by omega) (by omega) (hK _ _ hs)
      · replace hs := hs.2 h8
        refine G_iconst hO 0 dL_law_285 (by decide) ?_
        exact False.elim hs
  · replace hs := hs.2 h10
    refine G_iconst hO 0 dL_law_268 (by decide) ?_
    exact False.elim hs
set_option maxHeartbeats 4000000 in
set_option maxRecDepth 20000 in
theorem c_law_C4 {Γ : Cx} {Λ : Lay} {B : Nat} {ids : List (Nat × Nat)} {ad : Nat → Nat → Nat} {k z : Nat} {b L : Nat} {xs : Nat → Int32} (hO : Ok Γ RL cL_law 8 room_1 Λ B) (hL : LX Γ b L xs) (hm : ∀ q, q ∈ ids0 → q ∈ ids) (hnr : (20, 6) ∉ ids) {v4 : Int32} {K : Mem → (Nat → Int64) → Prop} {M : Mem} {O : Nat → Int64} (hs : wL_law_C4 L xs v4 K M O) (hk : k + 2 ≤ 601024) (hz : z + 9 ≤ 7293034) (hK : ∀ (M : Mem) (O : Nat → Int64), K M O → G Γ ids ad (k + 2) (z + 9) (sh Λ ad M O) 1783 [(4, .int v4), (3, .ref (ad 22 0)), (2, .ref (ad 21 0)), (1, .ref (ad 20 0)), (0, .ref b)] []) : G Γ ids ad k z (sh Λ ad M O) 290 [(4, .int v4), (3, .ref (ad 22 0)), (2, .ref (ad 21 0)), (1, .ref (ad 20 0)), (0, .ref b)] [] := by
  unfold wL_law_C4 at hs
  have hk1 : ∀ {q : Nat}, q ≤ k + 2 → q ≤ room_1.cells := fun h => Nat.le_trans h hk
  have hz1 : ∀ {q : Nat}, q ≤ z + 9 → q ≤ room_1.slots := fun h => Nat.le_trans h hz
  refine G_aload_n hO 3 dL_law_290 rfl rfl ?_
  refine G_aload_n hO 4 dL_law_291 rfl rfl ?_
  refine G_iload hO 0 dL_law_292 rfl ?_
  refine G_iconst hO 1 dL_law_294 (by decide) ?_
  refine G_iadd hO dL_law_295 ?_
  refine L_iald hO hL hs.1 dL_law_296 ?_
  replace hs := hs.2
  refine G_aload_n hO 1 dL_law_297 rfl rfl ?_
  refine L_call hO hL (rest := []) [.ref (ad 20 0), .int (xs (Int32.toNatClampNeg (v4 + 1))), .ref (ad 22 0)] (fun l h => c_L_about hm hs h) cw_about mw_478 mw_477 rfl rfl (Nat.le_of_ble_eq_true rfl) (by decide) ⟨hk1 (Nat.add_le_add_left (by decide) k), hz1 (Nat.add_le_add_left (by decide) z)⟩ dL_law_298 ?_
  rintro v ids ad w9 ⟨rfl, rfl, M2, O3, r1, rfl, rfl, hs⟩
  show G Γ _ _ (k + 1) (z + 6) (sh Λ _ M2 O3) 301 [(4, .int v4), (3, .ref (ad 22 0)), (2, .ref (ad 21 0)), (1, .ref (ad 20 0)), (0, .ref b)] [.int r1]
  refine G_istore hO [(5, .int r1), (4, .int v4), (3, .ref (ad 22 0)), (2, .ref (ad 21 0)), (1, .ref (ad 20 0)), (0, .ref b)] dL_law_301 (by decide) rfl ?_
  refine G_aload_n hO 3 dL_law_303 rfl rfl ?_
  refine G_aload_n hO 5 dL_law_304 rfl rfl ?_
  refine G_iload hO 1 dL_law_305 rfl ?_
  refine G_iconst hO 1 dL_law_307 (by decide) ?_
  refine G_iadd hO dL_law_308 ?_
  refine L_iald hO hL hs.1 dL_law_309 ?_
  replace hs := hs.2
  refine KV_Gri hO (rest := []) [.int (xs (Int32.toNatClampNeg (v4 + 1)))] (rS_md Λ ad O3) (fun l => c_X6_about (fun _ h9 => hm _ (id_md h9)) hs) cv_X6_about mw_958 mw_959 mw_957 (hm _ (id_md (by decide))) cl6 (by show rS Λ ad _ _ _ _ = _; rw [rS_md]; exact md_0 _ _ _) rfl rfl (Nat.le_of_ble_eq_true rfl) (by decide) rfl rfl (hk1 (by omega)) (hz1 (by omega)) dL_law_310 ?_
  intro r4 c5 hs
  refine G_istore hO [(6, .int r4), (5, .int r1), (4, .int v4), (3, .ref (ad 22 0)), (2, .ref (ad 21 0)), (1, .ref (ad 20 0)), (0, .ref b)] dL_law_313 (by decide) rfl ?_
  refine G_aload_n hO 4 dL_law_315 rfl rfl ?_
  refine KV_Gri hO (rest := []) [] (rS_md Λ ad O3) (fun l => c_X6_thrown (fun _ h9 => hm _ (id_md h9)) hs) cv_X6_thrown mw_875 mw_876 mw_874 (hm _ (id_md (by decide))) cl6 (by show rS Λ ad _ _ _ _ = _; rw [rS_md]; exact md_0 _ _ _) rfl rfl (Nat.le_of_ble_eq_true rfl) (by decide) rfl rfl (hk1 (by omega)) (hz1 (by omega)) dL_law_316 ?_
  intro r6 c7 hs
  refine G_iload hO 1 dL_law_319 rfl ?_
  refine G_icmp_eq hO 326 dL_law_321 (by decide) (fun h10 => ?_) (fun h10 => ?_)
  · replace hs := hs.1 h10
    refine G_iload hO 1 dL_law_326 rfl ?_
    refine G_if_ne hO 343 dL_law_328 (by decide) (fun h9 => ?_) (fun h9 => ?_)
    · replace hs := hs.1 h9
      refine G_goto hO 1783 dL_law_343 (by decide) ?_
      refine G_lv hO [(4, .int v4), (3, .ref (ad 22 0)), (2, .ref (ad 21 0)), (1, .ref (ad 20 0)), (0, .ref b)] [2, 3, 4, 5, 6] rfl ?_
      exact G_widen hO (by omega) (by omega) (hK _ _ hs)
    · replace hs := hs.2 h9
      refine G_aload_n hO 3 dL_law_331 rfl rfl ?_
      refine G_iconst hO 0 dL_law_332 (by decide) ?_
      refine M_lald hO 0 (by decide) (hm _ id_ou) (vp_lit (by decide)) dL_law_333 ?_
      refine G_iload hO 0 dL_law_334 rfl ?_
      refine G_i2l hO dL_law_336 ?_
      refine G_lcmp hO dL_law_337 ?_
      refine G_if_eq hO 343 dL_law_338 (by decide) (fun h8 => ?_) (fun h8 => ?_)
      · replace hs := hs.1 h8
        refine G_goto hO 1783 dL_law_343 (by decide) ?_
        refine G_lv hO [(4, .int v4), (3, .ref (ad 22 0)), (2, .ref (ad 21 0)), (1, .ref (ad 20 0)), (0, .ref b)] [2, 3, 4, 5, 6] rfl ?_
        exact G_widen hO (by omega) (by omega) (hK _ _ hs)
      · replace hs := hs.2 h8
        refine G_iconst hO 0 dL_law_341 (by decide) ?_
        exact False.elim hs
  · replace hs := hs.2 h10
    refine G_iconst hO 0 dL_law_324 (by decide) ?_
    exact False.elim hs
set_option maxHeartbeats 4000000 in
set_option maxRecDepth 20000 in
theorem c_law_C5 {Γ : Cx} {Λ : Lay} {B : Nat} {ids : List (Nat × Nat)} {ad : Nat → Nat → Nat} {k z : Nat} {b L : Nat} {xs : Nat → Int32} (hO : Ok Γ RL cL_law 8 room_1 Λ B) (hL : LX Γ b L xs) (hm : ∀ q, q ∈ ids0 → q ∈ ids) (hnr : (20, 6) ∉ ids) {v4 : Int32} {K : Mem → (Nat → Int64) → Prop} {M : Mem} {O : Nat → Int64} (hs : wL_law_C5 L xs v4 K M O) (hk : k + 2 ≤ 601024) (hz : z + 9 ≤ 7293034) (hK : ∀ (M : Mem) (O : Nat → Int64), K M O → G Γ ids ad (k + 2) (z + 9) (sh Λ ad M O) 1783 [(4, .int v4), (3, .ref (ad 22 0)), (2, .ref (ad 21 0)), (1, .ref (ad 20 0)), (0, .ref b)] []) : G Γ ids ad k z (sh Λ ad M O) 346 [(4, .int v4), (3, .ref (ad 22 0)), (2, .ref (ad 21 0)), (1, .ref (ad 20 0)), (0, .ref b)] [] := by
  unfold wL_law_C5 at hs
  have hk1 : ∀ {q : Nat}, q ≤ k + 2 → q ≤ room_1.cells := fun h => Nat.le_trans h hk
  have hz1 : ∀ {q : Nat}, q ≤ z + 9 → q ≤ room_1.slots := fun h => Nat.le_trans h hz
  refine G_aload_n hO 3 dL_law_346 rfl rfl ?_
  refine G_aload_n hO 4 dL_law_347 rfl rfl ?_
  refine G_iload hO 0 dL_law_348 rfl ?_
  refine G_iconst hO 1 dL_law_350 (by decide) ?_
  refine G_iadd hO dL_law_351 ?_
  refine L_iald hO hL hs.1 dL_law_352 ?_
  replace hs := hs.2
  refine G_aload_n hO 1 dL_law_353 rfl rfl ?_
  refine L_call hO hL (rest := []) [.ref (ad 20 0), .int (xs (Int32.toNatClampNeg (v4 + 1))), .ref (ad 22 0)] (fun l h => c_L_setting hm hs h) cw_setting mw_495 mw_494 rfl rfl (Nat.le_of_ble_eq_true rfl) (by decide) ⟨hk1 (Nat.add_le_add_left (by decide) k), hz1 (Nat.add_le_add_left (by decide) z)⟩ dL_law_354 ?_
  rintro v ids ad w9 ⟨rfl, rfl, M2, O3, r1, rfl, rfl, hs⟩
  show G Γ _ _ (k + 1) (z + 6) (sh Λ _ M2 O3) 357 [(4, .int v4), (3, .ref (ad 22 0)), (2, .ref (ad 21 0)), (1, .ref (ad 20 0)), (0, .ref b)] [.int r1]
  refine G_istore hO [(5, .int r1), (4, .int v4), (3, .ref (ad 22 0)), (2, .ref (ad 21 0)), (1, .ref (ad 20 0)), (0, .ref b)] dL_law_357 (by decide) rfl ?_
  refine G_aload_n hO 3 dL_law_359 rfl rfl ?_
  refine G_aload_n hO 5 dL_law_360 rfl rfl ?_
  refine G_iload hO 1 dL_law_361 rfl ?_
  refine G_iconst hO 1 dL_law_363 (by decide) ?_
  refine G_iadd hO dL_law_364 ?_
  refine L_iald hO hL hs.1 dL_law_365 ?_
  replace hs := hs.2
  refine KV_Gri hO (rest := []) [.int (xs (Int32.toNatClampNeg (v4 + 1)))] (rS_md Λ ad O3) (fun l => c_X6_setting (fun _ h9 => hm _ (id_md h9)) hs) cv_X6_setting mw_972 mw_973 mw_971 (hm _ (id_md (by decide))) cl6 (by show rS Λ ad _ _ _ _ = _; rw [rS_md]; exact md_0 _ _ _) rfl rfl (Nat.le_of_ble_eq_true rfl) (by decide) rfl rfl (hk1 (by omega)) (hz1 (by omega)) dL_law_366 ?_
  intro r4 c5 hs
  refine G_istore hO [(6, .int r4), (5, .int r1), (4, .int v4), (3, .ref (ad 22 0)), (2, .ref (ad 21 0)), (1, .ref (ad 20 0)), (0, .ref b)] dL_law_369 (by decide) rfl ?_
  refine G_aload_n hO 4 dL_law_371 rfl rfl ?_
  refine KV_Gri hO (rest := []) [] (rS_md Λ ad O3) (fun l => c_X6_thrown (fun _ h9 => hm _ (id_md h9)) hs) cv_X6_thrown mw_875 mw_876 mw_874 (hm _ (id_md (by decide))) cl6 (by show rS Λ ad _ _ _ _ = _; rw [rS_md]; exact md_0 _ _ _) rfl rfl (Nat.le_of_ble_eq_true rfl) (by decide) rfl rfl (hk1 (by omega)) (hz1 (by omega)) dL_law_372 ?_
  intro r6 c7 hs
  refine G_iload hO 1 dL_law_375 rfl ?_
  refine G_icmp_eq hO 382 dL_law_377 (by decide) (fun h10 => ?_) (fun h10 => ?_)
  · replace hs := hs.1 h10
    refine G_iload hO 1 dL_law_382 rfl ?_
    refine G_if_ne hO 399 dL_law_384 (by decide) (fun h9 => ?_) (fun h9 => ?_)
    · replace hs := hs.1 h9
      refine G_goto hO 1783 dL_law_399 (by decide) ?_
      refine G_lv hO [(4, .int v4), (3, .ref (ad 22 0)), (2, .ref (ad 21 0)), (1, .ref (ad 20 0)), (0, .ref b)] [2, 3, 4, 5, 6] rfl ?_
      exact G_widen hO (by omega) (by omega) (hK _ _ hs)
    · replace hs := hs.2 h9
      refine G_aload_n hO 3 dL_law_387 rfl rfl ?_
      refine G_iconst hO 0 dL_law_388 (by decide) ?_
      refine M_lald hO 0 (by decide) (hm _ id_ou) (vp_lit (by decide)) dL_law_389 ?_
      refine G_iload hO 0 dL_law_390 rfl ?_
      refine G_i2l hO dL_law_392 ?_
      refine G_lcmp hO dL_law_393 ?_
      refine G_if_eq hO 399 dL_law_394 (by decide) (fun h8 => ?_) (fun h8 => ?_)
      · replace hs := hs.1 h8
        refine G_goto hO 1783 dL_law_399 (by decide) ?_
        refine G_lv hO [(4, .int v4), (3, .ref (ad 22 0)), (2, .ref (ad 21 0)), (1, .ref (ad 20 0)), (0, .ref b)] [2, 3, 4, 5, 6] rfl ?_
        exact G_widen hO (by omega) (by omega) (hK _ _ hs)
      · replace hs := hs.2 h8
        refine G_iconst hO 0 dL_law_397 (by decide) ?_
        exact False.elim hs
  · replace hs := hs.2 h10
    refine G_iconst hO 0 dL_law_380 (by decide) ?_
    exact False.elim hs
set_option maxHeartbeats 4000000 in
set_option maxRecDepth 20000 in
theorem c_law_C6 {Γ : Cx} {Λ : Lay} {B : Nat} {ids : List (Nat × Nat)} {ad : Nat → Nat → Nat} {k z : Nat} {b L : Nat} {xs : Nat → Int32} (hO : Ok Γ RL cL_law 8 room_1 Λ B) (hL : LX Γ b L xs) (hm : ∀ q, q ∈ ids0 → q ∈ ids) (hnr : (20, 6) ∉ ids) {v4 : Int32} {K : Mem → (Nat → Int64) → Prop} {M : Mem} {O : Nat → Int64} (hs : wL_law_C6 L xs v4 K M O) (hk : k + 2 ≤ 601024) (hz : z + 9 ≤ 7293034) (hK : ∀ (M : Mem) (O : Nat → Int64), K M O → G Γ ids ad (k + 2) (z + 9) (sh Λ ad M O) 1783 [(4, .int v4), (3, .ref (ad 22 0)), (2, .ref (ad 21 0)), (1, .ref (ad 20 0)), (0, .ref b)] []) : G Γ ids ad k z (sh Λ ad M O) 402 [(4, .int v4), (3, .ref (ad 22 0)), (2, .ref (ad 21 0)), (1, .ref (ad 20 0)), (0, .ref b)] [] := by
  unfold wL_law_C6 at hs
  have hk1 : ∀ {q : Nat}, q ≤ k + 2 → q ≤ room_1.cells := fun h => Nat.le_trans h hk
  have hz1 : ∀ {q : Nat}, q ≤ z + 9 → q ≤ room_1.slots := fun h => Nat.le_trans h hz
  refine G_aload_n hO 3 dL_law_402 rfl rfl ?_
  refine G_aload_n hO 4 dL_law_403 rfl rfl ?_
  refine G_iload hO 0 dL_law_404 rfl ?_
  refine G_iconst hO 1 dL_law_406 (by decide) ?_
  refine G_iadd hO dL_law_407 ?_
  refine L_iald hO hL hs.1 dL_law_408 ?_
  replace hs := hs.2
  refine G_aload_n hO 4 dL_law_409 rfl rfl ?_
  refine G_iload hO 0 dL_law_410 rfl ?_
  refine G_iconst hO 2 dL_law_412 (by decide) ?_
  refine G_iadd hO dL_law_413 ?_
  refine L_iald hO hL hs.1 dL_law_414 ?_
  replace hs := hs.2
  refine G_aload_n hO 1 dL_law_415 rfl rfl ?_
  refine L_call hO hL (rest := []) [.ref (ad 20 0), .int (xs (Int32.toNatClampNeg (v4 + 1))), .int (xs (Int32.toNatClampNeg (v4 + 2))), .ref (ad 22 0)] (fun l h => c_L_place hm hs h) cw_place mw_503 mw_502 rfl rfl (Nat.le_of_ble_eq_true rfl) (by decide) ⟨hk1 (Nat.add_le_add_left (by decide) k), hz1 (Nat.add_le_add_left (by decide) z)⟩ dL_law_416 ?_
  rintro v ids ad w9 ⟨rfl, rfl, M2, O3, r1, rfl, rfl, hs⟩
  show G Γ _ _ (k + 1) (z + 6) (sh Λ _ M2 O3) 419 [(4, .int v4), (3, .ref (ad 22 0)), (2, .ref (ad 21 0)), (1, .ref (ad 20 0)), (0, .ref b)] [.int r1]
  refine G_istore hO [(5, .int r1), (4, .int v4), (3, .ref (ad 22 0)), (2, .ref (ad 21 0)), (1, .ref (ad 20 0)), (0, .ref b)] dL_law_419 (by decide) rfl ?_
  refine G_aload_n hO 3 dL_law_421 rfl rfl ?_
  refine G_aload_n hO 5 dL_law_422 rfl rfl ?_
  refine G_iload hO 1 dL_law_423 rfl ?_
  refine G_iconst hO 1 dL_law_425 (by decide) ?_
  refine G_iadd hO dL_law_426 ?_
  refine L_iald hO hL hs.1 dL_law_427 ?_
  replace hs := hs.2
  refine G_aload_n hO 5 dL_law_428 rfl rfl ?_
  refine G_iload hO 1 dL_law_429 rfl ?_
  refine G_iconst hO 2 dL_law_431 (by decide) ?_
  refine G_iadd hO dL_law_432 ?_
  refine L_iald hO hL hs.1 dL_law_433 ?_
  replace hs := hs.2
  refine KV_Gri hO (rest := []) [.int (xs (Int32.toNatClampNeg (v4 + 1))), .int (xs (Int32.toNatClampNeg (v4 + 2)))] (rS_md Λ ad O3) (fun l => c_X6_place (fun _ h9 => hm _ (id_md h9)) hs) cv_X6_place mw_977 mw_978 mw_976 (hm _ (id_md (by decide))) cl6 (by show rS Λ ad _ _ _ _ = _; rw [rS_md]; exact md_0 _ _ _) rfl rfl (Nat.le_of_ble_eq_true rfl) (by decide) rfl rfl (hk1 (by omega)) (hz1 (by omega)) dL_law_434 ?_
  intro r4 c5 hs
  refine G_istore hO [(6, .int r4), (5, .int r1), (4, .int v4), (3, .ref (ad 22 0)), (2, .ref (ad 21 0)), (1, .ref (ad 20 0)), (0, .ref b)] dL_law_437 (by decide) rfl ?_
  refine G_aload_n hO 4 dL_law_439 rfl rfl ?_
  refine KV_Gri hO (rest := []) [] (rS_md Λ ad O3) (fun l => c_X6_thrown (fun _ h9 => hm _ (id_md h9)) hs) cv_X6_thrown mw_875 mw_876 mw_874 (hm _ (id_md (by decide))) cl6 (by show rS Λ ad _ _ _ _ = _; rw [rS_md]; exact md_0 _ _ _) rfl rfl (Nat.le_of_ble_eq_true rfl) (by decide) rfl rfl (hk1 (by omega)) (hz1 (by omega)) dL_law_440 ?_
  intro r6 c7 hs
  refine G_iload hO 1 dL_law_443 rfl ?_
  refine G_icmp_eq hO 450 dL_law_445 (by decide) (fun h10 => ?_) (fun h10 => ?_)
  · replace hs := hs.1 h10
    refine G_iload hO 1 dL_law_450 rfl ?_
    refine G_if_ne hO 467 dL_law_452 (by decide) (fun h9 => ?_) (fun h9 => ?_)
    · replace hs := hs.1 h9
      refine G_goto hO 1783 dL_law_467 (by decide) ?_
      refine G_lv hO [(4, .int v4), (3, .ref (ad 22 0)), (2, .ref (ad 21 0)), (1, .ref (ad 20 0)), (0, .ref b)] [2, 3, 4, 5, 6] rfl ?_
      exact G_widen hO (by omega) (by omega) (hK _ _ hs)
    · replace hs := hs.2 h9
      refine G_aload_n hO 3 dL_law_455 rfl rfl ?_
      refine G_iconst hO 0 dL_law_456 (by decide) ?_
      refine M_lald hO 0 (by decide) (hm _ id_ou) (vp_lit (by decide)) dL_law_457 ?_
      refine G_iload hO 0 dL_law_458 rfl ?_
      refine G_i2l hO dL_law_460 ?_
      refine G_lcmp hO dL_law_461 ?_
      refine G_if_eq hO 467 dL_law_462 (by decide) (fun h8 => ?_) (fun h8 => ?_)
      · replace hs := hs.1 h8
        refine G_goto hO 1783 dL_law_467 (by decide) ?_
        refine G_lv hO [(4, .int v4), (3, .ref (ad 22 0)), (2, .ref (ad 21 0)), (1, .ref (ad 20 0)), (0, .ref b)] [2, 3, 4, 5, 6] rfl ?_
        exact G_widen hO (by omega) (by omega) (hK _ _ hs)
      · replace hs := hs.2 h8
        refine G_iconst hO 0 dL_law_465 (by decide) ?_
        exact False.elim hs
  · replace hs := hs.2 h10
    refine G_iconst hO 0 dL_law_448 (by decide) ?_
    exact False.elim hs
set_option maxHeartbeats 4000000 in
set_option maxRecDepth 20000 in
theorem c_law_C7 {Γ : Cx} {Λ : Lay} {B : Nat} {ids : List (Nat × Nat)} {ad : Nat → Nat → Nat} {k z : Nat} {b L : Nat} {xs : Nat → Int32} (hO : Ok Γ RL cL_law 8 room_1 Λ B) (hL : LX Γ b L xs) (hm : ∀ q, q ∈ ids0 → q ∈ ids) (hnr : (20, 6) ∉ ids) {v4 : Int32} {K : Mem → (Nat → Int64) → Prop} {M : Mem} {O : Nat → Int64} (hs : wL_law_C7 L xs v4 K M O) (hk : k + 2 ≤ 601024) (hz : z + 9 ≤ 7293034) (hK : ∀ (M : Mem) (O : Nat → Int64), K M O → G Γ ids ad (k + 2) (z + 9) (sh Λ ad M O) 1783 [(4, .int v4), (3, .ref (ad 22 0)), (2, .ref (ad 21 0)), (1, .ref (ad 20 0)), (0, .ref b)] []) : G Γ ids ad k z (sh Λ ad M O) 470 [(4, .int v4), (3, .ref (ad 22 0)), (2, .ref (ad 21 0)), (1, .ref (ad 20 0)), (0, .ref b)] [] := by
  unfold wL_law_C7 at hs
  have hk1 : ∀ {q : Nat}, q ≤ k + 2 → q ≤ room_1.cells := fun h => Nat.le_trans h hk
  have hz1 : ∀ {q : Nat}, q ≤ z + 9 → q ≤ room_1.slots := fun h => Nat.le_trans h hz
  refine G_aload_n hO 3 dL_law_470 rfl rfl ?_
  refine G_aload_n hO 4 dL_law_471 rfl rfl ?_
  refine G_iload hO 0 dL_law_472 rfl ?_
  refine G_iconst hO 1 dL_law_474 (by decide) ?_
  refine G_iadd hO dL_law_475 ?_
  refine L_iald hO hL hs.1 dL_law_476 ?_
  replace hs := hs.2
  refine G_aload_n hO 4 dL_law_477 rfl rfl ?_
  refine G_iload hO 0 dL_law_478 rfl ?_
  refine G_iconst hO 2 dL_law_480 (by decide) ?_
  refine G_iadd hO dL_law_481 ?_
  refine L_iald hO hL hs.1 dL_law_482 ?_
  replace hs := hs.2
  refine G_aload_n hO 1 dL_law_483 rfl rfl ?_
  refine L_call hO hL (rest := []) [.ref (ad 20 0), .int (xs (Int32.toNatClampNeg (v4 + 1))), .int (xs (Int32.toNatClampNeg (v4 + 2))), .ref (ad 22 0)] (fun l h => c_L_room hm hs h) cw_room mw_544 mw_543 rfl rfl (Nat.le_of_ble_eq_true rfl) (by decide) ⟨hk1 (Nat.add_le_add_left (by decide) k), hz1 (Nat.add_le_add_left (by decide) z)⟩ dL_law_484 ?_
  rintro v ids ad w9 ⟨rfl, rfl, M2, O3, r1, rfl, rfl, hs⟩
  show G Γ _ _ (k + 1) (z + 6) (sh Λ _ M2 O3) 487 [(4, .int v4), (3, .ref (ad 22 0)), (2, .ref (ad 21 0)), (1, .ref (ad 20 0)), (0, .ref b)] [.int r1]
  refine G_istore hO [(5, .int r1), (4, .int v4), (3, .ref (ad 22 0)), (2, .ref (ad 21 0)), (1, .ref (ad 20 0)), (0, .ref b)] dL_law_487 (by decide) rfl ?_
  refine G_aload_n hO 3 dL_law_489 rfl rfl ?_
  refine G_aload_n hO 5 dL_law_490 rfl rfl ?_
  refine G_iload hO 1 dL_law_491 rfl ?_
  refine G_iconst hO 1 dL_law_493 (by decide) ?_
  refine G_iadd hO dL_law_494 ?_
  refine L_iald hO hL hs.1 dL_law_495 ?_
  replace hs := hs.2
  refine G_aload_n hO 5 dL_law_496 rfl rfl ?_
  refine G_iload hO 1 dL_law_497 rfl ?_
  refine G_iconst hO 2 dL_law_499 (by decide) ?_
  refine G_iadd hO dL_law_500 ?_
  refine L_iald hO hL hs.1 dL_law_501 ?_
  replace hs := hs.2
  refine KV_Gri hO (rest := []) [.int (xs (Int32.toNatClampNeg (v4 + 1))), .int (xs (Int32.toNatClampNeg (v4 + 2)))] (rS_md Λ ad O3) (fun l => c_X6_room (fun _ h9 => hm _ (id_md h9)) hs) cv_X6_room mw_995 mw_996 mw_994 (hm _ (id_md (by decide))) cl6 (by show rS Λ ad _ _ _ _ = _; rw [rS_md]; exact md_0 _ _ _) rfl rfl (Nat.le_of_ble_eq_true rfl) (by decide) rfl rfl (hk1 (by omega)) (hz1 (by omega)) dL_law_502 ?_
  intro r4 c5 hs
  refine G_istore hO [(6, .int r4), (5, .int r1), (4, .int v4), (3, .ref (ad 22 0)), (2, .ref (ad 21 0)), (1, .ref (ad 20 0)), (0, .ref b)] dL_law_505 (by decide) rfl ?_
  refine G_aload_n hO 4 dL_law_507 rfl rfl ?_
  refine KV_Gri hO (rest := []) [] (rS_md Λ ad O3) (fun l => c_X6_thrown (fun _ h9 => hm _ (id_md h9)) hs) cv_X6_thrown mw_875 mw_876 mw_874 (hm _ (id_md (by decide))) cl6 (by show rS Λ ad _ _ _ _ = _; rw [rS_md]; exact md_0 _ _ _) rfl rfl (Nat.le_of_ble_eq_true rfl) (by decide) rfl rfl (hk1 (by omega)) (hz1 (by omega)) dL_law_508 ?_
  intro r6 c7 hs
  refine G_iload hO 1 dL_law_511 rfl ?_
  refine G_icmp_eq hO 518 dL_law_513 (by decide) (fun h10 => ?_) (fun h10 => ?_)
  · replace hs := hs.1 h10
    refine G_iload hO 1 dL_law_518 rfl ?_
    refine G_if_ne hO 535 dL_law_520 (by decide) (fun h9 => ?_) (fun h9 => ?_)
    · replace hs := hs.1 h9
      refine G_goto hO 1783 dL_law_535 (by decide) ?_
      refine G_lv hO [(4, .int v4), (3, .ref (ad 22 0)), (2, .ref (ad 21 0)), (1, .ref (ad 20 0)), (0, .ref b)] [2, 3, 4, 5, 6] rfl ?_
      exact G_widen hO (by omega) (by omega) (hK _ _ hs)
    · replace hs := hs.2 h9
      refine G_aload_n hO 3 dL_law_523 rfl rfl ?_
      refine G_iconst hO 0 dL_law_524 (by decide) ?_
      refine M_lald hO 0 (by decide) (hm _ id_ou) (vp_lit (by decide)) dL_law_525 ?_
      refine G_iload hO 0 dL_law_526 rfl ?_
      refine G_i2l hO dL_law_528 ?_
      refine G_lcmp hO dL_law_529 ?_
      refine G_if_eq hO 535 dL_law_530 (by decide) (fun h8 => ?_) (fun h8 => ?_)
      · replace hs := hs.1 h8
        refine G_goto hO 1783 dL_law_535 (by decide) ?_
        refine G_lv hO [(4, .int v4), (3, .ref (ad 22 0)), (2, .ref (ad 21 0)), (1, .ref (ad 20 0)), (0, .ref b)] [2, 3, 4, 5, 6] rfl ?_
        exact G_widen hO (by omega) (by omega) (hK _ _ hs)
      · replace hs := hs.2 h8
        refine G_iconst hO 0 dL_law_533 (by decide) ?_
        exact False.elim hs
  · replace hs := hs.2 h10
    refine G_iconst hO 0 dL_law_516 (by decide) ?_
    exact False.elim hs
set_option maxHeartbeats 4000000 in
set_option maxRecDepth 20000 in
theorem c_law_C8 {Γ : Cx} {Λ : Lay} {B : Nat} {ids : List (Nat × Nat)} {ad : Nat → Nat → Nat} {k z : Nat} {b L : Nat} {xs : Nat → Int32} (hO : Ok Γ RL cL_law 8 room_1 Λ B) (hL : LX Γ b L xs) (hm : ∀ q, q ∈ ids0 → q ∈ ids) (hnr : (20, 6) ∉ ids) {v4 : Int32} {K : Mem → (Nat → Int64) → Prop} {M : Mem} {O : Nat → Int64} (hs : wL_law_C8 L xs v4 K M O) (hk : k + 2 ≤ 601024) (hz : z + 9 ≤ 7293034) (hK : ∀ (M : Mem) (O : Nat → Int64), K M O → G Γ ids ad (k + 2) (z + 9) (sh Λ ad M O) 1783 [(4, .int v4), (3, .ref (ad 22 0)), (2, .ref (ad 21 0)), (1, .ref (ad 20 0)), (0, .ref b)] []) : G Γ ids ad k z (sh Λ ad M O) 538 [(4, .int v4), (3, .ref (ad 22 0)), (2, .ref (ad 21 0)), (1, .ref (ad 20 0)), (0, .ref b)] [] := by
  unfold wL_law_C8 at hs
  have hk1 : ∀ {q : Nat}, q ≤ k + 2 → q ≤ room_1.cells := fun h => Nat.le_trans h hk
  have hz1 : ∀ {q : Nat}, q ≤ z + 9 → q ≤ room_1.slots := fun h => Nat.le_trans h hz
  refine G_aload_n hO 3 dL_law_538 rfl rfl ?_
  refine G_aload_n hO 4 dL_law_539 rfl rfl ?_
  refine G_iload hO 0 dL_law_540 rfl ?_
  refine G_iconst hO 1 dL_law_542 (by decide) ?_
  refine G_iadd hO dL_law_543 ?_
  refine L_iald hO hL hs.1 dL_law_544 ?_
  replace hs := hs.2
  refine G_aload_n hO 4 dL_law_545 rfl rfl ?_
  refine G_iload hO 0 dL_law_546 rfl ?_
  refine G_iconst hO 2 dL_law_548 (by decide) ?_
  refine G_iadd hO dL_law_549 ?_
  refine L_iald hO hL hs.1 dL_law_550 ?_
  replace hs := hs.2
  refine G_aload_n hO 1 dL_law_551 rfl rfl ?_
  refine L_call hO hL (rest := []) [.ref (ad 20 0), .int (xs (Int32.toNatClampNeg (v4 + 1))), .int (xs (Int32.toNatClampNeg (v4 + 2))), .ref (ad 22 0)] (fun l h => c_L_moved hm hs h) cw_moved mw_554 mw_553 rfl rfl (Nat.le_of_ble_eq_true rfl) (by decide) ⟨hk1 (Nat.add_le_add_left (by decide) k), hz1 (Nat.add_le_add_left (by decide) z)⟩ dL_law_552 ?_
  rintro v ids ad w9 ⟨rfl, rfl, M2, O3, r1, rfl, rfl, hs⟩
  show G Γ _ _ (k + 1) (z + 6) (sh Λ _ M2 O3) 555 [(4, .int v4), (3, .ref (ad 22 0)), (2, .ref (ad 21 0)), (1, .ref (ad 20 0)), (0, .ref b)] [.int r1]
  refine G_istore hO [(5, .int r1), (4, .int v4), (3, .ref (ad 22 0)), (2, .ref (ad 21 0)), (1, .ref (ad 20 0)), (0, .ref b)] dL_law_555 (by decide) rfl ?_
  refine G_aload_n hO 3 dL_law_557 rfl rfl ?_
  refine G_aload_n hO 5 dL_law_558 rfl rfl ?_
  refine G_iload hO 1 dL_law_559 rfl ?_
  refine G_iconst hO 1 dL_law_561 (by decide) ?_
  refine G_iadd hO dL_law_562 ?_
  refine L_iald hO hL hs.1 dL_law_563 ?_
  replace hs := hs.2
  refine G_aload_n hO 5 dL_law_564 rfl rfl ?_
  refine G_iload hO 1 dL_law_565 rfl ?_
  refine G_iconst hO 2 dL_law_567 (by decide) ?_
  refine G_iadd hO dL_law_568 ?_
  refine L_iald hO hL hs.1 dL_law_569 ?_
  replace hs := hs.2
  refine KV_Gri hO (rest := []) [.int (xs (Int32.toNatClampNeg (v4 + 1))), .int (xs (Int32.toNatClampNeg (v4 + 2)))] (rS_md Λ ad O3) (fun l => c_X6_moved (fun _ h9 => hm _ (id_md h9)) hs) cv_X6_moved mw_1004 mw_1005 mw_1003 (hm _ (id_md (by decide))) cl6 (by show rS Λ ad _ _ _ _ = _; rw [rS_md]; exact md_0 _ _ _) rfl rfl (Nat.le_of_ble_eq_true rfl) (by decide) rfl rfl (hk1 (by omega)) (hz1 (by omega)) dL_law_570 ?_
  intro r4 c5 hs
  refine G_istore hO [(6, .int r4), (5, .int r1), (4, .int v4), (3, .ref (ad 22 0)), (2, .ref (ad 21 0)), (1, .ref (ad 20 0)), (0, .ref b)] dL_law_573 (by decide) rfl ?_
  refine G_aload_n hO 4 dL_law_575 rfl rfl ?_
  refine KV_Gri hO (rest := []) [] (rS_md Λ ad O3) (fun l => c_X6_thrown (fun _ h9 => hm _ (id_md h9)) hs) cv_X6_thrown mw_875 mw_876 mw_874 (hm _ (id_md (by decide))) cl6 (by show rS Λ ad _ _ _ _ = _; rw [rS_md]; exact md_0 _ _ _) rfl rfl (Nat.le_of_ble_eq_true rfl) (by decide) rfl rfl (hk1 (by omega)) (hz1 (by omega)) dL_law_576 ?_
  intro r6 c7 hs
  refine G_iload hO 1 dL_law_579 rfl ?_
  refine G_icmp_eq hO 586 dL_law_581 (by decide) (fun h10 => ?_) (fun h10 => ?_)
  · replace hs := hs.1 h10
    refine G_iload hO 1 dL_law_586 rfl ?_
    refine G_if_ne hO 603 dL_law_588 (by decide) (fun h9 => ?_) (fun h9 => ?_)
    · replace hs := hs.1 h9
      refine G_goto hO 1783 dL_law_603 (by decide) ?_
      refine G_lv hO [(4, .int v4), (3, .ref (ad 22 0)), (2, .ref (ad 21 0)), (1, .ref (ad 20 0)), (0, .ref b)] [2, 3, 4, 5, 6] rfl ?_
      exact G_widen hO (by omega) (by omega) (hK _ _ hs)
    · replace hs := hs.2 h9
      refine G_aload_n hO 3 dL_law_591 rfl rfl ?_
      refine G_iconst hO 0 dL_law_592 (by decide) ?_
      refine M_lald hO 0 (by decide) (hm _ id_ou) (vp_lit (by decide)) dL_law_593 ?_
      refine G_iload hO 0 dL_law_594 rfl ?_
      refine G_i2l hO dL_law_596 ?_
      refine G_lcmp hO dL_law_597 ?_
      refine G_if_eq hO 603 dL_law_598 (by decide) (fun h8 => ?_) (fun h8 => ?_)
      · replace hs := hs.1 h8
        refine G_goto hO 1783 dL_law_603 (by decide) ?_
        refine G_lv hO [(4, .int v4), (3, .ref (ad 22 0)), (2, .ref (ad 21 0)), (1, .ref (ad 20 0)), (0, .ref b)] [2, 3, 4, 5, 6] rfl ?_
        exact G_widen hO (by omega) (by omega) (hK _ _ hs)
      · replace hs := hs.2 h8
        refine G_iconst hO 0 dL_law_601 (by decide) ?_
        exact False.elim hs
  · replace hs := hs.2 h10
    refine G_iconst hO 0 dL_law_584 (by decide) ?_
    exact False.elim hs
set_option maxHeartbeats 4000000 in
set_option maxRecDepth 20000 in
theorem c_law_C9 {Γ : Cx} {Λ : Lay} {B : Nat} {ids : List (Nat × Nat)} {ad : Nat → Nat → Nat} {k z : Nat} {b L : Nat} {xs : Nat → Int32} (hO : Ok Γ RL cL_law 8 room_1 Λ B) (hL : LX Γ b L xs) (hm : ∀ q, q ∈ ids0 → q ∈ ids) (hnr : (20, 6) ∉ ids) {v4 : Int32} {K : Mem → (Nat → Int64) → Prop} {M : Mem} {O : Nat → Int64} (hs : wL_law_C9 L xs v4 K M O) (hk : k + 2 ≤ 601024) (hz : z + 9 ≤ 7293034) (hK : ∀ (M : Mem) (O : Nat → Int64), K M O → G Γ ids ad (k + 2) (z + 9) (sh Λ ad M O) 1783 [(4, .int v4), (3, .ref (ad 22 0)), (2, .ref (ad 21 0)), (1, .ref (ad 20 0)), (0, .ref b)] []) : G Γ ids ad k z (sh Λ ad M O) 606 [(4, .int v4), (3, .ref (ad 22 0)), (2, .ref (ad 21 0)), (1, .ref (ad 20 0)), (0, .ref b)] [] := by
  unfold wL_law_C9 at hs
  have hk1 : ∀ {q : Nat}, q ≤ k + 2 → q ≤ room_1.cells := fun h => Nat.le_trans h hk
  have hz1 : ∀ {q : Nat}, q ≤ z + 9 → q ≤ room_1.slots := fun h => Nat.le_trans h hz
  refine G_aload_n hO 3 dL_law_606 rfl rfl ?_
  refine G_aload_n hO 4 dL_law_607 rfl rfl ?_
  refine G_iload hO 0 dL_law_608 rfl ?_
  refine G_iconst hO 1 dL_law_610 (by decide) ?_
  refine G_iadd hO dL_law_611 ?_
  refine L_iald hO hL hs.1 dL_law_612 ?_
  replace hs := hs.2
  refine G_aload_n hO 4 dL_law_613 rfl rfl ?_
  refine G_iload hO 0 dL_law_614 rfl ?_
  refine G_iconst hO 2 dL_law_616 (by decide) ?_
  refine G_iadd hO dL_law_617 ?_
  refine L_iald hO hL hs.1 dL_law_618 ?_
  replace hs := hs.2
  refine G_aload_n hO 1 dL_law_619 rfl rfl ?_
  refine L_call hO hL (rest := []) [.ref (ad 20 0), .int (xs (Int32.toNatClampNeg (v4 + 1))), .int (xs (Int32.toNatClampNeg (v4 + 2))), .ref (ad 22 0)] (fun l h => c_L_way hm hs h) cw_way mw_566 mw_565 rfl rfl (Nat.le_of_ble_eq_true rfl) (by decide) ⟨hk1 (Nat.add_le_add_left (by decide) k), hz1 (Nat.add_le_add_left (by decide) z)⟩ dL_law_620 ?_
  rintro v ids ad w9 ⟨rfl, rfl, M2, O3, r1, rfl, rfl, hs⟩
  show G Γ _ _ (k + 1) (z + 6) (sh Λ _ M2 O3) 623 [(4, .int v4), (3, .ref (ad 22 0)), (2, .ref (ad 21 0)), (1, .ref (ad 20 0)), (0, .ref b)] [.int r1]
  refine G_istore hO [(5, .int r1), (4, .int v4), (3, .ref (ad 22 0)), (2, .ref (ad 21 0)), (1, .ref (ad 20 0)), (0, .ref b)] dL_law_623 (by decide) rfl ?_
  refine G_aload_n hO 3 dL_law_625 rfl rfl ?_
  refine G_aload_n hO 5 dL_law_626 rfl rfl ?_
  refine G_iload hO 1 dL_law_627 rfl ?_
  refine G_iconst hO 1 dL_law_629 (by decide) ?_
  refine G_iadd hO dL_law_630 ?_
  refine L_iald hO hL hs.1 dL_law_631 ?_
  replace hs := hs.2
  refine G_aload_n hO 5 dL_law_632 rfl rfl ?_
  refine G_iload hO 1 dL_law_633 rfl ?_
  refine G_iconst hO 2 dL_law_635 (by decide) ?_
  refine G_iadd hO dL_law_636 ?_
  refine L_iald hO hL hs.1 dL_law_637 ?_
  replace hs := hs.2
  refine KV_Gri hO (rest := []) [.int (xs (Int32.toNatClampNeg (v4 + 1))), .int (xs (Int32.toNatClampNeg (v4 + 2)))] (rS_md Λ ad O3) (fun l => c_X6_way (fun _ h9 => hm _ (id_md h9)) hs) cv_X6_way mw_1011 mw_1012 mw_1010 (hm _ (id_md (by decide))) cl6 (by show rS Λ ad _ _ _ _ = _; rw [rS_md]; exact md_0 _ _ _) rfl rfl (Nat.le_of_ble_eq_true rfl) (by decide) rfl rfl (hk1 (by omega)) (hz1 (by omega)) dL_law_638 ?_
  intro r4 c5 hs
  refine G_istore hO [(6, .int r4), (5, .int r1), (4, .int v4), (3, .ref (ad 22 0)), (2, .ref (ad 21 0)), (1, .ref (ad 20 0)), (0, .ref b)] dL_law_641 (by decide) rfl ?_
  refine G_aload_n hO 4 dL_law_643 rfl rfl ?_
  refine KV_Gri hO (rest := []) [] (rS_md Λ ad O3) (fun l => c_X6_thrown (fun _ h9 => hm _ (id_md h9)) hs) cv_X6_thrown mw_875 mw_876 mw_874 (hm _ (id_md (by decide))) cl6 (by show rS Λ ad _ _ _ _ = _; rw [rS_md]; exact md_0 _ _ _) rfl rfl (Nat.le_of_ble_eq_true rfl) (by decide) rfl rfl (hk1 (by omega)) (hz1 (by omega)) dL_law_644 ?_
  intro r6 c7 hs
  refine G_iload hO 1 dL_law_647 rfl ?_
  refine G_icmp_eq hO 654 dL_law_649 (by decide) (fun h10 => ?_) (fun h10 => ?_)
  · replace hs := hs.1 h10
    refine G_iload hO 1 dL_law_654 rfl ?_
    refine G_if_ne hO 671 dL_law_656 (by decide) (fun h9 => ?_) (fun h9 => ?_)
    · replace hs := hs.1 h9
      refine G_goto hO 1783 dL_law_671 (by decide) ?_
      refine G_lv hO [(4, .int v4), (3, .ref (ad 22 0)), (2, .ref (ad 21 0)), (1, .ref (ad 20 0)), (0, .ref b)] [2, 3, 4, 5, 6] rfl ?_
      exact G_widen hO (by omega) (by omega) (hK _ _ hs)
    · replace hs := hs.2 h9
      refine G_aload_n hO 3 dL_law_659 rfl rfl ?_
      refine G_iconst hO 0 dL_law_660 (by decide) ?_
      refine M_lald hO 0 (by decide) (hm _ id_ou) (vp_lit (by decide)) dL_law_661 ?_
      refine G_iload hO 0 dL_law_662 rfl ?_
      refine G_i2l hO dL_law_664 ?_
      refine G_lcmp hO dL_law_665 ?_
      refine G_if_eq hO 671 dL_law_666 (by decide) (fun h8 => ?_) (fun h8 => ?_)
      · replace hs := hs.1 h8
        refine G_goto hO 1783 dL_law_671 (by decide) ?_
        refine G_lv hO [(4, .int v4), (3, .ref (ad 22 0)), (2, .ref (ad 21 0)), (1, .ref (ad 20 0)), (0, .ref b)] [2, 3, 4, 5, 6] rfl ?_
        exact G_widen hO (by omega) (by omega) (hK _ _ hs)
      · replace hs := hs.2 h8
        refine G_iconst hO 0 dL_law_669 (by decide) ?_
        exact False.elim hs
  · replace hs := hs.2 h10
    refine G_iconst hO 0 dL_law_652 (by decide) ?_
    exact False.elim hs
set_option maxHeartbeats 4000000 in
set_option maxRecDepth 20000 in
theorem c_law_C10 {Γ : Cx} {Λ : Lay} {B : Nat} {ids : List (Nat × Nat)} {ad : Nat → Nat → Nat} {k z : Nat} {b L : Nat} {xs : Nat → Int32} (hO : Ok Γ RL cL_law 8 room_1 Λ B) (hL : LX Γ b L xs) (hm : ∀ q, q ∈ ids0 → q ∈ ids) (hnr : (20, 6) ∉ ids) {v4 : Int32} {K : Mem → (Nat → Int64) → Prop} {M : Mem} {O : Nat → Int64} (hs : wL_law_C10 L xs v4 K M O) (hk : k + 2 ≤ 601024) (hz : z + 9 ≤ 7293034) (hK : ∀ (M : Mem) (O : Nat → Int64), K M O → G Γ ids ad (k + 2) (z + 9) (sh Λ ad M O) 1783 [(4, .int v4), (3, .ref (ad 22 0)), (2, .ref (ad 21 0)), (1, .ref (ad 20 0)), (0, .ref b)] []) : G Γ ids ad k z (sh Λ ad M O) 674 [(4, .int v4), (3, .ref (ad 22 0)), (2, .ref (ad 21 0)), (1, .ref (ad 20 0)), (0, .ref b)] [] := by
  unfold wL_law_C10 at hs
  have hk1 : ∀ {q : Nat}, q ≤ k + 2 → q ≤ room_1.cells := fun h => Nat.le_trans h hk
  have hz1 : ∀ {q : Nat}, q ≤ z + 9 → q ≤ room_1.slots := fun h => Nat.le_trans h hz
  refine G_aload_n hO 3 dL_law_674 rfl rfl ?_
  refine G_aload_n hO 4 dL_law_675 rfl rfl ?_
  refine G_iload hO 0 dL_law_676 rfl ?_
  refine G_iconst hO 1 dL_law_678 (by decide) ?_
  refine G_iadd hO dL_law_679 ?_
  refine L_iald hO hL hs.1 dL_law_680 ?_
  replace hs := hs.2
  refine G_aload_n hO 4 dL_law_681 rfl rfl ?_
  refine G_iload hO 0 dL_law_682 rfl ?_
  refine G_iconst hO 2 dL_law_684 (by decide) ?_
  refine G_iadd hO dL_law_685 ?_
  refine L_iald hO hL hs.1 dL_law_686 ?_
  replace hs := hs.2
  refine G_aload_n hO 4 dL_law_687 rfl rfl ?_
  refine G_iload hO 0 dL_law_688 rfl ?_
  refine G_iconst hO 3 dL_law_690 (by decide) ?_
  refine G_iadd hO dL_law_691 ?_
  refine L_iald hO hL hs.1 dL_law_692 ?_
  replace hs := hs.2
  refine G_aload_n hO 4 dL_law_693 rfl rfl ?_
  refine G_iload hO 0 dL_law_694 rfl ?_
  refine G_iconst hO 4 dL_law_696 (by decide) ?_
  refine G_iadd hO dL_law_697 ?_
  refine L_iald hO hL hs.1 dL_law_698 ?_
  replace hs := hs.2
  refine G_aload_n hO 1 dL_law_699 rfl rfl ?_
  refine L_call hO hL (rest := []) [.ref (ad 20 0), .int (xs (Int32.toNatClampNeg (v4 + 1))), .int (xs (Int32.toNatClampNeg (v4 + 2))), .int (xs (Int32.toNatClampNeg (v4 + 3))), .int (xs (Int32.toNatClampNeg (v4 + 4))), .ref (ad 22 0)] (fun l h => c_L_addRoom hm hs h) cw_addRoom mw_579 mw_578 rfl rfl (Nat.le_of_ble_eq_true rfl) (by decide) ⟨hk1 (Nat.add_le_add_left (by decide) k), hz1 (Nat.add_le_add_left (by decide) z)⟩ dL_law_700 ?_
  rintro v ids ad w9 ⟨rfl, rfl, M2, O3, r1, rfl, rfl, hs⟩
  show G Γ _ _ (k + 1) (z + 6) (sh Λ _ M2 O3) 703 [(4, .int v4), (3, .ref (ad 22 0)), (2, .ref (ad 21 0)), (1, .ref (ad 20 0)), (0, .ref b)] [.int r1]
  refine G_istore hO [(5, .int r1), (4, .int v4), (3, .ref (ad 22 0)), (2, .ref (ad 21 0)), (1, .ref (ad 20 0)), (0, .ref b)] dL_law_703 (by decide) rfl ?_
  refine G_aload_n hO 3 dL_law_705 rfl rfl ?_
  refine G_aload_n hO 5 dL_law_706 rfl rfl ?_
  refine G_iload hO 1 dL_law_707 rfl ?_
  refine G_iconst hO 1 dL_law_709 (by decide) ?_
  refine G_iadd hO dL_law_710 ?_
  refine L_iald hO hL hs.1 dL_law_711 ?_
  replace hs := hs.2
  refine G_aload_n hO 5 dL_law_712 rfl rfl ?_
  refine G_iload hO 1 dL_law_713 rfl ?_
  refine G_iconst hO 2 dL_law_715 (by decide) ?_
  refine G_iadd hO dL_law_716 ?_
  refine L_iald hO hL hs.1 dL_law_717 ?_
  replace hs := hs.2
  refine G_aload_n hO 5 dL_law_718 rfl rfl ?_
  refine G_iload hO 1 dL_law_719 rfl ?_
  refine G_iconst hO 3 dL_law_721 (by decide) ?_
  refine G_iadd hO dL_law_722 ?_
  refine L_iald hO hL hs.1 dL_law_723 ?_
  replace hs := hs.2
  refine G_aload_n hO 5 dL_law_724 rfl rfl ?_
  refine G_iload hO 1 dL_law_725 rfl ?_
  refine G_iconst hO 4 dL_law_727 (by decide) ?_
  refine G_iadd hO dL_law_728 ?_
  refine L_iald hO hL hs.1 dL_law_729 ?_
  replace hs := hs.2
  refine KV_Gri hO (rest := []) [.int (xs (Int32.toNatClampNeg (v4 + 1))), .int (xs (Int32.toNatClampNeg (v4 + 2))), .int (xs (Int32.toNatClampNeg (v4 + 3))), .int (xs (Int32.toNatClampNeg (v4 + 4)))] (rS_md Λ ad O3) (fun l => c_X6_addRoom (fun _ h9 => hm _ (id_md h9)) hs) cv_X6_addRoom mw_1015 mw_1016 mw_1014 (hm _ (id_md (by decide))) cl6 (by show rS Λ ad _ _ _ _ = _; rw [rS_md]; exact md_0 _ _ _) rfl rfl (Nat.le_of_ble_eq_true rfl) (by decide) rfl rfl (hk1 (by omega)) (hz1 (by omega)) dL_law_730 ?_
  intro r4 c5 hs
  refine G_istore hO [(6, .int r4), (5, .int r1), (4, .int v4), (3, .ref (ad 22 0)), (2, .ref (ad 21 0)), (1, .ref (ad 20 0)), (0, .ref b)] dL_law_733 (by decide) rfl ?_
  refine G_aload_n hO 4 dL_law_735 rfl rfl ?_
  refine KV_Gri hO (rest := []) [] (rS_md Λ ad O3) (fun l => c_X6_thrown (fun _ h9 => hm _ (id_md h9)) hs) cv_X6_thrown mw_875 mw_876 mw_874 (hm _ (id_md (by decide))) cl6 (by show rS Λ ad _ _ _ _ = _; rw [rS_md]; exact md_0 _ _ _) rfl rfl (Nat.le_of_ble_eq_true rfl) (by decide) rfl rfl (hk1 (by omega)) (hz1 (by omega)) dL_law_736 ?_
  intro r6 c7 hs
  refine G_iload hO 1 dL_law_739 rfl ?_
  refine G_icmp_eq hO 746 dL_law_741 (by decide) (fun h10 => ?_) (fun h10 => ?_)
  · replace hs := hs.1 h10
    refine G_iload hO 1 dL_law_746 rfl ?_
    refine G_if_ne hO 763 dL_law_748 (by decide) (fun h9 => ?_) (fun h9 => ?_)
    · replace hs := hs.1 h9
      refine G_goto hO 1783 dL_law_763 (by decide) ?_
      refine G_lv hO [(4, .int v4), (3, .ref (ad 22 0)), (2, .ref (ad 21 0)), (1, .ref (ad 20 0)), (0, .ref b)] [2, 3, 4, 5, 6] rfl ?_
      exact G_widen hO (by omega) (by omega) (hK _ _ hs)
    · replace hs := hs.2 h9
      refine G_aload_n hO 3 dL_law_751 rfl rfl ?_
      refine G_iconst hO 0 dL_law_752 (by decide) ?_
      refine M_lald hO 0 (by decide) (hm _ id_ou) (vp_lit (by decide)) dL_law_753 ?_
      refine G_iload hO 0 dL_law_754 rfl ?_
      refine G_i2l hO dL_law_756 ?_
      refine G_lcmp hO dL_law_757 ?_
      refine G_if_eq hO 763 dL_law_758 (by decide) (fun h8 => ?_) (fun h8 => ?_)
      · replace hs := hs.1 h8
        refine G_goto hO 1783 dL_law_763 (by decide) ?_
        refine G_lv hO [(4, .int v4), (3, .ref (ad 22 0)), (2, .ref (ad 21 0)), (1, .ref (ad 20 0)), (0, .ref b)] [2, 3, 4, 5, 6] rfl ?_
        exact G_widen hO (by omega) (by omega) (hK _ _ hs)
      · replace hs := hs.2 h8
        refine G_iconst hO 0 dL_law_761 (by decide) ?_
        exact False.elim hs
  · replace hs := hs.2 h10
    refine G_iconst hO 0 dL_law_744 (by decide) ?_
    exact False.elim hs
set_option maxHeartbeats 4000000 in
set_option maxRecDepth 20000 in
theorem c_law_C11 {Γ : Cx} {Λ : Lay} {B : Nat} {ids : List (Nat × Nat)} {ad : Nat → Nat → Nat} {k z : Nat} {b L : Nat} {xs : Nat → Int32} (hO : Ok Γ RL cL_law 8 room_1 Λ B) (hL : LX Γ b L xs) (hm : ∀ q, q ∈ ids0 → q ∈ ids) (hnr : (20, 6) ∉ ids) {v4 : Int32} {K : Mem → (Nat → Int64) → Prop} {M : Mem} {O : Nat → Int64} (hs : wL_law_C11 L xs v4 K M O) (hk : k + 2 ≤ 601024) (hz : z + 9 ≤ 7293034) (hK : ∀ (M : Mem) (O : Nat → Int64), K M O → G Γ ids ad (k + 2) (z + 9) (sh Λ ad M O) 1783 [(4, .int v4), (3, .ref (ad 22 0)), (2, .ref (ad 21 0)), (1, .ref (ad 20 0)), (0, .ref b)] []) : G Γ ids ad k z (sh Λ ad M O) 766 [(4, .int v4), (3, .ref (ad 22 0)), (2, .ref (ad 21 0)), (1, .ref (ad 20 0)), (0, .ref b)] [] := by
  unfold wL_law_C11 at hs
  have hk1 : ∀ {q : Nat}, q ≤ k + 2 → q ≤ room_1.cells := fun h => Nat.le_trans h hk
  have hz1 : ∀ {q : Nat}, q ≤ z + 9 → q ≤ room_1.slots := fun h => Nat.le_trans h hz
  refine G_aload_n hO 3 dL_law_766 rfl rfl ?_
  refine G_aload_n hO 4 dL_law_767 rfl rfl ?_
  refine G_iload hO 0 dL_law_768 rfl ?_
  refine G_iconst hO 1 dL_law_770 (by decide) ?_
  refine G_iadd hO dL_law_771 ?_
  refine L_iald hO hL hs.1 dL_law_772 ?_
  replace hs := hs.2
  refine G_aload_n hO 4 dL_law_773 rfl rfl ?_
  refine G_iload hO 0 dL_law_774 rfl ?_
  refine G_iconst hO 2 dL_law_776 (by decide) ?_
  refine G_iadd hO dL_law_777 ?_
  refine L_iald hO hL hs.1 dL_law_778 ?_
  replace hs := hs.2
  refine G_aload_n hO 4 dL_law_779 rfl rfl ?_
  refine G_iload hO 0 dL_law_780 rfl ?_
  refine G_iconst hO 3 dL_law_782 (by decide) ?_
  refine G_iadd hO dL_law_783 ?_
  refine L_iald hO hL hs.1 dL_law_784 ?_
  replace hs := hs.2
  refine G_aload_n hO 1 dL_law_785 rfl rfl ?_
  refine L_call hO hL (rest := []) [.ref (ad 20 0), .int (xs (Int32.toNatClampNeg (v4 + 1))), .int (xs (Int32.toNatClampNeg (v4 + 2))), .int (xs (Int32.toNatClampNeg (v4 + 3))), .ref (ad 22 0)] (fun l h => c_L_setRoom hm hs h) cw_setRoom mw_608 mw_607 rfl rfl (Nat.le_of_ble_eq_true rfl) (by decide) ⟨hk1 (Nat.add_le_add_left (by decide) k), hz1 (Nat.add_le_add_left (by decide) z)⟩ dL_law_786 ?_
  rintro v ids ad w9 ⟨rfl, rfl, M2, O3, r1, rfl, rfl, hs⟩
  show G Γ _ _ (k + 1) (z + 6) (sh Λ _ M2 O3) 789 [(4, .int v4), (3, .ref (ad 22 0)), (2, .ref (ad 21 0)), (1, .ref (ad 20 0)), (0, .ref b)] [.int r1]
  refine G_istore hO [(5, .int r1), (4, .int v4), (3, .ref (ad 22 0)), (2, .ref (ad 21 0)), (1, .ref (ad 20 0)), (0, .ref b)] dL_law_789 (by decide) rfl ?_
  refine G_aload_n hO 3 dL_law_791 rfl rfl ?_
  refine G_aload_n hO 5 dL_law_792 rfl rfl ?_
  refine G_iload hO 1 dL_law_793 rfl ?_
  refine G_iconst hO 1 dL_law_795 (by decide) ?_
  refine G_iadd hO dL_law_796 ?_
  refine L_iald hO hL hs.1 dL_law_797 ?_
  replace hs := hs.2
  refine G_aload_n hO 5 dL_law_798 rfl rfl ?_
  refine G_iload hO 1 dL_law_799 rfl ?_
  refine G_iconst hO 2 dL_law_801 (by decide) ?_
  refine G_iadd hO dL_law_802 ?_
  refine L_iald hO hL hs.1 dL_law_803 ?_
  replace hs := hs.2
  refine G_aload_n hO 5 dL_law_804 rfl rfl ?_
  refine G_iload hO 1 dL_law_805 rfl ?_
  refine G_iconst hO 3 dL_law_807 (by decide) ?_
  refine G_iadd hO dL_law_808 ?_
  refine L_iald hO hL hs.1 dL_law_809 ?_
  replace hs := hs.2
  refine KV_Gri hO (rest := []) [.int (xs (Int32.toNatClampNeg (v4 + 1))), .int (xs (Int32.toNatClampNeg (v4 + 2))), .int (xs (Int32.toNatClampNeg (v4 + 3)))] (rS_md Λ ad O3) (fun l => c_X6_setRoom (fun _ h9 => hm _ (id_md h9)) hs) cv_X6_setRoom mw_1025 mw_1026 mw_1024 (hm _ (id_md (by decide))) cl6 (by show rS Λ ad _ _ _ _ = _; rw [rS_md]; exact md_0 _ _ _) rfl rfl (Nat.le_of_ble_eq_true rfl) (by decide) rfl rfl (hk1 (by omega)) (hz1 (by omega)) dL_law_810 ?_
  intro r4 c5 hs
  refine G_istore hO [(6, .int r4), (5, .int r1), (4, .int v4), (3, .ref (ad 22 0)), (2, .ref (ad 21 0)), (1, .ref (ad 20 0)), (0, .ref b)] dL_law_813 (by decide) rfl ?_
  refine G_aload_n hO 4 dL_law_815 rfl rfl ?_
  refine KV_Gri hO (rest := []) [] (rS_md Λ ad O3) (fun l => c_X6_thrown (fun _ h9 => hm _ (id_md h9)) hs) cv_X6_thrown mw_875 mw_876 mw_874 (hm _ (id_md (by decide))) cl6 (by show rS Λ ad _ _ _ _ = _; rw [rS_md]; exact md_0 _ _ _) rfl rfl (Nat.le_of_ble_eq_true rfl) (by decide) rfl rfl (hk1 (by omega)) (hz1 (by omega)) dL_law_816 ?_
  intro r6 c7 hs
  refine G_iload hO 1 dL_law_819 rfl ?_
  refine G_icmp_eq hO 826 dL_law_821 (by decide) (fun h10 => ?_) (fun h10 => ?_)
  · replace hs := hs.1 h10
    refine G_iload hO 1 dL_law_826 rfl ?_
    refine G_if_ne hO 843 dL_law_828 (by decide) (fun h9 => ?_) (fun h9 => ?_)
    · replace hs := hs.1 h9
      refine G_goto hO 1783 dL_law_843 (by decide) ?_
      refine G_lv hO [(4, .int v4), (3, .ref (ad 22 0)), (2, .ref (ad 21 0)), (1, .ref (ad 20 0)), (0, .ref b)] [2, 3, 4, 5, 6] rfl ?_
      exact G_widen hO (by omega) (by omega) (hK _ _ hs)
    · replace hs := hs.2 h9
      refine G_aload_n hO 3 dL_law_831 rfl rfl ?_
      refine G_iconst hO 0 dL_law_832 (by decide) ?_
      refine M_lald hO 0 (by decide) (hm _ id_ou) (vp_lit (by decide)) dL_law_833 ?_
      refine G_iload hO 0 dL_law_834 rfl ?_
      refine G_i2l hO dL_law_836 ?_
      refine G_lcmp hO dL_law_837 ?_
      refine G_if_eq hO 843 dL_law_838 (by decide) (fun h8 => ?_) (fun h8 => ?_)
      · replace hs := hs.1 h8
        refine G_goto hO 1783 dL_law_843 (by decide) ?_
        refine G_lv hO [(4, .int v4), (3, .ref (ad 22 0)), (2, .ref (ad 21 0)), (1, .ref (ad 20 0)), (0, .ref b)] [2, 3, 4, 5, 6] rfl ?_
        exact G_widen hO (by omega) (by omega) (hK _ _ hs)
      · replace hs := hs.2 h8
        refine G_iconst hO 0 dL_law_841 (by decide) ?_
        exact False.elim hs
  · replace hs := hs.2 h10
    refine G_iconst hO 0 dL_law_824 (by decide) ?_
    exact False.elim hs
set_option maxHeartbeats 4000000 in
set_option maxRecDepth 20000 in
theorem c_law_C12 {Γ : Cx} {Λ : Lay} {B : Nat} {ids : List (Nat × Nat)} {ad : Nat → Nat → Nat} {k z : Nat} {b L : Nat} {xs : Nat → Int32} (hO : Ok Γ RL cL_law 8 room_1 Λ B) (hL : LX Γ b L xs) (hm : ∀ q, q ∈ ids0 → q ∈ ids) (hnr : (20, 6) ∉ ids) {v4 : Int32} {K : Mem → (Nat → Int64) → Prop} {M : Mem} {O : Nat → Int64} (hs : wL_law_C12 L xs v4 K M O) (hk : k + 2 ≤ 601024) (hz : z + 9 ≤ 7293034) (hK : ∀ (M : Mem) (O : Nat → Int64), K M O → G Γ ids ad (k + 2) (z + 9) (sh Λ ad M O) 1783 [(4, .int v4), (3, .ref (ad 22 0)), (2, .ref (ad 21 0)), (1, .ref (ad 20 0)), (0, .ref b)] []) : G Γ ids ad k z (sh Λ ad M O) 846 [(4, .int v4), (3, .ref (ad 22 0)), (2, .ref (ad 21 0)), (1, .ref (ad 20 0)), (0, .ref b)] [] := by
  unfold wL_law_C12 at hs
  have hk1 : ∀ {q : Nat}, q ≤ k + 2 → q ≤ room_1.cells := fun h => Nat.le_trans h hk
  have hz1 : ∀ {q : Nat}, q ≤ z + 9 → q ≤ room_1.slots := fun h => Nat.le_trans h hz
  refine G_aload_n hO 3 dL_law_846 rfl rfl ?_
  refine G_aload_n hO 4 dL_law_847 rfl rfl ?_
  refine G_iload hO 0 dL_law_848 rfl ?_
  refine G_iconst hO 1 dL_law_850 (by decide) ?_
  refine G_iadd hO dL_law_851 ?_
  refine L_iald hO hL hs.1 dL_law_852 ?_
  replace hs := hs.2
  refine G_aload_n hO 4 dL_law_853 rfl rfl ?_
  refine G_iload hO 0 dL_law_854 rfl ?_
  refine G_iconst hO 2 dL_law_856 (by decide) ?_
  refine G_iadd hO dL_law_857 ?_
  refine L_iald hO hL hs.1 dL_law_858 ?_
  replace hs := hs.2
  refine G_if_eq hO 866 dL_law_859 (by decide) (fun h37 => ?_) (fun h37 => ?_)
  · replace hs := hs.1 h37
    refine G_iconst hO 0 dL_law_866 (by decide) ?_
    refine G_aload_n hO 1 dL_law_867 rfl rfl ?_
    refine L_call hO hL (rest := []) [.ref (ad 20 0), .int (xs (Int32.toNatClampNeg (v4 + 1))), .int 0, .ref (ad 22 0)] (fun l h => c_L_window hm hs h) cw_window mw_623 mw_622 rfl rfl (Nat.le_of_ble_eq_true rfl) (by decide) ⟨hk1 (Nat.add_le_add_left (by decide) k), hz1 (Nat.add_le_add_left (by decide) z)⟩ dL_law_868 ?_
    rintro v ids ad w9 ⟨rfl, rfl, M2, O3, r1, rfl, rfl, hs⟩
    show G Γ _ _ (k + 1) (z + 6) (sh Λ _ M2 O3) 871 [(4, .int v4), (3, .ref (ad 22 0)), (2, .ref (ad 21 0)), (1, .ref (ad 20 0)), (0, .ref b)] [.int r1]
    refine G_istore hO [(5, .int r1), (4, .int v4), (3, .ref (ad 22 0)), (2, .ref (ad 21 0)), (1, .ref (ad 20 0)), (0, .ref b)] dL_law_871 (by decide) rfl ?_
    refine G_aload_n hO 3 dL_law_873 rfl rfl ?_
    refine G_aload_n hO 5 dL_law_874 rfl rfl ?_
    refine G_iload hO 1 dL_law_875 rfl ?_
    refine G_iconst hO 1 dL_law_877 (by decide) ?_
    refine G_iadd hO dL_law_878 ?_
    refine L_iald hO hL hs.1 dL_law_879 ?_
    replace hs := hs.2
    refine G_aload_n hO 5 dL_law_880 rfl rfl ?_
    refine G_iload hO 1 dL_law_881 rfl ?_
    refine G_iconst hO 2 dL_law_883 (by decide) ?_
    refine G_iadd hO dL_law_884 ?_
    refine L_iald hO hL hs.1 dL_law_885 ?_
    replace hs := hs.2
    refine G_if_eq hO 893 dL_law_886 (by decide) (fun h18 => ?_) (fun h18 => ?_)
    · replace hs := hs.1 h18
      refine G_iconst hO 0 dL_law_893 (by decide) ?_
      refine KV_Gri hO (rest := []) [.int (xs (Int32.toNatClampNeg (v4 + 1))), .int 0] (rS_md Λ ad O3) (fun l => c_X6_window (fun _ h9 => hm _ (id_md h9)) hs) cv_X6_window mw_1029 mw_1030 mw_1028 (hm _ (id_md (by decide))) cl6 (by show rS Λ ad _ _ _ _ = _; rw [rS_md]; exact md_0 _ _ _) rfl rfl (Nat.le_of_ble_eq_true rfl) (by decide) rfl rfl (hk1 (by omega)) (hz1 (by omega)) dL_law_894 ?_
      intro r4 c5 hs
      refine G_istore hO [(6, .int r4), (5, .int r1), (4, .int v4), (3, .ref (ad 22 0)), (2, .ref (ad 21 0)), (1, .ref (ad 20 0)), (0, .ref b)] dL_law_897 (by decide) rfl ?_
      refine G_aload_n hO 4 dL_law_899 rfl rfl ?_
      refine KV_Gri hO (rest := []) [] (rS_md Λ ad O3) (fun l => c_X6_thrown (fun _ h9 => hm _ (id_md h9)) hs) cv_X6_thrown mw_875 mw_876 mw_874 (hm _ (id_md (by decide))) cl6 (by show rS Λ ad _ _ _ _ = _; rw [rS_md]; exact md_0 _ _ _) rfl rfl (Nat.le_of_ble_eq_true rfl) (by decide) rfl rfl (hk1 (by omega)) (hz1 (by omega)) dL_law_900 ?_
      intro r6 c7 hs
      refine G_iload hO 1 dL_law_903 rfl ?_
      refine G_icmp_eq hO 910 dL_law_905 (by decide) (fun h10 => ?_) (fun h10 => ?_)
      · replace hs := hs.1 h10
        refine G_iload hO 1 dL_law_910 rfl ?_
        refine G_if_ne hO 927 dL_law_912 (by decide) (fun h9 => ?_) (fun h9 => ?_)
        · replace hs := hs.1 h9
          refine G_goto hO 1783 dL_law_927 (by decide) ?_
          refine G_lv hO [(4, .int v4), (3, .ref (ad 22 0)), (2, .ref (ad 21 0)), (1, .ref (ad 20 0)), (0, .ref b)] [2, 3, 4, 5, 6] rfl ?_
          exact G_widen hO (by omega) (by omega) (hK _ _ hs)
        · replace hs := hs.2 h9
          refine G_aload_n hO 3 dL_law_915 rfl rfl ?_
          refine G_iconst hO 0 dL_law_916 (by decide) ?_
          refine M_lald hO 0 (by decide) (hm _ id_ou) (vp_lit (by decide)) dL_law_917 ?_
          refine G_iload hO 0 dL_law_918 rfl ?_
          refine G_i2l hO dL_law_920 ?_
          refine G_lcmp hO dL_law_921 ?_
          refine G_if_eq hO 927 dL_law_922 (by decide) (fun h8 => ?_) (fun h8 => ?_)
          · replace hs := hs.1 h8
            refine G_goto hO 1783 dL_law_927 (by decide) ?_
            refine G_lv hO [(4, .int v4), (3, .ref (ad 22 0)), (2, .ref (ad 21 0)), (1, .ref (ad 20 0)), (0, .ref b)] [2, 3, 4, 5, 6] rfl ?_
            exact G_widen hO (by omega) (by omega) (hK _ _ hs)
          · replace hs := hs.2 h8
            refine G_iconst hO 0 dL_law_925 (by decide) ?_
            exact False.elim hs
      · replace hs := hs.2 h10
        refine G_iconst hO 0 dL_law_908 (by decide) ?_
        exact False.elim hs
    · replace hs := hs.2 h18
      refine G_iconst hO 1 dL_law_889 (by decide) ?_
      refine G_goto hO 894 dL_law_890 (by decide) ?_
      refine KV_Gri hO (rest := []) [.int (xs (Int32.toNatClampNeg (v4 + 1))), .int 1] (rS_md Λ ad O3) (fun l => c_X6_window (fun _ h9 => hm _ (id_md h9)) hs) cv_X6_window mw_1029 mw_1030 mw_1028 (hm _ (id_md (by decide))) cl6 (by show rS Λ ad _ _ _ _ = _; rw [rS_md]; exact md_0 _ _ _) rfl rfl (Nat.le_of_ble_eq_true rfl) (by decide) rfl rfl (hk1 (by omega)) (hz1 (by omega)) dL_law_894 ?_
      intro r11 c12 hs
      refine G_istore hO [(6, .int r11), (5, .int r1), (4, .int v4), (3, .ref (ad 22 0)), (2, .ref (ad 21 0)), (1, .ref (ad 20 0)), (0, .ref b)] dL_law_897 (by decide) rfl ?_
      refine G_aload_n hO 4 dL_law_899 rfl rfl ?_
      refine KV_Gri hO (rest := []) [] (rS_md Λ ad O3) (fun l => c_X6_thrown (fun _ h9 => hm _ (id_md h9)) hs) cv_X6_thrown mw_875 mw_876 mw_874 (hm _ (id_md (by decide))) cl6 (by show rS Λ ad _ _ _ _ = _; rw [rS_md]; exact md_0 _ _ _) rfl rfl (Nat.le_of_ble_eq_true rfl) (by decide) rfl rfl (hk1 (by omega)) (hz1 (by omega)) dL_law_900 ?_
      intro r13 c14 hs
      refine G_iload hO 1 dL_law_903 rfl ?_
      refine G_icmp_eq hO 910 dL_law_905 (by decide) (fun h17 => ?_) (fun h17 => ?_)
      · replace hs := hs.1 h17
        refine G_iload hO 1 dL_law_910 rfl ?_
        refine G_if_ne hO 927 dL_law_912 (by decide) (fun h16 => ?_) (fun h16 => ?_)
        · replace hs := hs.1 h16
          refine G_goto hO 1783 dL_law_927 (by decide) ?_
          refine G_lv hO [(4, .int v4), (3, .ref (ad 22 0)), (2, .ref (ad 21 0)), (1, .ref (ad 20 0)), (0, .ref b)] [2, 3, 4, 5, 6] rfl ?_
          exact G_widen hO (by omega) (by omega) (hK _ _ hs)
        · replace hs := hs.2 h16
          refine G_aload_n hO 3 dL_law_915 rfl rfl ?_
          refine G_iconst hO 0 dL_law_916 (by decide) ?_
          refine M_lald hO 0 (by decide) (hm _ id_ou) (vp_lit (by decide)) dL_law_917 ?_
          refine G_iload hO 0 dL_law_918 rfl ?_
          refine G_i2l hO dL_law_920 ?_
          refine G_lcmp hO dL_law_921 ?_
          refine G_if_eq hO 927 dL_law_922 (by decide) (fun h15 => ?_) (fun h15 => ?_)
          · replace hs := hs.1 h15
            refine G_goto hO 1783 dL_law_927 (by decide) ?_
            refine G_lv hO [(4, .int v4), (3, .ref (ad 22 0)), (2, .ref (ad 21 0)), (1, .ref (ad 20 0)), (0, .ref b)] [2, 3, 4, 5, 6] rfl ?_
            exact G_widen hO (by omega) (by omega) (hK _ _ hs)
          · replace hs := hs.2 h15
            refine G_iconst hO 0 dL_law_925 (by decide) ?_
            exact False.elim hs
      · replace hs := hs.2 h17
        refine G_iconst hO 0 dL_law_908 (by decide) ?_
        exact False.elim hs
  · replace hs := hs.2 h37
    refine G_iconst hO 1 dL_law_862 (by decide) ?_
    refine G_goto hO 867 dL_law_863 (by decide) ?_
    refine G_aload_n hO 1 dL_law_867 rfl rfl ?_
    refine L_call hO hL (rest := []) [.ref (ad 20 0), .int (xs (Int32.toNatClampNeg (v4 + 1))), .int 1, .ref (ad 22 0)] (fun l h => c_L_window hm hs h) cw_window mw_623 mw_622 rfl rfl (Nat.le_of_ble_eq_true rfl) (by decide) ⟨hk1 (Nat.add_le_add_left (by decide) k), hz1 (Nat.add_le_add_left (by decide) z)⟩ dL_law_868 ?_
    rintro v ids ad w9 ⟨rfl, rfl, M20, O21, r19, rfl, rfl, hs⟩
    show G Γ _ _ (k + 1) (z + 6) (sh Λ _ M20 O21) 871 [(4, .int v4), (3, .ref (ad 22 0)), (2, .ref (ad 21 0)), (1, .ref (ad 20 0)), (0, .ref b)] [.int r19]
    refine G_istore hO [(5, .int r19), (4, .int v4), (3, .ref (ad 22 0)), (2, .ref (ad 21 0)), (1, .ref (ad 20 0)), (0, .ref b)] dL_law_871 (by decide) rfl ?_
    refine G_aload_n hO 3 dL_law_873 rfl rfl ?_
    refine G_aload_n hO 5 dL_law_874 rfl rfl ?_
    refine G_iload hO 1 dL_law_875 rfl ?_
    refine G_iconst hO 1 dL_law_877 (by decide) ?_
    refine G_iadd hO dL_law_878 ?_
    refine L_iald hO hL hs.1 dL_law_879 ?_
    replace hs := hs.2
    refine G_aload_n hO 5 dL_law_880 rfl rfl ?_
    refine G_iload hO 1 dL_law_881 rfl ?_
    refine G_iconst hO 2 dL_law_883 (by decide) ?_
    refine G_iadd hO dL_law_884 ?_
    refine L_iald hO hL hs.1 dL_law_885 ?_
    replace hs := hs.2
    refine G_if_eq hO 893 dL_law_886 (by decide) (fun h36 => ?_) (fun h36 => ?_)
    · replace hs := hs.1 h36
      refine G_iconst hO 0 dL_law_893 (by decide) ?_
      refine KV_Gri hO (rest := []) [.int (xs (Int32.toNatClampNeg (v4 + 1))), .int 0] (rS_md Λ ad O21) (fun l => c_X6_window (fun _ h9 => hm _ (id_md h9)) hs) cv_X6_window mw_1029 mw_1030 mw_1028 (hm _ (id_md (by decide))) cl6 (by show rS Λ ad _ _ _ _ = _; rw [rS_md]; exact md_0 _ _ _) rfl rfl (Nat.le_of_ble_eq_true rfl) (by decide) rfl rfl (hk1 (by omega)) (hz1 (by omega)) dL_law_894 ?_
      intro r22 c23 hs
      refine G_istore hO [(6, .int r22), (5, .int r19), (4, .int v4), (3, .ref (ad 22 0)), (2, .ref (ad 21 0)), (1, .ref (ad 20 0)), (0, .ref b)] dL_law_897 (by decide) rfl ?_
      refine G_aload_n hO 4 dL_law_899 rfl rfl ?_
      refine KV_Gri hO (rest := []) [] (rS_md Λ ad O21) (fun l => c_X6_thrown (fun _ h9 => hm _ (id_md h9)) hs) cv_X6_thrown mw_875 mw_876 mw_874 (hm _ (id_md (by decide))) cl6 (by show rS Λ ad _ _ _ _ = _; rw [rS_md]; exact md_0 _ _ _) rfl rfl (Nat.le_of_ble_eq_true rfl) (by decide) rfl rfl (hk1 (by omega)) (hz1 (by omega)) dL_law_900 ?_
      intro r24 c25 hs
      refine G_iload hO 1 dL_law_903 rfl ?_
      refine G_icmp_eq hO 910 dL_law_905 (by decide) (fun h28 => ?_) (fun h28 => ?_)
      · replace hs := hs.1 h28
        refine G_iload hO 1 dL_law_910 rfl ?_
        refine G_if_ne hO 927 dL_law_912 (by decide) (fun h27 => ?_) (fun h27 => ?_)
        · replace hs := hs.1 h27
          refine G_goto hO 1783 dL_law_927 (by decide) ?_
          refine G_lv hO [(4, .int v4), (3, .ref (ad 22 0)), (2, .ref (ad 21 0)), (1, .ref (ad 20 0)), (0, .ref b)] [2, 3, 4, 5, 6] rfl ?_
          exact G_widen hO (by omega) (by omega) (hK _ _ hs)
        · replace hs := hs.2 h27
          refine G_aload_n hO 3 dL_law_915 rfl rfl ?_
          refine G_iconst hO 0 dL_law_916 (by decide) ?_
          refine M_lald hO 0 (by decide) (hm _ id_ou) (vp_lit (by decide)) dL_law_917 ?_
          refine G_iload hO 0 dL_law_918 rfl ?_
          refine G_i2l hO dL_law_920 ?_
          refine G_lcmp hO dL_law_921 ?_
          refine G_if_eq hO 927 dL_law_922 (by decide) (fun h26 => ?_) (fun h26 => ?_)
          · replace hs := hs.1 h26
            refine G_goto hO 1783 dL_law_927 (by decide) ?_
            refine G_lv hO [(4, .int v4), (3, .ref (ad 22 0)), (2, .ref (ad 21 0)), (1, .ref (ad 20 0)), (0, .ref b)] [2, 3, 4, 5, 6] rfl ?_
            exact G_widen hO (by omega) (by omega) (hK _ _ hs)
          · replace hs := hs.2 h26
            refine G_iconst hO 0 dL_law_925 (by decide) ?_
            exact False.elim hs
      · replace hs := hs.2 h28
        refine G_iconst hO 0 dL_law_908 (by decide) ?_
        exact False.elim hs
    · replace hs := hs.2 h36
      refine G_iconst hO 1 dL_law_889 (by decide) ?_
      refine G_goto hO 894 dL_law_890 (by decide) ?_
      refine KV_Gri hO (rest := []) [.int (xs (Int32.toNatClampNeg (v4 + 1))), .int 1] (rS_md Λ ad O21) (fun l => c_X6_window (fun _ h9 => hm _ (id_md h9)) hs) cv_X6_window mw_1029 mw_1030 mw_1028 (hm _ (id_md (by decide))) cl6 (by show rS Λ ad _ _ _ _ = _; rw [rS_md]; exact md_0 _ _ _) rfl rfl (Nat.le_of_ble_eq_true rfl) (by decide) rfl rfl (hk1 (by omega)) (hz1 (by omega)) dL_law_894 ?_
      intro r29 c30 hs
      refine G_istore hO [(6, .int r29), (5, .int r19), (4, .int v4), (3, .ref (ad 22 0)), (2, .ref (ad 21 0)), (1, .ref (ad 20 0)), (0, .ref b)] dL_law_897 (by decide) rfl ?_
      refine G_aload_n hO 4 dL_law_899 rfl rfl ?_
      refine KV_Gri hO (rest := []) [] (rS_md Λ ad O21) (fun l => c_X6_thrown (fun _ h9 => hm _ (id_md h9)) hs) cv_X6_thrown mw_875 mw_876 mw_874 (hm _ (id_md (by decide))) cl6 (by show rS Λ ad _ _ _ _ = _; rw [rS_md]; exact md_0 _ _ _) rfl rfl (Nat.le_of_ble_eq_true rfl) (by decide) rfl rfl (hk1 (by omega)) (hz1 (by omega)) dL_law_900 ?_
      intro r31 c32 hs
      refine G_iload hO 1 dL_law_903 rfl ?_
      refine G_icmp_eq hO 910 dL_law_905 (by decide) (fun h35 => ?_) (fun h35 => ?_)
      · replace hs := hs.1 h35
        refine G_iload hO 1 dL_law_910 rfl ?_
        refine G_if_ne hO 927 dL_law_912 (by decide) (fun h34 => ?_) (fun h34 => ?_)
        · replace hs := hs.1 h34
          refine G_goto hO 1783 dL_law_927 (by decide) ?_
          refine G_lv hO [(4, .int v4), (3, .ref (ad 22 0)), (2, .ref (ad 21 0)), (1, .ref (ad 20 0)), (0, .ref b)] [2, 3, 4, 5, 6] rfl ?_
          exact G_widen hO (by omega) (by omega) (hK _ _ hs)
        · replace hs := hs.2 h34
          refine G_aload_n hO 3 dL_law_915 rfl rfl ?_
          refine G_iconst hO 0 dL_law_916 (by decide) ?_
          refine M_lald hO 0 (by decide) (hm _ id_ou) (vp_lit (by decide)) dL_law_917 ?_
          refine G_iload hO 0 dL_law_918 rfl ?_
          refine G_i2l hO dL_law_920 ?_
          refine G_lcmp hO dL_law_921 ?_
          refine G_if_eq hO 927 dL_law_922 (by decide) (fun h33 => ?_) (fun h33 => ?_)
          · replace hs := hs.1 h33
            refine G_goto hO 1783 dL_law_927 (by decide) ?_
            refine G_lv hO [(4, .int v4), (3, .ref (ad 22 0)), (2, .ref (ad 21 0)), (1, .ref (ad 20 0)), (0, .ref b)] [2, 3, 4, 5, 6] rfl ?_
            exact G_widen hO (by omega) (by omega) (hK _ _ hs)
          · replace hs := hs.2 h33
            refine G_iconst hO 0 dL_law_925 (by decide) ?_
            exact False.elim hs
      · replace hs := hs.2 h35
        refine G_iconst hO 0 dL_law_908 (by decide) ?_
        exact False.elim hs
set_option maxHeartbeats 4000000 in
set_option maxRecDepth 20000 in
theorem c_law_C13 {Γ : Cx} {Λ : Lay} {B : Nat} {ids : List (Nat × Nat)} {ad : Nat → Nat → Nat} {k z : Nat} {b L : Nat} {xs : Nat → Int32} (hO : Ok Γ RL cL_law 8 room_1 Λ B) (hL : LX Γ b L xs) (hm : ∀ q, q ∈ ids0 → q ∈ ids) (hnr : (20, 6) ∉ ids) {v4 : Int32} {K : Mem → (Nat → Int64) → Prop} {M : Mem} {O : Nat → Int64} (hs : wL_law_C13 L xs v4 K M O) (hk : k + 2 ≤ 601024) (hz : z + 9 ≤ 7293034) (hK : ∀ (M : Mem) (O : Nat → Int64), K M O → G Γ ids ad (k + 2) (z + 9) (sh Λ ad M O) 1783 [(4, .int v4), (3, .ref (ad 22 0)), (2, .ref (ad 21 0)), (1, .ref (ad 20 0)), (0, .ref b)] []) : G Γ ids ad k z (sh Λ ad M O) 930 [(4, .int v4), (3, .ref (ad 22 0)), (2, .ref (ad 21 0)), (1, .ref (ad 20 0)), (0, .ref b)] [] := by
  unfold wL_law_C13 at hs
  have hk1 : ∀ {q : Nat}, q ≤ k + 2 → q ≤ room_1.cells := fun h => Nat.le_trans h hk
  have hz1 : ∀ {q : Nat}, q ≤ z + 9 → q ≤ room_1.slots := fun h => Nat.le_trans h hz
  refine G_aload_n hO 3 dL_law_930 rfl rfl ?_
  refine G_aload_n hO 4 dL_law_931 rfl rfl ?_
  refine G_iload hO 0 dL_law_932 rfl ?_
  refine G_iconst hO 1 dL_law_934 (by decide) ?_
  refine G_iadd hO dL_law_935 ?_
  refine L_iald hO hL hs.1 dL_law_936 ?_
  replace hs := hs.2
  refine G_aload_n hO 4 dL_law_937 rfl rfl ?_
  refine G_iload hO 0 dL_law_938 rfl ?_
  refine G_iconst hO 2 dL_law_940 (by decide) ?_
  refine G_iadd hO dL_law_941 ?_
  refine L_iald hO hL hs.1 dL_law_942 ?_
  replace hs := hs.2
  refine G_aload_n hO 1 dL_law_943 rfl rfl ?_
  refine L_call hO hL (rest := []) [.ref (ad 20 0), .int (xs (Int32.toNatClampNeg (v4 + 1))), .int (xs (Int32.toNatClampNeg (v4 + 2))), .ref (ad 22 0)] (fun l h => c_L_set hm hs h) cw_set mw_634 mw_633 rfl rfl (Nat.le_of_ble_eq_true rfl) (by decide) ⟨hk1 (Nat.add_le_add_left (by decide) k), hz1 (Nat.add_le_add_left (by decide) z)⟩ dL_law_944 ?_
  rintro v ids ad w9 ⟨rfl, rfl, M2, O3, r1, rfl, rfl, hs⟩
  show G Γ _ _ (k + 1) (z + 6) (sh Λ _ M2 O3) 947 [(4, .int v4), (3, .ref (ad 22 0)), (2, .ref (ad 21 0)), (1, .ref (ad 20 0)), (0, .ref b)] [.int r1]
  refine G_istore hO [(5, .int r1), (4, .int v4), (3, .ref (ad 22 0)), (2, .ref (ad 21 0)), (1, .ref (ad 20 0)), (0, .ref b)] dL_law_947 (by decide) rfl ?_
  refine G_aload_n hO 3 dL_law_949 rfl rfl ?_
  refine G_aload_n hO 5 dL_law_950 rfl rfl ?_
  refine G_iload hO 1 dL_law_951 rfl ?_
  refine G_iconst hO 1 dL_law_953 (by decide) ?_
  refine G_iadd hO dL_law_954 ?_
  refine L_iald hO hL hs.1 dL_law_955 ?_
  replace hs := hs.2
  refine G_aload_n hO 5 dL_law_956 rfl rfl ?_
  refine G_iload hO 1 dL_law_957 rfl ?_
  refine G_iconst hO 2 dL_law_959 (by decide) ?_
  refine G_iadd hO dL_law_960 ?_
  refine L_iald hO hL hs.1 dL_law_961 ?_
  replace hs := hs.2
  refine KV_Gri hO (rest := []) [.int (xs (Int32.toNatClampNeg (v4 + 1))), .int (xs (Int32.toNatClampNeg (v4 + 2)))] (rS_md Λ ad O3) (fun l => c_X6_set (fun _ h9 => hm _ (id_md h9)) hs) cv_X6_set mw_1033 mw_1034 mw_1032 (hm _ (id_md (by decide))) cl6 (by show rS Λ ad _ _ _ _ = _; rw [rS_md]; exact md_0 _ _ _) rfl rfl (Nat.le_of_ble_eq_true rfl) (by decide) rfl rfl (hk1 (by omega)) (hz1 (by omega)) dL_law_962 ?_
  intro r4 c5 hs
  refine G_istore hO [(6, .int r4), (5, .int r1), (4, .int v4), (3, .ref (ad 22 0)), (2, .ref (ad 21 0)), (1, .ref (ad 20 0)), (0, .ref b)] dL_law_965 (by decide) rfl ?_
  refine G_aload_n hO 4 dL_law_967 rfl rfl ?_
  refine KV_Gri hO (rest := []) [] (rS_md Λ ad O3) (fun l => c_X6_thrown (fun _ h9 => hm _ (id_md h9)) hs) cv_X6_thrown mw_875 mw_876 mw_874 (hm _ (id_md (by decide))) cl6 (by show rS Λ ad _ _ _ _ = _; rw [rS_md]; exact md_0 _ _ _) rfl rfl (Nat.le_of_ble_eq_true rfl) (by decide) rfl rfl (hk1 (by omega)) (hz1 (by omega)) dL_law_968 ?_
  intro r6 c7 hs
  refine G_iload hO 1 dL_law_971 rfl ?_
  refine G_icmp_eq hO 978 dL_law_973 (by decide) (fun h10 => ?_) (fun h10 => ?_)
  · replace hs := hs.1 h10
    refine G_iload hO 1 dL_law_978 rfl ?_
    refine G_if_ne hO 995 dL_law_980 (by decide) (fun h9 => ?_) (fun h9 => ?_)
    · replace hs := hs.1 h9
      refine G_goto hO 1783 dL_law_995 (by decide) ?_
      refine G_lv hO [(4, .int v4), (3, .ref (ad 22 0)), (2, .ref (ad 21 0)), (1, .ref (ad 20 0)), (0, .ref b)] [2, 3, 4, 5, 6] rfl ?_
      exact G_widen hO (by omega) (by omega) (hK _ _ hs)
    · replace hs := hs.2 h9
      refine G_aload_n hO 3 dL_law_983 rfl rfl ?_
      refine G_iconst hO 0 dL_law_984 (by decide) ?_
      refine M_lald hO 0 (by decide) (hm _ id_ou) (vp_lit (by decide)) dL_law_985 ?_
      refine G_iload hO 0 dL_law_986 rfl ?_
      refine G_i2l hO dL_law_988 ?_
      refine G_lcmp hO dL_law_989 ?_
      refine G_if_eq hO 995 dL_law_990 (by decide) (fun h8 => ?_) (fun h8 => ?_)
      · replace hs := hs.1 h8
        refine G_goto hO 1783 dL_law_995 (by decide) ?_
        refine G_lv hO [(4, .int v4), (3, .ref (ad 22 0)), (2, .ref (ad 21 0)), (1, .ref (ad 20 0)), (0, .ref b)] [2, 3, 4, 5, 6] rfl ?_
        exact G_widen hO (by omega) (by omega) (hK _ _ hs)
      · replace hs := hs.2 h8
        refine G_iconst hO 0 dL_law_993 (by decide) ?_
        exact False.elim hs
  · replace hs := hs.2 h10
    refine G_iconst hO 0 dL_law_976 (by decide) ?_
    exact False.elim hs
set_option maxHeartbeats 4000000 in
set_option maxRecDepth 20000 in
theorem c_law_C14 {Γ : Cx} {Λ : Lay} {B : Nat} {ids : List (Nat × Nat)} {ad : Nat → Nat → Nat} {k z : Nat} {b L : Nat} {xs : Nat → Int32} (hO : Ok Γ RL cL_law 8 room_1 Λ B) (hL : LX Γ b L xs) (hm : ∀ q, q ∈ ids0 → q ∈ ids) (hnr : (20, 6) ∉ ids) {v4 : Int32} {K : Mem → (Nat → Int64) → Prop} {M : Mem} {O : Nat → Int64} (hs : wL_law_C14 L xs v4 K M O) (hk : k + 2 ≤ 601024) (hz : z + 9 ≤ 7293034) (hK : ∀ (M : Mem) (O : Nat → Int64), K M O → G Γ ids ad (k + 2) (z + 9) (sh Λ ad M O) 1783 [(4, .int v4), (3, .ref (ad 22 0)), (2, .ref (ad 21 0)), (1, .ref (ad 20 0)), (0, .ref b)] []) : G Γ ids ad k z (sh Λ ad M O) 998 [(4, .int v4), (3, .ref (ad 22 0)), (2, .ref (ad 21 0)), (1, .ref (ad 20 0)), (0, .ref b)] [] := by
  unfold wL_law_C14 at hs
  have hk1 : ∀ {q : Nat}, q ≤ k + 2 → q ≤ room_1.cells := fun h => Nat.le_trans h hk
  have hz1 : ∀ {q : Nat}, q ≤ z + 9 → q ≤ room_1.slots := fun h => Nat.le_trans h hz
  refine G_aload_n hO 3 dL_law_998 rfl rfl ?_
  refine G_aload_n hO 4 dL_law_999 rfl rfl ?_
  refine G_iload hO 0 dL_law_1000 rfl ?_
  refine G_iconst hO 1 dL_law_1002 (by decide) ?_
  refine G_iadd hO dL_law_1003 ?_
  refine L_iald hO hL hs.1 dL_law_1004 ?_
  replace hs := hs.2
  refine G_aload_n hO 1 dL_law_1005 rfl rfl ?_
  refine L_call hO hL (rest := []) [.ref (ad 20 0), .int (xs (Int32.toNatClampNeg (v4 + 1))), .ref (ad 22 0)] (fun l h => c_L_outside hm hs h) cw_outside mw_648 mw_647 rfl rfl (Nat.le_of_ble_eq_true rfl) (by decide) ⟨hk1 (Nat.add_le_add_left (by decide) k), hz1 (Nat.add_le_add_left (by decide) z)⟩ dL_law_1006 ?_
  rintro v ids ad w9 ⟨rfl, rfl, M2, O3, r1, rfl, rfl, hs⟩
  show G Γ _ _ (k + 1) (z + 6) (sh Λ _ M2 O3) 1009 [(4, .int v4), (3, .ref (ad 22 0)), (2, .ref (ad 21 0)), (1, .ref (ad 20 0)), (0, .ref b)] [.int r1]
  refine G_istore hO [(5, .int r1), (4, .int v4), (3, .ref (ad 22 0)), (2, .ref (ad 21 0)), (1, .ref (ad 20 0)), (0, .ref b)] dL_law_1009 (by decide) rfl ?_
  refine G_aload_n hO 3 dL_law_1011 rfl rfl ?_
  refine G_aload_n hO 5 dL_law_1012 rfl rfl ?_
  refine G_iload hO 1 dL_law_1013 rfl ?_
  refine G_iconst hO 1 dL_law_1015 (by decide) ?_
  refine G_iadd hO dL_law_1016 ?_
  refine L_iald hO hL hs.1 dL_law_1017 ?_
  replace hs := hs.2
  refine KV_Gri hO (rest := []) [.int (xs (Int32.toNatClampNeg (v4 + 1)))] (rS_md Λ ad O3) (fun l => c_X6_outside (fun _ h9 => hm _ (id_md h9)) hs) cv_X6_outside mw_1040 mw_1041 mw_1039 (hm _ (id_md (by decide))) cl6 (by show rS Λ ad _ _ _ _ = _; rw [rS_md]; exact md_0 _ _ _) rfl rfl (Nat.le_of_ble_eq_true rfl) (by decide) rfl rfl (hk1 (by omega)) (hz1 (by omega)) dL_law_1018 ?_
  intro r4 c5 hs
  refine G_istore hO [(6, .int r4), (5, .int r1), (4, .int v4), (3, .ref (ad 22 0)), (2, .ref (ad 21 0)), (1, .ref (ad 20 0)), (0, .ref b)] dL_law_1021 (by decide) rfl ?_
  refine G_aload_n hO 4 dL_law_1023 rfl rfl ?_
  refine KV_Gri hO (rest := []) [] (rS_md Λ ad O3) (fun l => c_X6_thrown (fun _ h9 => hm _ (id_md h9)) hs) cv_X6_thrown mw_875 mw_876 mw_874 (hm _ (id_md (by decide))) cl6 (by show rS Λ ad _ _ _ _ = _; rw [rS_md]; exact md_0 _ _ _) rfl rfl (Nat.le_of_ble_eq_true rfl) (by decide) rfl rfl (hk1 (by omega)) (hz1 (by omega)) dL_law_1024 ?_
  intro r6 c7 hs
  refine G_iload hO 1 dL_law_1027 rfl ?_
  refine G_icmp_eq hO 1034 dL_law_1029 (by decide) (fun h10 => ?_) (fun h10 => ?_)
  · replace hs := hs.1 h10
    refine G_iload hO 1 dL_law_1034 rfl ?_
    refine G_if_ne hO 1051 dL_law_1036 (by decide) (fun h9 => ?_) (fun h9 => ?_)
    · replace hs := hs.1 h9
      refine G_goto hO 1783 dL_law_1051 (by decide) ?_
      refine G_lv hO [(4, .int v4), (3, .ref (ad 22 0)), (2, .ref (ad 21 0)), (1, .ref (ad 20 0)), (0, .ref b)] [2, 3, 4, 5, 6] rfl ?_
      exact G_widen hO (by omega) (by omega) (hK _ _ hs)
    · replace hs := hs.2 h9
      refine G_aload_n hO 3 dL_law_1039 rfl rfl ?_
      refine G_iconst hO 0 dL_law_1040 (by decide) ?_
      refine M_lald hO 0 (by decide) (hm _ id_ou) (vp_lit (by decide)) dL_law_1041 ?_
      refine G_iload hO 0 dL_law_1042 rfl ?_
      refine G_i2l hO dL_law_1044 ?_
      refine G_lcmp hO dL_law_1045 ?_
      refine G_if_eq hO 1051 dL_law_1046 (by decide) (fun h8 => ?_) (fun h8 => ?_)
      · replace hs := hs.1 h8
        refine G_goto hO 1783 dL_law_1051 (by decide) ?_
        refine G_lv hO [(4, .int v4), (3, .ref (ad 22 0)), (2, .ref (ad 21 0)), (1, .ref (ad 20 0)), (0, .ref b)] [2, 3, 4, 5, 6] rfl ?_
        exact G_widen hO (by omega) (by omega) (hK _ _ hs)
      · replace hs := hs.2 h8
        refine G_iconst hO 0 dL_law_1049 (by decide) ?_
        exact False.elim hs
  · replace hs := hs.2 h10
    refine G_iconst hO 0 dL_law_1032 (by decide) ?_
    exact False.elim hs
set_option maxHeartbeats 4000000 in
set_option maxRecDepth 20000 in
theorem c_law_C15 {Γ : Cx} {Λ : Lay} {B : Nat} {ids : List (Nat × Nat)} {ad : Nat → Nat → Nat} {k z : Nat} {b L : Nat} {xs : Nat → Int32} (hO : Ok Γ RL cL_law 8 room_1 Λ B) (hL : LX Γ b L xs) (hm : ∀ q, q ∈ ids0 → q ∈ ids) (hnr : (20, 6) ∉ ids) {v4 : Int32} {K : Mem → (Nat → Int64) → Prop} {M : Mem} {O : Nat → Int64} (hs : wL_law_C15 L xs v4 K M O) (hk : k + 2 ≤ 601024) (hz : z + 9 ≤ 7293034) (hK : ∀ (M : Mem) (O : Nat → Int64), K M O → G Γ ids ad (k + 2) (z + 9) (sh Λ ad M O) 1783 [(4, .int v4), (3, .ref (ad 22 0)), (2, .ref (ad 21 0)), (1, .ref (ad 20 0)), (0, .ref b)] []) : G Γ ids ad k z (sh Λ ad M O) 1054 [(4, .int v4), (3, .ref (ad 22 0)), (2, .ref (ad 21 0)), (1, .ref (ad 20 0)), (0, .ref b)] [] := by
  unfold wL_law_C15 at hs
  have hk1 : ∀ {q : Nat}, q ≤ k + 2 → q ≤ room_1.cells := fun h => Nat.le_trans h hk
  have hz1 : ∀ {q : Nat}, q ≤ z + 9 → q ≤ room_1.slots := fun h => Nat.le_trans h hz
  refine G_aload_n hO 3 dL_law_1054 rfl rfl ?_
  refine G_aload_n hO 4 dL_law_1055 rfl rfl ?_
  refine G_iload hO 0 dL_law_1056 rfl ?_
  refine G_iconst hO 1 dL_law_1058 (by decide) ?_
  refine G_iadd hO dL_law_1059 ?_
  refine L_iald hO hL hs.1 dL_law_1060 ?_
  replace hs := hs.2
  refine G_aload_n hO 1 dL_law_1061 rfl rfl ?_
  refine L_call hO hL (rest := []) [.ref (ad 20 0), .int (xs (Int32.toNatClampNeg (v4 + 1))), .ref (ad 22 0)] (fun l h => c_L_pass hm hs h) cw_pass mw_659 mw_658 rfl rfl (Nat.le_of_ble_eq_true rfl) (by decide) ⟨hk1 (Nat.add_le_add_left (by decide) k), hz1 (Nat.add_le_add_left (by decide) z)⟩ dL_law_1062 ?_
  rintro v ids ad w9 ⟨rfl, rfl, M2, O3, r1, rfl, rfl, hs⟩
  show G Γ _ _ (k + 1) (z + 6) (sh Λ _ M2 O3) 1065 [(4, .int v4), (3, .ref (ad 22 0)), (2, .ref (ad 21 0)), (1, .ref (ad 20 0)), (0, .ref b)] [.int r1]
  refine G_istore hO [(5, .int r1), (4, .int v4), (3, .ref (ad 22 0)), (2, .ref (ad 21 0)), (1, .ref (ad 20 0)), (0, .ref b)] dL_law_1065 (by decide) rfl ?_
  refine G_aload_n hO 3 dL_law_1067 rfl rfl ?_
  refine G_aload_n hO 5 dL_law_1068 rfl rfl ?_
  refine G_iload hO 1 dL_law_1069 rfl ?_
  refine G_iconst hO 1 dL_law_1071 (by decide) ?_
  refine G_iadd hO dL_law_1072 ?_
  refine L_iald hO hL hs.1 dL_law_1073 ?_
  replace hs := hs.2
  refine KV_Gri hO (rest := []) [.int (xs (Int32.toNatClampNeg (v4 + 1)))] (rS_md Λ ad O3) (fun l => c_X6_pass (fun _ h9 => hm _ (id_md h9)) hs) cv_X6_pass mw_1049 mw_1050 mw_1048 (hm _ (id_md (by decide))) cl6 (by show rS Λ ad _ _ _ _ = _; rw [rS_md]; exact md_0 _ _ _) rfl rfl (Nat.le_of_ble_eq_true rfl) (by decide) rfl rfl (hk1 (by omega)) (hz1 (by omega)) dL_law_1074 ?_
  intro r4 c5 hs
  refine G_istore hO [(6, .int r4), (5, .int r1), (4, .int v4), (3, .ref (ad 22 0)), (2, .ref (ad 21 0)), (1, .ref (ad 20 0)), (0, .ref b)] dL_law_1077 (by decide) rfl ?_
  refine G_aload_n hO 4 dL_law_1079 rfl rfl ?_
  refine KV_Gri hO (rest := []) [] (rS_md Λ ad O3) (fun l => c_X6_thrown (fun _ h9 => hm _ (id_md h9)) hs) cv_X6_thrown mw_875 mw_876 mw_874 (hm _ (id_md (by decide))) cl6 (by show rS Λ ad _ _ _ _ = _; rw [rS_md]; exact md_0 _ _ _) rfl rfl (Nat.le_of_ble_eq_true rfl) (by decide) rfl rfl (hk1 (by omega)) (hz1 (by omega)) dL_law_1080 ?_
  intro r6 c7 hs
  refine G_iload hO 1 dL_law_1083 rfl ?_
  refine G_icmp_eq hO 1090 dL_law_1085 (by decide) (fun h10 => ?_) (fun h10 => ?_)
  · replace hs := hs.1 h10
    refine G_iload hO 1 dL_law_1090 rfl ?_
    refine G_if_ne hO 1107 dL_law_1092 (by decide) (fun h9 => ?_) (fun h9 => ?_)
    · replace hs := hs.1 h9
      refine G_goto hO 1783 dL_law_1107 (by decide) ?_
      refine G_lv hO [(4, .int v4), (3, .ref (ad 22 0)), (2, .ref (ad 21 0)), (1, .ref (ad 20 0)), (0, .ref b)] [2, 3, 4, 5, 6] rfl ?_
      exact G_widen hO (by omega) (by omega) (hK _ _ hs)
    · replace hs := hs.2 h9
      refine G_aload_n hO 3 dL_law_1095 rfl rfl ?_
      refine G_iconst hO 0 dL_law_1096 (by decide) ?_
      refine M_lald hO 0 (by decide) (hm _ id_ou) (vp_lit (by decide)) dL_law_1097 ?_
      refine G_iload hO 0 dL_law_1098 rfl ?_
      refine G_i2l hO dL_law_1100 ?_
      refine G_lcmp hO dL_law_1101 ?_
      refine G_if_eq hO 1107 dL_law_1102 (by decide) (fun h8 => ?_) (fun h8 => ?_)
      · replace hs := hs.1 h8
        refine G_goto hO 1783 dL_law_1107 (by decide) ?_
        refine G_lv hO [(4, .int v4), (3, .ref (ad 22 0)), (2, .ref (ad 21 0)), (1, .ref (ad 20 0)), (0, .ref b)] [2, 3, 4, 5, 6] rfl ?_
        exact G_widen hO (by omega) (by omega) (hK _ _ hs)
      · replace hs := hs.2 h8
        refine G_iconst hO 0 dL_law_1105 (by decide) ?_
        exact False.elim hs
  · replace hs := hs.2 h10
    refine G_iconst hO 0 dL_law_1088 (by decide) ?_
    exact False.elim hs
set_option maxHeartbeats 4000000 in
set_option maxRecDepth 20000 in
theorem c_law_C16 {Γ : Cx} {Λ : Lay} {B : Nat} {ids : List (Nat × Nat)} {ad : Nat → Nat → Nat} {k z : Nat} {b L : Nat} {xs : Nat → Int32} (hO : Ok Γ RL cL_law 8 room_1 Λ B) (hL : LX Γ b L xs) (hm : ∀ q, q ∈ ids0 → q ∈ ids) (hnr : (20, 6) ∉ ids) {v4 : Int32} {K : Mem → (Nat → Int64) → Prop} {M : Mem} {O : Nat → Int64} (hs : wL_law_C16 L xs v4 K M O) (hk : k + 2 ≤ 601024) (hz : z + 9 ≤ 7293034) (hK : ∀ (M : Mem) (O : Nat → Int64), K M O → G Γ ids ad (k + 2) (z + 9) (sh Λ ad M O) 1783 [(4, .int v4), (3, .ref (ad 22 0)), (2, .ref (ad 21 0)), (1, .ref (ad 20 0)), (0, .ref b)] []) : G Γ ids ad k z (sh Λ ad M O) 1110 [(4, .int v4), (3, .ref (ad 22 0)), (2, .ref (ad 21 0)), (1, .ref (ad 20 0)), (0, .ref b)] [] := by
  unfold wL_law_C16 at hs
  have hk1 : ∀ {q : Nat}, q ≤ k + 2 → q ≤ room_1.cells := fun h => Nat.le_trans h hk
  have hz1 : ∀ {q : Nat}, q ≤ z + 9 → q ≤ room_1.slots := fun h => Nat.le_trans h hz
  refine G_aload_n hO 3 dL_law_1110 rfl rfl ?_
  refine G_aload_n hO 1 dL_law_1111 rfl rfl ?_
  refine L_call hO hL (rest := []) [.ref (ad 20 0), .ref (ad 22 0)] (fun l h => c_L_undo hm hs h) cw_undo mw_697 mw_696 rfl rfl (Nat.le_of_ble_eq_true rfl) (by decide) ⟨hk1 (Nat.add_le_add_left (by decide) k), hz1 (Nat.add_le_add_left (by decide) z)⟩ dL_law_1112 ?_
  rintro v ids ad w9 ⟨rfl, rfl, M2, O3, r1, rfl, rfl, hs⟩
  show G Γ _ _ (k + 1) (z + 6) (sh Λ _ M2 O3) 1115 [(4, .int v4), (3, .ref (ad 22 0)), (2, .ref (ad 21 0)), (1, .ref (ad 20 0)), (0, .ref b)] [.int r1]
  refine G_istore hO [(5, .int r1), (4, .int v4), (3, .ref (ad 22 0)), (2, .ref (ad 21 0)), (1, .ref (ad 20 0)), (0, .ref b)] dL_law_1115 (by decide) rfl ?_
  refine G_aload_n hO 3 dL_law_1117 rfl rfl ?_
  refine KV_Gri hO (rest := []) [] (rS_md Λ ad O3) (fun l => c_X6_undo (fun _ h9 => hm _ (id_md h9)) hs) cv_X6_undo mw_1090 mw_1091 mw_1089 (hm _ (id_md (by decide))) cl6 (by show rS Λ ad _ _ _ _ = _; rw [rS_md]; exact md_0 _ _ _) rfl rfl (Nat.le_of_ble_eq_true rfl) (by decide) rfl rfl (hk1 (by omega)) (hz1 (by omega)) dL_law_1118 ?_
  intro r4 c5 hs
  refine G_istore hO [(6, .int r4), (5, .int r1), (4, .int v4), (3, .ref (ad 22 0)), (2, .ref (ad 21 0)), (1, .ref (ad 20 0)), (0, .ref b)] dL_law_1121 (by decide) rfl ?_
  refine G_aload_n hO 4 dL_law_1123 rfl rfl ?_
  refine KV_Gri hO (rest := []) [] (rS_md Λ ad O3) (fun l => c_X6_thrown (fun _ h9 => hm _ (id_md h9)) hs) cv_X6_thrown mw_875 mw_876 mw_874 (hm _ (id_md (by decide))) cl6 (by show rS Λ ad _ _ _ _ = _; rw [rS_md]; exact md_0 _ _ _) rfl rfl (Nat.le_of_ble_eq_true rfl) (by decide) rfl rfl (hk1 (by omega)) (hz1 (by omega)) dL_law_1124 ?_
  intro r6 c7 hs
  refine G_iload hO 1 dL_law_1127 rfl ?_
  refine G_icmp_eq hO 1134 dL_law_1129 (by decide) (fun h10 => ?_) (fun h10 => ?_)
  · replace hs := hs.1 h10
    refine G_iload hO 1 dL_law_1134 rfl ?_
    refine G_if_ne hO 1151 dL_law_1136 (by decide) (fun h9 => ?_) (fun h9 => ?_)
    · replace hs := hs.1 h9
      refine G_goto hO 1783 dL_law_1151 (by decide) ?_
      refine G_lv hO [(4, .int v4), (3, .ref (ad 22 0)), (2, .ref (ad 21 0)), (1, .ref (ad 20 0)), (0, .ref b)] [2, 3, 4, 5, 6] rfl ?_
      exact G_widen hO (by omega) (by omega) (hK _ _ hs)
    · replace hs := hs.2 h9
      refine G_aload_n hO 3 dL_law_1139 rfl rfl ?_
      refine G_iconst hO 0 dL_law_1140 (by decide) ?_
      refine M_lald hO 0 (by decide) (hm _ id_ou) (vp_lit (by decide)) dL_law_1141 ?_
      refine G_iload hO 0 dL_law_1142 rfl ?_
      refine G_i2l hO dL_law_1144 ?_
      refine G_lcmp hO dL_law_1145 ?_
      refine G_if_eq hO 1151 dL_law_1146 (by decide) (fun h8 => ?_) (fun h8 => ?_)
      · replace hs := hs.1 h8
        refine G_goto hO 1783 dL_law_1151 (by decide) ?_
        refine G_lv hO [(4, .int v4), (3, .ref (ad 22 0)), (2, .ref (ad 21 0)), (1, .ref (ad 20 0)), (0, .ref b)] [2, 3, 4, 5, 6] rfl ?_
        exact G_widen hO (by omega) (by omega) (hK _ _ hs)
      · replace hs := hs.2 h8
        refine G_iconst hO 0 dL_law_1149 (by decide) ?_
        exact False.elim hs
  · replace hs := hs.2 h10
    refine G_iconst hO 0 dL_law_1132 (by decide) ?_
    exact False.elim hs
set_option maxHeartbeats 4000000 in
set_option maxRecDepth 20000 in
theorem c_law_C17 {Γ : Cx} {Λ : Lay} {B : Nat} {ids : List (Nat × Nat)} {ad : Nat → Nat → Nat} {k z : Nat} {b L : Nat} {xs : Nat → Int32} (hO : Ok Γ RL cL_law 8 room_1 Λ B) (hL : LX Γ b L xs) (hm : ∀ q, q ∈ ids0 → q ∈ ids) (hnr : (20, 6) ∉ ids) {v4 : Int32} {K : Mem → (Nat → Int64) → Prop} {M : Mem} {O : Nat → Int64} (hs : wL_law_C17 L xs v4 K M O) (hk : k + 2 ≤ 601024) (hz : z + 9 ≤ 7293034) (hK : ∀ (M : Mem) (O : Nat → Int64), K M O → G Γ ids ad (k + 2) (z + 9) (sh Λ ad M O) 1783 [(4, .int v4), (3, .ref (ad 22 0)), (2, .ref (ad 21 0)), (1, .ref (ad 20 0)), (0, .ref b)] []) : G Γ ids ad k z (sh Λ ad M O) 1154 [(4, .int v4), (3, .ref (ad 22 0)), (2, .ref (ad 21 0)), (1, .ref (ad 20 0)), (0, .ref b)] [] := by
  unfold wL_law_C17 at hs
  have hk1 : ∀ {q : Nat}, q ≤ k + 2 → q ≤ room_1.cells := fun h => Nat.le_trans h hk
  have hz1 : ∀ {q : Nat}, q ≤ z + 9 → q ≤ room_1.slots := fun h => Nat.le_trans h hz
  refine G_aload_n hO 3 dL_law_1154 rfl rfl ?_
  refine G_aload_n hO 4 dL_law_1155 rfl rfl ?_
  refine G_iload hO 0 dL_law_1156 rfl ?_
  refine G_iconst hO 1 dL_law_1158 (by decide) ?_
  refine G_iadd hO dL_law_1159 ?_
  refine L_iald hO hL hs.1 dL_law_1160 ?_
  replace hs := hs.2
  refine G_aload_n hO 4 dL_law_1161 rfl rfl ?_
  refine G_iload hO 0 dL_law_1162 rfl ?_
  refine G_iconst hO 2 dL_law_1164 (by decide) ?_
  refine G_iadd hO dL_law_1165 ?_
  refine L_iald hO hL hs.1 dL_law_1166 ?_
  replace hs := hs.2
  refine G_aload_n hO 1 dL_law_1167 rfl rfl ?_
  refine L_call hO hL (rest := []) [.ref (ad 20 0), .int (xs (Int32.toNatClampNeg (v4 + 1))), .int (xs (Int32.toNatClampNeg (v4 + 2))), .ref (ad 22 0)] (fun l h => c_L_ahead hm hs h) cw_ahead mw_713 mw_712 rfl rfl (Nat.le_of_ble_eq_true rfl) (by decide) ⟨hk1 (Nat.add_le_add_left (by decide) k), hz1 (Nat.add_le_add_left (by decide) z)⟩ dL_law_1168 ?_
  rintro v ids ad w9 ⟨rfl, rfl, M2, O3, r1, rfl, rfl, hs⟩
  show G Γ _ _ (k + 1) (z + 6) (sh Λ _ M2 O3) 1171 [(4, .int v4), (3, .ref (ad 22 0)), (2, .ref (ad 21 0)), (1, .ref (ad 20 0)), (0, .ref b)] [.int r1]
  refine G_istore hO [(5, .int r1), (4, .int v4), (3, .ref (ad 22 0)), (2, .ref (ad 21 0)), (1, .ref (ad 20 0)), (0, .ref b)] dL_law_1171 (by decide) rfl ?_
  refine G_aload_n hO 3 dL_law_1173 rfl rfl ?_
  refine G_aload_n hO 5 dL_law_1174 rfl rfl ?_
  refine G_iload hO 1 dL_law_1175 rfl ?_
  refine G_iconst hO 1 dL_law_1177 (by decide) ?_
  refine G_iadd hO dL_law_1178 ?_
  refine L_iald hO hL hs.1 dL_law_1179 ?_
  replace hs := hs.2
  refine G_aload_n hO 5 dL_law_1180 rfl rfl ?_
  refine G_iload hO 1 dL_law_1181 rfl ?_
  refine G_iconst hO 2 dL_law_1183 (by decide) ?_
  refine G_iadd hO dL_law_1184 ?_
  refine L_iald hO hL hs.1 dL_law_1185 ?_
  replace hs := hs.2
  refine KV_Gri hO (rest := []) [.int (xs (Int32.toNatClampNeg (v4 + 1))), .int (xs (Int32.toNatClampNeg (v4 + 2)))] (rS_md Λ ad O3) (fun l => c_X6_ahead (fun _ h9 => hm _ (id_md h9)) hs) cv_X6_ahead mw_1094 mw_1095 mw_1093 (hm _ (id_md (by decide))) cl6 (by show rS Λ ad _ _ _ _ = _; rw [rS_md]; exact md_0 _ _ _) rfl rfl (Nat.le_of_ble_eq_true rfl) (by decide) rfl rfl (hk1 (by omega)) (hz1 (by omega)) dL_law_1186 ?_
  intro r4 c5 hs
  refine G_istore hO [(6, .int r4), (5, .int r1), (4, .int v4), (3, .ref (ad 22 0)), (2, .ref (ad 21 0)), (1, .ref (ad 20 0)), (0, .ref b)] dL_law_1189 (by decide) rfl ?_
  refine G_aload_n hO 4 dL_law_1191 rfl rfl ?_
  refine KV_Gri hO (rest := []) [] (rS_md Λ ad O3) (fun l => c_X6_thrown (fun _ h9 => hm _ (id_md h9)) hs) cv_X6_thrown mw_875 mw_876 mw_874 (hm _ (id_md (by decide))) cl6 (by show rS Λ ad _ _ _ _ = _; rw [rS_md]; exact md_0 _ _ _) rfl rfl (Nat.le_of_ble_eq_true rfl) (by decide) rfl rfl (hk1 (by omega)) (hz1 (by omega)) dL_law_1192 ?_
  intro r6 c7 hs
  refine G_iload hO 1 dL_law_1195 rfl ?_
  refine G_icmp_eq hO 1202 dL_law_1197 (by decide) (fun h10 => ?_) (fun h10 => ?_)
  · replace hs := hs.1 h10
    refine G_iload hO 1 dL_law_1202 rfl ?_
    refine G_if_ne hO 1219 dL_law_1204 (by decide) (fun h9 => ?_) (fun h9 => ?_)
    · replace hs := hs.1 h9
      refine G_goto hO 1783 dL_law_1219 (by decide) ?_
      refine G_lv hO [(4, .int v4), (3, .ref (ad 22 0)), (2, .ref (ad 21 0)), (1, .ref (ad 20 0)), (0, .ref b)] [2, 3, 4, 5, 6] rfl ?_
      exact G_widen hO (by omega) (by omega) (hK _ _ hs)
    · replace hs := hs.2 h9
      refine G_aload_n hO 3 dL_law_1207 rfl rfl ?_
      refine G_iconst hO 0 dL_law_1208 (by decide) ?_
      refine M_lald hO 0 (by decide) (hm _ id_ou) (vp_lit (by decide)) dL_law_1209 ?_
      refine G_iload hO 0 dL_law_1210 rfl ?_
      refine G_i2l hO dL_law_1212 ?_
      refine G_lcmp hO dL_law_1213 ?_
      refine G_if_eq hO 1219 dL_law_1214 (by decide) (fun h8 => ?_) (fun h8 => ?_)
      · replace hs := hs.1 h8
        refine G_goto hO 1783 dL_law_1219 (by decide) ?_
        refine G_lv hO [(4, .int v4), (3, .ref (ad 22 0)), (2, .ref (ad 21 0)), (1, .ref (ad 20 0)), (0, .ref b)] [2, 3, 4, 5, 6] rfl ?_
        exact G_widen hO (by omega) (by omega) (hK _ _ hs)
      · replace hs := hs.2 h8
        refine G_iconst hO 0 dL_law_1217 (by decide) ?_
        exact False.elim hs
  · replace hs := hs.2 h10
    refine G_iconst hO 0 dL_law_1200 (by decide) ?_
    exact False.elim hs
set_option maxHeartbeats 4000000 in
set_option maxRecDepth 20000 in
theorem c_law_C18 {Γ : Cx} {Λ : Lay} {B : Nat} {ids : List (Nat × Nat)} {ad : Nat → Nat → Nat} {k z : Nat} {b L : Nat} {xs : Nat → Int32} (hO : Ok Γ RL cL_law 8 room_1 Λ B) (hL : LX Γ b L xs) (hm : ∀ q, q ∈ ids0 → q ∈ ids) (hnr : (20, 6) ∉ ids) {v4 : Int32} {K : Mem → (Nat → Int64) → Prop} {M : Mem} {O : Nat → Int64} (hs : wL_law_C18 L xs v4 K M O) (hk : k + 2 ≤ 601024) (hz : z + 9 ≤ 7293034) (hK : ∀ (M : Mem) (O : Nat → Int64), K M O → G Γ ids ad (k + 2) (z + 9) (sh Λ ad M O) 1783 [(4, .int v4), (3, .ref (ad 22 0)), (2, .ref (ad 21 0)), (1, .ref (ad 20 0)), (0, .ref b)] []) : G Γ ids ad k z (sh Λ ad M O) 1222 [(4, .int v4), (3, .ref (ad 22 0)), (2, .ref (ad 21 0)), (1, .ref (ad 20 0)), (0, .ref b)] [] := by
  unfold wL_law_C18 at hs
  have hk1 : ∀ {q : Nat}, q ≤ k + 2 → q ≤ room_1.cells := fun h => Nat.le_trans h hk
  have hz1 : ∀ {q : Nat}, q ≤ z + 9 → q ≤ room_1.slots := fun h => Nat.le_trans h hz
  refine G_aload_n hO 3 dL_law_1222 rfl rfl ?_
  refine G_aload_n hO 4 dL_law_1223 rfl rfl ?_
  refine G_iload hO 0 dL_law_1224 rfl ?_
  refine G_iconst hO 1 dL_law_1226 (by decide) ?_
  refine G_iadd hO dL_law_1227 ?_
  refine L_iald hO hL hs.1 dL_law_1228 ?_
  replace hs := hs.2
  refine G_aload_n hO 1 dL_law_1229 rfl rfl ?_
  refine L_call hO hL (rest := []) [.ref (ad 20 0), .int (xs (Int32.toNatClampNeg (v4 + 1))), .ref (ad 22 0)] (fun l h => c_L_minutesTo hm hs h) cw_minutesTo mw_721 mw_720 rfl rfl (Nat.le_of_ble_eq_true rfl) (by decide) ⟨hk1 (Nat.add_le_add_left (by decide) k), hz1 (Nat.add_le_add_left (by decide) z)⟩ dL_law_1230 ?_
  rintro v ids ad w9 ⟨rfl, rfl, M2, O3, r1, rfl, rfl, hs⟩
  show G Γ _ _ (k + 1) (z + 6) (sh Λ _ M2 O3) 1233 [(4, .int v4), (3, .ref (ad 22 0)), (2, .ref (ad 21 0)), (1, .ref (ad 20 0)), (0, .ref b)] [.int r1]
  refine G_istore hO [(5, .int r1), (4, .int v4), (3, .ref (ad 22 0)), (2, .ref (ad 21 0)), (1, .ref (ad 20 0)), (0, .ref b)] dL_law_1233 (by decide) rfl ?_
  refine G_aload_n hO 3 dL_law_1235 rfl rfl ?_
  refine G_aload_n hO 5 dL_law_1236 rfl rfl ?_
  refine G_iload hO 1 dL_law_1237 rfl ?_
  refine G_iconst hO 1 dL_law_1239 (by decide) ?_
  refine G_iadd hO dL_law_1240 ?_
  refine L_iald hO hL hs.1 dL_law_1241 ?_
  replace hs := hs.2
  refine KV_Gri hO (rest := []) [.int (xs (Int32.toNatClampNeg (v4 + 1)))] (rS_md Λ ad O3) (fun l => c_X6_minutesTo (fun _ h9 => hm _ (id_md h9)) hs) cv_X6_minutesTo mw_1106 mw_1107 mw_1105 (hm _ (id_md (by decide))) cl6 (by show rS Λ ad _ _ _ _ = _; rw [rS_md]; exact md_0 _ _ _) rfl rfl (Nat.le_of_ble_eq_true rfl) (by decide) rfl rfl (hk1 (by omega)) (hz1 (by omega)) dL_law_1242 ?_
  intro r4 c5 hs
  refine G_istore hO [(6, .int r4), (5, .int r1), (4, .int v4), (3, .ref (ad 22 0)), (2, .ref (ad 21 0)), (1, .ref (ad 20 0)), (0, .ref b)] dL_law_1245 (by decide) rfl ?_
  refine G_aload_n hO 4 dL_law_1247 rfl rfl ?_
  refine KV_Gri hO (rest := []) [] (rS_md Λ ad O3) (fun l => c_X6_thrown (fun _ h9 => hm _ (id_md h9)) hs) cv_X6_thrown mw_875 mw_876 mw_874 (hm _ (id_md (by decide))) cl6 (by show rS Λ ad _ _ _ _ = _; rw [rS_md]; exact md_0 _ _ _) rfl rfl (Nat.le_of_ble_eq_true rfl) (by decide) rfl rfl (hk1 (by omega)) (hz1 (by omega)) dL_law_1248 ?_
  intro r6 c7 hs
  refine G_iload hO 1 dL_law_1251 rfl ?_
  refine G_icmp_eq hO 1258 dL_law_1253 (by decide) (fun h10 => ?_) (fun h10 => ?_)
  · replace hs := hs.1 h10
    refine G_iload hO 1 dL_law_1258 rfl ?_
    refine G_if_ne hO 1275 dL_law_1260 (by decide) (fun h9 => ?_) (fun h9 => ?_)
    · replace hs := hs.1 h9
      refine G_goto hO 1783 dL_law_1275 (by decide) ?_
      refine G_lv hO [(4, .int v4), (3, .ref (ad 22 0)), (2, .ref (ad 21 0)), (1, .ref (ad 20 0)), (0, .ref b)] [2, 3, 4, 5, 6] rfl ?_
      exact G_widen hO (by omega) (by omega) (hK _ _ hs)
    · replace hs := hs.2 h9
      refine G_aload_n hO 3 dL_law_1263 rfl rfl ?_
      refine G_iconst hO 0 dL_law_1264 (by decide) ?_
      refine M_lald hO 0 (by decide) (hm _ id_ou) (vp_lit (by decide)) dL_law_1265 ?_
      refine G_iload hO 0 dL_law_1266 rfl ?_
      refine G_i2l hO dL_law_1268 ?_
      refine G_lcmp hO dL_law_1269 ?_
      refine G_if_eq hO 1275 dL_law_1270 (by decide) (fun h8 => ?_) (fun h8 => ?_)
      · replace hs := hs.1 h8
        refine G_goto hO 1783 dL_law_1275 (by decide) ?_
        refine G_lv hO [(4, .int v4), (3, .ref (ad 22 0)), (2, .ref (ad 21 0)), (1, .ref (ad 20 0)), (0, .ref b)] [2, 3, 4, 5, 6] rfl ?_
        exact G_widen hO (by omega) (by omega) (hK _ _ hs)
      · replace hs := hs.2 h8
        refine G_iconst hO 0 dL_law_1273 (by decide) ?_
        exact False.elim hs
  · replace hs := hs.2 h10
    refine G_iconst hO 0 dL_law_1256 (by decide) ?_
    exact False.elim hs
set_option maxHeartbeats 4000000 in
set_option maxRecDepth 20000 in
theorem c_law_C19 {Γ : Cx} {Λ : Lay} {B : Nat} {ids : List (Nat × Nat)} {ad : Nat → Nat → Nat} {k z : Nat} {b L : Nat} {xs : Nat → Int32} (hO : Ok Γ RL cL_law 8 room_1 Λ B) (hL : LX Γ b L xs) (hm : ∀ q, q ∈ ids0 → q ∈ ids) (hnr : (20, 6) ∉ ids) {v4 : Int32} {K : Mem → (Nat → Int64) → Prop} {M : Mem} {O : Nat → Int64} (hs : wL_law_C19 L xs v4 K M O) (hk : k + 2 ≤ 601024) (hz : z + 9 ≤ 7293034) (hK : ∀ (M : Mem) (O : Nat → Int64), K M O → G Γ ids ad (k + 2) (z + 9) (sh Λ ad M O) 1783 [(4, .int v4), (3, .ref (ad 22 0)), (2, .ref (ad 21 0)), (1, .ref (ad 20 0)), (0, .ref b)] []) : G Γ ids ad k z (sh Λ ad M O) 1278 [(4, .int v4), (3, .ref (ad 22 0)), (2, .ref (ad 21 0)), (1, .ref (ad 20 0)), (0, .ref b)] [] := by
  unfold wL_law_C19 at hs
  have hk1 : ∀ {q : Nat}, q ≤ k + 2 → q ≤ room_1.cells := fun h => Nat.le_trans h hk
  have hz1 : ∀ {q : Nat}, q ≤ z + 9 → q ≤ room_1.slots := fun h => Nat.le_trans h hz
  refine G_aload_n hO 3 dL_law_1278 rfl rfl ?_
  refine KV_Gi hO (rest := []) [] (fun l => c_X5_whyOff hm hs) cv_X5_whyOff mw_299 mw_300 mw_298 (hm _ (id_gl (by decide))) cl5 (by show rS Λ ad _ _ _ _ = _; rw [rS_gl]; exact gl_0 _ _ _) rfl rfl (Nat.le_of_ble_eq_true rfl) (by decide) rfl rfl (hk1 (by omega)) (hz1 (by omega)) dL_law_1279 ?_
  intro r1 M2 hs
  refine G_aload_n hO 2 dL_law_1282 rfl rfl ?_
  refine KV_Gri hO (rest := [.int r1]) [] (rS_md Λ ad O) (fun l => c_X6_whyOff (fun _ h9 => hm _ (id_md h9)) hs) cv_X6_whyOff mw_1110 mw_1111 mw_1109 (hm _ (id_md (by decide))) cl6 (by show rS Λ ad _ _ _ _ = _; rw [rS_md]; exact md_0 _ _ _) rfl rfl (Nat.le_of_ble_eq_true rfl) (by decide) rfl rfl (hk1 (by omega)) (hz1 (by omega)) dL_law_1283 ?_
  intro r3 c4 hs
  refine G_icmp_eq hO 1783 dL_law_1286 (by decide) (fun h5 => ?_) (fun h5 => ?_)
  · replace hs := hs.1 h5
    exact G_widen hO (by omega) (by omega) (hK _ _ hs)
  · replace hs := hs.2 h5
    refine G_iconst hO 0 dL_law_1289 (by decide) ?_
    exact False.elim hs
set_option maxHeartbeats 4000000 in
set_option maxRecDepth 20000 in
theorem c_law_C20 {Γ : Cx} {Λ : Lay} {B : Nat} {ids : List (Nat × Nat)} {ad : Nat → Nat → Nat} {k z : Nat} {b L : Nat} {xs : Nat → Int32} (hO : Ok Γ RL cL_law 8 room_1 Λ B) (hL : LX Γ b L xs) (hm : ∀ q, q ∈ ids0 → q ∈ ids) (hnr : (20, 6) ∉ ids) {v4 : Int32} {K : Mem → (Nat → Int64) → Prop} {M : Mem} {O : Nat → Int64} (hs : wL_law_C20 L xs v4 K M O) (hk : k + 2 ≤ 601024) (hz : z + 9 ≤ 7293034) (hK : ∀ (M : Mem) (O : Nat → Int64), K M O → G Γ ids ad (k + 2) (z + 9) (sh Λ ad M O) 1783 [(4, .int v4), (3, .ref (ad 22 0)), (2, .ref (ad 21 0)), (1, .ref (ad 20 0)), (0, .ref b)] []) : G Γ ids ad k z (sh Λ ad M O) 1291 [(4, .int v4), (3, .ref (ad 22 0)), (2, .ref (ad 21 0)), (1, .ref (ad 20 0)), (0, .ref b)] [] := by
  unfold wL_law_C20 at hs
  have hk1 : ∀ {q : Nat}, q ≤ k + 2 → q ≤ room_1.cells := fun h => Nat.le_trans h hk
  have hz1 : ∀ {q : Nat}, q ≤ z + 9 → q ≤ room_1.slots := fun h => Nat.le_trans h hz
  refine G_aload_n hO 3 dL_law_1291 rfl rfl ?_
  refine KV_Gi hO (rest := []) [] (fun l => c_X5_whyShare hm hs) cv_X5_whyShare mw_345 mw_346 mw_344 (hm _ (id_gl (by decide))) cl5 (by show rS Λ ad _ _ _ _ = _; rw [rS_gl]; exact gl_0 _ _ _) rfl rfl (Nat.le_of_ble_eq_true rfl) (by decide) rfl rfl (hk1 (by omega)) (hz1 (by omega)) dL_law_1292 ?_
  intro r1 M2 hs
  refine G_aload_n hO 2 dL_law_1295 rfl rfl ?_
  refine KV_Gri hO (rest := [.int r1]) [] (rS_md Λ ad O) (fun l => c_X6_whyShare (fun _ h9 => hm _ (id_md h9)) hs) cv_X6_whyShare mw_1114 mw_1115 mw_1113 (hm _ (id_md (by decide))) cl6 (by show rS Λ ad _ _ _ _ = _; rw [rS_md]; exact md_0 _ _ _) rfl rfl (Nat.le_of_ble_eq_true rfl) (by decide) rfl rfl (hk1 (by omega)) (hz1 (by omega)) dL_law_1296 ?_
  intro r3 c4 hs
  refine G_icmp_eq hO 1783 dL_law_1299 (by decide) (fun h5 => ?_) (fun h5 => ?_)
  · replace hs := hs.1 h5
    exact G_widen hO (by omega) (by omega) (hK _ _ hs)
  · replace hs := hs.2 h5
    refine G_iconst hO 0 dL_law_1302 (by decide) ?_
    exact False.elim hs
set_option maxHeartbeats 4000000 in
set_option maxRecDepth 20000 in
theorem c_law_C21 {Γ : Cx} {Λ : Lay} {B : Nat} {ids : List (Nat × Nat)} {ad : Nat → Nat → Nat} {k z : Nat} {b L : Nat} {xs : Nat → Int32} (hO : Ok Γ RL cL_law 8 room_1 Λ B) (hL : LX Γ b L xs) (hm : ∀ q, q ∈ ids0 → q ∈ ids) (hnr : (20, 6) ∉ ids) {v4 : Int32} {K : Mem → (Nat → Int64) → Prop} {M : Mem} {O : Nat → Int64} (hs : wL_law_C21 L xs v4 K M O) (hk : k + 2 ≤ 601024) (hz : z + 9 ≤ 7293034) (hK : ∀ (M : Mem) (O : Nat → Int64), K M O → G Γ ids ad (k + 2) (z + 9) (sh Λ ad M O) 1783 [(4, .int v4), (3, .ref (ad 22 0)), (2, .ref (ad 21 0)), (1, .ref (ad 20 0)), (0, .ref b)] []) : G Γ ids ad k z (sh Λ ad M O) 1304 [(4, .int v4), (3, .ref (ad 22 0)), (2, .ref (ad 21 0)), (1, .ref (ad 20 0)), (0, .ref b)] [] := by
  unfold wL_law_C21 at hs
  have hk1 : ∀ {q : Nat}, q ≤ k + 2 → q ≤ room_1.cells := fun h => Nat.le_trans h hk
  have hz1 : ∀ {q : Nat}, q ≤ z + 9 → q ≤ room_1.slots := fun h => Nat.le_trans h hz
  refine G_aload_n hO 3 dL_law_1304 rfl rfl ?_
  refine G_aload_n hO 4 dL_law_1305 rfl rfl ?_
  refine G_iload hO 0 dL_law_1306 rfl ?_
  refine G_iconst hO 1 dL_law_1308 (by decide) ?_
  refine G_iadd hO dL_law_1309 ?_
  refine L_iald hO hL hs.1 dL_law_1310 ?_
  replace hs := hs.2
  refine G_aload_n hO 1 dL_law_1311 rfl rfl ?_
  refine L_call hO hL (rest := []) [.ref (ad 20 0), .int (xs (Int32.toNatClampNeg (v4 + 1))), .ref (ad 22 0)] (fun l h => c_L_bestSlope hm hs h) cw_bestSlope mw_732 mw_731 rfl rfl (Nat.le_of_ble_eq_true rfl) (by decide) ⟨hk1 (Nat.add_le_add_left (by decide) k), hz1 (Nat.add_le_add_left (by decide) z)⟩ dL_law_1312 ?_
  rintro v ids ad w9 ⟨rfl, rfl, M2, O3, r1, rfl, rfl, hs⟩
  show G Γ _ _ (k + 1) (z + 6) (sh Λ _ M2 O3) 1315 [(4, .int v4), (3, .ref (ad 22 0)), (2, .ref (ad 21 0)), (1, .ref (ad 20 0)), (0, .ref b)] [.int r1]
  refine G_istore hO [(5, .int r1), (4, .int v4), (3, .ref (ad 22 0)), (2, .ref (ad 21 0)), (1, .ref (ad 20 0)), (0, .ref b)] dL_law_1315 (by decide) rfl ?_
  refine G_aload_n hO 3 dL_law_1317 rfl rfl ?_
  refine G_aload_n hO 5 dL_law_1318 rfl rfl ?_
  refine G_iload hO 1 dL_law_1319 rfl ?_
  refine G_iconst hO 1 dL_law_1321 (by decide) ?_
  refine G_iadd hO dL_law_1322 ?_
  refine L_iald hO hL hs.1 dL_law_1323 ?_
  replace hs := hs.2
  refine KV_Gri hO (rest := []) [.int (xs (Int32.toNatClampNeg (v4 + 1)))] (rS_md Λ ad O3) (fun l => c_X6_bestSlope (fun _ h9 => hm _ (id_md h9)) hs) cv_X6_bestSlope mw_1118 mw_1119 mw_1117 (hm _ (id_md (by decide))) cl6 (by show rS Λ ad _ _ _ _ = _; rw [rS_md]; exact md_0 _ _ _) rfl rfl (Nat.le_of_ble_eq_true rfl) (by decide) rfl rfl (hk1 (by omega)) (hz1 (by omega)) dL_law_1324 ?_
  intro r4 c5 hs
  refine G_istore hO [(6, .int r4), (5, .int r1), (4, .int v4), (3, .ref (ad 22 0)), (2, .ref (ad 21 0)), (1, .ref (ad 20 0)), (0, .ref b)] dL_law_1327 (by decide) rfl ?_
  refine G_aload_n hO 4 dL_law_1329 rfl rfl ?_
  refine KV_Gri hO (rest := []) [] (rS_md Λ ad O3) (fun l => c_X6_thrown (fun _ h9 => hm _ (id_md h9)) hs) cv_X6_thrown mw_875 mw_876 mw_874 (hm _ (id_md (by decide))) cl6 (by show rS Λ ad _ _ _ _ = _; rw [rS_md]; exact md_0 _ _ _) rfl rfl (Nat.le_of_ble_eq_true rfl) (by decide) rfl rfl (hk1 (by omega)) (hz1 (by omega)) dL_law_1330 ?_
  intro r6 c7 hs
  refine G_iload hO 1 dL_law_1333 rfl ?_
  refine G_icmp_eq hO 1340 dL_law_1335 (by decide) (fun h10 => ?_) (fun h10 => ?_)
  · replace hs := hs.1 h10
    refine G_iload hO 1 dL_law_1340 rfl ?_
    refine G_if_ne hO 1357 dL_law_1342 (by decide) (fun h9 => ?_) (fun h9 => ?_)
    · replace hs := hs.1 h9
      refine G_goto hO 1783 dL_law_1357 (by decide) ?_
      refine G_lv hO [(4, .int v4), (3, .ref (ad 22 0)), (2, .ref (ad 21 0)), (1, .ref (ad 20 0)), (0, .ref b)] [2, 3, 4, 5, 6] rfl ?_
      exact G_widen hO (by omega) (by omega) (hK _ _ hs)
    · replace hs := hs.2 h9
      refine G_aload_n hO 3 dL_law_1345 rfl rfl ?_
      refine G_iconst hO 0 dL_law_1346 (by decide) ?_
      refine M_lald hO 0 (by decide) (hm _ id_ou) (vp_lit (by decide)) dL_law_1347 ?_
      refine G_iload hO 0 dL_law_1348 rfl ?_
      refine G_i2l hO dL_law_1350 ?_
      refine G_lcmp hO dL_law_1351 ?_
      refine G_if_eq hO 1357 dL_law_1352 (by decide) (fun h8 => ?_) (fun h8 => ?_)
      · replace hs := hs.1 h8
        refine G_goto hO 1783 dL_law_1357 (by decide) ?_
        refine G_lv hO [(4, .int v4), (3, .ref (ad 22 0)), (2, .ref (ad 21 0)), (1, .ref (ad 20 0)), (0, .ref b)] [2, 3, 4, 5, 6] rfl ?_
        exact G_widen hO (by omega) (by omega) (hK _ _ hs)
      · replace hs := hs.2 h8
        refine G_iconst hO 0 dL_law_1355 (by decide) ?_
        exact False.elim hs
  · replace hs := hs.2 h10
    refine G_iconst hO 0 dL_law_1338 (by decide) ?_
    exact False.elim hs
set_option maxHeartbeats 4000000 in
set_option maxRecDepth 20000 in
theorem c_law_C22 {Γ : Cx} {Λ : Lay} {B : Nat} {ids : List (Nat × Nat)} {ad : Nat → Nat → Nat} {k z : Nat} {b L : Nat} {xs : Nat → Int32} (hO : Ok Γ RL cL_law 8 room_1 Λ B) (hL : LX Γ b L xs) (hm : ∀ q, q ∈ ids0 → q ∈ ids) (hnr : (20, 6) ∉ ids) {v4 : Int32} {K : Mem → (Nat → Int64) → Prop} {M : Mem} {O : Nat → Int64} (hs : wL_law_C22 L xs v4 K M O) (hk : k + 2 ≤ 601024) (hz : z + 9 ≤ 7293034) (hK : ∀ (M : Mem) (O : Nat → Int64), K M O → G Γ ids ad (k + 2) (z + 9) (sh Λ ad M O) 1783 [(4, .int v4), (3, .ref (ad 22 0)), (2, .ref (ad 21 0)), (1, .ref (ad 20 0)), (0, .ref b)] []) : G Γ ids ad k z (sh Λ ad M O) 1360 [(4, .int v4), (3, .ref (ad 22 0)), (2, .ref (ad 21 0)), (1, .ref (ad 20 0)), (0, .ref b)] [] := by
  unfold wL_law_C22 at hs
  have hk1 : ∀ {q : Nat}, q ≤ k + 2 → q ≤ room_1.cells := fun h => Nat.le_trans h hk
  have hz1 : ∀ {q : Nat}, q ≤ z + 9 → q ≤ room_1.slots := fun h => Nat.le_trans h hz
  refine G_aload_n hO 3 dL_law_1360 rfl rfl ?_
  refine G_aload_n hO 4 dL_law_1361 rfl rfl ?_
  refine G_iload hO 0 dL_law_1362 rfl ?_
  refine G_iconst hO 1 dL_law_1364 (by decide) ?_
  refine G_iadd hO dL_law_1365 ?_
  refine L_iald hO hL hs.1 dL_law_1366 ?_
  replace hs := hs.2
  refine G_aload_n hO 1 dL_law_1367 rfl rfl ?_
  refine L_call hO hL (rest := []) [.ref (ad 20 0), .int (xs (Int32.toNatClampNeg (v4 + 1))), .ref (ad 22 0)] (fun l h => c_L_leastPower hm hs h) cw_leastPower mw_740 mw_739 rfl rfl (Nat.le_of_ble_eq_true rfl) (by decide) ⟨hk1 (Nat.add_le_add_left (by decide) k), hz1 (Nat.add_le_add_left (by decide) z)⟩ dL_law_1368 ?_
  rintro v ids ad w9 ⟨rfl, rfl, M2, O3, r1, rfl, rfl, hs⟩
  show G Γ _ _ (k + 1) (z + 6) (sh Λ _ M2 O3) 1371 [(4, .int v4), (3, .ref (ad 22 0)), (2, .ref (ad 21 0)), (1, .ref (ad 20 0)), (0, .ref b)] [.int r1]
  refine G_istore hO [(5, .int r1), (4, .int v4), (3, .ref (ad 22 0)), (2, .ref (ad 21 0)), (1, .ref (ad 20 0)), (0, .ref b)] dL_law_1371 (by decide) rfl ?_
  refine G_aload_n hO 3 dL_law_1373 rfl rfl ?_
  refine G_aload_n hO 5 dL_law_1374 rfl rfl ?_
  refine G_iload hO 1 dL_law_1375 rfl ?_
  refine G_iconst hO 1 dL_law_1377 (by decide) ?_
  refine G_iadd hO dL_law_1378 ?_
  refine L_iald hO hL hs.1 dL_law_1379 ?_
  replace hs := hs.2
  refine KV_Gri hO (rest := []) [.int (xs (Int32.toNatClampNeg (v4 + 1)))] (rS_md Λ ad O3) (fun l => c_X6_leastPower (fun _ h9 => hm _ (id_md h9)) hs) cv_X6_leastPower mw_1122 mw_1123 mw_1121 (hm _ (id_md (by decide))) cl6 (by show rS Λ ad _ _ _ _ = _; rw [rS_md]; exact md_0 _ _ _) rfl rfl (Nat.le_of_ble_eq_true rfl) (by decide) rfl rfl (hk1 (by omega)) (hz1 (by omega)) dL_law_1380 ?_
  intro r4 c5 hs
  refine G_istore hO [(6, .int r4), (5, .int r1), (4, .int v4), (3, .ref (ad 22 0)), (2, .ref (ad 21 0)), (1, .ref (ad 20 0)), (0, .ref b)] dL_law_1383 (by decide) rfl ?_
  refine G_aload_n hO 4 dL_law_1385 rfl rfl ?_
  refine KV_Gri hO (rest := []) [] (rS_md Λ ad O3) (fun l => c_X6_thrown (fun _ h9 => hm _ (id_md h9)) hs) cv_X6_thrown mw_875 mw_876 mw_874 (hm _ (id_md (by decide))) cl6 (by show rS Λ ad _ _ _ _ = _; rw [rS_md]; exact md_0 _ _ _) rfl rfl (Nat.le_of_ble_eq_true rfl) (by decide) rfl rfl (hk1 (by omega)) (hz1 (by omega)) dL_law_1386 ?_
  intro r6 c7 hs
  refine G_iload hO 1 dL_law_1389 rfl ?_
  refine G_icmp_eq hO 1396 dL_law_1391 (by decide) (fun h10 => ?_) (fun h10 => ?_)
  · replace hs := hs.1 h10
    refine G_iload hO 1 dL_law_1396 rfl ?_
    refine G_if_ne hO 1413 dL_law_1398 (by decide) (fun h9 => ?_) (fun h9 => ?_)
    · replace hs := hs.1 h9
      refine G_goto hO 1783 dL_law_1413 (by decide) ?_
      refine G_lv hO [(4, .int v4), (3, .ref (ad 22 0)), (2, .ref (ad 21 0)), (1, .ref (ad 20 0)), (0, .ref b)] [2, 3, 4, 5, 6] rfl ?_
      exact G_widen hO (by omega) (by omega) (hK _ _ hs)
    · replace hs := hs.2 h9
      refine G_aload_n hO 3 dL_law_1401 rfl rfl ?_
      refine G_iconst hO 0 dL_law_1402 (by decide) ?_
      refine M_lald hO 0 (by decide) (hm _ id_ou) (vp_lit (by decide)) dL_law_1403 ?_
      refine G_iload hO 0 dL_law_1404 rfl ?_
      refine G_i2l hO dL_law_1406 ?_
      refine G_lcmp hO dL_law_1407 ?_
      refine G_if_eq hO 1413 dL_law_1408 (by decide) (fun h8 => ?_) (fun h8 => ?_)
      · replace hs := hs.1 h8
        refine G_goto hO 1783 dL_law_1413 (by decide) ?_
        refine G_lv hO [(4, .int v4), (3, .ref (ad 22 0)), (2, .ref (ad 21 0)), (1, .ref (ad 20 0)), (0, .ref b)] [2, 3, 4, 5, 6] rfl ?_
        exact G_widen hO (by omega) (by omega) (hK _ _ hs)
      · replace hs := hs.2 h8
        refine G_iconst hO 0 dL_law_1411 (by decide) ?_
        exact False.elim hs
  · replace hs := hs.2 h10
    refine G_iconst hO 0 dL_law_1394 (by decide) ?_
    exact False.elim hs
set_option maxHeartbeats 4000000 in
set_option maxRecDepth 20000 in
theorem c_law_C23 {Γ : Cx} {Λ : Lay} {B : Nat} {ids : List (Nat × Nat)} {ad : Nat → Nat → Nat} {k z : Nat} {b L : Nat} {xs : Nat → Int32} (hO : Ok Γ RL cL_law 8 room_1 Λ B) (hL : LX Γ b L xs) (hm : ∀ q, q ∈ ids0 → q ∈ ids) (hnr : (20, 6) ∉ ids) {v4 : Int32} {K : Mem → (Nat → Int64) → Prop} {M : Mem} {O : Nat → Int64} (hs : wL_law_C23 L xs v4 K M O) (hk : k + 2 ≤ 601024) (hz : z + 9 ≤ 7293034) (hK : ∀ (M : Mem) (O : Nat → Int64), K M O → G Γ ids ad (k + 2) (z + 9) (sh Λ ad M O) 1783 [(4, .int v4), (3, .ref (ad 22 0)), (2, .ref (ad 21 0)), (1, .ref (ad 20 0)), (0, .ref b)] []) : G Γ ids ad k z (sh Λ ad M O) 1416 [(4, .int v4), (3, .ref (ad 22 0)), (2, .ref (ad 21 0)), (1, .ref (ad 20 0)), (0, .ref b)] [] := by
  unfold wL_law_C23 at hs
  have hk1 : ∀ {q : Nat}, q ≤ k + 2 → q ≤ room_1.cells := fun h => Nat.le_trans h hk
  have hz1 : ∀ {q : Nat}, q ≤ z + 9 → q ≤ room_1.slots := fun h => Nat.le_trans h hz
  refine G_aload_n hO 3 dL_law_1416 rfl rfl ?_
  refine G_aload_n hO 4 dL_law_1417 rfl rfl ?_
  refine G_iload hO 0 dL_law_1418 rfl ?_
  refine G_iconst hO 1 dL_law_1420 (by decide) ?_
  refine G_iadd hO dL_law_1421 ?_
  refine L_iald hO hL hs.1 dL_law_1422 ?_
  replace hs := hs.2
  refine G_aload_n hO 1 dL_law_1423 rfl rfl ?_
  refine L_call hO hL (rest := []) [.ref (ad 20 0), .int (xs (Int32.toNatClampNeg (v4 + 1))), .ref (ad 22 0)] (fun l h => c_L_heatFor hm hs h) cw_heatFor mw_755 mw_754 rfl rfl (Nat.le_of_ble_eq_true rfl) (by decide) ⟨hk1 (Nat.add_le_add_left (by decide) k), hz1 (Nat.add_le_add_left (by decide) z)⟩ dL_law_1424 ?_
  rintro v ids ad w9 ⟨rfl, rfl, M2, O3, r1, rfl, rfl, hs⟩
  show G Γ _ _ (k + 1) (z + 6) (sh Λ _ M2 O3) 1427 [(4, .int v4), (3, .ref (ad 22 0)), (2, .ref (ad 21 0)), (1, .ref (ad 20 0)), (0, .ref b)] [.int r1]
  refine G_istore hO [(5, .int r1), (4, .int v4), (3, .ref (ad 22 0)), (2, .ref (ad 21 0)), (1, .ref (ad 20 0)), (0, .ref b)] dL_law_1427 (by decide) rfl ?_
  refine G_aload_n hO 3 dL_law_1429 rfl rfl ?_
  refine G_aload_n hO 5 dL_law_1430 rfl rfl ?_
  refine G_iload hO 1 dL_law_1431 rfl ?_
  refine G_iconst hO 1 dL_law_1433 (by decide) ?_
  refine G_iadd hO dL_law_1434 ?_
  refine L_iald hO hL hs.1 dL_law_1435 ?_
  replace hs := hs.2
  refine KV_Gri hO (rest := []) [.int (xs (Int32.toNatClampNeg (v4 + 1)))] (rS_md Λ ad O3) (fun l => c_X6_heatFor (fun _ h9 => hm _ (id_md h9)) hs) cv_X6_heatFor mw_1130 mw_1131 mw_1129 (hm _ (id_md (by decide))) cl6 (by show rS Λ ad _ _ _ _ = _; rw [rS_md]; exact md_0 _ _ _) rfl rfl (Nat.le_of_ble_eq_true rfl) (by decide) rfl rfl (hk1 (by omega)) (hz1 (by omega)) dL_law_1436 ?_
  intro r4 c5 hs
  refine G_istore hO [(6, .int r4), (5, .int r1), (4, .int v4), (3, .ref (ad 22 0)), (2, .ref (ad 21 0)), (1, .ref (ad 20 0)), (0, .ref b)] dL_law_1439 (by decide) rfl ?_
  refine G_aload_n hO 4 dL_law_1441 rfl rfl ?_
  refine KV_Gri hO (rest := []) [] (rS_md Λ ad O3) (fun l => c_X6_thrown (fun _ h9 => hm _ (id_md h9)) hs) cv_X6_thrown mw_875 mw_876 mw_874 (hm _ (id_md (by decide))) cl6 (by show rS Λ ad _ _ _ _ = _; rw [rS_md]; exact md_0 _ _ _) rfl rfl (Nat.le_of_ble_eq_true rfl) (by decide) rfl rfl (hk1 (by omega)) (hz1 (by omega)) dL_law_1442 ?_
  intro r6 c7 hs
  refine G_iload hO 1 dL_law_1445 rfl ?_
  refine G_icmp_eq hO 1452 dL_law_1447 (by decide) (fun h10 => ?_) (fun h10 => ?_)
  · replace hs := hs.1 h10
    refine G_iload hO 1 dL_law_1452 rfl ?_
    refine G_if_ne hO 1469 dL_law_1454 (by decide) (fun h9 => ?_) (fun h9 => ?_)
    · replace hs := hs.1 h9
      refine G_goto hO 1783 dL_law_1469 (by decide) ?_
      refine G_lv hO [(4, .int v4), (3, .ref (ad 22 0)), (2, .ref (ad 21 0)), (1, .ref (ad 20 0)), (0, .ref b)] [2, 3, 4, 5, 6] rfl ?_
      exact G_widen hO (by omega) (by omega) (hK _ _ hs)
    · replace hs := hs.2 h9
      refine G_aload_n hO 3 dL_law_1457 rfl rfl ?_
      refine G_iconst hO 0 dL_law_1458 (by decide) ?_
      refine M_lald hO 0 (by decide) (hm _ id_ou) (vp_lit (by decide)) dL_law_1459 ?_
      refine G_iload hO 0 dL_law_1460 rfl ?_
      refine G_i2l hO dL_law_1462 ?_
      refine G_lcmp hO dL_law_1463 ?_
      refine G_if_eq hO 1469 dL_law_1464 (by decide) (fun h8 => ?_) (fun h8 => ?_)
      · replace hs := hs.1 h8
        refine G_goto hO 1783 dL_law_1469 (by decide) ?_
        refine G_lv hO [(4, .int v4), (3, .ref (ad 22 0)), (2, .ref (ad 21 0)), (1, .ref (ad 20 0)), (0, .ref b)] [2, 3, 4, 5, 6] rfl ?_
        exact G_widen hO (by omega) (by omega) (hK _ _ hs)
      · replace hs := hs.2 h8
        refine G_iconst hO 0 dL_law_1467 (by decide) ?_
        exact False.elim hs
  · replace hs := hs.2 h10
    refine G_iconst hO 0 dL_law_1450 (by decide) ?_
    exact False.elim hs
set_option maxHeartbeats 4000000 in
set_option maxRecDepth 20000 in
theorem c_law_C24 {Γ : Cx} {Λ : Lay} {B : Nat} {ids : List (Nat × Nat)} {ad : Nat → Nat → Nat} {k z : Nat} {b L : Nat} {xs : Nat → Int32} (hO : Ok Γ RL cL_law 8 room_1 Λ B) (hL : LX Γ b L xs) (hm : ∀ q, q ∈ ids0 → q ∈ ids) (hnr : (20, 6) ∉ ids) {v4 : Int32} {K : Mem → (Nat → Int64) → Prop} {M : Mem} {O : Nat → Int64} (hs : wL_law_C24 L xs v4 K M O) (hk : k + 2 ≤ 601024) (hz : z + 9 ≤ 7293034) (hK : ∀ (M : Mem) (O : Nat → Int64), K M O → G Γ ids ad (k + 2) (z + 9) (sh Λ ad M O) 1783 [(4, .int v4), (3, .ref (ad 22 0)), (2, .ref (ad 21 0)), (1, .ref (ad 20 0)), (0, .ref b)] []) : G Γ ids ad k z (sh Λ ad M O) 1472 [(4, .int v4), (3, .ref (ad 22 0)), (2, .ref (ad 21 0)), (1, .ref (ad 20 0)), (0, .ref b)] [] := by
  unfold wL_law_C24 at hs
  have hk1 : ∀ {q : Nat}, q ≤ k + 2 → q ≤ room_1.cells := fun h => Nat.le_trans h hk
  have hz1 : ∀ {q : Nat}, q ≤ z + 9 → q ≤ room_1.slots := fun h => Nat.le_trans h hz
  refine G_aload_n hO 3 dL_law_1472 rfl rfl ?_
  refine G_aload_n hO 4 dL_law_1473 rfl rfl ?_
  refine G_iload hO 0 dL_law_1474 rfl ?_
  refine G_iconst hO 1 dL_law_1476 (by decide) ?_
  refine G_iadd hO dL_law_1477 ?_
  refine L_iald hO hL hs.1 dL_law_1478 ?_
  replace hs := hs.2
  refine G_aload_n hO 4 dL_law_1479 rfl rfl ?_
  refine G_iload hO 0 dL_law_1480 rfl ?_
  refine G_iconst hO 2 dL_law_1482 (by decide) ?_
  refine G_iadd hO dL_law_1483 ?_
  refine L_iald hO hL hs.1 dL_law_1484 ?_
  replace hs := hs.2
  refine G_i2l hO dL_law_1485 ?_
  refine G_bipush hO 32 dL_law_1486 (by decide) ?_
  refine G_lshl hO dL_law_1488 ?_
  refine G_aload_n hO 4 dL_law_1489 rfl rfl ?_
  refine G_iload hO 0 dL_law_1490 rfl ?_
  refine G_iconst hO 3 dL_law_1492 (by decide) ?_
  refine G_iadd hO dL_law_1493 ?_
  refine L_iald hO hL hs.1 dL_law_1494 ?_
  replace hs := hs.2
  refine G_i2l hO dL_law_1495 ?_
  refine G_ldc2 hO mw_1161 dL_law_1496 ?_
  refine G_land hO dL_law_1499 ?_
  refine G_lor hO dL_law_1500 ?_
  refine G_aload_n hO 1 dL_law_1501 rfl rfl ?_
  refine L_call hO hL (rest := []) [.ref (ad 20 0), .int (xs (Int32.toNatClampNeg (v4 + 1))), .long (((Int32.toInt64 (xs (Int32.toNatClampNeg (v4 + 2)))) <<< (Int32.toInt64 32 &&& 63)) ||| ((Int32.toInt64 (xs (Int32.toNatClampNeg (v4 + 3)))) &&& 4294967295)), .ref (ad 22 0)] (fun l h => c_L_runScript hm hs h) cw_runScript mw_767 mw_766 rfl rfl (Nat.le_of_ble_eq_true rfl) (by decide) ⟨hk1 (Nat.add_le_add_left (by decide) k), hz1 (Nat.add_le_add_left (by decide) z)⟩ dL_law_1502 ?_
  rintro v ids ad w9 ⟨rfl, rfl, M2, O3, r1, rfl, rfl, hs⟩
  show G Γ _ _ (k + 1) (z + 6) (sh Λ _ M2 O3) 1505 [(4, .int v4), (3, .ref (ad 22 0)), (2, .ref (ad 21 0)), (1, .ref (ad 20 0)), (0, .ref b)] [.int r1]
  refine G_istore hO [(5, .int r1), (4, .int v4), (3, .ref (ad 22 0)), (2, .ref (ad 21 0)), (1, .ref (ad 20 0)), (0, .ref b)] dL_law_1505 (by decide) rfl ?_
  refine G_aload_n hO 3 dL_law_1507 rfl rfl ?_
  refine G_aload_n hO 5 dL_law_1508 rfl rfl ?_
  refine G_iload hO 1 dL_law_1509 rfl ?_
  refine G_iconst hO 1 dL_law_1511 (by decide) ?_
  refine G_iadd hO dL_law_1512 ?_
  refine L_iald hO hL hs.1 dL_law_1513 ?_
  replace hs := hs.2
  refine G_aload_n hO 5 dL_law_1514 rfl rfl ?_
  refine G_iload hO 1 dL_law_1515 rfl ?_
  refine G_iconst hO 2 dL_law_1517 (by decide) ?_
  refine G_iadd hO dL_law_1518 ?_
  refine L_iald hO hL hs.1 dL_law_1519 ?_
  replace hs := hs.2
  refine G_i2l hO dL_law_1520 ?_
  refine G_bipush hO 32 dL_law_1521 (by decide) ?_
  refine G_lshl hO dL_law_1523 ?_
  refine G_aload_n hO 5 dL_law_1524 rfl rfl ?_
  refine G_iload hO 1 dL_law_1525 rfl ?_
  refine G_iconst hO 3 dL_law_1527 (by decide) ?_
  refine G_iadd hO dL_law_1528 ?_
  refine L_iald hO hL hs.1 dL_law_1529 ?_
  replace hs := hs.2
  refine G_i2l hO dL_law_1530 ?_
  refine G_ldc2 hO mw_1161 dL_law_1531 ?_
  refine G_land hO dL_law_1534 ?_
  refine G_lor hO dL_law_1535 ?_
  refine KV_Gri hO (rest := []) [.int (xs (Int32.toNatClampNeg (v4 + 1))), .long (((Int32.toInt64 (xs (Int32.toNatClampNeg (v4 + 2)))) <<< (Int32.toInt64 32 &&& 63)) ||| ((Int32.toInt64 (xs (Int32.toNatClampNeg (v4 + 3)))) &&& 4294967295))] (rS_md Λ ad O3) (fun l => c_X6_runScript (fun _ h9 => hm _ (id_md h9)) hs) cv_X6_runScript mw_1134 mw_1135 mw_1133 (hm _ (id_md (by decide))) cl6 (by show rS Λ ad _ _ _ _ = _; rw [rS_md]; exact md_0 _ _ _) rfl rfl (Nat.le_of_ble_eq_true rfl) (by decide) rfl rfl (hk1 (by omega)) (hz1 (by omega)) dL_law_1536 ?_
  intro r4 c5 hs
  refine G_istore hO [(6, .int r4), (5, .int r1), (4, .int v4), (3, .ref (ad 22 0)), (2, .ref (ad 21 0)), (1, .ref (ad 20 0)), (0, .ref b)] dL_law_1539 (by decide) rfl ?_
  refine G_aload_n hO 4 dL_law_1541 rfl rfl ?_
  refine KV_Gri hO (rest := []) [] (rS_md Λ ad O3) (fun l => c_X6_thrown (fun _ h9 => hm _ (id_md h9)) hs) cv_X6_thrown mw_875 mw_876 mw_874 (hm _ (id_md (by decide))) cl6 (by show rS Λ ad _ _ _ _ = _; rw [rS_md]; exact md_0 _ _ _) rfl rfl (Nat.le_of_ble_eq_true rfl) (by decide) rfl rfl (hk1 (by omega)) (hz1 (by omega)) dL_law_1542 ?_
  intro r6 c7 hs
  refine G_iload hO 1 dL_law_1545 rfl ?_
  refine G_icmp_eq hO 1552 dL_law_1547 (by decide) (fun h10 => ?_) (fun h10 => ?_)
  · replace hs := hs.1 h10
    refine G_iload hO 1 dL_law_1552 rfl ?_
    refine G_if_ne hO 1569 dL_law_1554 (by decide) (fun h9 => ?_) (fun h9 => ?_)
    · replace hs := hs.1 h9
      refine G_goto hO 1783 dL_law_1569 (by decide) ?_
      refine G_lv hO [(4, .int v4), (3, .ref (ad 22 0)), (2, .ref (ad 21 0)), (1, .ref (ad 20 0)), (0, .ref b)] [2, 3, 4, 5, 6] rfl ?_
      exact G_widen hO (by omega) (by omega) (hK _ _ hs)
    · replace hs := hs.2 h9
      refine G_aload_n hO 3 dL_law_1557 rfl rfl ?_
      refine G_iconst hO 0 dL_law_1558 (by decide) ?_
      refine M_lald hO 0 (by decide) (hm _ id_ou) (vp_lit (by decide)) dL_law_1559 ?_
      refine G_iload hO 0 dL_law_1560 rfl ?_
      refine G_i2l hO dL_law_1562 ?_
      refine G_lcmp hO dL_law_1563 ?_
      refine G_if_eq hO 1569 dL_law_1564 (by decide) (fun h8 => ?_) (fun h8 => ?_)
      · replace hs := hs.1 h8
        refine G_goto hO 1783 dL_law_1569 (by decide) ?_
        refine G_lv hO [(4, .int v4), (3, .ref (ad 22 0)), (2, .ref (ad 21 0)), (1, .ref (ad 20 0)), (0, .ref b)] [2, 3, 4, 5, 6] rfl ?_
        exact G_widen hO (by omega) (by omega) (hK _ _ hs)
      · replace hs := hs.2 h8
        refine G_iconst hO 0 dL_law_1567 (by decide) ?_
        exact False.elim hs
  · replace hs := hs.2 h10
    refine G_iconst hO 0 dL_law_1550 (by decide) ?_
    exact False.elim hs
set_option maxHeartbeats 4000000 in
set_option maxRecDepth 20000 in
theorem c_law_C25 {Γ : Cx} {Λ : Lay} {B : Nat} {ids : List (Nat × Nat)} {ad : Nat → Nat → Nat} {k z : Nat} {b L : Nat} {xs : Nat → Int32} (hO : Ok Γ RL cL_law 8 room_1 Λ B) (hL : LX Γ b L xs) (hm : ∀ q, q ∈ ids0 → q ∈ ids) (hnr : (20, 6) ∉ ids) {v4 : Int32} {K : Mem → (Nat → Int64) → Prop} {M : Mem} {O : Nat → Int64} (hs : wL_law_C25 L xs v4 K M O) (hk : k + 2 ≤ 601024) (hz : z + 9 ≤ 7293034) (hK : ∀ (M : Mem) (O : Nat → Int64), K M O → G Γ ids ad (k + 2) (z + 9) (sh Λ ad M O) 1783 [(4, .int v4), (3, .ref (ad 22 0)), (2, .ref (ad 21 0)), (1, .ref (ad 20 0)), (0, .ref b)] []) : G Γ ids ad k z (sh Λ ad M O) 1572 [(4, .int v4), (3, .ref (ad 22 0)), (2, .ref (ad 21 0)), (1, .ref (ad 20 0)), (0, .ref b)] [] := by
  unfold wL_law_C25 at hs
  have hk1 : ∀ {q : Nat}, q ≤ k + 2 → q ≤ room_1.cells := fun h => Nat.le_trans h hk
  have hz1 : ∀ {q : Nat}, q ≤ z + 9 → q ≤ room_1.slots := fun h => Nat.le_trans h hz
  refine G_aload_n hO 3 dL_law_1572 rfl rfl ?_
  refine G_aload_n hO 4 dL_law_1573 rfl rfl ?_
  refine G_iload hO 0 dL_law_1574 rfl ?_
  refine G_iconst hO 1 dL_law_1576 (by decide) ?_
  refine G_iadd hO dL_law_1577 ?_
  refine L_iald hO hL hs.1 dL_law_1578 ?_
  replace hs := hs.2
  refine G_i2l hO dL_law_1579 ?_
  refine G_bipush hO 32 dL_law_1580 (by decide) ?_
  refine G_lshl hO dL_law_1582 ?_
  refine G_aload_n hO 4 dL_law_1583 rfl rfl ?_
  refine G_iload hO 0 dL_law_1584 rfl ?_
  refine G_iconst hO 2 dL_law_1586 (by decide) ?_
  refine G_iadd hO dL_law_1587 ?_
  refine L_iald hO hL hs.1 dL_law_1588 ?_
  replace hs := hs.2
  refine G_i2l hO dL_law_1589 ?_
  refine G_ldc2 hO mw_1161 dL_law_1590 ?_
  refine G_land hO dL_law_1593 ?_
  refine G_lor hO dL_law_1594 ?_
  refine G_aload_n hO 4 dL_law_1595 rfl rfl ?_
  refine G_iload hO 0 dL_law_1596 rfl ?_
  refine G_iconst hO 3 dL_law_1598 (by decide) ?_
  refine G_iadd hO dL_law_1599 ?_
  refine L_iald hO hL hs.1 dL_law_1600 ?_
  replace hs := hs.2
  refine G_aload_n hO 1 dL_law_1601 rfl rfl ?_
  refine L_call hO hL (rest := []) [.ref (ad 20 0), .long (((Int32.toInt64 (xs (Int32.toNatClampNeg (v4 + 1)))) <<< (Int32.toInt64 32 &&& 63)) ||| ((Int32.toInt64 (xs (Int32.toNatClampNeg (v4 + 2)))) &&& 4294967295)), .int (xs (Int32.toNatClampNeg (v4 + 3))), .ref (ad 22 0)] (fun l h => c_L_simulate hm hs h) cw_simulate mw_802 mw_801 rfl rfl (Nat.le_of_ble_eq_true rfl) (by decide) ⟨hk1 (Nat.add_le_add_left (by decide) k), hz1 (Nat.add_le_add_left (by decide) z)⟩ dL_law_1602 ?_
  rintro v ids ad w9 ⟨rfl, rfl, M2, O3, r1, rfl, rfl, hs⟩
  show G Γ _ _ (k + 1) (z + 6) (sh Λ _ M2 O3) 1605 [(4, .int v4), (3, .ref (ad 22 0)), (2, .ref (ad 21 0)), (1, .ref (ad 20 0)), (0, .ref b)] [.int r1]
  refine G_istore hO [(5, .int r1), (4, .int v4), (3, .ref (ad 22 0)), (2, .ref (ad 21 0)), (1, .ref (ad 20 0)), (0, .ref b)] dL_law_1605 (by decide) rfl ?_
  refine G_aload_n hO 3 dL_law_1607 rfl rfl ?_
  refine G_aload_n hO 5 dL_law_1608 rfl rfl ?_
  refine G_iload hO 1 dL_law_1609 rfl ?_
  refine G_iconst hO 1 dL_law_1611 (by decide) ?_
  refine G_iadd hO dL_law_1612 ?_
  refine L_iald hO hL hs.1 dL_law_1613 ?_
  replace hs := hs.2
  refine G_i2l hO dL_law_1614 ?_
  refine G_bipush hO 32 dL_law_1615 (by decide) ?_
  refine G_lshl hO dL_law_1617 ?_
  refine G_aload_n hO 5 dL_law_1618 rfl rfl ?_
  refine G_iload hO 1 dL_law_1619 rfl ?_
  refine G_iconst hO 2 dL_law_1621 (by decide) ?_
  refine G_iadd hO dL_law_1622 ?_
  refine L_iald hO hL hs.1 dL_law_1623 ?_
  replace hs := hs.2
  refine G_i2l hO dL_law_1624 ?_
  refine G_ldc2 hO mw_1161 dL_law_1625 ?_
  refine G_land hO dL_law_1628 ?_
  refine G_lor hO dL_law_1629 ?_
  refine G_aload_n hO 5 dL_law_1630 rfl rfl ?_
  refine G_iload hO 1 dL_law_1631 rfl ?_
  refine G_iconst hO 3 dL_law_1633 (by decide) ?_
  refine G_iadd hO dL_law_1634 ?_
  refine L_iald hO hL hs.1 dL_law_1635 ?_
  replace hs := hs.2
  refine KV_Grl hO (rest := []) [.long (((Int32.toInt64 (xs (Int32.toNatClampNeg (v4 + 1)))) <<< (Int32.toInt64 32 &&& 63)) ||| ((Int32.toInt64 (xs (Int32.toNatClampNeg (v4 + 2)))) &&& 4294967295)), .int (xs (Int32.toNatClampNeg (v4 + 3)))] (rS_md Λ ad O3) (fun l => c_X6_simulate (fun _ h9 => hm _ (id_md h9)) hs) cv_X6_simulate mw_1147 mw_1148 mw_1146 (hm _ (id_md (by decide))) cl6 (by show rS Λ ad _ _ _ _ = _; rw [rS_md]; exact md_0 _ _ _) rfl rfl (Nat.le_of_ble_eq_true rfl) (by decide) rfl rfl (hk1 (by omega)) (hz1 (by omega)) dL_law_1636 ?_
  intro r4 c5 hs
  refine G_lstore hO [(6, .long r4), (5, .int r1), (4, .int v4), (3, .ref (ad 22 0)), (2, .ref (ad 21 0)), (1, .ref (ad 20 0)), (0, .ref b)] dL_law_1639 (by decide) rfl ?_
  refine G_aload_n hO 4 dL_law_1641 rfl rfl ?_
  refine KV_Gri hO (rest := []) [] (rS_md Λ ad O3) (fun l => c_X6_thrown (fun _ h9 => hm _ (id_md h9)) hs) cv_X6_thrown mw_875 mw_876 mw_874 (hm _ (id_md (by decide))) cl6 (by show rS Λ ad _ _ _ _ = _; rw [rS_md]; exact md_0 _ _ _) rfl rfl (Nat.le_of_ble_eq_true rfl) (by decide) rfl rfl (hk1 (by omega)) (hz1 (by omega)) dL_law_1642 ?_
  intro r6 c7 hs
  refine G_iload hO 1 dL_law_1645 rfl ?_
  refine G_icmp_eq hO 1652 dL_law_1647 (by decide) (fun h10 => ?_) (fun h10 => ?_)
  · replace hs := hs.1 h10
    refine G_iload hO 1 dL_law_1652 rfl ?_
    refine G_if_ne hO 1668 dL_law_1654 (by decide) (fun h9 => ?_) (fun h9 => ?_)
    · replace hs := hs.1 h9
      refine G_goto hO 1783 dL_law_1668 (by decide) ?_
      refine G_lv hO [(4, .int v4), (3, .ref (ad 22 0)), (2, .ref (ad 21 0)), (1, .ref (ad 20 0)), (0, .ref b)] [2, 3, 4, 5, 6] rfl ?_
      exact G_widen hO (by omega) (by omega) (hK _ _ hs)
    · replace hs := hs.2 h9
      refine G_aload_n hO 3 dL_law_1657 rfl rfl ?_
      refine G_iconst hO 0 dL_law_1658 (by decide) ?_
      refine M_lald hO 0 (by decide) (hm _ id_ou) (vp_lit (by decide)) dL_law_1659 ?_
      refine G_lload hO 0 dL_law_1660 rfl ?_
      refine G_lcmp hO dL_law_1662 ?_
      refine G_if_eq hO 1668 dL_law_1663 (by decide) (fun h8 => ?_) (fun h8 => ?_)
      · replace hs := hs.1 h8
        refine G_goto hO 1783 dL_law_1668 (by decide) ?_
        refine G_lv hO [(4, .int v4), (3, .ref (ad 22 0)), (2, .ref (ad 21 0)), (1, .ref (ad 20 0)), (0, .ref b)] [2, 3, 4, 5, 6] rfl ?_
        exact G_widen hO (by omega) (by omega) (hK _ _ hs)
      · replace hs := hs.2 h8
        refine G_iconst hO 0 dL_law_1666 (by decide) ?_
        exact False.elim hs
  · replace hs := hs.2 h10
    refine G_iconst hO 0 dL_law_1650 (by decide) ?_
    exact False.elim hs
set_option maxHeartbeats 4000000 in
set_option maxRecDepth 20000 in
theorem c_law_C26 {Γ : Cx} {Λ : Lay} {B : Nat} {ids : List (Nat × Nat)} {ad : Nat → Nat → Nat} {k z : Nat} {b L : Nat} {xs : Nat → Int32} (hO : Ok Γ RL cL_law 8 room_1 Λ B) (hL : LX Γ b L xs) (hm : ∀ q, q ∈ ids0 → q ∈ ids) (hnr : (20, 6) ∉ ids) {v4 : Int32} {K : Mem → (Nat → Int64) → Prop} {M : Mem} {O : Nat → Int64} (hs : wL_law_C26 L xs v4 K M O) (hk : k + 2 ≤ 601024) (hz : z + 9 ≤ 7293034) (hK : ∀ (M : Mem) (O : Nat → Int64), K M O → G Γ ids ad (k + 2) (z + 9) (sh Λ ad M O) 1783 [(4, .int v4), (3, .ref (ad 22 0)), (2, .ref (ad 21 0)), (1, .ref (ad 20 0)), (0, .ref b)] []) : G Γ ids ad k z (sh Λ ad M O) 1671 [(4, .int v4), (3, .ref (ad 22 0)), (2, .ref (ad 21 0)), (1, .ref (ad 20 0)), (0, .ref b)] [] := by
  unfold wL_law_C26 at hs
  have hk1 : ∀ {q : Nat}, q ≤ k + 2 → q ≤ room_1.cells := fun h => Nat.le_trans h hk
  have hz1 : ∀ {q : Nat}, q ≤ z + 9 → q ≤ room_1.slots := fun h => Nat.le_trans h hz
  refine G_aload_n hO 3 dL_law_1671 rfl rfl ?_
  refine G_aload_n hO 4 dL_law_1672 rfl rfl ?_
  refine G_iload hO 0 dL_law_1673 rfl ?_
  refine G_iconst hO 1 dL_law_1675 (by decide) ?_
  refine G_iadd hO dL_law_1676 ?_
  refine L_iald hO hL hs.1 dL_law_1677 ?_
  replace hs := hs.2
  refine G_aload_n hO 1 dL_law_1678 rfl rfl ?_
  refine L_call hO hL (rest := []) [.ref (ad 20 0), .int (xs (Int32.toNatClampNeg (v4 + 1))), .ref (ad 22 0)] (fun l h => c_L_save hm hs h) cw_save mw_813 mw_812 rfl rfl (Nat.le_of_ble_eq_true rfl) (by decide) ⟨hk1 (Nat.add_le_add_left (by decide) k), hz1 (Nat.add_le_add_left (by decide) z)⟩ dL_law_1679 ?_
  rintro v ids ad w9 ⟨rfl, rfl, M2, O3, r1, rfl, rfl, hs⟩
  show G Γ _ _ (k + 1) (z + 6) (sh Λ _ M2 O3) 1682 [(4, .int v4), (3, .ref (ad 22 0)), (2, .ref (ad 21 0)), (1, .ref (ad 20 0)), (0, .ref b)] [.int r1]
  refine G_istore hO [(5, .int r1), (4, .int v4), (3, .ref (ad 22 0)), (2, .ref (ad 21 0)), (1, .ref (ad 20 0)), (0, .ref b)] dL_law_1682 (by decide) rfl ?_
  refine G_aload_n hO 3 dL_law_1684 rfl rfl ?_
  refine G_aload_n hO 5 dL_law_1685 rfl rfl ?_
  refine G_iload hO 1 dL_law_1686 rfl ?_
  refine G_iconst hO 1 dL_law_1688 (by decide) ?_
  refine G_iadd hO dL_law_1689 ?_
  refine L_iald hO hL hs.1 dL_law_1690 ?_
  replace hs := hs.2
  refine KV_Gri hO (rest := []) [.int (xs (Int32.toNatClampNeg (v4 + 1)))] (rS_md Λ ad O3) (fun l => c_X6_save (fun _ h9 => hm _ (id_md h9)) hs) cv_X6_save mw_1154 mw_1155 mw_1153 (hm _ (id_md (by decide))) cl6 (by show rS Λ ad _ _ _ _ = _; rw [rS_md]; exact md_0 _ _ _) rfl rfl (Nat.le_of_ble_eq_true rfl) (by decide) rfl rfl (hk1 (by omega)) (hz1 (by omega)) dL_law_1691 ?_
  intro r4 c5 hs
  refine G_istore hO [(6, .int r4), (5, .int r1), (4, .int v4), (3, .ref (ad 22 0)), (2, .ref (ad 21 0)), (1, .ref (ad 20 0)), (0, .ref b)] dL_law_1694 (by decide) rfl ?_
  refine G_aload_n hO 4 dL_law_1696 rfl rfl ?_
  refine KV_Gri hO (rest := []) [] (rS_md Λ ad O3) (fun l => c_X6_thrown (fun _ h9 => hm _ (id_md h9)) hs) cv_X6_thrown mw_875 mw_876 mw_874 (hm _ (id_md (by decide))) cl6 (by show rS Λ ad _ _ _ _ = _; rw [rS_md]; exact md_0 _ _ _) rfl rfl (Nat.le_of_ble_eq_true rfl) (by decide) rfl rfl (hk1 (by omega)) (hz1 (by omega)) dL_law_1697 ?_
  intro r6 c7 hs
  refine G_iload hO 1 dL_law_1700 rfl ?_
  refine G_icmp_eq hO 1707 dL_law_1702 (by decide) (fun h10 => ?_) (fun h10 => ?_)
  · replace hs := hs.1 h10
    refine G_iload hO 1 dL_law_1707 rfl ?_
    refine G_if_ne hO 1724 dL_law_1709 (by decide) (fun h9 => ?_) (fun h9 => ?_)
    · replace hs := hs.1 h9
      refine G_goto hO 1783 dL_law_1724 (by decide) ?_
      refine G_lv hO [(4, .int v4), (3, .ref (ad 22 0)), (2, .ref (ad 21 0)), (1, .ref (ad 20 0)), (0, .ref b)] [2, 3, 4, 5, 6] rfl ?_
      exact G_widen hO (by omega) (by omega) (hK _ _ hs)
    · replace hs := hs.2 h9
      refine G_aload_n hO 3 dL_law_1712 rfl rfl ?_
      refine G_iconst hO 0 dL_law_1713 (by decide) ?_
      refine M_lald hO 0 (by decide) (hm _ id_ou) (vp_lit (by decide)) dL_law_1714 ?_
      refine G_iload hO 0 dL_law_1715 rfl ?_
      refine G_i2l hO dL_law_1717 ?_
      refine G_lcmp hO dL_law_1718 ?_
      refine G_if_eq hO 1724 dL_law_1719 (by decide) (fun h8 => ?_) (fun h8 => ?_)
      · replace hs := hs.1 h8
        refine G_goto hO 1783 dL_law_1724 (by decide) ?_
        refine G_lv hO [(4, .int v4), (3, .ref (ad 22 0)), (2, .ref (ad 21 0)), (1, .ref (ad 20 0)), (0, .ref b)] [2, 3, 4, 5, 6] rfl ?_
        exact G_widen hO (by omega) (by omega) (hK _ _ hs)
      · replace hs := hs.2 h8
        refine G_iconst hO 0 dL_law_1722 (by decide) ?_
        exact False.elim hs
  · replace hs := hs.2 h10
    refine G_iconst hO 0 dL_law_1705 (by decide) ?_
    exact False.elim hs
set_option maxHeartbeats 4000000 in
set_option maxRecDepth 20000 in
theorem c_law_C27 {Γ : Cx} {Λ : Lay} {B : Nat} {ids : List (Nat × Nat)} {ad : Nat → Nat → Nat} {k z : Nat} {b L : Nat} {xs : Nat → Int32} (hO : Ok Γ RL cL_law 8 room_1 Λ B) (hL : LX Γ b L xs) (hm : ∀ q, q ∈ ids0 → q ∈ ids) (hnr : (20, 6) ∉ ids) {v4 : Int32} {K : Mem → (Nat → Int64) → Prop} {M : Mem} {O : Nat → Int64} (hs : wL_law_C27 L xs v4 K M O) (hk : k + 2 ≤ 601024) (hz : z + 9 ≤ 7293034) (hK : ∀ (M : Mem) (O : Nat → Int64), K M O → G Γ ids ad (k + 2) (z + 9) (sh Λ ad M O) 1783 [(4, .int v4), (3, .ref (ad 22 0)), (2, .ref (ad 21 0)), (1, .ref (ad 20 0)), (0, .ref b)] []) : G Γ ids ad k z (sh Λ ad M O) 1727 [(4, .int v4), (3, .ref (ad 22 0)), (2, .ref (ad 21 0)), (1, .ref (ad 20 0)), (0, .ref b)] [] := by
  unfold wL_law_C27 at hs
  have hk1 : ∀ {q : Nat}, q ≤ k + 2 → q ≤ room_1.cells := fun h => Nat.le_trans h hk
  have hz1 : ∀ {q : Nat}, q ≤ z + 9 → q ≤ room_1.slots := fun h => Nat.le_trans h hz
  refine G_aload_n hO 3 dL_law_1727 rfl rfl ?_
  refine G_aload_n hO 4 dL_law_1728 rfl rfl ?_
  refine G_iload hO 0 dL_law_1729 rfl ?_
  refine G_iconst hO 1 dL_law_1731 (by decide) ?_
  refine G_iadd hO dL_law_1732 ?_
  refine L_iald hO hL hs.1 dL_law_1733 ?_
  replace hs := hs.2
  refine G_aload_n hO 1 dL_law_1734 rfl rfl ?_
  refine L_call hO hL (rest := []) [.ref (ad 20 0), .int (xs (Int32.toNatClampNeg (v4 + 1))), .ref (ad 22 0)] (fun l h => c_L_restore hm hs h) cw_restore mw_821 mw_820 rfl rfl (Nat.le_of_ble_eq_true rfl) (by decide) ⟨hk1 (Nat.add_le_add_left (by decide) k), hz1 (Nat.add_le_add_left (by decide) z)⟩ dL_law_1735 ?_
  rintro v ids ad w9 ⟨rfl, rfl, M2, O3, r1, rfl, rfl, hs⟩
  show G Γ _ _ (k + 1) (z + 6) (sh Λ _ M2 O3) 1738 [(4, .int v4), (3, .ref (ad 22 0)), (2, .ref (ad 21 0)), (1, .ref (ad 20 0)), (0, .ref b)] [.int r1]
  refine G_istore hO [(5, .int r1), (4, .int v4), (3, .ref (ad 22 0)), (2, .ref (ad 21 0)), (1, .ref (ad 20 0)), (0, .ref b)] dL_law_1738 (by decide) rfl ?_
  refine G_aload_n hO 3 dL_law_1740 rfl rfl ?_
  refine G_aload_n hO 5 dL_law_1741 rfl rfl ?_
  refine G_iload hO 1 dL_law_1742 rfl ?_
  refine G_iconst hO 1 dL_law_1744 (by decide) ?_
  refine G_iadd hO dL_law_1745 ?_
  refine L_iald hO hL hs.1 dL_law_1746 ?_
  replace hs := hs.2
  refine KV_Gri hO (rest := []) [.int (xs (Int32.toNatClampNeg (v4 + 1)))] (rS_md Λ ad O3) (fun l => c_X6_restore (fun _ h9 => hm _ (id_md h9)) hs) cv_X6_restore mw_1158 mw_1159 mw_1157 (hm _ (id_md (by decide))) cl6 (by show rS Λ ad _ _ _ _ = _; rw [rS_md]; exact md_0 _ _ _) rfl rfl (Nat.le_of_ble_eq_true rfl) (by decide) rfl rfl (hk1 (by omega)) (hz1 (by omega)) dL_law_1747 ?_
  intro r4 c5 hs
  refine G_istore hO [(6, .int r4), (5, .int r1), (4, .int v4), (3, .ref (ad 22 0)), (2, .ref (ad 21 0)), (1, .ref (ad 20 0)), (0, .ref b)] dL_law_1750 (by decide) rfl ?_
  refine G_aload_n hO 4 dL_law_1752 rfl rfl ?_
  refine KV_Gri hO (rest := []) [] (rS_md Λ ad O3) (fun l => c_X6_thrown (fun _ h9 => hm _ (id_md h9)) hs) cv_X6_thrown mw_875 mw_876 mw_874 (hm _ (id_md (by decide))) cl6 (by show rS Λ ad _ _ _ _ = _; rw [rS_md]; exact md_0 _ _ _) rfl rfl (Nat.le_of_ble_eq_true rfl) (by decide) rfl rfl (hk1 (by omega)) (hz1 (by omega)) dL_law_1753 ?_
  intro r6 c7 hs
  refine G_iload hO 1 dL_law_1756 rfl ?_
  refine G_icmp_eq hO 1763 dL_law_1758 (by decide) (fun h10 => ?_) (fun h10 => ?_)
  · replace hs := hs.1 h10
    refine G_iload hO 1 dL_law_1763 rfl ?_
    refine G_if_ne hO 1780 dL_law_1765 (by decide) (fun h9 => ?_) (fun h9 => ?_)
    · replace hs := hs.1 h9
      refine G_goto hO 1783 dL_law_1780 (by decide) ?_
      refine G_lv hO [(4, .int v4), (3, .ref (ad 22 0)), (2, .ref (ad 21 0)), (1, .ref (ad 20 0)), (0, .ref b)] [2, 3, 4, 5, 6] rfl ?_
      exact G_widen hO (by omega) (by omega) (hK _ _ hs)
    · replace hs := hs.2 h9
      refine G_aload_n hO 3 dL_law_1768 rfl rfl ?_
      refine G_iconst hO 0 dL_law_1769 (by decide) ?_
      refine M_lald hO 0 (by decide) (hm _ id_ou) (vp_lit (by decide)) dL_law_1770 ?_
      refine G_iload hO 0 dL_law_1771 rfl ?_
      refine G_i2l hO dL_law_1773 ?_
      refine G_lcmp hO dL_law_1774 ?_
      refine G_if_eq hO 1780 dL_law_1775 (by decide) (fun h8 => ?_) (fun h8 => ?_)
      · replace hs := hs.1 h8
        refine G_goto hO 1783 dL_law_1780 (by decide) ?_
        refine G_lv hO [(4, .int v4), (3, .ref (ad 22 0)), (2, .ref (ad 21 0)), (1, .ref (ad 20 0)), (0, .ref b)] [2, 3, 4, 5, 6] rfl ?_
        exact G_widen hO (by omega) (by omega) (hK _ _ hs)
      · replace hs := hs.2 h8
        refine G_iconst hO 0 dL_law_1778 (by decide) ?_
        exact False.elim hs
  · replace hs := hs.2 h10
    refine G_iconst hO 0 dL_law_1761 (by decide) ?_
    exact False.elim hs
