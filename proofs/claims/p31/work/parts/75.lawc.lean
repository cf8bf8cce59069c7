set_option maxHeartbeats 4000000 in
set_option maxRecDepth 20000 in
theorem c_law {Γ : Cx} {Λ : Lay} {B : Zn} {i1 i2 : List (Nat × Nat)} {ad : Nat → Nat → Nat} {b : Nat} {L : Nat} {xs : Nat → Int32} (hO : Ok Γ RL cL_law 7 room_1 Λ B) (hX : OkI Γ) (hL : LX Γ b L xs) (hcc : cL_law = code) (hi1 : ∀ q ∈ i1, q.1 < 100) (hm1 : ∀ q, q ∈ ids0 → q ∈ i1) (hm2 : ∀ q, q ∈ ids0 → q ∈ i2) (hnr1 : (20, 6) ∉ i1) (hnr2 : (20, 6) ∉ i2) (hnh1 : (23, 1) ∉ i1) (hnh2 : (23, 1) ∉ i2) {D : DM} {O : Nat → Int64} {P : Int32 → DM → Prop} (hs : wL_law L xs D P) : G Γ (dids i1 i2) ad 560 (16 * 560) (dw Λ ad D O) 16 [(2, .ref (adR ad 20 0)), (1, .ref (ad 20 0)), (0, .ref b)] [] := by
  unfold wL_law at hs
  have b276 : ∀ (k276 : Nat) (v3 : Int32) (D : DM), k276 + ((448)) ≤ 456332 → wL_law_L276 L xs P v3 D → G Γ (dids i1 i2) ad k276 (16 * k276) (dw Λ ad D O) 276 [(1, .ref (ad 20 0)), (2, .ref (adR ad 20 0)), (3, .int v3)] [] := by
    intro k276 v3 D hk hs
    unfold wL_law_L276 at hs
    refine G_iload_n hO 2 dL_law_276 rfl rfl ?_
    refine G_if_eq hO 294 dL_law_277 (by decide) (fun h35 => ?_) (fun h35 => ?_)
    · replace hs := hs.1 h35
      refine G_iconst hO 0 dL_law_294 (by decide) ?_
      exact False.elim hs
    · replace hs := hs.2 h35
      refine G_aload_n hO 0 dL_law_280 rfl rfl ?_
      refine G_aload_n hO 1 dL_law_281 rfl rfl ?_
      refine G_ldc hO mw_884 dL_law_282 ?_
      refine D_callA hO (rest := []) (cap := 456332) 448 [.ref (ad 20 0), .ref (adR ad 20 0), .int 83003] hX (fun l h => c_L_alike hi1 hm1 hm2 hnr1 hnr2 hs h) cv_L_alike mw_862 mw_861 rfl rfl (Nat.le_of_ble_eq_true rfl) ⟨by decide, by decide⟩ ⟨by decide, by decide⟩ ⟨Nat.le_of_ble_eq_true rfl, Nat.le_of_ble_eq_true rfl⟩ (by omega) dL_law_284 ?_
      intro r32 D33 hs
      refine G_if_eq hO 294 dL_law_287 (by decide) (fun h34 => ?_) (fun h34 => ?_)
      · replace hs := hs.1 h34
        refine G_iconst hO 0 dL_law_294 (by decide) ?_
        exact False.elim hs
      · replace hs := hs.2 h34
        refine G_iconst hO 1 dL_law_290 (by decide) ?_
        refine G_goto hO 295 dL_law_291 (by decide) ?_
        exact L_ret (st := []) hO hL hcc (by omega) (by omega) dL_law_295
  have b52 : ∀ (N52 k52 : Nat) (v3 : Int32) (v4 : Int32) (D : DM), k52 + ((4208 * N52 + 448)) ≤ 456332 → wL_law_L52 L xs P N52 v3 v4 D → G Γ (dids i1 i2) ad k52 (16 * k52) (dw Λ ad D O) 52 [(0, .ref b), (1, .ref (ad 20 0)), (2, .ref (adR ad 20 0)), (3, .int v3), (4, .int v4)] [] := by
    intro N52
    induction N52 with
    | zero => intro k52 v3 v4 D hk hs; exact False.elim hs
    | succ N52 ih52 =>
      have b242 : ∀ (k242 : Nat) (v3 : Int32) (v4 : Int32) (v6 : Int32) (D : DM), k242 + ((4208 * N52 + 448) + (448)) ≤ 456332 → wL_law_L242 L xs P (fun v3' v4' D' => wL_law_L52 L xs P N52 v3' v4' D') v3 v4 v6 D → G Γ (dids i1 i2) ad k242 (16 * k242) (dw Λ ad D O) 242 [(0, .ref b), (1, .ref (ad 20 0)), (2, .ref (adR ad 20 0)), (3, .int v3), (4, .int v4), (6, .int v6)] [] := by
        intro k242 v3 v4 v6 D hk hs
        unfold wL_law_L242 at hs
        refine G_iload_n hO 3 dL_law_242 rfl rfl ?_
        refine G_if_eq hO 268 dL_law_243 (by decide) (fun h59 => ?_) (fun h59 => ?_)
        · replace hs := hs.1 h59
          refine G_iconst hO 0 dL_law_268 (by decide) ?_
          refine G_istore_n hO [(3, .int 0), (0, .ref b), (1, .ref (ad 20 0)), (2, .ref (adR ad 20 0)), (4, .int v4), (6, .int v6)] dL_law_269 rfl (by decide) rfl ?_
          refine G_iinc hO 4 (v4 + 1) [(4, .int (v4 + 1)), (3, .int 0), (0, .ref b), (1, .ref (ad 20 0)), (2, .ref (adR ad 20 0)), (6, .int v6)] dL_law_270 rfl rfl (by decide) rfl ?_
          refine G_goto hO 52 dL_law_273 (by decide) ?_
          refine G_lv hO [(0, .ref b), (1, .ref (ad 20 0)), (2, .ref (adR ad 20 0)), (3, .int 0), (4, .int (v4 + 1))] [2, 3, 4, 1, 0] rfl ?_
          exact ih52 _ _ _ _ (by omega) hs
        · replace hs := hs.2 h59
          refine G_iload hO 4 dL_law_246 rfl ?_
          refine G_bipush hO 6 dL_law_248 (by decide) ?_
          refine G_irem hO dL_law_250 (by decide) ?_
          refine G_if_gt hO 264 dL_law_251 (by decide) (fun h58 => ?_) (fun h58 => ?_)
          · replace hs := hs.1 h58
            refine G_iconst hO 1 dL_law_264 (by decide) ?_
            refine G_goto hO 269 dL_law_265 (by decide) ?_
            refine G_istore_n hO [(3, .int 1), (0, .ref b), (1, .ref (ad 20 0)), (2, .ref (adR ad 20 0)), (4, .int v4), (6, .int v6)] dL_law_269 rfl (by decide) rfl ?_
            refine G_iinc hO 4 (v4 + 1) [(4, .int (v4 + 1)), (3, .int 1), (0, .ref b), (1, .ref (ad 20 0)), (2, .ref (adR ad 20 0)), (6, .int v6)] dL_law_270 rfl rfl (by decide) rfl ?_
            refine G_goto hO 52 dL_law_273 (by decide) ?_
            refine G_lv hO [(0, .ref b), (1, .ref (ad 20 0)), (2, .ref (adR ad 20 0)), (3, .int 1), (4, .int (v4 + 1))] [2, 3, 4, 1, 0] rfl ?_
            exact ih52 _ _ _ _ (by omega) hs
          · replace hs := hs.2 h58
            refine G_aload_n hO 1 dL_law_254 rfl rfl ?_
            refine G_aload_n hO 2 dL_law_255 rfl rfl ?_
            refine G_iload hO 5 dL_law_256 rfl ?_
            refine D_callA hO (rest := []) (cap := 456332) 448 [.ref (ad 20 0), .ref (adR ad 20 0), .int v6] hX (fun l h => c_L_alike hi1 hm1 hm2 hnr1 hnr2 hs h) cv_L_alike mw_862 mw_861 rfl rfl (Nat.le_of_ble_eq_true rfl) ⟨by decide, by decide⟩ ⟨by decide, by decide⟩ ⟨Nat.le_of_ble_eq_true rfl, Nat.le_of_ble_eq_true rfl⟩ (by omega) dL_law_258 ?_
            intro r55 D56 hs
            refine G_if_eq hO 268 dL_law_261 (by decide) (fun h57 => ?_) (fun h57 => ?_)
            · replace hs := hs.1 h57
              refine G_iconst hO 0 dL_law_268 (by decide) ?_
              refine G_istore_n hO [(3, .int 0), (0, .ref b), (1, .ref (ad 20 0)), (2, .ref (adR ad 20 0)), (4, .int v4), (6, .int v6)] dL_law_269 rfl (by decide) rfl ?_
              refine G_iinc hO 4 (v4 + 1) [(4, .int (v4 + 1)), (3, .int 0), (0, .ref b), (1, .ref (ad 20 0)), (2, .ref (adR ad 20 0)), (6, .int v6)] dL_law_270 rfl rfl (by decide) rfl ?_
              refine G_goto hO 52 dL_law_273 (by decide) ?_
              refine G_lv hO [(0, .ref b), (1, .ref (ad 20 0)), (2, .ref (adR ad 20 0)), (3, .int 0), (4, .int (v4 + 1))] [2, 3, 4, 1, 0] rfl ?_
              exact ih52 _ _ _ _ (by omega) hs
            · replace hs := hs.2 h57
              refine G_iconst hO 1 dL_law_264 (by decide) ?_
              refine G_goto hO 269 dL_law_265 (by decide) ?_
              refine G_istore_n hO [(3, .int 1), (0, .ref b), (1, .ref (ad 20 0)), (2, .ref (adR ad 20 0)), (4, .int v4), (6, .int v6)] dL_law_269 rfl (by decide) rfl ?_
              refine G_iinc hO 4 (v4 + 1) [(4, .int (v4 + 1)), (3, .int 1), (0, .ref b), (1, .ref (ad 20 0)), (2, .ref (adR ad 20 0)), (6, .int v6)] dL_law_270 rfl rfl (by decide) rfl ?_
              refine G_goto hO 52 dL_law_273 (by decide) ?_
              refine G_lv hO [(0, .ref b), (1, .ref (ad 20 0)), (2, .ref (adR ad 20 0)), (3, .int 1), (4, .int (v4 + 1))] [2, 3, 4, 1, 0] rfl ?_
              exact ih52 _ _ _ _ (by omega) hs
      have b241 : ∀ (k241 : Nat) (v4 : Int32) (v6 : Int32) (s0 : Int32) (D : DM), k241 + ((4208 * N52 + 448) + (448)) ≤ 456332 → wL_law_L241 L xs P (fun v3' v4' D' => wL_law_L52 L xs P N52 v3' v4' D') v4 v6 s0 D → G Γ (dids i1 i2) ad k241 (16 * k241) (dw Λ ad D O) 241 [(0, .ref b), (1, .ref (ad 20 0)), (2, .ref (adR ad 20 0)), (4, .int v4), (6, .int v6)] [.int s0] := by
        intro k241 v4 v6 s0 D hk hs
        unfold wL_law_L241 at hs
        refine G_istore_n hO [(3, .int s0), (0, .ref b), (1, .ref (ad 20 0)), (2, .ref (adR ad 20 0)), (4, .int v4), (6, .int v6)] dL_law_241 rfl (by decide) rfl ?_
        refine G_lv hO [(0, .ref b), (1, .ref (ad 20 0)), (2, .ref (adR ad 20 0)), (3, .int s0), (4, .int v4), (6, .int v6)] [1, 2, 3, 0, 4, 5] rfl ?_
        exact b242 _ _ _ _ _ (by omega) hs
      have b240 : ∀ (k240 : Nat) (v4 : Int32) (v6 : Int32) (D : DM), k240 + ((4208 * N52 + 448) + (448)) ≤ 456332 → wL_law_L240 L xs P (fun v3' v4' D' => wL_law_L52 L xs P N52 v3' v4' D') v4 v6 D → G Γ (dids i1 i2) ad k240 (16 * k240) (dw Λ ad D O) 240 [(0, .ref b), (1, .ref (ad 20 0)), (2, .ref (adR ad 20 0)), (4, .int v4), (6, .int v6)] [] := by
        intro k240 v4 v6 D hk hs
        unfold wL_law_L240 at hs
        refine G_iconst hO 0 dL_law_240 (by decide) ?_
        exact b241 _ _ _ _ _ (by omega) hs
      have b193 : ∀ (k193 : Nat) (v3 : Int32) (v4 : Int32) (v6 : Int32) (D : DM), k193 + ((4208 * N52 + 448) + (2014)) ≤ 456332 → wL_law_L193 L xs P (fun v3' v4' D' => wL_law_L52 L xs P N52 v3' v4' D') v3 v4 v6 D → G Γ (dids i1 i2) ad k193 (16 * k193) (dw Λ ad D O) 193 [(0, .ref b), (1, .ref (ad 20 0)), (2, .ref (adR ad 20 0)), (3, .int v3), (4, .int v4), (6, .int v6)] [] := by
        intro k193 v3 v4 v6 D hk hs
        unfold wL_law_L193 at hs
        refine G_iload hO 4 dL_law_193 rfl ?_
        refine G_bipush hO 18 dL_law_195 (by decide) ?_
        refine G_irem hO dL_law_197 (by decide) ?_
        refine G_bipush hO 17 dL_law_198 (by decide) ?_
        refine G_icmp_ne hO 242 dL_law_200 (by decide) (fun h54 => ?_) (fun h54 => ?_)
        · replace hs := hs.1 h54
          exact b242 _ _ _ _ _ (by omega) hs
        · replace hs := hs.2 h54
          refine G_iload_n hO 3 dL_law_203 rfl rfl ?_
          refine G_if_eq hO 240 dL_law_204 (by decide) (fun h53 => ?_) (fun h53 => ?_)
          · replace hs := hs.1 h53
            refine G_lv hO [(0, .ref b), (1, .ref (ad 20 0)), (2, .ref (adR ad 20 0)), (4, .int v4), (6, .int v6)] [0, 1, 2, 4, 5] rfl ?_
            exact b240 _ _ _ _ (by omega) hs
          · replace hs := hs.2 h53
            refine G_aload_n hO 2 dL_law_207 rfl rfl ?_
            refine G_iload hO 5 dL_law_208 rfl ?_
            refine D_callYiR hO hi1 (rest := []) (cap := 456332) 1564 [.ref (adR ad 20 0), .int v6] hX (fun l B' h => c_L_follows (ad := adR ad) hm2 hnr2 hs h) cv_L_follows mw_822 mw_821 rfl rfl (Nat.le_of_ble_eq_true rfl) ⟨by decide, by decide⟩ ⟨by decide, by decide⟩ ⟨Nat.le_of_ble_eq_true rfl, Nat.le_of_ble_eq_true rfl⟩ (by omega) dL_law_210 ?_
            intro r44 M45 hs
            refine G_if_eq hO 240 dL_law_213 (by decide) (fun h52 => ?_) (fun h52 => ?_)
            · replace hs := hs.1 h52
              refine G_lv hO [(0, .ref b), (1, .ref (ad 20 0)), (2, .ref (adR ad 20 0)), (4, .int v4), (6, .int v6)] [0, 1, 2, 4, 5] rfl ?_
              exact b240 _ _ _ _ (by omega) hs
            · replace hs := hs.2 h52
              refine G_aload_n hO 1 dL_law_216 rfl rfl ?_
              refine G_iconst hO 1 dL_law_217 (by decide) ?_
              refine D_callHlL hO hi1 (rest := []) (cap := 456332) 1 [.ref (ad 20 0), .int 1] hX (fun l B' h => c_L_save hm1 hs h) cw_save mw_388 mw_387 rfl rfl (Nat.le_of_ble_eq_true rfl) ⟨by decide, by decide⟩ ⟨by decide, by decide⟩ ⟨Nat.le_of_ble_eq_true rfl, Nat.le_of_ble_eq_true rfl⟩ (by omega) dL_law_218 ?_
              intro r46 M47 hs
              refine G_lconst hO 0 dL_law_221 (by decide) ?_
              refine G_lcmp hO dL_law_222 ?_
              refine G_if_lt hO 240 dL_law_223 (by decide) (fun h51 => ?_) (fun h51 => ?_)
              · replace hs := hs.1 h51
                refine G_lv hO [(0, .ref b), (1, .ref (ad 20 0)), (2, .ref (adR ad 20 0)), (4, .int v4), (6, .int v6)] [0, 1, 2, 4, 5] rfl ?_
                exact b240 _ _ _ _ (by omega) hs
              · replace hs := hs.2 h51
                refine G_aload_n hO 1 dL_law_226 rfl rfl ?_
                refine G_iconst hO 1 dL_law_227 (by decide) ?_
                refine D_callHlL hO hi1 (rest := []) (cap := 456332) 1 [.ref (ad 20 0), .int 1] hX (fun l B' h => c_L_restore hm1 hs h) cw_restore mw_413 mw_412 rfl rfl (Nat.le_of_ble_eq_true rfl) ⟨by decide, by decide⟩ ⟨by decide, by decide⟩ ⟨Nat.le_of_ble_eq_true rfl, Nat.le_of_ble_eq_true rfl⟩ (by omega) dL_law_228 ?_
                intro r48 M49 hs
                refine G_lconst hO 0 dL_law_231 (by decide) ?_
                refine G_lcmp hO dL_law_232 ?_
                refine G_if_lt hO 240 dL_law_233 (by decide) (fun h50 => ?_) (fun h50 => ?_)
                · replace hs := hs.1 h50
                  refine G_lv hO [(0, .ref b), (1, .ref (ad 20 0)), (2, .ref (adR ad 20 0)), (4, .int v4), (6, .int v6)] [0, 1, 2, 4, 5] rfl ?_
                  exact b240 _ _ _ _ (by omega) hs
                · replace hs := hs.2 h50
                  refine G_iconst hO 1 dL_law_236 (by decide) ?_
                  refine G_goto hO 241 dL_law_237 (by decide) ?_
                  refine G_lv hO [(0, .ref b), (1, .ref (ad 20 0)), (2, .ref (adR ad 20 0)), (4, .int v4), (6, .int v6)] [0, 1, 2, 4, 5] rfl ?_
                  exact b241 _ _ _ _ _ (by omega) hs
      have b192 : ∀ (k192 : Nat) (v4 : Int32) (v6 : Int32) (s0 : Int32) (D : DM), k192 + ((4208 * N52 + 448) + (2014)) ≤ 456332 → wL_law_L192 L xs P (fun v3' v4' D' => wL_law_L52 L xs P N52 v3' v4' D') v4 v6 s0 D → G Γ (dids i1 i2) ad k192 (16 * k192) (dw Λ ad D O) 192 [(0, .ref b), (1, .ref (ad 20 0)), (2, .ref (adR ad 20 0)), (4, .int v4), (6, .int v6)] [.int s0] := by
        intro k192 v4 v6 s0 D hk hs
        unfold wL_law_L192 at hs
        refine G_istore_n hO [(3, .int s0), (0, .ref b), (1, .ref (ad 20 0)), (2, .ref (adR ad 20 0)), (4, .int v4), (6, .int v6)] dL_law_192 rfl (by decide) rfl ?_
        refine G_lv hO [(0, .ref b), (1, .ref (ad 20 0)), (2, .ref (adR ad 20 0)), (3, .int s0), (4, .int v4), (6, .int v6)] [1, 2, 3, 0, 4, 5] rfl ?_
        exact b193 _ _ _ _ _ (by omega) hs
      have b191 : ∀ (k191 : Nat) (v4 : Int32) (v6 : Int32) (D : DM), k191 + ((4208 * N52 + 448) + (2014)) ≤ 456332 → wL_law_L191 L xs P (fun v3' v4' D' => wL_law_L52 L xs P N52 v3' v4' D') v4 v6 D → G Γ (dids i1 i2) ad k191 (16 * k191) (dw Λ ad D O) 191 [(0, .ref b), (1, .ref (ad 20 0)), (2, .ref (adR ad 20 0)), (4, .int v4), (6, .int v6)] [] := by
        intro k191 v4 v6 D hk hs
        unfold wL_law_L191 at hs
        refine G_iconst hO 0 dL_law_191 (by decide) ?_
        exact b192 _ _ _ _ _ (by omega) hs
      have b161 : ∀ (k161 : Nat) (v4 : Int32) (v6 : Int32) (s0 : Int32) (D : DM), k161 + ((4208 * N52 + 448) + (4206)) ≤ 456332 → wL_law_L161 L xs P (fun v3' v4' D' => wL_law_L52 L xs P N52 v3' v4' D') v4 v6 s0 D → G Γ (dids i1 i2) ad k161 (16 * k161) (dw Λ ad D O) 161 [(0, .ref b), (1, .ref (ad 20 0)), (2, .ref (adR ad 20 0)), (4, .int v4), (6, .int v6)] [.int s0] := by
        intro k161 v4 v6 s0 D hk hs
        unfold wL_law_L161 at hs
        refine G_istore_n hO [(3, .int s0), (0, .ref b), (1, .ref (ad 20 0)), (2, .ref (adR ad 20 0)), (4, .int v4), (6, .int v6)] dL_law_161 rfl (by decide) rfl ?_
        refine G_iload hO 4 dL_law_162 rfl ?_
        refine G_iconst hO 4 dL_law_164 (by decide) ?_
        refine G_irem hO dL_law_165 (by decide) ?_
        refine G_if_ne hO 193 dL_law_166 (by decide) (fun h43 => ?_) (fun h43 => ?_)
        · replace hs := hs.1 h43
          refine G_lv hO [(0, .ref b), (1, .ref (ad 20 0)), (2, .ref (adR ad 20 0)), (3, .int s0), (4, .int v4), (6, .int v6)] [1, 2, 3, 0, 4, 5] rfl ?_
          exact b193 _ _ _ _ _ (by omega) hs
        · replace hs := hs.2 h43
          refine G_iload_n hO 0 dL_law_169 rfl rfl ?_
          refine G_if_eq hO 191 dL_law_170 (by decide) (fun h42 => ?_) (fun h42 => ?_)
          · replace hs := hs.1 h42
            refine G_lv hO [(0, .ref b), (1, .ref (ad 20 0)), (2, .ref (adR ad 20 0)), (4, .int v4), (6, .int v6)] [1, 2, 3, 4, 5] rfl ?_
            exact b191 _ _ _ _ (by omega) hs
          · replace hs := hs.2 h42
            refine G_aload_n hO 3 dL_law_173 rfl rfl ?_
            refine D_callYiR hO hi1 (rest := []) (cap := 456332) 474 [.ref (adR ad 20 0)] hX (fun l B' h => c_L_errors (ad := adR ad) hm2 hnr2 hs h) cv_L_errors mw_421 mw_420 rfl rfl (Nat.le_of_ble_eq_true rfl) ⟨by decide, by decide⟩ ⟨by decide, by decide⟩ ⟨Nat.le_of_ble_eq_true rfl, Nat.le_of_ble_eq_true rfl⟩ (by omega) dL_law_174 ?_
            intro r36 M37 hs
            refine G_if_eq hO 191 dL_law_177 (by decide) (fun h41 => ?_) (fun h41 => ?_)
            · replace hs := hs.1 h41
              refine G_lv hO [(0, .ref b), (1, .ref (ad 20 0)), (2, .ref (adR ad 20 0)), (4, .int v4), (6, .int v6)] [1, 2, 3, 4, 5] rfl ?_
              exact b191 _ _ _ _ (by omega) hs
            · replace hs := hs.2 h41
              refine G_aload_n hO 3 dL_law_180 rfl rfl ?_
              refine D_callYiR hO hi1 (rest := []) (cap := 456332) 1718 [.ref (adR ad 20 0)] hX (fun l B' h => c_L_kept (ad := adR ad) hm2 hnr2 hnh2 hs h) cv_L_kept mw_809 mw_808 rfl rfl (Nat.le_of_ble_eq_true rfl) ⟨by decide, by decide⟩ ⟨by decide, by decide⟩ ⟨Nat.le_of_ble_eq_true rfl, Nat.le_of_ble_eq_true rfl⟩ (by omega) dL_law_181 ?_
              intro r38 M39 hs
              refine G_if_eq hO 191 dL_law_184 (by decide) (fun h40 => ?_) (fun h40 => ?_)
              · replace hs := hs.1 h40
                refine G_lv hO [(0, .ref b), (1, .ref (ad 20 0)), (2, .ref (adR ad 20 0)), (4, .int v4), (6, .int v6)] [1, 2, 3, 4, 5] rfl ?_
                exact b191 _ _ _ _ (by omega) hs
              · replace hs := hs.2 h40
                refine G_iconst hO 1 dL_law_187 (by decide) ?_
                refine G_goto hO 192 dL_law_188 (by decide) ?_
                refine G_lv hO [(0, .ref b), (1, .ref (ad 20 0)), (2, .ref (adR ad 20 0)), (4, .int v4), (6, .int v6)] [1, 2, 3, 4, 5] rfl ?_
                exact b192 _ _ _ _ _ (by omega) hs
      intro k52 v3 v4 D hk hs
      unfold wL_law_L52 at hs
      refine G_iload hO 4 dL_law_52 rfl ?_
      refine G_bipush hO 36 dL_law_54 (by decide) ?_
      refine G_icmp_ge hO 276 dL_law_56 (by decide) (fun h31 => ?_) (fun h31 => ?_)
      · replace hs := hs.1 h31
        refine G_lv hO [(1, .ref (ad 20 0)), (2, .ref (adR ad 20 0)), (3, .int v3)] [1, 2, 3] rfl ?_
        exact b276 _ _ _ (by omega) hs
      · replace hs := hs.2 h31
        refine G_iload_n hO 3 dL_law_59 rfl rfl ?_
        refine G_if_eq hO 276 dL_law_60 (by decide) (fun h30 => ?_) (fun h30 => ?_)
        · replace hs := hs.1 h30
          refine G_lv hO [(1, .ref (ad 20 0)), (2, .ref (adR ad 20 0)), (3, .int v3)] [1, 2, 3] rfl ?_
          exact b276 _ _ _ (by omega) hs
        · replace hs := hs.2 h30
          refine G_aload_n hO 0 dL_law_63 rfl rfl ?_
          refine G_iconst hO 2 dL_law_64 (by decide) ?_
          refine G_iload hO 4 dL_law_65 rfl ?_
          refine G_imul hO dL_law_67 ?_
          refine L_draw hO hL (rest := []) (a1 := (2 * v4)) hs mw_201 mw_200 (Nat.le_of_ble_eq_true rfl) ⟨by decide, by decide⟩ (by show _ ≤ 600104; omega) (by show _ ≤ 7301314; omega) dL_law_68 ?_
          intro r11 hs
          refine G_istore hO [(5, .int r11), (0, .ref b), (1, .ref (ad 20 0)), (2, .ref (adR ad 20 0)), (3, .int v3), (4, .int v4)] dL_law_71 (by decide) rfl ?_
          refine G_aload_n hO 1 dL_law_73 rfl rfl ?_
          refine G_iconst hO 2 dL_law_74 (by decide) ?_
          refine G_iload hO 5 dL_law_75 rfl ?_
          refine G_imul hO dL_law_77 ?_
          refine G_iconst hO 1 dL_law_78 (by decide) ?_
          refine G_iadd hO dL_law_79 ?_
          refine L_draw hO hL (rest := []) (a1 := ((2 * v4) + 1)) hs mw_201 mw_200 (Nat.le_of_ble_eq_true rfl) ⟨by decide, by decide⟩ (by show _ ≤ 600104; omega) (by show _ ≤ 7301314; omega) dL_law_80 ?_
          intro r12 hs
          refine G_istore hO [(6, .int r12), (5, .int r11), (0, .ref b), (1, .ref (ad 20 0)), (2, .ref (adR ad 20 0)), (3, .int v3), (4, .int v4)] dL_law_83 (by decide) rfl ?_
          refine G_iload hO 6 dL_law_85 rfl ?_
          refine G_bipush hO 18 dL_law_87 (by decide) ?_
          refine G_irem hO dL_law_89 (by decide) ?_
          refine G_if_ne hO 136 dL_law_90 (by decide) (fun h29 => ?_) (fun h29 => ?_)
          · replace hs := hs.1 h29
            refine G_aload_n hO 3 dL_law_136 rfl rfl ?_
            refine G_iload hO 1 dL_law_137 rfl ?_
            refine G_iload hO 0 dL_law_139 rfl ?_
            refine D_callYlL hO hi1 (rest := []) (cap := 456332) 1 [.ref (ad 20 0), .int r11, .int r12] hX (fun l B' h => c_L_act hm1 hnr1 hs h) cv_L_act mw_882 mw_881 rfl rfl (Nat.le_of_ble_eq_true rfl) ⟨by decide, by decide⟩ ⟨by decide, by decide⟩ ⟨Nat.le_of_ble_eq_true rfl, Nat.le_of_ble_eq_true rfl⟩ (by omega) dL_law_141 ?_
            intro r13 M14 hs
            refine G_aload_n hO 4 dL_law_144 rfl rfl ?_
            refine G_iload hO 1 dL_law_145 rfl ?_
            refine G_iload hO 0 dL_law_147 rfl ?_
            refine D_callYlR hO hi1 (rest := [.long r13]) (cap := 456332) 1 [.ref (adR ad 20 0), .int r11, .int r12] hX (fun l B' h => c_L_act (ad := adR ad) hm2 hnr2 hs h) cv_L_act mw_882 mw_881 rfl rfl (Nat.le_of_ble_eq_true rfl) ⟨by decide, by decide⟩ ⟨by decide, by decide⟩ ⟨Nat.le_of_ble_eq_true rfl, Nat.le_of_ble_eq_true rfl⟩ (by omega) dL_law_149 ?_
            intro r15 M16 hs
            refine G_lcmp hO dL_law_152 ?_
            refine G_if_ne hO 160 dL_law_153 (by decide) (fun h17 => ?_) (fun h17 => ?_)
            · replace hs := hs.1 h17
              refine G_iconst hO 0 dL_law_160 (by decide) ?_
              refine G_lv hO [(0, .ref b), (1, .ref (ad 20 0)), (2, .ref (adR ad 20 0)), (4, .int v4), (6, .int r12)] [2, 3, 4, 6, 0] rfl ?_
              exact b161 _ _ _ _ _ (by omega) hs
            · replace hs := hs.2 h17
              refine G_iconst hO 1 dL_law_156 (by decide) ?_
              refine G_goto hO 161 dL_law_157 (by decide) ?_
              refine G_lv hO [(0, .ref b), (1, .ref (ad 20 0)), (2, .ref (adR ad 20 0)), (4, .int v4), (6, .int r12)] [2, 3, 4, 6, 0] rfl ?_
              exact b161 _ _ _ _ _ (by omega) hs
          · replace hs := hs.2 h29
            refine G_aload_n hO 3 dL_law_93 rfl rfl ?_
            refine G_iload hO 1 dL_law_94 rfl ?_
            refine G_iload hO 0 dL_law_96 rfl ?_
            refine D_callYiL hO hi1 (rest := []) (cap := 456332) 68 [.ref (ad 20 0), .int r11, .int r12] hX (fun l B' h => c_L_tells hm1 hnr1 hs h) cv_L_tells mw_870 mw_869 rfl rfl (Nat.le_of_ble_eq_true rfl) ⟨by decide, by decide⟩ ⟨by decide, by decide⟩ ⟨Nat.le_of_ble_eq_true rfl, Nat.le_of_ble_eq_true rfl⟩ (by omega) dL_law_98 ?_
            intro r18 M19 hs
            refine G_if_eq hO 131 dL_law_101 (by decide) (fun h28 => ?_) (fun h28 => ?_)
            · replace hs := hs.1 h28
              refine G_iconst hO 0 dL_law_131 (by decide) ?_
              refine G_istore_n hO [(3, .int 0), (6, .int r12), (5, .int r11), (0, .ref b), (1, .ref (ad 20 0)), (2, .ref (adR ad 20 0)), (4, .int v4)] dL_law_132 rfl (by decide) rfl ?_
              refine G_goto hO 270 dL_law_133 (by decide) ?_
              refine G_iinc hO 6 (v4 + 1) [(4, .int (v4 + 1)), (3, .int 0), (6, .int r12), (5, .int r11), (0, .ref b), (1, .ref (ad 20 0)), (2, .ref (adR ad 20 0))] dL_law_270 rfl rfl (by decide) rfl ?_
              refine G_goto hO 52 dL_law_273 (by decide) ?_
              refine G_lv hO [(0, .ref b), (1, .ref (ad 20 0)), (2, .ref (adR ad 20 0)), (3, .int 0), (4, .int (v4 + 1))] [4, 5, 6, 1, 0] rfl ?_
              exact ih52 _ _ _ _ (by omega) hs
            · replace hs := hs.2 h28
              refine G_aload_n hO 4 dL_law_104 rfl rfl ?_
              refine G_iload hO 1 dL_law_105 rfl ?_
              refine G_iload hO 0 dL_law_107 rfl ?_
              refine D_callYiR hO hi1 (rest := []) (cap := 456332) 68 [.ref (adR ad 20 0), .int r11, .int r12] hX (fun l B' h => c_L_tells (ad := adR ad) hm2 hnr2 hs h) cv_L_tells mw_870 mw_869 rfl rfl (Nat.le_of_ble_eq_true rfl) ⟨by decide, by decide⟩ ⟨by decide, by decide⟩ ⟨Nat.le_of_ble_eq_true rfl, Nat.le_of_ble_eq_true rfl⟩ (by omega) dL_law_109 ?_
              intro r20 M21 hs
              refine G_if_eq hO 131 dL_law_112 (by decide) (fun h27 => ?_) (fun h27 => ?_)
              · replace hs := hs.1 h27
                refine G_iconst hO 0 dL_law_131 (by decide) ?_
                refine G_istore_n hO [(3, .int 0), (6, .int r12), (5, .int r11), (0, .ref b), (1, .ref (ad 20 0)), (2, .ref (adR ad 20 0)), (4, .int v4)] dL_law_132 rfl (by decide) rfl ?_
                refine G_goto hO 270 dL_law_133 (by decide) ?_
                refine G_iinc hO 6 (v4 + 1) [(4, .int (v4 + 1)), (3, .int 0), (6, .int r12), (5, .int r11), (0, .ref b), (1, .ref (ad 20 0)), (2, .ref (adR ad 20 0))] dL_law_270 rfl rfl (by decide) rfl ?_
                refine G_goto hO 52 dL_law_273 (by decide) ?_
                refine G_lv hO [(0, .ref b), (1, .ref (ad 20 0)), (2, .ref (adR ad 20 0)), (3, .int 0), (4, .int (v4 + 1))] [4, 5, 6, 1, 0] rfl ?_
                exact ih52 _ _ _ _ (by omega) hs
              · replace hs := hs.2 h27
                refine G_aload_n hO 3 dL_law_115 rfl rfl ?_
                refine D_callHlL hO hi1 (rest := []) (cap := 456332) 2 [.ref (ad 20 0)] hX (fun l B' h => c_L_load hm1 hnr1 hs h) cw_load mw_206 mw_205 rfl rfl (Nat.le_of_ble_eq_true rfl) ⟨by decide, by decide⟩ ⟨by decide, by decide⟩ ⟨Nat.le_of_ble_eq_true rfl, Nat.le_of_ble_eq_true rfl⟩ (by omega) dL_law_116 ?_
                intro r22 M23 hs
                refine G_aload_n hO 4 dL_law_119 rfl rfl ?_
                refine D_callHlR hO hi1 (rest := [.long r22]) (cap := 456332) 2 [.ref (adR ad 20 0)] hX (fun l B' h => c_L_load (ad := adR ad) hm2 hnr2 hs h) cw_load mw_206 mw_205 rfl rfl (Nat.le_of_ble_eq_true rfl) ⟨by decide, by decide⟩ ⟨by decide, by decide⟩ ⟨Nat.le_of_ble_eq_true rfl, Nat.le_of_ble_eq_true rfl⟩ (by omega) dL_law_120 ?_
                intro r24 M25 hs
                refine G_lcmp hO dL_law_123 ?_
                refine G_if_ne hO 131 dL_law_124 (by decide) (fun h26 => ?_) (fun h26 => ?_)
                · replace hs := hs.1 h26
                  refine G_iconst hO 0 dL_law_131 (by decide) ?_
                  refine G_istore_n hO [(3, .int 0), (6, .int r12), (5, .int r11), (0, .ref b), (1, .ref (ad 20 0)), (2, .ref (adR ad 20 0)), (4, .int v4)] dL_law_132 rfl (by decide) rfl ?_
                  refine G_goto hO 270 dL_law_133 (by decide) ?_
                  refine G_iinc hO 6 (v4 + 1) [(4, .int (v4 + 1)), (3, .int 0), (6, .int r12), (5, .int r11), (0, .ref b), (1, .ref (ad 20 0)), (2, .ref (adR ad 20 0))] dL_law_270 rfl rfl (by decide) rfl ?_
                  refine G_goto hO 52 dL_law_273 (by decide) ?_
                  refine G_lv hO [(0, .ref b), (1, .ref (ad 20 0)), (2, .ref (adR ad 20 0)), (3, .int 0), (4, .int (v4 + 1))] [4, 5, 6, 1, 0] rfl ?_
                  exact ih52 _ _ _ _ (by omega) hs
                · replace hs := hs.2 h26
                  refine G_iconst hO 1 dL_law_127 (by decide) ?_
                  refine G_goto hO 132 dL_law_128 (by decide) ?_
                  refine G_istore_n hO [(3, .int 1), (6, .int r12), (5, .int r11), (0, .ref b), (1, .ref (ad 20 0)), (2, .ref (adR ad 20 0)), (4, .int v4)] dL_law_132 rfl (by decide) rfl ?_
                  refine G_goto hO 270 dL_law_133 (by decide) ?_
                  refine G_iinc hO 6 (v4 + 1) [(4, .int (v4 + 1)), (3, .int 1), (6, .int r12), (5, .int r11), (0, .ref b), (1, .ref (ad 20 0)), (2, .ref (adR ad 20 0))] dL_law_270 rfl rfl (by decide) rfl ?_
                  refine G_goto hO 52 dL_law_273 (by decide) ?_
                  refine G_lv hO [(0, .ref b), (1, .ref (ad 20 0)), (2, .ref (adR ad 20 0)), (3, .int 1), (4, .int (v4 + 1))] [4, 5, 6, 1, 0] rfl ?_
                  exact ih52 _ _ _ _ (by omega) hs
  refine G_aload_n hO 1 dL_law_16 rfl rfl ?_
  refine G_aload_n hO 0 dL_law_17 rfl rfl ?_
  refine G_aload_n hO 2 dL_law_18 rfl rfl ?_
  refine G_iconst hO 0 dL_law_19 (by decide) ?_
  refine L_draw hO hL (rest := [.ref (adR ad 20 0), .ref (ad 20 0)]) (a1 := 0) hs mw_201 mw_200 (Nat.le_of_ble_eq_true rfl) ⟨by decide, by decide⟩ (by show _ ≤ 600104; omega) (by show _ ≤ 7301314; omega) dL_law_20 ?_
  intro r1 hs
  refine D_callA hO (rest := []) (cap := 456332) 448 [.ref (ad 20 0), .ref (adR ad 20 0), .int r1] hX (fun l h => c_L_alike hi1 hm1 hm2 hnr1 hnr2 hs h) cv_L_alike mw_862 mw_861 rfl rfl (Nat.le_of_ble_eq_true rfl) ⟨by decide, by decide⟩ ⟨by decide, by decide⟩ ⟨Nat.le_of_ble_eq_true rfl, Nat.le_of_ble_eq_true rfl⟩ (by omega) dL_law_23 ?_
  intro r2 D3 hs
  refine G_if_eq hO 47 dL_law_26 (by decide) (fun h10 => ?_) (fun h10 => ?_)
  · replace hs := hs.1 h10
    refine G_iconst hO 0 dL_law_47 (by decide) ?_
    refine G_istore_n hO [(3, .int 0), (2, .ref (adR ad 20 0)), (1, .ref (ad 20 0)), (0, .ref b)] dL_law_48 rfl (by decide) rfl ?_
    refine G_iconst hO 0 dL_law_49 (by decide) ?_
    refine G_istore hO [(4, .int 0), (3, .int 0), (2, .ref (adR ad 20 0)), (1, .ref (ad 20 0)), (0, .ref b)] dL_law_50 (by decide) rfl ?_
    refine G_lv hO [(0, .ref b), (1, .ref (ad 20 0)), (2, .ref (adR ad 20 0)), (3, .int 0), (4, .int 0)] [4, 3, 2, 1, 0] rfl ?_
    exact b52 37 _ _ _ _ (by omega) hs
  · replace hs := hs.2 h10
    refine G_aload_n hO 1 dL_law_29 rfl rfl ?_
    refine D_callYiL hO hi1 (rest := []) (cap := 456332) 474 [.ref (ad 20 0)] hX (fun l B' h => c_L_errors hm1 hnr1 hs h) cv_L_errors mw_421 mw_420 rfl rfl (Nat.le_of_ble_eq_true rfl) ⟨by decide, by decide⟩ ⟨by decide, by decide⟩ ⟨Nat.le_of_ble_eq_true rfl, Nat.le_of_ble_eq_true rfl⟩ (by omega) dL_law_30 ?_
    intro r4 M5 hs
    refine G_if_eq hO 47 dL_law_33 (by decide) (fun h9 => ?_) (fun h9 => ?_)
    · replace hs := hs.1 h9
      refine G_iconst hO 0 dL_law_47 (by decide) ?_
      refine G_istore_n hO [(3, .int 0), (2, .ref (adR ad 20 0)), (1, .ref (ad 20 0)), (0, .ref b)] dL_law_48 rfl (by decide) rfl ?_
      refine G_iconst hO 0 dL_law_49 (by decide) ?_
      refine G_istore hO [(4, .int 0), (3, .int 0), (2, .ref (adR ad 20 0)), (1, .ref (ad 20 0)), (0, .ref b)] dL_law_50 (by decide) rfl ?_
      refine G_lv hO [(0, .ref b), (1, .ref (ad 20 0)), (2, .ref (adR ad 20 0)), (3, .int 0), (4, .int 0)] [4, 3, 2, 1, 0] rfl ?_
      exact b52 37 _ _ _ _ (by omega) hs
    · replace hs := hs.2 h9
      refine G_aload_n hO 1 dL_law_36 rfl rfl ?_
      refine D_callYiL hO hi1 (rest := []) (cap := 456332) 1718 [.ref (ad 20 0)] hX (fun l B' h => c_L_kept hm1 hnr1 hnh1 hs h) cv_L_kept mw_809 mw_808 rfl rfl (Nat.le_of_ble_eq_true rfl) ⟨by decide, by decide⟩ ⟨by decide, by decide⟩ ⟨Nat.le_of_ble_eq_true rfl, Nat.le_of_ble_eq_true rfl⟩ (by omega) dL_law_37 ?_
      intro r6 M7 hs
      refine G_if_eq hO 47 dL_law_40 (by decide) (fun h8 => ?_) (fun h8 => ?_)
      · replace hs := hs.1 h8
        refine G_iconst hO 0 dL_law_47 (by decide) ?_
        refine G_istore_n hO [(3, .int 0), (2, .ref (adR ad 20 0)), (1, .ref (ad 20 0)), (0, .ref b)] dL_law_48 rfl (by decide) rfl ?_
        refine G_iconst hO 0 dL_law_49 (by decide) ?_
        refine G_istore hO [(4, .int 0), (3, .int 0), (2, .ref (adR ad 20 0)), (1, .ref (ad 20 0)), (0, .ref b)] dL_law_50 (by decide) rfl ?_
        refine G_lv hO [(0, .ref b), (1, .ref (ad 20 0)), (2, .ref (adR ad 20 0)), (3, .int 0), (4, .int 0)] [4, 3, 2, 1, 0] rfl ?_
        exact b52 37 _ _ _ _ (by omega) hs
      · replace hs := hs.2 h8
        refine G_iconst hO 1 dL_law_43 (by decide) ?_
        refine G_goto hO 48 dL_law_44 (by decide) ?_
        refine G_istore_n hO [(3, .int 1), (2, .ref (adR ad 20 0)), (1, .ref (ad 20 0)), (0, .ref b)] dL_law_48 rfl (by decide) rfl ?_
        refine G_iconst hO 0 dL_law_49 (by decide) ?_
        refine G_istore hO [(4, .int 0), (3, .int 1), (2, .ref (adR ad 20 0)), (1, .ref (ad 20 0)), (0, .ref b)] dL_law_50 (by decide) rfl ?_
        refine G_lv hO [(0, .ref b), (1, .ref (ad 20 0)), (2, .ref (adR ad 20 0)), (3, .int 1), (4, .int 0)] [4, 3, 2, 1, 0] rfl ?_
        exact b52 37 _ _ _ _ (by omega) hs
