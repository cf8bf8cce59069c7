set_option maxHeartbeats 4000000 in
set_option maxRecDepth 20000 in
theorem c_L_alike {l : Launch} {Λ : Lay} {B : Zn} {i1 i2 : List (Nat × Nat)} {ad : Nat → Nat → Nat} (hi1 : ∀ q ∈ i1, q.1 < 100) (hm1 : ∀ q, q ∈ ids0 → q ∈ i1) (hm2 : ∀ q, q ∈ ids0 → q ∈ i2) (hnr1 : (20, 6) ∉ i1) (hnr2 : (20, 6) ∉ i2) {a2 : Int32} {D : DM} {O : Nat → Int64} {P : Int32 → DM → Prop} (hs : wL_alike a2 D P) (hst : l.stackTraces = false) : CY l yL_alike cL_alike 4 (some .boolean) { frames := 9, cells := 448, slots := 7168, locals := 180 } Λ B (dids i1 i2) ad (dw Λ ad D O) [.ref (ad 20 0), .ref (adR ad 20 0), .int a2] (Gdm Λ (dids i1 i2) ad O P) := by
  refine CY.of hst RL [(0, .ref (ad 20 0)), (1, .ref (adR ad 20 0)), (2, .int a2)] (plainFor_of_name (by decide +kernel)) rfl (Nat.le_of_ble_eq_true rfl) rfl (fun Γ hO hX hF => ?_)
  unfold wL_alike at hs
  refine G_iload_n hO 2 dL_alike_0 rfl rfl ?_
  refine G_bipush hO 40 dL_alike_1 (by decide) ?_
  refine G_irem hO dL_alike_3 (by decide) ?_
  refine G_istore_n hO [(3, .int (a2 - a2 / 40 * 40)), (0, .ref (ad 20 0)), (1, .ref (adR ad 20 0)), (2, .int a2)] dL_alike_4 rfl (by decide) rfl ?_
  refine G_aload_n hO 1 dL_alike_5 rfl rfl ?_
  refine D_callYlL hO hi1 (rest := []) (cap := 448) 216 [.ref (ad 20 0)] hX (fun l B' h => c_L_now hm1 hnr1 hs h) cv_L_now mw_424 mw_423 rfl rfl (Nat.le_of_ble_eq_true rfl) ⟨by decide, by decide⟩ ⟨by decide, by decide⟩ ⟨Nat.le_of_ble_eq_true rfl, Nat.le_of_ble_eq_true rfl⟩ (by omega) dL_alike_6 ?_
  intro r1 M2 hs
  refine G_aload_n hO 2 dL_alike_9 rfl rfl ?_
  refine D_callYlR hO hi1 (rest := [.long r1]) (cap := 448) 216 [.ref (adR ad 20 0)] hX (fun l B' h => c_L_now (ad := adR ad) hm2 hnr2 hs h) cv_L_now mw_424 mw_423 rfl rfl (Nat.le_of_ble_eq_true rfl) ⟨by decide, by decide⟩ ⟨by decide, by decide⟩ ⟨Nat.le_of_ble_eq_true rfl, Nat.le_of_ble_eq_true rfl⟩ (by omega) dL_alike_10 ?_
  intro r3 M4 hs
  refine G_lcmp hO dL_alike_13 ?_
  refine G_if_ne hO 186 dL_alike_14 (by decide) (fun h55 => ?_) (fun h55 => ?_)
  · replace hs := hs.1 h55
    refine G_iconst hO 0 dL_alike_186 (by decide) ?_
    exact G_zret hO hF rfl (by first | (show _ ≤ 448; omega) | (show _ ≤ 7168; omega)) (by first | (show _ ≤ 448; omega) | (show _ ≤ 7168; omega)) rfl dL_alike_187 ⟨rfl, rfl, _, _, rfl, rfl, hs⟩
  · replace hs := hs.2 h55
    refine G_aload_n hO 1 dL_alike_17 rfl rfl ?_
    refine D_callVL hO hi1 (rest := []) (cap := 448) 1 [] (fun l B' => c_X5_errorPosition hm1 hnr1 hs) cv_X5_errorPosition mw_865 mw_866 mw_864 (hm1 _ (id_gl (by decide))) rfl rfl rfl (Nat.le_of_ble_eq_true rfl) ⟨by decide, by decide⟩ ⟨by decide, by decide⟩ ⟨Nat.le_of_ble_eq_true rfl, Nat.le_of_ble_eq_true rfl⟩ (by omega) dL_alike_18 ?_
    intro r5 M6 hs
    refine G_aload_n hO 2 dL_alike_21 rfl rfl ?_
    refine D_callVR hO hi1 (rest := [.int r5]) (cap := 448) 1 [] (fun l B' => c_X5_errorPosition (ad := adR ad) hm2 hnr2 hs) cv_X5_errorPosition mw_865 mw_866 mw_864 (hm2 _ (id_gl (by decide))) rfl rfl rfl (Nat.le_of_ble_eq_true rfl) ⟨by decide, by decide⟩ ⟨by decide, by decide⟩ ⟨Nat.le_of_ble_eq_true rfl, Nat.le_of_ble_eq_true rfl⟩ (by omega) dL_alike_22 ?_
    intro r7 M8 hs
    refine G_icmp_ne hO 186 dL_alike_25 (by decide) (fun h54 => ?_) (fun h54 => ?_)
    · replace hs := hs.1 h54
      refine G_iconst hO 0 dL_alike_186 (by decide) ?_
      exact G_zret hO hF rfl (by first | (show _ ≤ 448; omega) | (show _ ≤ 7168; omega)) (by first | (show _ ≤ 448; omega) | (show _ ≤ 7168; omega)) rfl dL_alike_187 ⟨rfl, rfl, _, _, rfl, rfl, hs⟩
    · replace hs := hs.2 h54
      refine G_aload_n hO 1 dL_alike_28 rfl rfl ?_
      refine D_callVL hO hi1 (rest := []) (cap := 448) 0 [] (fun l B' => c_X5_whyOff hm1 hs) cv_X5_whyOff mw_828 mw_829 mw_827 (hm1 _ (id_gl (by decide))) rfl rfl rfl (Nat.le_of_ble_eq_true rfl) ⟨by decide, by decide⟩ ⟨by decide, by decide⟩ ⟨Nat.le_of_ble_eq_true rfl, Nat.le_of_ble_eq_true rfl⟩ (by omega) dL_alike_29 ?_
      intro r9 M10 hs
      refine G_aload_n hO 2 dL_alike_32 rfl rfl ?_
      refine D_callVR hO hi1 (rest := [.int r9]) (cap := 448) 0 [] (fun l B' => c_X5_whyOff (ad := adR ad) hm2 hs) cv_X5_whyOff mw_828 mw_829 mw_827 (hm2 _ (id_gl (by decide))) rfl rfl rfl (Nat.le_of_ble_eq_true rfl) ⟨by decide, by decide⟩ ⟨by decide, by decide⟩ ⟨Nat.le_of_ble_eq_true rfl, Nat.le_of_ble_eq_true rfl⟩ (by omega) dL_alike_33 ?_
      intro r11 M12 hs
      refine G_icmp_ne hO 186 dL_alike_36 (by decide) (fun h53 => ?_) (fun h53 => ?_)
      · replace hs := hs.1 h53
        refine G_iconst hO 0 dL_alike_186 (by decide) ?_
        exact G_zret hO hF rfl (by first | (show _ ≤ 448; omega) | (show _ ≤ 7168; omega)) (by first | (show _ ≤ 448; omega) | (show _ ≤ 7168; omega)) rfl dL_alike_187 ⟨rfl, rfl, _, _, rfl, rfl, hs⟩
      · replace hs := hs.2 h53
        refine G_aload_n hO 1 dL_alike_39 rfl rfl ?_
        refine D_callVL hO hi1 (rest := []) (cap := 448) 0 [] (fun l B' => c_X5_whyShare hm1 hs) cv_X5_whyShare mw_834 mw_835 mw_833 (hm1 _ (id_gl (by decide))) rfl rfl rfl (Nat.le_of_ble_eq_true rfl) ⟨by decide, by decide⟩ ⟨by decide, by decide⟩ ⟨Nat.le_of_ble_eq_true rfl, Nat.le_of_ble_eq_true rfl⟩ (by omega) dL_alike_40 ?_
        intro r13 M14 hs
        refine G_aload_n hO 2 dL_alike_43 rfl rfl ?_
        refine D_callVR hO hi1 (rest := [.int r13]) (cap := 448) 0 [] (fun l B' => c_X5_whyShare (ad := adR ad) hm2 hs) cv_X5_whyShare mw_834 mw_835 mw_833 (hm2 _ (id_gl (by decide))) rfl rfl rfl (Nat.le_of_ble_eq_true rfl) ⟨by decide, by decide⟩ ⟨by decide, by decide⟩ ⟨Nat.le_of_ble_eq_true rfl, Nat.le_of_ble_eq_true rfl⟩ (by omega) dL_alike_44 ?_
        intro r15 M16 hs
        refine G_icmp_ne hO 186 dL_alike_47 (by decide) (fun h52 => ?_) (fun h52 => ?_)
        · replace hs := hs.1 h52
          refine G_iconst hO 0 dL_alike_186 (by decide) ?_
          exact G_zret hO hF rfl (by first | (show _ ≤ 448; omega) | (show _ ≤ 7168; omega)) (by first | (show _ ≤ 448; omega) | (show _ ≤ 7168; omega)) rfl dL_alike_187 ⟨rfl, rfl, _, _, rfl, rfl, hs⟩
        · replace hs := hs.2 h52
          refine G_aload_n hO 1 dL_alike_50 rfl rfl ?_
          refine G_iload_n hO 3 dL_alike_51 rfl rfl ?_
          refine G_iconst hO 4 dL_alike_52 (by decide) ?_
          refine G_irem hO dL_alike_53 (by decide) ?_
          refine G_iload_n hO 0 dL_alike_54 rfl rfl ?_
          refine D_callHlL hO hi1 (rest := []) (cap := 448) 1 [.ref (ad 20 0), .int (a2 - a2 / 4 * 4), .int (a2 - a2 / 40 * 40)] hX (fun l B' h => c_L_ahead hm1 hs h) cw_ahead mw_698 mw_697 rfl rfl (Nat.le_of_ble_eq_true rfl) ⟨by decide, by decide⟩ ⟨by decide, by decide⟩ ⟨Nat.le_of_ble_eq_true rfl, Nat.le_of_ble_eq_true rfl⟩ (by omega) dL_alike_55 ?_
          intro r17 M18 hs
          refine G_aload_n hO 2 dL_alike_58 rfl rfl ?_
          refine G_iload_n hO 3 dL_alike_59 rfl rfl ?_
          refine G_iconst hO 4 dL_alike_60 (by decide) ?_
          refine G_irem hO dL_alike_61 (by decide) ?_
          refine G_iload_n hO 0 dL_alike_62 rfl rfl ?_
          refine D_callHlR hO hi1 (rest := [.long r17]) (cap := 448) 1 [.ref (adR ad 20 0), .int (a2 - a2 / 4 * 4), .int (a2 - a2 / 40 * 40)] hX (fun l B' h => c_L_ahead (ad := adR ad) hm2 hs h) cw_ahead mw_698 mw_697 rfl rfl (Nat.le_of_ble_eq_true rfl) ⟨by decide, by decide⟩ ⟨by decide, by decide⟩ ⟨Nat.le_of_ble_eq_true rfl, Nat.le_of_ble_eq_true rfl⟩ (by omega) dL_alike_63 ?_
          intro r19 M20 hs
          refine G_lcmp hO dL_alike_66 ?_
          refine G_if_ne hO 186 dL_alike_67 (by decide) (fun h51 => ?_) (fun h51 => ?_)
          · replace hs := hs.1 h51
            refine G_iconst hO 0 dL_alike_186 (by decide) ?_
            exact G_zret hO hF rfl (by first | (show _ ≤ 448; omega) | (show _ ≤ 7168; omega)) (by first | (show _ ≤ 448; omega) | (show _ ≤ 7168; omega)) rfl dL_alike_187 ⟨rfl, rfl, _, _, rfl, rfl, hs⟩
          · replace hs := hs.2 h51
            refine G_aload_n hO 1 dL_alike_70 rfl rfl ?_
            refine G_iconst hO 0 dL_alike_71 (by decide) ?_
            refine D_callHlL hO hi1 (rest := []) (cap := 448) 1 [.ref (ad 20 0), .int 0] hX (fun l B' h => c_L_minutesTo hm1 hs h) cw_minutesTo mw_706 mw_705 rfl rfl (Nat.le_of_ble_eq_true rfl) ⟨by decide, by decide⟩ ⟨by decide, by decide⟩ ⟨Nat.le_of_ble_eq_true rfl, Nat.le_of_ble_eq_true rfl⟩ (by omega) dL_alike_72 ?_
            intro r21 M22 hs
            refine G_aload_n hO 2 dL_alike_75 rfl rfl ?_
            refine G_iconst hO 0 dL_alike_76 (by decide) ?_
            refine D_callHlR hO hi1 (rest := [.long r21]) (cap := 448) 1 [.ref (adR ad 20 0), .int 0] hX (fun l B' h => c_L_minutesTo (ad := adR ad) hm2 hs h) cw_minutesTo mw_706 mw_705 rfl rfl (Nat.le_of_ble_eq_true rfl) ⟨by decide, by decide⟩ ⟨by decide, by decide⟩ ⟨Nat.le_of_ble_eq_true rfl, Nat.le_of_ble_eq_true rfl⟩ (by omega) dL_alike_77 ?_
            intro r23 M24 hs
            refine G_lcmp hO dL_alike_80 ?_
            refine G_if_ne hO 186 dL_alike_81 (by decide) (fun h50 => ?_) (fun h50 => ?_)
            · replace hs := hs.1 h50
              refine G_iconst hO 0 dL_alike_186 (by decide) ?_
              exact G_zret hO hF rfl (by first | (show _ ≤ 448; omega) | (show _ ≤ 7168; omega)) (by first | (show _ ≤ 448; omega) | (show _ ≤ 7168; omega)) rfl dL_alike_187 ⟨rfl, rfl, _, _, rfl, rfl, hs⟩
            · replace hs := hs.2 h50
              refine G_aload_n hO 1 dL_alike_84 rfl rfl ?_
              refine G_iconst hO 1 dL_alike_85 (by decide) ?_
              refine G_iload_n hO 0 dL_alike_86 rfl rfl ?_
              refine G_iadd hO dL_alike_87 ?_
              refine D_callHlL hO hi1 (rest := []) (cap := 448) 1 [.ref (ad 20 0), .int (1 + (a2 - a2 / 40 * 40))] hX (fun l B' h => c_L_bestSlope hm1 hs h) cw_bestSlope mw_718 mw_717 rfl rfl (Nat.le_of_ble_eq_true rfl) ⟨by decide, by decide⟩ ⟨by decide, by decide⟩ ⟨Nat.le_of_ble_eq_true rfl, Nat.le_of_ble_eq_true rfl⟩ (by omega) dL_alike_88 ?_
              intro r25 M26 hs
              refine G_aload_n hO 2 dL_alike_91 rfl rfl ?_
              refine G_iconst hO 1 dL_alike_92 (by decide) ?_
              refine G_iload_n hO 0 dL_alike_93 rfl rfl ?_
              refine G_iadd hO dL_alike_94 ?_
              refine D_callHlR hO hi1 (rest := [.long r25]) (cap := 448) 1 [.ref (adR ad 20 0), .int (1 + (a2 - a2 / 40 * 40))] hX (fun l B' h => c_L_bestSlope (ad := adR ad) hm2 hs h) cw_bestSlope mw_718 mw_717 rfl rfl (Nat.le_of_ble_eq_true rfl) ⟨by decide, by decide⟩ ⟨by decide, by decide⟩ ⟨Nat.le_of_ble_eq_true rfl, Nat.le_of_ble_eq_true rfl⟩ (by omega) dL_alike_95 ?_
              intro r27 M28 hs
              refine G_lcmp hO dL_alike_98 ?_
              refine G_if_ne hO 186 dL_alike_99 (by decide) (fun h49 => ?_) (fun h49 => ?_)
              · replace hs := hs.1 h49
                refine G_iconst hO 0 dL_alike_186 (by decide) ?_
                exact G_zret hO hF rfl (by first | (show _ ≤ 448; omega) | (show _ ≤ 7168; omega)) (by first | (show _ ≤ 448; omega) | (show _ ≤ 7168; omega)) rfl dL_alike_187 ⟨rfl, rfl, _, _, rfl, rfl, hs⟩
              · replace hs := hs.2 h49
                refine G_aload_n hO 1 dL_alike_102 rfl rfl ?_
                refine G_iload_n hO 0 dL_alike_103 rfl rfl ?_
                refine D_callHlL hO hi1 (rest := []) (cap := 448) 1 [.ref (ad 20 0), .int (a2 - a2 / 40 * 40)] hX (fun l B' h => c_L_leastPower hm1 hs h) cw_leastPower mw_726 mw_725 rfl rfl (Nat.le_of_ble_eq_true rfl) ⟨by decide, by decide⟩ ⟨by decide, by decide⟩ ⟨Nat.le_of_ble_eq_true rfl, Nat.le_of_ble_eq_true rfl⟩ (by omega) dL_alike_104 ?_
                intro r29 M30 hs
                refine G_aload_n hO 2 dL_alike_107 rfl rfl ?_
                refine G_iload_n hO 0 dL_alike_108 rfl rfl ?_
                refine D_callHlR hO hi1 (rest := [.long r29]) (cap := 448) 1 [.ref (adR ad 20 0), .int (a2 - a2 / 40 * 40)] hX (fun l B' h => c_L_leastPower (ad := adR ad) hm2 hs h) cw_leastPower mw_726 mw_725 rfl rfl (Nat.le_of_ble_eq_true rfl) ⟨by decide, by decide⟩ ⟨by decide, by decide⟩ ⟨Nat.le_of_ble_eq_true rfl, Nat.le_of_ble_eq_true rfl⟩ (by omega) dL_alike_109 ?_
                intro r31 M32 hs
                refine G_lcmp hO dL_alike_112 ?_
                refine G_if_ne hO 186 dL_alike_113 (by decide) (fun h48 => ?_) (fun h48 => ?_)
                · replace hs := hs.1 h48
                  refine G_iconst hO 0 dL_alike_186 (by decide) ?_
                  exact G_zret hO hF rfl (by first | (show _ ≤ 448; omega) | (show _ ≤ 7168; omega)) (by first | (show _ ≤ 448; omega) | (show _ ≤ 7168; omega)) rfl dL_alike_187 ⟨rfl, rfl, _, _, rfl, rfl, hs⟩
                · replace hs := hs.2 h48
                  refine G_aload_n hO 1 dL_alike_116 rfl rfl ?_
                  refine G_iload_n hO 0 dL_alike_117 rfl rfl ?_
                  refine D_callHlL hO hi1 (rest := []) (cap := 448) 1 [.ref (ad 20 0), .int (a2 - a2 / 40 * 40)] hX (fun l B' h => c_L_heatFor hm1 hs h) cw_heatFor mw_741 mw_740 rfl rfl (Nat.le_of_ble_eq_true rfl) ⟨by decide, by decide⟩ ⟨by decide, by decide⟩ ⟨Nat.le_of_ble_eq_true rfl, Nat.le_of_ble_eq_true rfl⟩ (by omega) dL_alike_118 ?_
                  intro r33 M34 hs
                  refine G_aload_n hO 2 dL_alike_121 rfl rfl ?_
                  refine G_iload_n hO 0 dL_alike_122 rfl rfl ?_
                  refine D_callHlR hO hi1 (rest := [.long r33]) (cap := 448) 1 [.ref (adR ad 20 0), .int (a2 - a2 / 40 * 40)] hX (fun l B' h => c_L_heatFor (ad := adR ad) hm2 hs h) cw_heatFor mw_741 mw_740 rfl rfl (Nat.le_of_ble_eq_true rfl) ⟨by decide, by decide⟩ ⟨by decide, by decide⟩ ⟨Nat.le_of_ble_eq_true rfl, Nat.le_of_ble_eq_true rfl⟩ (by omega) dL_alike_123 ?_
                  intro r35 M36 hs
                  refine G_lcmp hO dL_alike_126 ?_
                  refine G_if_ne hO 186 dL_alike_127 (by decide) (fun h47 => ?_) (fun h47 => ?_)
                  · replace hs := hs.1 h47
                    refine G_iconst hO 0 dL_alike_186 (by decide) ?_
                    exact G_zret hO hF rfl (by first | (show _ ≤ 448; omega) | (show _ ≤ 7168; omega)) (by first | (show _ ≤ 448; omega) | (show _ ≤ 7168; omega)) rfl dL_alike_187 ⟨rfl, rfl, _, _, rfl, rfl, hs⟩
                  · replace hs := hs.2 h47
                    refine G_aload_n hO 1 dL_alike_130 rfl rfl ?_
                    refine G_iload_n hO 3 dL_alike_131 rfl rfl ?_
                    refine G_i2l hO dL_alike_132 ?_
                    refine G_iconst hO 3 dL_alike_133 (by decide) ?_
                    refine D_callHlL hO hi1 (rest := []) (cap := 448) 1 [.ref (ad 20 0), .long (Int32.toInt64 a2), .int 3] hX (fun l B' h => c_L_simulate hm1 hs h) cw_simulate mw_789 mw_788 rfl rfl (Nat.le_of_ble_eq_true rfl) ⟨by decide, by decide⟩ ⟨by decide, by decide⟩ ⟨Nat.le_of_ble_eq_true rfl, Nat.le_of_ble_eq_true rfl⟩ (by omega) dL_alike_134 ?_
                    intro r37 M38 hs
                    refine G_aload_n hO 2 dL_alike_137 rfl rfl ?_
                    refine G_iload_n hO 3 dL_alike_138 rfl rfl ?_
                    refine G_i2l hO dL_alike_139 ?_
                    refine G_iconst hO 3 dL_alike_140 (by decide) ?_
                    refine D_callHlR hO hi1 (rest := [.long r37]) (cap := 448) 1 [.ref (adR ad 20 0), .long (Int32.toInt64 a2), .int 3] hX (fun l B' h => c_L_simulate (ad := adR ad) hm2 hs h) cw_simulate mw_789 mw_788 rfl rfl (Nat.le_of_ble_eq_true rfl) ⟨by decide, by decide⟩ ⟨by decide, by decide⟩ ⟨Nat.le_of_ble_eq_true rfl, Nat.le_of_ble_eq_true rfl⟩ (by omega) dL_alike_141 ?_
                    intro r39 M40 hs
                    refine G_lcmp hO dL_alike_144 ?_
                    refine G_if_ne hO 186 dL_alike_145 (by decide) (fun h46 => ?_) (fun h46 => ?_)
                    · replace hs := hs.1 h46
                      refine G_iconst hO 0 dL_alike_186 (by decide) ?_
                      exact G_zret hO hF rfl (by first | (show _ ≤ 448; omega) | (show _ ≤ 7168; omega)) (by first | (show _ ≤ 448; omega) | (show _ ≤ 7168; omega)) rfl dL_alike_187 ⟨rfl, rfl, _, _, rfl, rfl, hs⟩
                    · replace hs := hs.2 h46
                      refine G_aload_n hO 1 dL_alike_148 rfl rfl ?_
                      refine G_iconst hO 2 dL_alike_149 (by decide) ?_
                      refine G_ldc2 hO mw_868 dL_alike_150 ?_
                      refine G_iload_n hO 3 dL_alike_153 rfl rfl ?_
                      refine G_sipush hO 1000 dL_alike_154 (by decide) ?_
                      refine G_irem hO dL_alike_157 (by decide) ?_
                      refine G_i2l hO dL_alike_158 ?_
                      refine G_ladd hO dL_alike_159 ?_
                      refine D_callHlL hO hi1 (rest := []) (cap := 448) 1 [.ref (ad 20 0), .int 2, .long (10301000 + (Int32.toInt64 (a2 - a2 / 1000 * 1000)))] hX (fun l B' h => c_L_script hm1 hs h) cw_script mw_753 mw_752 rfl rfl (Nat.le_of_ble_eq_true rfl) ⟨by decide, by decide⟩ ⟨by decide, by decide⟩ ⟨Nat.le_of_ble_eq_true rfl, Nat.le_of_ble_eq_true rfl⟩ (by omega) dL_alike_160 ?_
                      intro r41 M42 hs
                      refine G_aload_n hO 2 dL_alike_163 rfl rfl ?_
                      refine G_iconst hO 2 dL_alike_164 (by decide) ?_
                      refine G_ldc2 hO mw_868 dL_alike_165 ?_
                      refine G_iload_n hO 3 dL_alike_168 rfl rfl ?_
                      refine G_sipush hO 1000 dL_alike_169 (by decide) ?_
                      refine G_irem hO dL_alike_172 (by decide) ?_
                      refine G_i2l hO dL_alike_173 ?_
                      refine G_ladd hO dL_alike_174 ?_
                      refine D_callHlR hO hi1 (rest := [.long r41]) (cap := 448) 1 [.ref (adR ad 20 0), .int 2, .long (10301000 + (Int32.toInt64 (a2 - a2 / 1000 * 1000)))] hX (fun l B' h => c_L_script (ad := adR ad) hm2 hs h) cw_script mw_753 mw_752 rfl rfl (Nat.le_of_ble_eq_true rfl) ⟨by decide, by decide⟩ ⟨by decide, by decide⟩ ⟨Nat.le_of_ble_eq_true rfl, Nat.le_of_ble_eq_true rfl⟩ (by omega) dL_alike_175 ?_
                      intro r43 M44 hs
                      refine G_lcmp hO dL_alike_178 ?_
                      refine G_if_ne hO 186 dL_alike_179 (by decide) (fun h45 => ?_) (fun h45 => ?_)
                      · replace hs := hs.1 h45
                        refine G_iconst hO 0 dL_alike_186 (by decide) ?_
                        exact G_zret hO hF rfl (by first | (show _ ≤ 448; omega) | (show _ ≤ 7168; omega)) (by first | (show _ ≤ 448; omega) | (show _ ≤ 7168; omega)) rfl dL_alike_187 ⟨rfl, rfl, _, _, rfl, rfl, hs⟩
                      · replace hs := hs.2 h45
                        refine G_iconst hO 1 dL_alike_182 (by decide) ?_
                        refine G_goto hO 187 dL_alike_183 (by decide) ?_
                        exact G_zret hO hF rfl (by first | (show _ ≤ 448; omega) | (show _ ≤ 7168; omega)) (by first | (show _ ≤ 448; omega) | (show _ ≤ 7168; omega)) rfl dL_alike_187 ⟨rfl, rfl, _, _, rfl, rfl, hs⟩
