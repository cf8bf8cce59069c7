set_option maxHeartbeats 4000000 in
set_option maxRecDepth 20000 in
theorem c_L_follows {l : Launch} {Λ : Lay} {B : Zn} {ids : List (Nat × Nat)} {ad : Nat → Nat → Nat} (hm : ∀ q, q ∈ ids0 → q ∈ ids) (hnr : (20, 6) ∉ ids) {a1 : Int32} {M : Mem} {O : Nat → Int64} {P : Int32 → Mem → Prop} (hs : wL_follows a1 M P) (hst : l.stackTraces = false) : CY l yL_follows cL_follows 36 (some .boolean) { frames := 9, cells := 1564, slots := 25024, locals := 180 } Λ B ids ad (sh Λ ad M O) [.ref (ad 20 0), .int a1] (Gi Λ ids ad O P) := by
  refine CY.of hst RL [(0, .ref (ad 20 0)), (1, .int a1)] (plainFor_of_name (by decide +kernel)) rfl (Nat.le_of_ble_eq_true rfl) rfl (fun Γ hO hX hF => ?_)
  unfold wL_follows at hs
  have b856 : ∀ (k856 : Nat) (v2 : Int64) (v7 : Int64) (s0 : Int32) (M : Mem), k856 + ((218)) ≤ 1564 → wL_follows_L856 a1 P v2 v7 s0 M → G Γ ids ad k856 (16 * k856) (sh Λ ad M O) 856 [(0, .ref (ad 20 0)), (2, .long v2), (7, .long v7)] [.int s0] := by
    intro k856 v2 v7 s0 M hk hs
    unfold wL_follows_L856 at hs
    refine G_istore hO [(23, .int s0), (0, .ref (ad 20 0)), (2, .long v2), (7, .long v7)] dL_follows_856 (by decide) rfl ?_
    refine G_iload hO 0 dL_follows_858 rfl ?_
    refine G_if_eq hO 898 dL_follows_860 (by decide) (fun h110 => ?_) (fun h110 => ?_)
    · replace hs := hs.1 h110
      refine G_iconst hO 0 dL_follows_898 (by decide) ?_
      exact G_zret hO hF rfl (by first | (show _ ≤ 1564; omega) | (show _ ≤ 25024; omega)) (by first | (show _ ≤ 1564; omega) | (show _ ≤ 25024; omega)) rfl dL_follows_899 ⟨rfl, rfl, _, _, rfl, rfl, hs⟩
    · replace hs := hs.2 h110
      refine G_aload_n hO 1 dL_follows_863 rfl rfl ?_
      refine G_iconst hO 1 dL_follows_864 (by decide) ?_
      refine H_callHl hO (rest := []) 1 [.ref (ad 20 0), .int 1] hX (fun l h => c_L_restore hm hs h) cw_restore mw_413 mw_412 rfl rfl (Nat.le_of_ble_eq_true rfl) ⟨by decide, by decide⟩ ⟨by decide, by decide⟩ rfl (by first | (show _ ≤ 1564; omega) | (show _ ≤ 25024; omega)) dL_follows_865 ?_
      intro r101 M102 hs
      refine G_lload hO 3 dL_follows_868 rfl ?_
      refine G_lcmp hO dL_follows_870 ?_
      refine G_if_ne hO 898 dL_follows_871 (by decide) (fun h109 => ?_) (fun h109 => ?_)
      · replace hs := hs.1 h109
        refine G_iconst hO 0 dL_follows_898 (by decide) ?_
        exact G_zret hO hF rfl (by first | (show _ ≤ 1564; omega) | (show _ ≤ 25024; omega)) (by first | (show _ ≤ 1564; omega) | (show _ ≤ 25024; omega)) rfl dL_follows_899 ⟨rfl, rfl, _, _, rfl, rfl, hs⟩
      · replace hs := hs.2 h109
        refine G_aload_n hO 1 dL_follows_874 rfl rfl ?_
        refine H_callYl hO (rest := []) 216 [.ref (ad 20 0)] hX (fun l h => c_L_now hm hnr hs h) cv_L_now mw_424 mw_423 rfl rfl (Nat.le_of_ble_eq_true rfl) ⟨by decide, by decide⟩ ⟨by decide, by decide⟩ rfl (by first | (show _ ≤ 1564; omega) | (show _ ≤ 25024; omega)) dL_follows_875 ?_
        intro r103 M104 hs
        refine G_lload_n hO 2 dL_follows_878 rfl rfl ?_
        refine G_lcmp hO dL_follows_879 ?_
        refine G_if_ne hO 898 dL_follows_880 (by decide) (fun h108 => ?_) (fun h108 => ?_)
        · replace hs := hs.1 h108
          refine G_iconst hO 0 dL_follows_898 (by decide) ?_
          exact G_zret hO hF rfl (by first | (show _ ≤ 1564; omega) | (show _ ≤ 25024; omega)) (by first | (show _ ≤ 1564; omega) | (show _ ≤ 25024; omega)) rfl dL_follows_899 ⟨rfl, rfl, _, _, rfl, rfl, hs⟩
        · replace hs := hs.2 h108
          refine G_aload_n hO 1 dL_follows_883 rfl rfl ?_
          refine H_callHl hO (rest := []) 1 [.ref (ad 20 0)] hX (fun l h => c_L_undo hm hs h) cw_undo mw_842 mw_841 rfl rfl (Nat.le_of_ble_eq_true rfl) ⟨by decide, by decide⟩ ⟨by decide, by decide⟩ rfl (by first | (show _ ≤ 1564; omega) | (show _ ≤ 25024; omega)) dL_follows_884 ?_
          intro r105 M106 hs
          refine G_ldc2 hO mw_386 dL_follows_887 ?_
          refine G_lcmp hO dL_follows_890 ?_
          refine G_if_ne hO 898 dL_follows_891 (by decide) (fun h107 => ?_) (fun h107 => ?_)
          · replace hs := hs.1 h107
            refine G_iconst hO 0 dL_follows_898 (by decide) ?_
            exact G_zret hO hF rfl (by first | (show _ ≤ 1564; omega) | (show _ ≤ 25024; omega)) (by first | (show _ ≤ 1564; omega) | (show _ ≤ 25024; omega)) rfl dL_follows_899 ⟨rfl, rfl, _, _, rfl, rfl, hs⟩
          · replace hs := hs.2 h107
            refine G_iconst hO 1 dL_follows_894 (by decide) ?_
            refine G_goto hO 899 dL_follows_895 (by decide) ?_
            exact G_zret hO hF rfl (by first | (show _ ≤ 1564; omega) | (show _ ≤ 25024; omega)) (by first | (show _ ≤ 1564; omega) | (show _ ≤ 25024; omega)) rfl dL_follows_899 ⟨rfl, rfl, _, _, rfl, rfl, hs⟩
  have b855 : ∀ (k855 : Nat) (v2 : Int64) (v7 : Int64) (M : Mem), k855 + ((218)) ≤ 1564 → wL_follows_L855 a1 P v2 v7 M → G Γ ids ad k855 (16 * k855) (sh Λ ad M O) 855 [(0, .ref (ad 20 0)), (2, .long v2), (7, .long v7)] [] := by
    intro k855 v2 v7 M hk hs
    unfold wL_follows_L855 at hs
    refine G_iconst hO 0 dL_follows_855 (by decide) ?_
    exact b856 _ _ _ _ _ (by omega) hs
  have b797 : ∀ (k797 : Nat) (v2 : Int64) (v4 : Int32) (v7 : Int64) (v23 : Int32) (M : Mem), k797 + ((437)) ≤ 1564 → wL_follows_L797 a1 P v2 v4 v7 v23 M → G Γ ids ad k797 (16 * k797) (sh Λ ad M O) 797 [(0, .ref (ad 20 0)), (1, .int a1), (2, .long v2), (4, .int v4), (7, .long v7), (23, .int v23)] [] := by
    intro k797 v2 v4 v7 v23 M hk hs
    unfold wL_follows_L797 at hs
    refine G_iload hO 5 dL_follows_797 rfl ?_
    refine G_if_eq hO 855 dL_follows_799 (by decide) (fun h93 => ?_) (fun h93 => ?_)
    · replace hs := hs.1 h93
      refine G_lv hO [(0, .ref (ad 20 0)), (2, .long v2), (7, .long v7)] [0, 2, 4] rfl ?_
      exact b855 _ _ _ _ (by omega) hs
    · replace hs := hs.2 h93
      refine G_aload_n hO 0 dL_follows_802 rfl rfl ?_
      refine G_iload_n hO 1 dL_follows_803 rfl rfl ?_
      refine G_i2l hO dL_follows_804 ?_
      refine G_iconst hO 2 dL_follows_805 (by decide) ?_
      refine H_callHl hO (rest := []) 1 [.ref (ad 20 0), .long (Int32.toInt64 a1), .int 2] hX (fun l h => c_L_simulate hm hs h) cw_simulate mw_789 mw_788 rfl rfl (Nat.le_of_ble_eq_true rfl) ⟨by decide, by decide⟩ ⟨by decide, by decide⟩ rfl (by first | (show _ ≤ 1564; omega) | (show _ ≤ 25024; omega)) dL_follows_806 ?_
      intro r82 M83 hs
      refine G_aload_n hO 0 dL_follows_809 rfl rfl ?_
      refine G_iload_n hO 1 dL_follows_810 rfl rfl ?_
      refine G_i2l hO dL_follows_811 ?_
      refine G_iconst hO 2 dL_follows_812 (by decide) ?_
      refine H_callHl hO (rest := [.long r82]) 1 [.ref (ad 20 0), .long (Int32.toInt64 a1), .int 2] hX (fun l h => c_L_simulate hm hs h) cw_simulate mw_789 mw_788 rfl rfl (Nat.le_of_ble_eq_true rfl) ⟨by decide, by decide⟩ ⟨by decide, by decide⟩ rfl (by first | (show _ ≤ 1564; omega) | (show _ ≤ 25024; omega)) dL_follows_813 ?_
      intro r84 M85 hs
      refine G_lcmp hO dL_follows_816 ?_
      refine G_if_ne hO 855 dL_follows_817 (by decide) (fun h92 => ?_) (fun h92 => ?_)
      · replace hs := hs.1 h92
        refine G_lv hO [(0, .ref (ad 20 0)), (2, .long v2), (7, .long v7)] [0, 2, 4] rfl ?_
        exact b855 _ _ _ _ (by omega) hs
      · replace hs := hs.2 h92
        refine G_aload_n hO 0 dL_follows_820 rfl rfl ?_
        refine G_iload_n hO 1 dL_follows_821 rfl rfl ?_
        refine G_i2l hO dL_follows_822 ?_
        refine G_iconst hO 1 dL_follows_823 (by decide) ?_
        refine H_callHl hO (rest := []) 1 [.ref (ad 20 0), .long (Int32.toInt64 a1), .int 1] hX (fun l h => c_L_simulate hm hs h) cw_simulate mw_789 mw_788 rfl rfl (Nat.le_of_ble_eq_true rfl) ⟨by decide, by decide⟩ ⟨by decide, by decide⟩ rfl (by first | (show _ ≤ 1564; omega) | (show _ ≤ 25024; omega)) dL_follows_824 ?_
        intro r86 M87 hs
        refine G_ldc2 hO mw_860 dL_follows_827 ?_
        refine G_ldiv hO dL_follows_830 (by decide) ?_
        refine G_ldc2 hO mw_858 dL_follows_831 ?_
        refine G_iload hO 3 dL_follows_834 rfl ?_
        refine G_i2l hO dL_follows_836 ?_
        refine G_lmul hO dL_follows_837 ?_
        refine G_lcmp hO dL_follows_838 ?_
        refine G_if_gt hO 855 dL_follows_839 (by decide) (fun h91 => ?_) (fun h91 => ?_)
        · replace hs := hs.1 h91
          refine G_lv hO [(0, .ref (ad 20 0)), (2, .long v2), (7, .long v7)] [0, 2, 4] rfl ?_
          exact b855 _ _ _ _ (by omega) hs
        · replace hs := hs.2 h91
          refine G_aload_n hO 0 dL_follows_842 rfl rfl ?_
          refine H_callYl hO (rest := []) 216 [.ref (ad 20 0)] hX (fun l h => c_L_now hm hnr hs h) cv_L_now mw_424 mw_423 rfl rfl (Nat.le_of_ble_eq_true rfl) ⟨by decide, by decide⟩ ⟨by decide, by decide⟩ rfl (by first | (show _ ≤ 1564; omega) | (show _ ≤ 25024; omega)) dL_follows_843 ?_
          intro r88 M89 hs
          refine G_lload_n hO 2 dL_follows_846 rfl rfl ?_
          refine G_lcmp hO dL_follows_847 ?_
          refine G_if_ne hO 855 dL_follows_848 (by decide) (fun h90 => ?_) (fun h90 => ?_)
          · replace hs := hs.1 h90
            refine G_lv hO [(0, .ref (ad 20 0)), (2, .long v2), (7, .long v7)] [0, 2, 4] rfl ?_
            exact b855 _ _ _ _ (by omega) hs
          · replace hs := hs.2 h90
            refine G_iconst hO 1 dL_follows_851 (by decide) ?_
            refine G_goto hO 856 dL_follows_852 (by decide) ?_
            refine G_lv hO [(0, .ref (ad 20 0)), (2, .long v2), (7, .long v7)] [0, 2, 4] rfl ?_
            exact b856 _ _ _ _ _ (by omega) hs
  have b795 : ∀ (k795 : Nat) (v2 : Int64) (v4 : Int32) (v7 : Int64) (s0 : Int32) (M : Mem), k795 + ((437)) ≤ 1564 → wL_follows_L795 a1 P v2 v4 v7 s0 M → G Γ ids ad k795 (16 * k795) (sh Λ ad M O) 795 [(0, .ref (ad 20 0)), (1, .int a1), (2, .long v2), (4, .int v4), (7, .long v7)] [.int s0] := by
    intro k795 v2 v4 v7 s0 M hk hs
    unfold wL_follows_L795 at hs
    refine G_istore hO [(23, .int s0), (0, .ref (ad 20 0)), (1, .int a1), (2, .long v2), (4, .int v4), (7, .long v7)] dL_follows_795 (by decide) rfl ?_
    refine G_lv hO [(0, .ref (ad 20 0)), (1, .int a1), (2, .long v2), (4, .int v4), (7, .long v7), (23, .int s0)] [1, 2, 3, 4, 5, 0] rfl ?_
    exact b797 _ _ _ _ _ _ (by omega) hs
  have b790 : ∀ (k790 : Nat) (v2 : Int64) (v4 : Int32) (v7 : Int64) (M : Mem), k790 + ((437)) ≤ 1564 → wL_follows_L790 a1 P v2 v4 v7 M → G Γ ids ad k790 (16 * k790) (sh Λ ad M O) 790 [(0, .ref (ad 20 0)), (1, .int a1), (2, .long v2), (4, .int v4), (7, .long v7)] [] := by
    intro k790 v2 v4 v7 M hk hs
    unfold wL_follows_L790 at hs
    refine G_iconst hO 1 dL_follows_790 (by decide) ?_
    refine G_goto hO 795 dL_follows_791 (by decide) ?_
    exact b795 _ _ _ _ _ _ (by omega) hs
  have b794 : ∀ (k794 : Nat) (v2 : Int64) (v4 : Int32) (v7 : Int64) (M : Mem), k794 + ((437)) ≤ 1564 → wL_follows_L794 a1 P v2 v4 v7 M → G Γ ids ad k794 (16 * k794) (sh Λ ad M O) 794 [(0, .ref (ad 20 0)), (1, .int a1), (2, .long v2), (4, .int v4), (7, .long v7)] [] := by
    intro k794 v2 v4 v7 M hk hs
    unfold wL_follows_L794 at hs
    refine G_iconst hO 0 dL_follows_794 (by decide) ?_
    exact b795 _ _ _ _ _ _ (by omega) hs
  have b716 : ∀ (k716 : Nat) (v2 : Int64) (v4 : Int32) (v7 : Int64) (v29 : Int32) (s0 : Int32) (M : Mem), k716 + ((440)) ≤ 1564 → wL_follows_L716 a1 P v2 v4 v7 v29 s0 M → G Γ ids ad k716 (16 * k716) (sh Λ ad M O) 716 [(0, .ref (ad 20 0)), (1, .int a1), (2, .long v2), (4, .int v4), (7, .long v7), (29, .int v29)] [.int s0] := by
    intro k716 v2 v4 v7 v29 s0 M hk hs
    unfold wL_follows_L716 at hs
    refine G_istore hO [(23, .int s0), (0, .ref (ad 20 0)), (1, .int a1), (2, .long v2), (4, .int v4), (7, .long v7), (29, .int v29)] dL_follows_716 (by decide) rfl ?_
    refine G_aload_n hO 1 dL_follows_718 rfl rfl ?_
    refine G_iload hO 6 dL_follows_719 rfl ?_
    refine H_callHl hO (rest := []) 1 [.ref (ad 20 0), .int v29] hX (fun l h => c_L_leastPower hm hs h) cw_leastPower mw_726 mw_725 rfl rfl (Nat.le_of_ble_eq_true rfl) ⟨by decide, by decide⟩ ⟨by decide, by decide⟩ rfl (by first | (show _ ≤ 1564; omega) | (show _ ≤ 25024; omega)) dL_follows_721 ?_
    intro r160 M161 hs
    refine G_lstore hO [(34, .long r160), (23, .int s0), (0, .ref (ad 20 0)), (1, .int a1), (2, .long v2), (4, .int v4), (7, .long v7), (29, .int v29)] dL_follows_724 (by decide) rfl ?_
    refine G_iload hO 1 dL_follows_726 rfl ?_
    refine G_if_eq hO 794 dL_follows_728 (by decide) (fun h172 => ?_) (fun h172 => ?_)
    · replace hs := hs.1 h172
      refine G_lv hO [(0, .ref (ad 20 0)), (1, .int a1), (2, .long v2), (4, .int v4), (7, .long v7)] [2, 3, 4, 5, 6] rfl ?_
      exact b794 _ _ _ _ _ (by omega) hs
    · replace hs := hs.2 h172
      refine G_lload hO 0 dL_follows_731 rfl ?_
      refine G_ldc2 hO mw_820 dL_follows_733 ?_
      refine G_lcmp hO dL_follows_736 ?_
      refine G_if_eq hO 790 dL_follows_737 (by decide) (fun h171 => ?_) (fun h171 => ?_)
      · replace hs := hs.1 h171
        refine G_lv hO [(0, .ref (ad 20 0)), (1, .int a1), (2, .long v2), (4, .int v4), (7, .long v7)] [2, 3, 4, 5, 6] rfl ?_
        exact b790 _ _ _ _ _ (by omega) hs
      · replace hs := hs.2 h171
        refine G_lload hO 0 dL_follows_740 rfl ?_
        refine G_ldc2 hO mw_858 dL_follows_742 ?_
        refine G_lrem hO dL_follows_745 (by decide) ?_
        refine G_lconst hO 0 dL_follows_746 (by decide) ?_
        refine G_lcmp hO dL_follows_747 ?_
        refine G_if_ne hO 794 dL_follows_748 (by decide) (fun h170 => ?_) (fun h170 => ?_)
        · replace hs := hs.1 h170
          refine G_lv hO [(0, .ref (ad 20 0)), (1, .int a1), (2, .long v2), (4, .int v4), (7, .long v7)] [2, 3, 4, 5, 6] rfl ?_
          exact b794 _ _ _ _ _ (by omega) hs
        · replace hs := hs.2 h170
          refine G_lload hO 0 dL_follows_751 rfl ?_
          refine G_lconst hO 0 dL_follows_753 (by decide) ?_
          refine G_ldc2 hO mw_859 dL_follows_754 ?_
          refine KS_Ni hO (rest := []) [.long r160, .long 0, .long 200] (fun l => c_L_in hs) cv_L_in mw_813 mw_812 rfl rfl (Nat.le_of_ble_eq_true rfl) (by decide) rfl rfl (by first | (show _ ≤ 1564; omega) | (show _ ≤ 25024; omega)) (by first | (show _ ≤ 1564; omega) | (show _ ≤ 25024; omega)) dL_follows_757 ?_
          intro r162 hs
          refine G_if_eq hO 794 dL_follows_760 (by decide) (fun h169 => ?_) (fun h169 => ?_)
          · replace hs := hs.1 h169
            refine G_lv hO [(0, .ref (ad 20 0)), (1, .int a1), (2, .long v2), (4, .int v4), (7, .long v7)] [2, 3, 4, 5, 6] rfl ?_
            exact b794 _ _ _ _ _ (by omega) hs
          · replace hs := hs.2 h169
            refine G_aload_n hO 2 dL_follows_763 rfl rfl ?_
            refine G_iload hO 7 dL_follows_764 rfl ?_
            refine G_iconst hO 1 dL_follows_766 (by decide) ?_
            refine G_iadd hO dL_follows_767 ?_
            refine H_callHl hO (rest := []) 1 [.ref (ad 20 0), .int (v29 + 1)] hX (fun l h => c_L_leastPower hm hs h) cw_leastPower mw_726 mw_725 rfl rfl (Nat.le_of_ble_eq_true rfl) ⟨by decide, by decide⟩ ⟨by decide, by decide⟩ rfl (by first | (show _ ≤ 1564; omega) | (show _ ≤ 25024; omega)) dL_follows_768 ?_
            intro r163 M164 hs
            refine G_lload hO 0 dL_follows_771 rfl ?_
            refine G_lcmp hO dL_follows_773 ?_
            refine G_if_gt hO 794 dL_follows_774 (by decide) (fun h168 => ?_) (fun h168 => ?_)
            · replace hs := hs.1 h168
              refine G_lv hO [(0, .ref (ad 20 0)), (1, .int a1), (2, .long v2), (4, .int v4), (7, .long v7)] [2, 3, 4, 5, 6] rfl ?_
              exact b794 _ _ _ _ _ (by omega) hs
            · replace hs := hs.2 h168
              refine G_aload_n hO 2 dL_follows_777 rfl rfl ?_
              refine G_iload hO 7 dL_follows_778 rfl ?_
              refine G_iconst hO 1 dL_follows_780 (by decide) ?_
              refine G_iadd hO dL_follows_781 ?_
              refine H_callHl hO (rest := []) 1 [.ref (ad 20 0), .int (v29 + 1)] hX (fun l h => c_L_leastPower hm hs h) cw_leastPower mw_726 mw_725 rfl rfl (Nat.le_of_ble_eq_true rfl) ⟨by decide, by decide⟩ ⟨by decide, by decide⟩ rfl (by first | (show _ ≤ 1564; omega) | (show _ ≤ 25024; omega)) dL_follows_782 ?_
              intro r165 M166 hs
              refine G_lconst hO 0 dL_follows_785 (by decide) ?_
              refine G_lcmp hO dL_follows_786 ?_
              refine G_if_lt hO 794 dL_follows_787 (by decide) (fun h167 => ?_) (fun h167 => ?_)
              · replace hs := hs.1 h167
                refine G_lv hO [(0, .ref (ad 20 0)), (1, .int a1), (2, .long v2), (4, .int v4), (7, .long v7)] [2, 3, 4, 5, 6] rfl ?_
                exact b794 _ _ _ _ _ (by omega) hs
              · replace hs := hs.2 h167
                refine G_lv hO [(0, .ref (ad 20 0)), (1, .int a1), (2, .long v2), (4, .int v4), (7, .long v7)] [2, 3, 4, 5, 6] rfl ?_
                exact b790 _ _ _ _ _ (by omega) hs
  have b715 : ∀ (k715 : Nat) (v2 : Int64) (v4 : Int32) (v7 : Int64) (v29 : Int32) (M : Mem), k715 + ((440)) ≤ 1564 → wL_follows_L715 a1 P v2 v4 v7 v29 M → G Γ ids ad k715 (16 * k715) (sh Λ ad M O) 715 [(0, .ref (ad 20 0)), (1, .int a1), (2, .long v2), (4, .int v4), (7, .long v7), (29, .int v29)] [] := by
    intro k715 v2 v4 v7 v29 M hk hs
    unfold wL_follows_L715 at hs
    refine G_iconst hO 0 dL_follows_715 (by decide) ?_
    exact b716 _ _ _ _ _ _ _ (by omega) hs
  have b611 : ∀ (k611 : Nat) (v2 : Int64) (v4 : Int32) (v7 : Int64) (v29 : Int32) (s0 : Int32) (M : Mem), k611 + ((664)) ≤ 1564 → wL_follows_L611 a1 P v2 v4 v7 v29 s0 M → G Γ ids ad k611 (16 * k611) (sh Λ ad M O) 611 [(0, .ref (ad 20 0)), (1, .int a1), (2, .long v2), (4, .int v4), (7, .long v7), (29, .int v29)] [.int s0] := by
    intro k611 v2 v4 v7 v29 s0 M hk hs
    unfold wL_follows_L611 at hs
    refine G_istore hO [(23, .int s0), (0, .ref (ad 20 0)), (1, .int a1), (2, .long v2), (4, .int v4), (7, .long v7), (29, .int v29)] dL_follows_611 (by decide) rfl ?_
    refine G_aload_n hO 1 dL_follows_613 rfl rfl ?_
    refine G_bipush hO 12 dL_follows_614 (by decide) ?_
    refine H_callHl hO (rest := []) 1 [.ref (ad 20 0), .int 12] hX (fun l h => c_L_about hm hs h) cw_about mw_429 mw_428 rfl rfl (Nat.le_of_ble_eq_true rfl) ⟨by decide, by decide⟩ ⟨by decide, by decide⟩ rfl (by first | (show _ ≤ 1564; omega) | (show _ ≤ 25024; omega)) dL_follows_616 ?_
    intro r125 M126 hs
    refine G_lstore hO [(32, .long r125), (23, .int s0), (0, .ref (ad 20 0)), (1, .int a1), (2, .long v2), (4, .int v4), (7, .long v7), (29, .int v29)] dL_follows_619 (by decide) rfl ?_
    refine G_iload hO 1 dL_follows_621 rfl ?_
    refine G_if_eq hO 715 dL_follows_623 (by decide) (fun h151 => ?_) (fun h151 => ?_)
    · replace hs := hs.1 h151
      refine G_lv hO [(0, .ref (ad 20 0)), (1, .int a1), (2, .long v2), (4, .int v4), (7, .long v7), (29, .int v29)] [2, 3, 4, 5, 6, 7] rfl ?_
      exact b715 _ _ _ _ _ _ (by omega) hs
    · replace hs := hs.2 h151
      refine G_aload_n hO 2 dL_follows_626 rfl rfl ?_
      refine H_callHl hO (rest := []) 1 [.ref (ad 20 0)] hX (fun l h => c_L_undo hm hs h) cw_undo mw_842 mw_841 rfl rfl (Nat.le_of_ble_eq_true rfl) ⟨by decide, by decide⟩ ⟨by decide, by decide⟩ rfl (by first | (show _ ≤ 1564; omega) | (show _ ≤ 25024; omega)) dL_follows_627 ?_
      intro r127 M128 hs
      refine G_lconst hO 0 dL_follows_630 (by decide) ?_
      refine G_lcmp hO dL_follows_631 ?_
      refine G_if_lt hO 715 dL_follows_632 (by decide) (fun h150 => ?_) (fun h150 => ?_)
      · replace hs := hs.1 h150
        refine G_lv hO [(0, .ref (ad 20 0)), (1, .int a1), (2, .long v2), (4, .int v4), (7, .long v7), (29, .int v29)] [2, 3, 4, 5, 6, 7] rfl ?_
        exact b715 _ _ _ _ _ _ (by omega) hs
      · replace hs := hs.2 h150
        refine G_aload_n hO 2 dL_follows_635 rfl rfl ?_
        refine G_iconst hO 4 dL_follows_636 (by decide) ?_
        refine G_iload_n hO 3 dL_follows_637 rfl rfl ?_
        refine G_bipush hO 30 dL_follows_638 (by decide) ?_
        refine G_idiv hO dL_follows_640 (by decide) ?_
        refine G_bipush hO 31 dL_follows_641 (by decide) ?_
        refine G_irem hO dL_follows_643 (by decide) ?_
        refine H_callHl hO (rest := []) 1 [.ref (ad 20 0), .int 4, .int ((a1 / 30) - (a1 / 30) / 31 * 31)] hX (fun l h => c_L_set hm hs h) cw_set mw_605 mw_604 rfl rfl (Nat.le_of_ble_eq_true rfl) ⟨by decide, by decide⟩ ⟨by decide, by decide⟩ rfl (by first | (show _ ≤ 1564; omega) | (show _ ≤ 25024; omega)) dL_follows_644 ?_
        intro r129 M130 hs
        refine G_lconst hO 0 dL_follows_647 (by decide) ?_
        refine G_lcmp hO dL_follows_648 ?_
        refine G_if_lt hO 715 dL_follows_649 (by decide) (fun h149 => ?_) (fun h149 => ?_)
        · replace hs := hs.1 h149
          refine G_lv hO [(0, .ref (ad 20 0)), (1, .int a1), (2, .long v2), (4, .int v4), (7, .long v7), (29, .int v29)] [2, 3, 4, 5, 6, 7] rfl ?_
          exact b715 _ _ _ _ _ _ (by omega) hs
        · replace hs := hs.2 h149
          refine G_aload_n hO 2 dL_follows_652 rfl rfl ?_
          refine G_iload hO 7 dL_follows_653 rfl ?_
          refine H_callHl hO (rest := []) 1 [.ref (ad 20 0), .int v29] hX (fun l h => c_L_pass hm hs h) cw_pass mw_630 mw_629 rfl rfl (Nat.le_of_ble_eq_true rfl) ⟨by decide, by decide⟩ ⟨by decide, by decide⟩ rfl (by first | (show _ ≤ 1564; omega) | (show _ ≤ 25024; omega)) dL_follows_655 ?_
          intro r131 M132 hs
          refine G_lconst hO 0 dL_follows_658 (by decide) ?_
          refine G_lcmp hO dL_follows_659 ?_
          refine G_if_lt hO 715 dL_follows_660 (by decide) (fun h148 => ?_) (fun h148 => ?_)
          · replace hs := hs.1 h148
            refine G_lv hO [(0, .ref (ad 20 0)), (1, .int a1), (2, .long v2), (4, .int v4), (7, .long v7), (29, .int v29)] [2, 3, 4, 5, 6, 7] rfl ?_
            exact b715 _ _ _ _ _ _ (by omega) hs
          · replace hs := hs.2 h148
            refine G_aload_n hO 2 dL_follows_663 rfl rfl ?_
            refine G_bipush hO 12 dL_follows_664 (by decide) ?_
            refine H_callHl hO (rest := []) 1 [.ref (ad 20 0), .int 12] hX (fun l h => c_L_about hm hs h) cw_about mw_429 mw_428 rfl rfl (Nat.le_of_ble_eq_true rfl) ⟨by decide, by decide⟩ ⟨by decide, by decide⟩ rfl (by first | (show _ ≤ 1564; omega) | (show _ ≤ 25024; omega)) dL_follows_666 ?_
            intro r133 M134 hs
            refine G_lload hO 0 dL_follows_669 rfl ?_
            refine G_lcmp hO dL_follows_671 ?_
            refine G_if_gt hO 715 dL_follows_672 (by decide) (fun h147 => ?_) (fun h147 => ?_)
            · replace hs := hs.1 h147
              refine G_lv hO [(0, .ref (ad 20 0)), (1, .int a1), (2, .long v2), (4, .int v4), (7, .long v7), (29, .int v29)] [2, 3, 4, 5, 6, 7] rfl ?_
              exact b715 _ _ _ _ _ _ (by omega) hs
            · replace hs := hs.2 h147
              refine G_aload_n hO 2 dL_follows_675 rfl rfl ?_
              refine H_callHl hO (rest := []) 1 [.ref (ad 20 0)] hX (fun l h => c_L_undo hm hs h) cw_undo mw_842 mw_841 rfl rfl (Nat.le_of_ble_eq_true rfl) ⟨by decide, by decide⟩ ⟨by decide, by decide⟩ rfl (by first | (show _ ≤ 1564; omega) | (show _ ≤ 25024; omega)) dL_follows_676 ?_
              intro r135 M136 hs
              refine G_lconst hO 0 dL_follows_679 (by decide) ?_
              refine G_lcmp hO dL_follows_680 ?_
              refine G_if_lt hO 715 dL_follows_681 (by decide) (fun h146 => ?_) (fun h146 => ?_)
              · replace hs := hs.1 h146
                refine G_lv hO [(0, .ref (ad 20 0)), (1, .int a1), (2, .long v2), (4, .int v4), (7, .long v7), (29, .int v29)] [2, 3, 4, 5, 6, 7] rfl ?_
                exact b715 _ _ _ _ _ _ (by omega) hs
              · replace hs := hs.2 h146
                refine G_aload_n hO 2 dL_follows_684 rfl rfl ?_
                refine H_callHl hO (rest := []) 1 [.ref (ad 20 0)] hX (fun l h => c_L_undo hm hs h) cw_undo mw_842 mw_841 rfl rfl (Nat.le_of_ble_eq_true rfl) ⟨by decide, by decide⟩ ⟨by decide, by decide⟩ rfl (by first | (show _ ≤ 1564; omega) | (show _ ≤ 25024; omega)) dL_follows_685 ?_
                intro r137 M138 hs
                refine G_lconst hO 0 dL_follows_688 (by decide) ?_
                refine G_lcmp hO dL_follows_689 ?_
                refine G_if_lt hO 715 dL_follows_690 (by decide) (fun h145 => ?_) (fun h145 => ?_)
                · replace hs := hs.1 h145
                  refine G_lv hO [(0, .ref (ad 20 0)), (1, .int a1), (2, .long v2), (4, .int v4), (7, .long v7), (29, .int v29)] [2, 3, 4, 5, 6, 7] rfl ?_
                  exact b715 _ _ _ _ _ _ (by omega) hs
                · replace hs := hs.2 h145
                  refine G_aload_n hO 2 dL_follows_693 rfl rfl ?_
                  refine H_callHl hO (rest := []) 1 [.ref (ad 20 0)] hX (fun l h => c_L_undo hm hs h) cw_undo mw_842 mw_841 rfl rfl (Nat.le_of_ble_eq_true rfl) ⟨by decide, by decide⟩ ⟨by decide, by decide⟩ rfl (by first | (show _ ≤ 1564; omega) | (show _ ≤ 25024; omega)) dL_follows_694 ?_
                  intro r139 M140 hs
                  refine G_lconst hO 0 dL_follows_697 (by decide) ?_
                  refine G_lcmp hO dL_follows_698 ?_
                  refine G_if_lt hO 715 dL_follows_699 (by decide) (fun h144 => ?_) (fun h144 => ?_)
                  · replace hs := hs.1 h144
                    refine G_lv hO [(0, .ref (ad 20 0)), (1, .int a1), (2, .long v2), (4, .int v4), (7, .long v7), (29, .int v29)] [2, 3, 4, 5, 6, 7] rfl ?_
                    exact b715 _ _ _ _ _ _ (by omega) hs
                  · replace hs := hs.2 h144
                    refine G_aload_n hO 2 dL_follows_702 rfl rfl ?_
                    refine H_callYl hO (rest := []) 216 [.ref (ad 20 0)] hX (fun l h => c_L_now hm hnr hs h) cv_L_now mw_424 mw_423 rfl rfl (Nat.le_of_ble_eq_true rfl) ⟨by decide, by decide⟩ ⟨by decide, by decide⟩ rfl (by first | (show _ ≤ 1564; omega) | (show _ ≤ 25024; omega)) dL_follows_703 ?_
                    intro r141 M142 hs
                    refine G_lload_n hO 4 dL_follows_706 rfl rfl ?_
                    refine G_lcmp hO dL_follows_707 ?_
                    refine G_if_ne hO 715 dL_follows_708 (by decide) (fun h143 => ?_) (fun h143 => ?_)
                    · replace hs := hs.1 h143
                      refine G_lv hO [(0, .ref (ad 20 0)), (1, .int a1), (2, .long v2), (4, .int v4), (7, .long v7), (29, .int v29)] [2, 3, 4, 5, 6, 7] rfl ?_
                      exact b715 _ _ _ _ _ _ (by omega) hs
                    · replace hs := hs.2 h143
                      refine G_iconst hO 1 dL_follows_711 (by decide) ?_
                      refine G_goto hO 716 dL_follows_712 (by decide) ?_
                      refine G_lv hO [(0, .ref (ad 20 0)), (1, .int a1), (2, .long v2), (4, .int v4), (7, .long v7), (29, .int v29)] [2, 3, 4, 5, 6, 7] rfl ?_
                      exact b716 _ _ _ _ _ _ _ (by omega) hs
  have b610 : ∀ (k610 : Nat) (v2 : Int64) (v4 : Int32) (v7 : Int64) (v29 : Int32) (M : Mem), k610 + ((664)) ≤ 1564 → wL_follows_L610 a1 P v2 v4 v7 v29 M → G Γ ids ad k610 (16 * k610) (sh Λ ad M O) 610 [(0, .ref (ad 20 0)), (1, .int a1), (2, .long v2), (4, .int v4), (7, .long v7), (29, .int v29)] [] := by
    intro k610 v2 v4 v7 v29 M hk hs
    unfold wL_follows_L610 at hs
    refine G_iconst hO 0 dL_follows_610 (by decide) ?_
    exact b611 _ _ _ _ _ _ _ (by omega) hs
  have b547 : ∀ (k547 : Nat) (v2 : Int64) (v4 : Int32) (v7 : Int64) (s0 : Int32) (M : Mem), k547 + ((667)) ≤ 1564 → wL_follows_L547 a1 P v2 v4 v7 s0 M → G Γ ids ad k547 (16 * k547) (sh Λ ad M O) 547 [(0, .ref (ad 20 0)), (1, .int a1), (2, .long v2), (4, .int v4), (7, .long v7)] [.int s0] := by
    intro k547 v2 v4 v7 s0 M hk hs
    unfold wL_follows_L547 at hs
    refine G_istore hO [(23, .int s0), (0, .ref (ad 20 0)), (1, .int a1), (2, .long v2), (4, .int v4), (7, .long v7)] dL_follows_547 (by decide) rfl ?_
    refine G_iconst hO 1 dL_follows_549 (by decide) ?_
    refine G_iload_n hO 2 dL_follows_550 rfl rfl ?_
    refine G_bipush hO 30 dL_follows_551 (by decide) ?_
    refine G_irem hO dL_follows_553 (by decide) ?_
    refine G_iadd hO dL_follows_554 ?_
    refine G_istore hO [(29, .int (1 + (a1 - a1 / 30 * 30))), (23, .int s0), (0, .ref (ad 20 0)), (1, .int a1), (2, .long v2), (4, .int v4), (7, .long v7)] dL_follows_555 (by decide) rfl ?_
    refine G_aload_n hO 2 dL_follows_557 rfl rfl ?_
    refine G_iload hO 0 dL_follows_558 rfl ?_
    refine H_callHl hO (rest := []) 1 [.ref (ad 20 0), .int (1 + (a1 - a1 / 30 * 30))] hX (fun l h => c_L_bestSlope hm hs h) cw_bestSlope mw_718 mw_717 rfl rfl (Nat.le_of_ble_eq_true rfl) ⟨by decide, by decide⟩ ⟨by decide, by decide⟩ rfl (by first | (show _ ≤ 1564; omega) | (show _ ≤ 25024; omega)) dL_follows_560 ?_
    intro r111 M112 hs
    refine G_lstore hO [(30, .long r111), (29, .int (1 + (a1 - a1 / 30 * 30))), (23, .int s0), (0, .ref (ad 20 0)), (1, .int a1), (2, .long v2), (4, .int v4), (7, .long v7)] dL_follows_563 (by decide) rfl ?_
    refine G_iload hO 2 dL_follows_565 rfl ?_
    refine G_if_eq hO 610 dL_follows_567 (by decide) (fun h121 => ?_) (fun h121 => ?_)
    · replace hs := hs.1 h121
      refine G_lv hO [(0, .ref (ad 20 0)), (1, .int a1), (2, .long v2), (4, .int v4), (7, .long v7), (29, .int (1 + (a1 - a1 / 30 * 30)))] [3, 4, 5, 6, 7, 1] rfl ?_
      exact b610 _ _ _ _ _ _ (by omega) hs
    · replace hs := hs.2 h121
      refine G_lload hO 0 dL_follows_570 rfl ?_
      refine G_lconst hO 0 dL_follows_572 (by decide) ?_
      refine G_ldc2 hO mw_857 dL_follows_573 ?_
      refine KS_Ni hO (rest := []) [.long r111, .long 0, .long 30] (fun l => c_L_in hs) cv_L_in mw_813 mw_812 rfl rfl (Nat.le_of_ble_eq_true rfl) (by decide) rfl rfl (by first | (show _ ≤ 1564; omega) | (show _ ≤ 25024; omega)) (by first | (show _ ≤ 1564; omega) | (show _ ≤ 25024; omega)) dL_follows_576 ?_
      intro r113 hs
      refine G_if_eq hO 610 dL_follows_579 (by decide) (fun h120 => ?_) (fun h120 => ?_)
      · replace hs := hs.1 h120
        refine G_lv hO [(0, .ref (ad 20 0)), (1, .int a1), (2, .long v2), (4, .int v4), (7, .long v7), (29, .int (1 + (a1 - a1 / 30 * 30)))] [3, 4, 5, 6, 7, 1] rfl ?_
        exact b610 _ _ _ _ _ _ (by omega) hs
      · replace hs := hs.2 h120
        refine G_aload_n hO 3 dL_follows_582 rfl rfl ?_
        refine G_iconst hO 4 dL_follows_583 (by decide) ?_
        refine G_lload hO 0 dL_follows_584 rfl ?_
        refine G_l2i hO dL_follows_586 ?_
        refine H_callHl hO (rest := []) 1 [.ref (ad 20 0), .int 4, .int (Int64.toInt32 r111)] hX (fun l h => c_L_set hm hs h) cw_set mw_605 mw_604 rfl rfl (Nat.le_of_ble_eq_true rfl) ⟨by decide, by decide⟩ ⟨by decide, by decide⟩ rfl (by first | (show _ ≤ 1564; omega) | (show _ ≤ 25024; omega)) dL_follows_587 ?_
        intro r114 M115 hs
        refine G_lconst hO 0 dL_follows_590 (by decide) ?_
        refine G_lcmp hO dL_follows_591 ?_
        refine G_if_lt hO 610 dL_follows_592 (by decide) (fun h119 => ?_) (fun h119 => ?_)
        · replace hs := hs.1 h119
          refine G_lv hO [(0, .ref (ad 20 0)), (1, .int a1), (2, .long v2), (4, .int v4), (7, .long v7), (29, .int (1 + (a1 - a1 / 30 * 30)))] [3, 4, 5, 6, 7, 1] rfl ?_
          exact b610 _ _ _ _ _ _ (by omega) hs
        · replace hs := hs.2 h119
          refine G_aload_n hO 3 dL_follows_595 rfl rfl ?_
          refine G_iload hO 1 dL_follows_596 rfl ?_
          refine H_callHl hO (rest := []) 1 [.ref (ad 20 0), .int (1 + (a1 - a1 / 30 * 30))] hX (fun l h => c_L_pass hm hs h) cw_pass mw_630 mw_629 rfl rfl (Nat.le_of_ble_eq_true rfl) ⟨by decide, by decide⟩ ⟨by decide, by decide⟩ rfl (by first | (show _ ≤ 1564; omega) | (show _ ≤ 25024; omega)) dL_follows_598 ?_
          intro r116 M117 hs
          refine G_lconst hO 0 dL_follows_601 (by decide) ?_
          refine G_lcmp hO dL_follows_602 ?_
          refine G_if_lt hO 610 dL_follows_603 (by decide) (fun h118 => ?_) (fun h118 => ?_)
          · replace hs := hs.1 h118
            refine G_lv hO [(0, .ref (ad 20 0)), (1, .int a1), (2, .long v2), (4, .int v4), (7, .long v7), (29, .int (1 + (a1 - a1 / 30 * 30)))] [3, 4, 5, 6, 7, 1] rfl ?_
            exact b610 _ _ _ _ _ _ (by omega) hs
          · replace hs := hs.2 h118
            refine G_iconst hO 1 dL_follows_606 (by decide) ?_
            refine G_goto hO 611 dL_follows_607 (by decide) ?_
            refine G_lv hO [(0, .ref (ad 20 0)), (1, .int a1), (2, .long v2), (4, .int v4), (7, .long v7), (29, .int (1 + (a1 - a1 / 30 * 30)))] [3, 4, 5, 6, 7, 1] rfl ?_
            exact b611 _ _ _ _ _ _ _ (by omega) hs
  have b542 : ∀ (k542 : Nat) (v2 : Int64) (v4 : Int32) (v7 : Int64) (M : Mem), k542 + ((667)) ≤ 1564 → wL_follows_L542 a1 P v2 v4 v7 M → G Γ ids ad k542 (16 * k542) (sh Λ ad M O) 542 [(0, .ref (ad 20 0)), (1, .int a1), (2, .long v2), (4, .int v4), (7, .long v7)] [] := by
    intro k542 v2 v4 v7 M hk hs
    unfold wL_follows_L542 at hs
    refine G_iconst hO 1 dL_follows_542 (by decide) ?_
    refine G_goto hO 547 dL_follows_543 (by decide) ?_
    exact b547 _ _ _ _ _ _ (by omega) hs
  have b546 : ∀ (k546 : Nat) (v2 : Int64) (v4 : Int32) (v7 : Int64) (M : Mem), k546 + ((667)) ≤ 1564 → wL_follows_L546 a1 P v2 v4 v7 M → G Γ ids ad k546 (16 * k546) (sh Λ ad M O) 546 [(0, .ref (ad 20 0)), (1, .int a1), (2, .long v2), (4, .int v4), (7, .long v7)] [] := by
    intro k546 v2 v4 v7 M hk hs
    unfold wL_follows_L546 at hs
    refine G_iconst hO 0 dL_follows_546 (by decide) ?_
    exact b547 _ _ _ _ _ _ (by omega) hs
  have b515 : ∀ (k515 : Nat) (v2 : Int64) (v4 : Int32) (v7 : Int64) (v26 : Int32) (v27 : Int64) (M : Mem), k515 + ((669)) ≤ 1564 → wL_follows_L515 a1 P v2 v4 v7 v26 v27 M → G Γ ids ad k515 (16 * k515) (sh Λ ad M O) 515 [(0, .ref (ad 20 0)), (1, .int a1), (2, .long v2), (4, .int v4), (7, .long v7), (26, .int v26), (27, .long v27)] [] := by
    intro k515 v2 v4 v7 v26 v27 M hk hs
    unfold wL_follows_L515 at hs
    refine G_lload hO 6 dL_follows_515 rfl ?_
    refine G_lconst hO 0 dL_follows_517 (by decide) ?_
    refine G_lcmp hO dL_follows_518 ?_
    refine G_if_ne hO 546 dL_follows_519 (by decide) (fun h99 => ?_) (fun h99 => ?_)
    · replace hs := hs.1 h99
      refine G_lv hO [(0, .ref (ad 20 0)), (1, .int a1), (2, .long v2), (4, .int v4), (7, .long v7)] [0, 1, 2, 3, 4] rfl ?_
      exact b546 _ _ _ _ _ (by omega) hs
    · replace hs := hs.2 h99
      refine G_aload_n hO 0 dL_follows_522 rfl rfl ?_
      refine G_iconst hO 2 dL_follows_523 (by decide) ?_
      refine G_iload hO 5 dL_follows_524 rfl ?_
      refine G_iadd hO dL_follows_526 ?_
      refine G_iconst hO 1 dL_follows_527 (by decide) ?_
      refine H_callHl hO (rest := []) 1 [.ref (ad 20 0), .int (2 + v26), .int 1] hX (fun l h => c_L_place hm hs h) cw_place mw_483 mw_482 rfl rfl (Nat.le_of_ble_eq_true rfl) ⟨by decide, by decide⟩ ⟨by decide, by decide⟩ rfl (by first | (show _ ≤ 1564; omega) | (show _ ≤ 25024; omega)) dL_follows_528 ?_
      intro r94 M95 hs
      refine G_aload_n hO 0 dL_follows_531 rfl rfl ?_
      refine G_iload hO 5 dL_follows_532 rfl ?_
      refine G_iconst hO 0 dL_follows_534 (by decide) ?_
      refine H_callHl hO (rest := [.long r94]) 1 [.ref (ad 20 0), .int v26, .int 0] hX (fun l h => c_L_room hm hs h) cw_room mw_515 mw_514 rfl rfl (Nat.le_of_ble_eq_true rfl) ⟨by decide, by decide⟩ ⟨by decide, by decide⟩ rfl (by first | (show _ ≤ 1564; omega) | (show _ ≤ 25024; omega)) dL_follows_535 ?_
      intro r96 M97 hs
      refine G_lcmp hO dL_follows_538 ?_
      refine G_if_lt hO 546 dL_follows_539 (by decide) (fun h98 => ?_) (fun h98 => ?_)
      · replace hs := hs.1 h98
        refine G_lv hO [(0, .ref (ad 20 0)), (1, .int a1), (2, .long v2), (4, .int v4), (7, .long v7)] [0, 1, 2, 3, 4] rfl ?_
        exact b546 _ _ _ _ _ (by omega) hs
      · replace hs := hs.2 h98
        refine G_lv hO [(0, .ref (ad 20 0)), (1, .int a1), (2, .long v2), (4, .int v4), (7, .long v7)] [0, 1, 2, 3, 4] rfl ?_
        exact b542 _ _ _ _ _ (by omega) hs
  have b424 : ∀ (k424 : Nat) (v2 : Int64) (v4 : Int32) (v7 : Int64) (s0 : Int32) (M : Mem), k424 + ((674)) ≤ 1564 → wL_follows_L424 a1 P v2 v4 v7 s0 M → G Γ ids ad k424 (16 * k424) (sh Λ ad M O) 424 [(0, .ref (ad 20 0)), (1, .int a1), (2, .long v2), (4, .int v4), (7, .long v7)] [.int s0] := by
    intro k424 v2 v4 v7 s0 M hk hs
    unfold wL_follows_L424 at hs
    refine G_istore hO [(23, .int s0), (0, .ref (ad 20 0)), (1, .int a1), (2, .long v2), (4, .int v4), (7, .long v7)] dL_follows_424 (by decide) rfl ?_
    refine G_iload hO 4 dL_follows_426 rfl ?_
    refine G_if_le hO 797 dL_follows_428 (by decide) (fun h76 => ?_) (fun h76 => ?_)
    · replace hs := hs.1 h76
      refine G_lv hO [(0, .ref (ad 20 0)), (1, .int a1), (2, .long v2), (4, .int v4), (7, .long v7), (23, .int s0)] [1, 2, 3, 4, 5, 0] rfl ?_
      exact b797 _ _ _ _ _ _ (by omega) hs
    · replace hs := hs.2 h76
      refine G_iload hO 0 dL_follows_431 rfl ?_
      refine G_if_eq hO 797 dL_follows_433 (by decide) (fun h75 => ?_) (fun h75 => ?_)
      · replace hs := hs.1 h75
        refine G_lv hO [(0, .ref (ad 20 0)), (1, .int a1), (2, .long v2), (4, .int v4), (7, .long v7), (23, .int s0)] [1, 2, 3, 4, 5, 0] rfl ?_
        exact b797 _ _ _ _ _ _ (by omega) hs
      · replace hs := hs.2 h75
        refine G_iload_n hO 2 dL_follows_436 rfl rfl ?_
        refine G_bipush hO 7 dL_follows_437 (by decide) ?_
        refine G_idiv hO dL_follows_439 (by decide) ?_
        refine G_iload hO 4 dL_follows_440 rfl ?_
        refine G_irem hO dL_follows_442 hs.1 ?_
        replace hs := hs.2
        refine G_istore hO [(26, .int ((a1 / 7) - (a1 / 7) / v4 * v4)), (23, .int s0), (0, .ref (ad 20 0)), (1, .int a1), (2, .long v2), (4, .int v4), (7, .long v7)] dL_follows_443 (by decide) rfl ?_
        refine G_aload_n hO 2 dL_follows_445 rfl rfl ?_
        refine G_iload hO 0 dL_follows_446 rfl ?_
        refine H_callHl hO (rest := []) 1 [.ref (ad 20 0), .int ((a1 / 7) - (a1 / 7) / v4 * v4)] hX (fun l h => c_L_minutesTo hm hs h) cw_minutesTo mw_706 mw_705 rfl rfl (Nat.le_of_ble_eq_true rfl) ⟨by decide, by decide⟩ ⟨by decide, by decide⟩ rfl (by first | (show _ ≤ 1564; omega) | (show _ ≤ 25024; omega)) dL_follows_448 ?_
        intro r61 M62 hs
        refine G_lstore hO [(27, .long r61), (26, .int ((a1 / 7) - (a1 / 7) / v4 * v4)), (23, .int s0), (0, .ref (ad 20 0)), (1, .int a1), (2, .long v2), (4, .int v4), (7, .long v7)] dL_follows_451 (by decide) rfl ?_
        refine G_lload hO 0 dL_follows_453 rfl ?_
        refine G_ldc2 hO mw_820 dL_follows_455 ?_
        refine G_lcmp hO dL_follows_458 ?_
        refine G_if_eq hO 542 dL_follows_459 (by decide) (fun h74 => ?_) (fun h74 => ?_)
        · replace hs := hs.1 h74
          refine G_lv hO [(0, .ref (ad 20 0)), (1, .int a1), (2, .long v2), (4, .int v4), (7, .long v7)] [3, 4, 5, 6, 7] rfl ?_
          exact b542 _ _ _ _ _ (by omega) hs
        · replace hs := hs.2 h74
          refine G_lload hO 0 dL_follows_462 rfl ?_
          refine G_lconst hO 0 dL_follows_464 (by decide) ?_
          refine G_lcmp hO dL_follows_465 ?_
          refine G_if_le hO 515 dL_follows_466 (by decide) (fun h73 => ?_) (fun h73 => ?_)
          · replace hs := hs.1 h73
            refine G_lv hO [(0, .ref (ad 20 0)), (1, .int a1), (2, .long v2), (4, .int v4), (7, .long v7), (26, .int ((a1 / 7) - (a1 / 7) / v4 * v4)), (27, .long r61)] [3, 4, 5, 6, 7, 1, 0] rfl ?_
            exact b515 _ _ _ _ _ _ _ (by omega) hs
          · replace hs := hs.2 h73
            refine G_aload_n hO 3 dL_follows_469 rfl rfl ?_
            refine G_iconst hO 2 dL_follows_470 (by decide) ?_
            refine G_iload hO 1 dL_follows_471 rfl ?_
            refine G_iadd hO dL_follows_473 ?_
            refine G_lload hO 0 dL_follows_474 rfl ?_
            refine G_l2i hO dL_follows_476 ?_
            refine G_iconst hO 1 dL_follows_477 (by decide) ?_
            refine G_isub hO dL_follows_478 ?_
            refine H_callHl hO (rest := []) 1 [.ref (ad 20 0), .int (2 + ((a1 / 7) - (a1 / 7) / v4 * v4)), .int ((Int64.toInt32 r61) - 1)] hX (fun l h => c_L_ahead hm hs h) cw_ahead mw_698 mw_697 rfl rfl (Nat.le_of_ble_eq_true rfl) ⟨by decide, by decide⟩ ⟨by decide, by decide⟩ rfl (by first | (show _ ≤ 1564; omega) | (show _ ≤ 25024; omega)) dL_follows_479 ?_
            intro r63 M64 hs
            refine G_aload_n hO 3 dL_follows_482 rfl rfl ?_
            refine G_iload hO 1 dL_follows_483 rfl ?_
            refine G_iconst hO 0 dL_follows_485 (by decide) ?_
            refine H_callHl hO (rest := [.long r63]) 1 [.ref (ad 20 0), .int ((a1 / 7) - (a1 / 7) / v4 * v4), .int 0] hX (fun l h => c_L_room hm hs h) cw_room mw_515 mw_514 rfl rfl (Nat.le_of_ble_eq_true rfl) ⟨by decide, by decide⟩ ⟨by decide, by decide⟩ rfl (by first | (show _ ≤ 1564; omega) | (show _ ≤ 25024; omega)) dL_follows_486 ?_
            intro r65 M66 hs
            refine G_lcmp hO dL_follows_489 ?_
            refine G_if_ge hO 515 dL_follows_490 (by decide) (fun h72 => ?_) (fun h72 => ?_)
            · replace hs := hs.1 h72
              refine G_lv hO [(0, .ref (ad 20 0)), (1, .int a1), (2, .long v2), (4, .int v4), (7, .long v7), (26, .int ((a1 / 7) - (a1 / 7) / v4 * v4)), (27, .long r61)] [3, 4, 5, 6, 7, 1, 0] rfl ?_
              exact b515 _ _ _ _ _ _ _ (by omega) hs
            · replace hs := hs.2 h72
              refine G_aload_n hO 3 dL_follows_493 rfl rfl ?_
              refine G_iconst hO 2 dL_follows_494 (by decide) ?_
              refine G_iload hO 1 dL_follows_495 rfl ?_
              refine G_iadd hO dL_follows_497 ?_
              refine G_lload hO 0 dL_follows_498 rfl ?_
              refine G_l2i hO dL_follows_500 ?_
              refine H_callHl hO (rest := []) 1 [.ref (ad 20 0), .int (2 + ((a1 / 7) - (a1 / 7) / v4 * v4)), .int (Int64.toInt32 r61)] hX (fun l h => c_L_ahead hm hs h) cw_ahead mw_698 mw_697 rfl rfl (Nat.le_of_ble_eq_true rfl) ⟨by decide, by decide⟩ ⟨by decide, by decide⟩ rfl (by first | (show _ ≤ 1564; omega) | (show _ ≤ 25024; omega)) dL_follows_501 ?_
              intro r67 M68 hs
              refine G_aload_n hO 3 dL_follows_504 rfl rfl ?_
              refine G_iload hO 1 dL_follows_505 rfl ?_
              refine G_iconst hO 0 dL_follows_507 (by decide) ?_
              refine H_callHl hO (rest := [.long r67]) 1 [.ref (ad 20 0), .int ((a1 / 7) - (a1 / 7) / v4 * v4), .int 0] hX (fun l h => c_L_room hm hs h) cw_room mw_515 mw_514 rfl rfl (Nat.le_of_ble_eq_true rfl) ⟨by decide, by decide⟩ ⟨by decide, by decide⟩ rfl (by first | (show _ ≤ 1564; omega) | (show _ ≤ 25024; omega)) dL_follows_508 ?_
              intro r69 M70 hs
              refine G_lcmp hO dL_follows_511 ?_
              refine G_if_ge hO 542 dL_follows_512 (by decide) (fun h71 => ?_) (fun h71 => ?_)
              · replace hs := hs.1 h71
                refine G_lv hO [(0, .ref (ad 20 0)), (1, .int a1), (2, .long v2), (4, .int v4), (7, .long v7)] [3, 4, 5, 6, 7] rfl ?_
                exact b542 _ _ _ _ _ (by omega) hs
              · replace hs := hs.2 h71
                refine G_lv hO [(0, .ref (ad 20 0)), (1, .int a1), (2, .long v2), (4, .int v4), (7, .long v7), (26, .int ((a1 / 7) - (a1 / 7) / v4 * v4)), (27, .long r61)] [3, 4, 5, 6, 7, 1, 0] rfl ?_
                exact b515 _ _ _ _ _ _ _ (by omega) hs
  have b423 : ∀ (k423 : Nat) (v2 : Int64) (v4 : Int32) (v7 : Int64) (M : Mem), k423 + ((674)) ≤ 1564 → wL_follows_L423 a1 P v2 v4 v7 M → G Γ ids ad k423 (16 * k423) (sh Λ ad M O) 423 [(0, .ref (ad 20 0)), (1, .int a1), (2, .long v2), (4, .int v4), (7, .long v7)] [] := by
    intro k423 v2 v4 v7 M hk hs
    unfold wL_follows_L423 at hs
    refine G_iconst hO 0 dL_follows_423 (by decide) ?_
    exact b424 _ _ _ _ _ _ (by omega) hs
  have b401 : ∀ (k401 : Nat) (v2 : Int64) (v4 : Int32) (v7 : Int64) (M : Mem), k401 + ((891)) ≤ 1564 → wL_follows_L401 a1 P v2 v4 v7 M → G Γ ids ad k401 (16 * k401) (sh Λ ad M O) 401 [(0, .ref (ad 20 0)), (1, .int a1), (2, .long v2), (4, .int v4), (7, .long v7)] [] := by
    intro k401 v2 v4 v7 M hk hs
    unfold wL_follows_L401 at hs
    refine G_aload_n hO 0 dL_follows_401 rfl rfl ?_
    refine H_callHl hO (rest := []) 1 [.ref (ad 20 0)] hX (fun l h => c_L_undo hm hs h) cw_undo mw_842 mw_841 rfl rfl (Nat.le_of_ble_eq_true rfl) ⟨by decide, by decide⟩ ⟨by decide, by decide⟩ rfl (by first | (show _ ≤ 1564; omega) | (show _ ≤ 25024; omega)) dL_follows_402 ?_
    intro r182 M183 hs
    refine G_lconst hO 0 dL_follows_405 (by decide) ?_
    refine G_lcmp hO dL_follows_406 ?_
    refine G_if_lt hO 423 dL_follows_407 (by decide) (fun h187 => ?_) (fun h187 => ?_)
    · replace hs := hs.1 h187
      exact b423 _ _ _ _ _ (by omega) hs
    · replace hs := hs.2 h187
      refine G_aload_n hO 0 dL_follows_410 rfl rfl ?_
      refine H_callYl hO (rest := []) 216 [.ref (ad 20 0)] hX (fun l h => c_L_now hm hnr hs h) cv_L_now mw_424 mw_423 rfl rfl (Nat.le_of_ble_eq_true rfl) ⟨by decide, by decide⟩ ⟨by decide, by decide⟩ rfl (by first | (show _ ≤ 1564; omega) | (show _ ≤ 25024; omega)) dL_follows_411 ?_
      intro r184 M185 hs
      refine G_lload_n hO 2 dL_follows_414 rfl rfl ?_
      refine G_lcmp hO dL_follows_415 ?_
      refine G_if_ne hO 423 dL_follows_416 (by decide) (fun h186 => ?_) (fun h186 => ?_)
      · replace hs := hs.1 h186
        exact b423 _ _ _ _ _ (by omega) hs
      · replace hs := hs.2 h186
        refine G_iconst hO 1 dL_follows_419 (by decide) ?_
        refine G_goto hO 424 dL_follows_420 (by decide) ?_
        exact b424 _ _ _ _ _ _ (by omega) hs
  have b362 : ∀ (k362 : Nat) (v2 : Int64) (v4 : Int32) (v7 : Int64) (v17 : Int64) (v19 : Int64) (M : Mem), k362 + ((894)) ≤ 1564 → wL_follows_L362 a1 P v2 v4 v7 v17 v19 M → G Γ ids ad k362 (16 * k362) (sh Λ ad M O) 362 [(0, .ref (ad 20 0)), (1, .int a1), (2, .long v2), (4, .int v4), (7, .long v7), (17, .long v17), (19, .long v19)] [] := by
    intro k362 v2 v4 v7 v17 v19 M hk hs
    unfold wL_follows_L362 at hs
    refine G_aload_n hO 0 dL_follows_362 rfl rfl ?_
    refine G_bipush hO 6 dL_follows_363 (by decide) ?_
    refine H_callHl hO (rest := []) 1 [.ref (ad 20 0), .int 6] hX (fun l h => c_L_about hm hs h) cw_about mw_429 mw_428 rfl rfl (Nat.le_of_ble_eq_true rfl) ⟨by decide, by decide⟩ ⟨by decide, by decide⟩ rfl (by first | (show _ ≤ 1564; omega) | (show _ ≤ 25024; omega)) dL_follows_365 ?_
    intro r173 M174 hs
    refine G_lconst hO 1 dL_follows_368 (by decide) ?_
    refine G_lcmp hO dL_follows_369 ?_
    refine G_if_eq hO 401 dL_follows_370 (by decide) (fun h181 => ?_) (fun h181 => ?_)
    · replace hs := hs.1 h181
      refine G_lv hO [(0, .ref (ad 20 0)), (1, .int a1), (2, .long v2), (4, .int v4), (7, .long v7)] [0, 1, 2, 3, 4] rfl ?_
      exact b401 _ _ _ _ _ (by omega) hs
    · replace hs := hs.2 h181
      refine G_aload_n hO 0 dL_follows_373 rfl rfl ?_
      refine G_iconst hO 5 dL_follows_374 (by decide) ?_
      refine H_callHl hO (rest := []) 1 [.ref (ad 20 0), .int 5] hX (fun l h => c_L_about hm hs h) cw_about mw_429 mw_428 rfl rfl (Nat.le_of_ble_eq_true rfl) ⟨by decide, by decide⟩ ⟨by decide, by decide⟩ rfl (by first | (show _ ≤ 1564; omega) | (show _ ≤ 25024; omega)) dL_follows_375 ?_
      intro r175 M176 hs
      refine G_lload hO 5 dL_follows_378 rfl ?_
      refine G_lsub hO dL_follows_380 ?_
      refine G_lload hO 6 dL_follows_381 rfl ?_
      refine G_lcmp hO dL_follows_383 ?_
      refine G_if_gt hO 423 dL_follows_384 (by decide) (fun h180 => ?_) (fun h180 => ?_)
      · replace hs := hs.1 h180
        refine G_lv hO [(0, .ref (ad 20 0)), (1, .int a1), (2, .long v2), (4, .int v4), (7, .long v7)] [0, 1, 2, 3, 4] rfl ?_
        exact b423 _ _ _ _ _ (by omega) hs
      · replace hs := hs.2 h180
        refine G_lload hO 5 dL_follows_387 rfl ?_
        refine G_aload_n hO 0 dL_follows_389 rfl rfl ?_
        refine G_iconst hO 5 dL_follows_390 (by decide) ?_
        refine H_callHl hO (rest := [.long v17]) 1 [.ref (ad 20 0), .int 5] hX (fun l h => c_L_about hm hs h) cw_about mw_429 mw_428 rfl rfl (Nat.le_of_ble_eq_true rfl) ⟨by decide, by decide⟩ ⟨by decide, by decide⟩ rfl (by first | (show _ ≤ 1564; omega) | (show _ ≤ 25024; omega)) dL_follows_391 ?_
        intro r177 M178 hs
        refine G_lsub hO dL_follows_394 ?_
        refine G_lload hO 6 dL_follows_395 rfl ?_
        refine G_lcmp hO dL_follows_397 ?_
        refine G_if_gt hO 423 dL_follows_398 (by decide) (fun h179 => ?_) (fun h179 => ?_)
        · replace hs := hs.1 h179
          refine G_lv hO [(0, .ref (ad 20 0)), (1, .int a1), (2, .long v2), (4, .int v4), (7, .long v7)] [0, 1, 2, 3, 4] rfl ?_
          exact b423 _ _ _ _ _ (by omega) hs
        · replace hs := hs.2 h179
          refine G_lv hO [(0, .ref (ad 20 0)), (1, .int a1), (2, .long v2), (4, .int v4), (7, .long v7)] [0, 1, 2, 3, 4] rfl ?_
          exact b401 _ _ _ _ _ (by omega) hs
  have b332 : ∀ (k332 : Nat) (v2 : Int64) (v4 : Int32) (v7 : Int64) (v16 : Int32) (v17 : Int64) (v19 : Int64) (s0 : Int32) (s1 : Int32) (M : Mem), k332 + ((896)) ≤ 1564 → wL_follows_L332 a1 P v2 v4 v7 v16 v17 v19 s0 s1 M → G Γ ids ad k332 (16 * k332) (sh Λ ad M O) 332 [(0, .ref (ad 20 0)), (1, .int a1), (2, .long v2), (4, .int v4), (7, .long v7), (16, .int v16), (17, .long v17), (19, .long v19)] [.int s0, .int s1] := by
    intro k332 v2 v4 v7 v16 v17 v19 s0 s1 M hk hs
    unfold wL_follows_L332 at hs
    refine G_icmp_ne hO 423 dL_follows_332 (by decide) (fun h159 => ?_) (fun h159 => ?_)
    · replace hs := hs.1 h159
      refine G_lv hO [(0, .ref (ad 20 0)), (1, .int a1), (2, .long v2), (4, .int v4), (7, .long v7)] [0, 1, 2, 3, 4] rfl ?_
      exact b423 _ _ _ _ _ (by omega) hs
    · replace hs := hs.2 h159
      refine G_iload hO 5 dL_follows_335 rfl ?_
      refine G_iconst hO 1 dL_follows_337 (by decide) ?_
      refine G_icmp_ne hO 362 dL_follows_338 (by decide) (fun h158 => ?_) (fun h158 => ?_)
      · replace hs := hs.1 h158
        refine G_lv hO [(0, .ref (ad 20 0)), (1, .int a1), (2, .long v2), (4, .int v4), (7, .long v7), (17, .long v17), (19, .long v19)] [0, 1, 2, 3, 4, 6, 7] rfl ?_
        exact b362 _ _ _ _ _ _ _ (by omega) hs
      · replace hs := hs.2 h158
        refine G_aload_n hO 0 dL_follows_341 rfl rfl ?_
        refine G_bipush hO 6 dL_follows_342 (by decide) ?_
        refine H_callHl hO (rest := []) 1 [.ref (ad 20 0), .int 6] hX (fun l h => c_L_about hm hs h) cw_about mw_429 mw_428 rfl rfl (Nat.le_of_ble_eq_true rfl) ⟨by decide, by decide⟩ ⟨by decide, by decide⟩ rfl (by first | (show _ ≤ 1564; omega) | (show _ ≤ 25024; omega)) dL_follows_344 ?_
        intro r152 M153 hs
        refine G_lconst hO 1 dL_follows_347 (by decide) ?_
        refine G_lcmp hO dL_follows_348 ?_
        refine G_if_ne hO 423 dL_follows_349 (by decide) (fun h157 => ?_) (fun h157 => ?_)
        · replace hs := hs.1 h157
          refine G_lv hO [(0, .ref (ad 20 0)), (1, .int a1), (2, .long v2), (4, .int v4), (7, .long v7)] [0, 1, 2, 3, 4] rfl ?_
          exact b423 _ _ _ _ _ (by omega) hs
        · replace hs := hs.2 h157
          refine G_aload_n hO 0 dL_follows_352 rfl rfl ?_
          refine G_iconst hO 5 dL_follows_353 (by decide) ?_
          refine H_callHl hO (rest := []) 1 [.ref (ad 20 0), .int 5] hX (fun l h => c_L_about hm hs h) cw_about mw_429 mw_428 rfl rfl (Nat.le_of_ble_eq_true rfl) ⟨by decide, by decide⟩ ⟨by decide, by decide⟩ rfl (by first | (show _ ≤ 1564; omega) | (show _ ≤ 25024; omega)) dL_follows_354 ?_
          intro r154 M155 hs
          refine G_lconst hO 0 dL_follows_357 (by decide) ?_
          refine G_lcmp hO dL_follows_358 ?_
          refine G_if_ne hO 423 dL_follows_359 (by decide) (fun h156 => ?_) (fun h156 => ?_)
          · replace hs := hs.1 h156
            refine G_lv hO [(0, .ref (ad 20 0)), (1, .int a1), (2, .long v2), (4, .int v4), (7, .long v7)] [0, 1, 2, 3, 4] rfl ?_
            exact b423 _ _ _ _ _ (by omega) hs
          · replace hs := hs.2 h156
            refine G_lv hO [(0, .ref (ad 20 0)), (1, .int a1), (2, .long v2), (4, .int v4), (7, .long v7), (17, .long v17), (19, .long v19)] [0, 1, 2, 3, 4, 6, 7] rfl ?_
            exact b362 _ _ _ _ _ _ _ (by omega) hs
  have b315 : ∀ (k315 : Nat) (v2 : Int64) (v4 : Int32) (v7 : Int64) (v16 : Int32) (v17 : Int64) (v19 : Int64) (s0 : Int32) (M : Mem), k315 + ((897)) ≤ 1564 → wL_follows_L315 a1 P v2 v4 v7 v16 v17 v19 s0 M → G Γ ids ad k315 (16 * k315) (sh Λ ad M O) 315 [(0, .ref (ad 20 0)), (1, .int a1), (2, .long v2), (4, .int v4), (7, .long v7), (16, .int v16), (17, .long v17), (19, .long v19)] [.int s0] := by
    intro k315 v2 v4 v7 v16 v17 v19 s0 M hk hs
    unfold wL_follows_L315 at hs
    refine G_aload_n hO 0 dL_follows_315 rfl rfl ?_
    refine G_iconst hO 5 dL_follows_316 (by decide) ?_
    refine H_callHl hO (rest := [.int s0]) 1 [.ref (ad 20 0), .int 5] hX (fun l h => c_L_about hm hs h) cw_about mw_429 mw_428 rfl rfl (Nat.le_of_ble_eq_true rfl) ⟨by decide, by decide⟩ ⟨by decide, by decide⟩ rfl (by first | (show _ ≤ 1564; omega) | (show _ ≤ 25024; omega)) dL_follows_317 ?_
    intro r122 M123 hs
    refine G_ldc2 hO mw_816 dL_follows_320 ?_
    refine G_lcmp hO dL_follows_323 ?_
    refine G_if_ne hO 331 dL_follows_324 (by decide) (fun h124 => ?_) (fun h124 => ?_)
    · replace hs := hs.1 h124
      refine G_iconst hO 0 dL_follows_331 (by decide) ?_
      exact b332 _ _ _ _ _ _ _ _ _ _ (by omega) hs
    · replace hs := hs.2 h124
      refine G_iconst hO 1 dL_follows_327 (by decide) ?_
      refine G_goto hO 332 dL_follows_328 (by decide) ?_
      exact b332 _ _ _ _ _ _ _ _ _ _ (by omega) hs
  have b305 : ∀ (k305 : Nat) (v2 : Int64) (v4 : Int32) (v7 : Int64) (v16 : Int32) (v17 : Int64) (v19 : Int64) (M : Mem), k305 + ((897)) ≤ 1564 → wL_follows_L305 a1 P v2 v4 v7 v16 v17 v19 M → G Γ ids ad k305 (16 * k305) (sh Λ ad M O) 305 [(0, .ref (ad 20 0)), (1, .int a1), (2, .long v2), (4, .int v4), (7, .long v7), (16, .int v16), (17, .long v17), (19, .long v19)] [] := by
    intro k305 v2 v4 v7 v16 v17 v19 M hk hs
    unfold wL_follows_L305 at hs
    refine G_iload hO 5 dL_follows_305 rfl ?_
    refine G_if_ne hO 314 dL_follows_307 (by decide) (fun h100 => ?_) (fun h100 => ?_)
    · replace hs := hs.1 h100
      refine G_iconst hO 0 dL_follows_314 (by decide) ?_
      exact b315 _ _ _ _ _ _ _ _ _ (by omega) hs
    · replace hs := hs.2 h100
      refine G_iconst hO 1 dL_follows_310 (by decide) ?_
      refine G_goto hO 315 dL_follows_311 (by decide) ?_
      exact b315 _ _ _ _ _ _ _ _ _ (by omega) hs
  have b285 : ∀ (k285 : Nat) (v2 : Int64) (v4 : Int32) (v7 : Int64) (v15 : Int32) (v16 : Int32) (v17 : Int64) (v19 : Int64) (s0 : Int32) (s1 : Int32) (M : Mem), k285 + ((898)) ≤ 1564 → wL_follows_L285 a1 P v2 v4 v7 v15 v16 v17 v19 s0 s1 M → G Γ ids ad k285 (16 * k285) (sh Λ ad M O) 285 [(0, .ref (ad 20 0)), (1, .int a1), (2, .long v2), (4, .int v4), (7, .long v7), (15, .int v15), (16, .int v16), (17, .long v17), (19, .long v19)] [.int s0, .int s1] := by
    intro k285 v2 v4 v7 v15 v16 v17 v19 s0 s1 M hk hs
    unfold wL_follows_L285 at hs
    refine G_icmp_ne hO 423 dL_follows_285 (by decide) (fun h81 => ?_) (fun h81 => ?_)
    · replace hs := hs.1 h81
      refine G_lv hO [(0, .ref (ad 20 0)), (1, .int a1), (2, .long v2), (4, .int v4), (7, .long v7)] [0, 1, 2, 3, 4] rfl ?_
      exact b423 _ _ _ _ _ (by omega) hs
    · replace hs := hs.2 h81
      refine G_iload hO 5 dL_follows_288 rfl ?_
      refine G_iconst hO 1 dL_follows_290 (by decide) ?_
      refine G_icmp_ne hO 305 dL_follows_291 (by decide) (fun h80 => ?_) (fun h80 => ?_)
      · replace hs := hs.1 h80
        refine G_lv hO [(0, .ref (ad 20 0)), (1, .int a1), (2, .long v2), (4, .int v4), (7, .long v7), (16, .int v16), (17, .long v17), (19, .long v19)] [0, 1, 2, 3, 4, 6, 7, 8] rfl ?_
        exact b305 _ _ _ _ _ _ _ _ (by omega) hs
      · replace hs := hs.2 h80
        refine G_aload_n hO 0 dL_follows_294 rfl rfl ?_
        refine G_bipush hO 6 dL_follows_295 (by decide) ?_
        refine H_callHl hO (rest := []) 1 [.ref (ad 20 0), .int 6] hX (fun l h => c_L_about hm hs h) cw_about mw_429 mw_428 rfl rfl (Nat.le_of_ble_eq_true rfl) ⟨by decide, by decide⟩ ⟨by decide, by decide⟩ rfl (by first | (show _ ≤ 1564; omega) | (show _ ≤ 25024; omega)) dL_follows_297 ?_
        intro r77 M78 hs
        refine G_lconst hO 1 dL_follows_300 (by decide) ?_
        refine G_lcmp hO dL_follows_301 ?_
        refine G_if_ne hO 423 dL_follows_302 (by decide) (fun h79 => ?_) (fun h79 => ?_)
        · replace hs := hs.1 h79
          refine G_lv hO [(0, .ref (ad 20 0)), (1, .int a1), (2, .long v2), (4, .int v4), (7, .long v7)] [0, 1, 2, 3, 4] rfl ?_
          exact b423 _ _ _ _ _ (by omega) hs
        · replace hs := hs.2 h79
          refine G_lv hO [(0, .ref (ad 20 0)), (1, .int a1), (2, .long v2), (4, .int v4), (7, .long v7), (16, .int v16), (17, .long v17), (19, .long v19)] [0, 1, 2, 3, 4, 6, 7, 8] rfl ?_
          exact b305 _ _ _ _ _ _ _ _ (by omega) hs
  have b270 : ∀ (k270 : Nat) (v2 : Int64) (v4 : Int32) (v7 : Int64) (v15 : Int32) (v16 : Int32) (v17 : Int64) (v19 : Int64) (s0 : Int32) (M : Mem), k270 + ((899)) ≤ 1564 → wL_follows_L270 a1 P v2 v4 v7 v15 v16 v17 v19 s0 M → G Γ ids ad k270 (16 * k270) (sh Λ ad M O) 270 [(0, .ref (ad 20 0)), (1, .int a1), (2, .long v2), (4, .int v4), (7, .long v7), (15, .int v15), (16, .int v16), (17, .long v17), (19, .long v19)] [.int s0] := by
    intro k270 v2 v4 v7 v15 v16 v17 v19 s0 M hk hs
    unfold wL_follows_L270 at hs
    refine G_aload_n hO 0 dL_follows_270 rfl rfl ?_
    refine G_iconst hO 3 dL_follows_271 (by decide) ?_
    refine H_callHl hO (rest := [.int s0]) 1 [.ref (ad 20 0), .int 3] hX (fun l h => c_L_about hm hs h) cw_about mw_429 mw_428 rfl rfl (Nat.le_of_ble_eq_true rfl) ⟨by decide, by decide⟩ ⟨by decide, by decide⟩ rfl (by first | (show _ ≤ 1564; omega) | (show _ ≤ 25024; omega)) dL_follows_272 ?_
    intro r58 M59 hs
    refine G_lconst hO 1 dL_follows_275 (by decide) ?_
    refine G_lcmp hO dL_follows_276 ?_
    refine G_if_ne hO 284 dL_follows_277 (by decide) (fun h60 => ?_) (fun h60 => ?_)
    · replace hs := hs.1 h60
      refine G_iconst hO 0 dL_follows_284 (by decide) ?_
      exact b285 _ _ _ _ _ _ _ _ _ _ _ (by omega) hs
    · replace hs := hs.2 h60
      refine G_iconst hO 1 dL_follows_280 (by decide) ?_
      refine G_goto hO 285 dL_follows_281 (by decide) ?_
      exact b285 _ _ _ _ _ _ _ _ _ _ _ (by omega) hs
  have b243 : ∀ (k243 : Nat) (v2 : Int64) (v4 : Int32) (v7 : Int64) (v15 : Int32) (v16 : Int32) (v17 : Int64) (v19 : Int64) (s0 : Int32) (M : Mem), k243 + ((900)) ≤ 1564 → wL_follows_L243 a1 P v2 v4 v7 v15 v16 v17 v19 s0 M → G Γ ids ad k243 (16 * k243) (sh Λ ad M O) 243 [(0, .ref (ad 20 0)), (1, .int a1), (2, .long v2), (4, .int v4), (7, .long v7), (15, .int v15), (16, .int v16), (17, .long v17), (19, .long v19)] [.int s0] := by
    intro k243 v2 v4 v7 v15 v16 v17 v19 s0 M hk hs
    unfold wL_follows_L243 at hs
    refine G_istore hO [(23, .int s0), (0, .ref (ad 20 0)), (1, .int a1), (2, .long v2), (4, .int v4), (7, .long v7), (15, .int v15), (16, .int v16), (17, .long v17), (19, .long v19)] dL_follows_243 (by decide) rfl ?_
    refine G_iload hO 0 dL_follows_245 rfl ?_
    refine G_if_eq hO 423 dL_follows_247 (by decide) (fun h57 => ?_) (fun h57 => ?_)
    · replace hs := hs.1 h57
      refine G_lv hO [(0, .ref (ad 20 0)), (1, .int a1), (2, .long v2), (4, .int v4), (7, .long v7)] [1, 2, 3, 4, 5] rfl ?_
      exact b423 _ _ _ _ _ (by omega) hs
    · replace hs := hs.2 h57
      refine G_aload_n hO 1 dL_follows_250 rfl rfl ?_
      refine G_iconst hO 1 dL_follows_251 (by decide) ?_
      refine H_callHl hO (rest := []) 1 [.ref (ad 20 0), .int 1] hX (fun l h => c_L_pass hm hs h) cw_pass mw_630 mw_629 rfl rfl (Nat.le_of_ble_eq_true rfl) ⟨by decide, by decide⟩ ⟨by decide, by decide⟩ rfl (by first | (show _ ≤ 1564; omega) | (show _ ≤ 25024; omega)) dL_follows_252 ?_
      intro r53 M54 hs
      refine G_lconst hO 0 dL_follows_255 (by decide) ?_
      refine G_lcmp hO dL_follows_256 ?_
      refine G_if_lt hO 423 dL_follows_257 (by decide) (fun h56 => ?_) (fun h56 => ?_)
      · replace hs := hs.1 h56
        refine G_lv hO [(0, .ref (ad 20 0)), (1, .int a1), (2, .long v2), (4, .int v4), (7, .long v7)] [1, 2, 3, 4, 5] rfl ?_
        exact b423 _ _ _ _ _ (by omega) hs
      · replace hs := hs.2 h56
        refine G_iload hO 6 dL_follows_260 rfl ?_
        refine G_if_ne hO 269 dL_follows_262 (by decide) (fun h55 => ?_) (fun h55 => ?_)
        · replace hs := hs.1 h55
          refine G_iconst hO 0 dL_follows_269 (by decide) ?_
          refine G_lv hO [(0, .ref (ad 20 0)), (1, .int a1), (2, .long v2), (4, .int v4), (7, .long v7), (15, .int v15), (16, .int v16), (17, .long v17), (19, .long v19)] [1, 2, 3, 4, 5, 6, 7, 8, 9] rfl ?_
          exact b270 _ _ _ _ _ _ _ _ _ _ (by omega) hs
        · replace hs := hs.2 h55
          refine G_iconst hO 1 dL_follows_265 (by decide) ?_
          refine G_goto hO 270 dL_follows_266 (by decide) ?_
          refine G_lv hO [(0, .ref (ad 20 0)), (1, .int a1), (2, .long v2), (4, .int v4), (7, .long v7), (15, .int v15), (16, .int v16), (17, .long v17), (19, .long v19)] [1, 2, 3, 4, 5, 6, 7, 8, 9] rfl ?_
          exact b270 _ _ _ _ _ _ _ _ _ _ (by omega) hs
  have b242 : ∀ (k242 : Nat) (v2 : Int64) (v4 : Int32) (v7 : Int64) (v15 : Int32) (v16 : Int32) (v17 : Int64) (v19 : Int64) (M : Mem), k242 + ((900)) ≤ 1564 → wL_follows_L242 a1 P v2 v4 v7 v15 v16 v17 v19 M → G Γ ids ad k242 (16 * k242) (sh Λ ad M O) 242 [(0, .ref (ad 20 0)), (1, .int a1), (2, .long v2), (4, .int v4), (7, .long v7), (15, .int v15), (16, .int v16), (17, .long v17), (19, .long v19)] [] := by
    intro k242 v2 v4 v7 v15 v16 v17 v19 M hk hs
    unfold wL_follows_L242 at hs
    refine G_iconst hO 0 dL_follows_242 (by decide) ?_
    exact b243 _ _ _ _ _ _ _ _ _ _ (by omega) hs
  have b146 : ∀ (k146 : Nat) (v2 : Int64) (v4 : Int32) (v5 : Int32) (v6 : Int32) (v7 : Int64) (v9 : Int64) (v11 : Int64) (v13 : Int64) (v15 : Int32) (v16 : Int32) (v17 : Int64) (v19 : Int64) (v21 : Int64) (s0 : Int32) (M : Mem), k146 + ((1122)) ≤ 1564 → wL_follows_L146 a1 P v2 v4 v5 v6 v7 v9 v11 v13 v15 v16 v17 v19 v21 s0 M → G Γ ids ad k146 (16 * k146) (sh Λ ad M O) 146 [(0, .ref (ad 20 0)), (1, .int a1), (2, .long v2), (4, .int v4), (5, .int v5), (6, .int v6), (7, .long v7), (9, .long v9), (11, .long v11), (13, .long v13), (15, .int v15), (16, .int v16), (17, .long v17), (19, .long v19), (21, .long v21)] [.int s0] := by
    intro k146 v2 v4 v5 v6 v7 v9 v11 v13 v15 v16 v17 v19 v21 s0 M hk hs
    unfold wL_follows_L146 at hs
    refine G_istore hO [(23, .int s0), (0, .ref (ad 20 0)), (1, .int a1), (2, .long v2), (4, .int v4), (5, .int v5), (6, .int v6), (7, .long v7), (9, .long v9), (11, .long v11), (13, .long v13), (15, .int v15), (16, .int v16), (17, .long v17), (19, .long v19), (21, .long v21)] dL_follows_146 (by decide) rfl ?_
    refine G_aload_n hO 1 dL_follows_148 rfl rfl ?_
    refine G_iload hO 5 dL_follows_149 rfl ?_
    refine H_callHl hO (rest := []) 1 [.ref (ad 20 0), .int v5] hX (fun l h => c_L_pass hm hs h) cw_pass mw_630 mw_629 rfl rfl (Nat.le_of_ble_eq_true rfl) ⟨by decide, by decide⟩ ⟨by decide, by decide⟩ rfl (by first | (show _ ≤ 1564; omega) | (show _ ≤ 25024; omega)) dL_follows_151 ?_
    intro r32 M33 hs
    refine G_lstore hO [(24, .long r32), (23, .int s0), (0, .ref (ad 20 0)), (1, .int a1), (2, .long v2), (4, .int v4), (5, .int v5), (6, .int v6), (7, .long v7), (9, .long v9), (11, .long v11), (13, .long v13), (15, .int v15), (16, .int v16), (17, .long v17), (19, .long v19), (21, .long v21)] dL_follows_154 (by decide) rfl ?_
    refine G_iload hO 1 dL_follows_156 rfl ?_
    refine G_if_eq hO 242 dL_follows_158 (by decide) (fun h52 => ?_) (fun h52 => ?_)
    · replace hs := hs.1 h52
      refine G_lv hO [(0, .ref (ad 20 0)), (1, .int a1), (2, .long v2), (4, .int v4), (7, .long v7), (15, .int v15), (16, .int v16), (17, .long v17), (19, .long v19)] [2, 3, 4, 5, 8, 12, 13, 14, 15] rfl ?_
      exact b242 _ _ _ _ _ _ _ _ _ (by omega) hs
    · replace hs := hs.2 h52
      refine G_aload_n hO 2 dL_follows_161 rfl rfl ?_
      refine G_iload hO 7 dL_follows_162 rfl ?_
      refine G_iconst hO 1 dL_follows_164 (by decide) ?_
      refine H_callHl hO (rest := []) 1 [.ref (ad 20 0), .int v6, .int 1] hX (fun l h => c_L_place hm hs h) cw_place mw_483 mw_482 rfl rfl (Nat.le_of_ble_eq_true rfl) ⟨by decide, by decide⟩ ⟨by decide, by decide⟩ rfl (by first | (show _ ≤ 1564; omega) | (show _ ≤ 25024; omega)) dL_follows_165 ?_
      intro r34 M35 hs
      refine G_lload hO 9 dL_follows_168 rfl ?_
      refine G_lcmp hO dL_follows_170 ?_
      refine G_if_ne hO 242 dL_follows_171 (by decide) (fun h51 => ?_) (fun h51 => ?_)
      · replace hs := hs.1 h51
        refine G_lv hO [(0, .ref (ad 20 0)), (1, .int a1), (2, .long v2), (4, .int v4), (7, .long v7), (15, .int v15), (16, .int v16), (17, .long v17), (19, .long v19)] [2, 3, 4, 5, 8, 12, 13, 14, 15] rfl ?_
        exact b242 _ _ _ _ _ _ _ _ _ (by omega) hs
      · replace hs := hs.2 h51
        refine G_aload_n hO 2 dL_follows_174 rfl rfl ?_
        refine G_bipush hO 9 dL_follows_175 (by decide) ?_
        refine G_iconst hO 0 dL_follows_177 (by decide) ?_
        refine H_callHl hO (rest := []) 1 [.ref (ad 20 0), .int 9, .int 0] hX (fun l h => c_L_moved hm hs h) cw_moved mw_538 mw_537 rfl rfl (Nat.le_of_ble_eq_true rfl) ⟨by decide, by decide⟩ ⟨by decide, by decide⟩ rfl (by first | (show _ ≤ 1564; omega) | (show _ ≤ 25024; omega)) dL_follows_178 ?_
        intro r36 M37 hs
        refine G_lload hO 11 dL_follows_181 rfl ?_
        refine G_lload hO 10 dL_follows_183 rfl ?_
        refine G_ladd hO dL_follows_185 ?_
        refine G_lcmp hO dL_follows_186 ?_
        refine G_if_ne hO 242 dL_follows_187 (by decide) (fun h50 => ?_) (fun h50 => ?_)
        · replace hs := hs.1 h50
          refine G_lv hO [(0, .ref (ad 20 0)), (1, .int a1), (2, .long v2), (4, .int v4), (7, .long v7), (15, .int v15), (16, .int v16), (17, .long v17), (19, .long v19)] [2, 3, 4, 5, 8, 12, 13, 14, 15] rfl ?_
          exact b242 _ _ _ _ _ _ _ _ _ (by omega) hs
        · replace hs := hs.2 h50
          refine G_aload_n hO 2 dL_follows_190 rfl rfl ?_
          refine G_bipush hO 12 dL_follows_191 (by decide) ?_
          refine H_callHl hO (rest := []) 1 [.ref (ad 20 0), .int 12] hX (fun l h => c_L_about hm hs h) cw_about mw_429 mw_428 rfl rfl (Nat.le_of_ble_eq_true rfl) ⟨by decide, by decide⟩ ⟨by decide, by decide⟩ rfl (by first | (show _ ≤ 1564; omega) | (show _ ≤ 25024; omega)) dL_follows_193 ?_
          intro r38 M39 hs
          refine G_lload hO 16 dL_follows_196 rfl ?_
          refine G_lload hO 0 dL_follows_198 rfl ?_
          refine G_ladd hO dL_follows_200 ?_
          refine G_lcmp hO dL_follows_201 ?_
          refine G_if_ne hO 242 dL_follows_202 (by decide) (fun h49 => ?_) (fun h49 => ?_)
          · replace hs := hs.1 h49
            refine G_lv hO [(0, .ref (ad 20 0)), (1, .int a1), (2, .long v2), (4, .int v4), (7, .long v7), (15, .int v15), (16, .int v16), (17, .long v17), (19, .long v19)] [2, 3, 4, 5, 8, 12, 13, 14, 15] rfl ?_
            exact b242 _ _ _ _ _ _ _ _ _ (by omega) hs
          · replace hs := hs.2 h49
            refine G_aload_n hO 2 dL_follows_205 rfl rfl ?_
            refine G_iconst hO 1 dL_follows_206 (by decide) ?_
            refine H_callHl hO (rest := []) 1 [.ref (ad 20 0), .int 1] hX (fun l h => c_L_about hm hs h) cw_about mw_429 mw_428 rfl rfl (Nat.le_of_ble_eq_true rfl) ⟨by decide, by decide⟩ ⟨by decide, by decide⟩ rfl (by first | (show _ ≤ 1564; omega) | (show _ ≤ 25024; omega)) dL_follows_207 ?_
            intro r40 M41 hs
            refine G_lload hO 8 dL_follows_210 rfl ?_
            refine G_iload hO 6 dL_follows_212 rfl ?_
            refine G_i2l hO dL_follows_214 ?_
            refine G_ladd hO dL_follows_215 ?_
            refine G_lcmp hO dL_follows_216 ?_
            refine G_if_ne hO 242 dL_follows_217 (by decide) (fun h48 => ?_) (fun h48 => ?_)
            · replace hs := hs.1 h48
              refine G_lv hO [(0, .ref (ad 20 0)), (1, .int a1), (2, .long v2), (4, .int v4), (7, .long v7), (15, .int v15), (16, .int v16), (17, .long v17), (19, .long v19)] [2, 3, 4, 5, 8, 12, 13, 14, 15] rfl ?_
              exact b242 _ _ _ _ _ _ _ _ _ (by omega) hs
            · replace hs := hs.2 h48
              refine G_aload_n hO 2 dL_follows_220 rfl rfl ?_
              refine H_callHl hO (rest := []) 1 [.ref (ad 20 0)] hX (fun l h => c_L_undo hm hs h) cw_undo mw_842 mw_841 rfl rfl (Nat.le_of_ble_eq_true rfl) ⟨by decide, by decide⟩ ⟨by decide, by decide⟩ rfl (by first | (show _ ≤ 1564; omega) | (show _ ≤ 25024; omega)) dL_follows_221 ?_
              intro r42 M43 hs
              refine G_lconst hO 0 dL_follows_224 (by decide) ?_
              refine G_lcmp hO dL_follows_225 ?_
              refine G_if_lt hO 242 dL_follows_226 (by decide) (fun h47 => ?_) (fun h47 => ?_)
              · replace hs := hs.1 h47
                refine G_lv hO [(0, .ref (ad 20 0)), (1, .int a1), (2, .long v2), (4, .int v4), (7, .long v7), (15, .int v15), (16, .int v16), (17, .long v17), (19, .long v19)] [2, 3, 4, 5, 8, 12, 13, 14, 15] rfl ?_
                exact b242 _ _ _ _ _ _ _ _ _ (by omega) hs
              · replace hs := hs.2 h47
                refine G_aload_n hO 2 dL_follows_229 rfl rfl ?_
                refine H_callYl hO (rest := []) 216 [.ref (ad 20 0)] hX (fun l h => c_L_now hm hnr hs h) cv_L_now mw_424 mw_423 rfl rfl (Nat.le_of_ble_eq_true rfl) ⟨by decide, by decide⟩ ⟨by decide, by decide⟩ rfl (by first | (show _ ≤ 1564; omega) | (show _ ≤ 25024; omega)) dL_follows_230 ?_
                intro r44 M45 hs
                refine G_lload_n hO 4 dL_follows_233 rfl rfl ?_
                refine G_lcmp hO dL_follows_234 ?_
                refine G_if_ne hO 242 dL_follows_235 (by decide) (fun h46 => ?_) (fun h46 => ?_)
                · replace hs := hs.1 h46
                  refine G_lv hO [(0, .ref (ad 20 0)), (1, .int a1), (2, .long v2), (4, .int v4), (7, .long v7), (15, .int v15), (16, .int v16), (17, .long v17), (19, .long v19)] [2, 3, 4, 5, 8, 12, 13, 14, 15] rfl ?_
                  exact b242 _ _ _ _ _ _ _ _ _ (by omega) hs
                · replace hs := hs.2 h46
                  refine G_iconst hO 1 dL_follows_238 (by decide) ?_
                  refine G_goto hO 243 dL_follows_239 (by decide) ?_
                  refine G_lv hO [(0, .ref (ad 20 0)), (1, .int a1), (2, .long v2), (4, .int v4), (7, .long v7), (15, .int v15), (16, .int v16), (17, .long v17), (19, .long v19)] [2, 3, 4, 5, 8, 12, 13, 14, 15] rfl ?_
                  exact b243 _ _ _ _ _ _ _ _ _ _ (by omega) hs
  have b145 : ∀ (k145 : Nat) (v2 : Int64) (v4 : Int32) (v5 : Int32) (v6 : Int32) (v7 : Int64) (v9 : Int64) (v11 : Int64) (v13 : Int64) (v15 : Int32) (v16 : Int32) (v17 : Int64) (v19 : Int64) (v21 : Int64) (M : Mem), k145 + ((1122)) ≤ 1564 → wL_follows_L145 a1 P v2 v4 v5 v6 v7 v9 v11 v13 v15 v16 v17 v19 v21 M → G Γ ids ad k145 (16 * k145) (sh Λ ad M O) 145 [(0, .ref (ad 20 0)), (1, .int a1), (2, .long v2), (4, .int v4), (5, .int v5), (6, .int v6), (7, .long v7), (9, .long v9), (11, .long v11), (13, .long v13), (15, .int v15), (16, .int v16), (17, .long v17), (19, .long v19), (21, .long v21)] [] := by
    intro k145 v2 v4 v5 v6 v7 v9 v11 v13 v15 v16 v17 v19 v21 M hk hs
    unfold wL_follows_L145 at hs
    refine G_iconst hO 0 dL_follows_145 (by decide) ?_
    exact b146 _ _ _ _ _ _ _ _ _ _ _ _ _ _ _ _ (by omega) hs
  refine G_aload_n hO 0 dL_follows_0 rfl rfl ?_
  refine H_callYl hO (rest := []) 216 [.ref (ad 20 0)] hX (fun l h => c_L_now hm hnr hs h) cv_L_now mw_424 mw_423 rfl rfl (Nat.le_of_ble_eq_true rfl) ⟨by decide, by decide⟩ ⟨by decide, by decide⟩ rfl (by first | (show _ ≤ 1564; omega) | (show _ ≤ 25024; omega)) dL_follows_1 ?_
  intro r1 M2 hs
  refine G_lstore_n hO [(2, .long r1), (0, .ref (ad 20 0)), (1, .int a1)] dL_follows_4 rfl (by decide) rfl ?_
  refine G_aload_n hO 1 dL_follows_5 rfl rfl ?_
  refine G_iconst hO 0 dL_follows_6 (by decide) ?_
  refine H_callHl hO (rest := []) 1 [.ref (ad 20 0), .int 0] hX (fun l h => c_L_about hm hs h) cw_about mw_429 mw_428 rfl rfl (Nat.le_of_ble_eq_true rfl) ⟨by decide, by decide⟩ ⟨by decide, by decide⟩ rfl (by first | (show _ ≤ 1564; omega) | (show _ ≤ 25024; omega)) dL_follows_7 ?_
  intro r3 M4 hs
  refine G_l2i hO dL_follows_10 ?_
  refine G_istore hO [(4, .int (Int64.toInt32 r3)), (2, .long r1), (0, .ref (ad 20 0)), (1, .int a1)] dL_follows_11 (by decide) rfl ?_
  refine G_iconst hO 1 dL_follows_13 (by decide) ?_
  refine G_iload_n hO 3 dL_follows_14 rfl rfl ?_
  refine G_bipush hO 60 dL_follows_15 (by decide) ?_
  refine G_irem hO dL_follows_17 (by decide) ?_
  refine G_iadd hO dL_follows_18 ?_
  refine G_istore hO [(5, .int (1 + (a1 - a1 / 60 * 60))), (4, .int (Int64.toInt32 r3)), (2, .long r1), (0, .ref (ad 20 0)), (1, .int a1)] dL_follows_19 (by decide) rfl ?_
  refine G_iload_n hO 4 dL_follows_21 rfl rfl ?_
  refine G_bipush hO 60 dL_follows_22 (by decide) ?_
  refine G_idiv hO dL_follows_24 (by decide) ?_
  refine G_iload hO 1 dL_follows_25 rfl ?_
  refine G_iconst hO 2 dL_follows_27 (by decide) ?_
  refine G_iadd hO dL_follows_28 ?_
  refine G_irem hO dL_follows_29 hs.1 ?_
  replace hs := hs.2
  refine G_istore hO [(6, .int ((a1 / 60) - (a1 / 60) / ((Int64.toInt32 r3) + 2) * ((Int64.toInt32 r3) + 2))), (5, .int (1 + (a1 - a1 / 60 * 60))), (4, .int (Int64.toInt32 r3)), (2, .long r1), (0, .ref (ad 20 0)), (1, .int a1)] dL_follows_30 (by decide) rfl ?_
  refine G_aload_n hO 4 dL_follows_32 rfl rfl ?_
  refine G_iconst hO 1 dL_follows_33 (by decide) ?_
  refine H_callHl hO (rest := []) 1 [.ref (ad 20 0), .int 1] hX (fun l h => c_L_about hm hs h) cw_about mw_429 mw_428 rfl rfl (Nat.le_of_ble_eq_true rfl) ⟨by decide, by decide⟩ ⟨by decide, by decide⟩ rfl (by first | (show _ ≤ 1564; omega) | (show _ ≤ 25024; omega)) dL_follows_34 ?_
  intro r5 M6 hs
  refine G_lstore hO [(7, .long r5), (6, .int ((a1 / 60) - (a1 / 60) / ((Int64.toInt32 r3) + 2) * ((Int64.toInt32 r3) + 2))), (5, .int (1 + (a1 - a1 / 60 * 60))), (4, .int (Int64.toInt32 r3)), (2, .long r1), (0, .ref (ad 20 0)), (1, .int a1)] dL_follows_37 (by decide) rfl ?_
  refine G_aload_n hO 5 dL_follows_39 rfl rfl ?_
  refine G_iload hO 1 dL_follows_40 rfl ?_
  refine G_iload hO 2 dL_follows_42 rfl ?_
  refine H_callHl hO (rest := []) 1 [.ref (ad 20 0), .int ((a1 / 60) - (a1 / 60) / ((Int64.toInt32 r3) + 2) * ((Int64.toInt32 r3) + 2)), .int (1 + (a1 - a1 / 60 * 60))] hX (fun l h => c_L_ahead hm hs h) cw_ahead mw_698 mw_697 rfl rfl (Nat.le_of_ble_eq_true rfl) ⟨by decide, by decide⟩ ⟨by decide, by decide⟩ rfl (by first | (show _ ≤ 1564; omega) | (show _ ≤ 25024; omega)) dL_follows_44 ?_
  intro r7 M8 hs
  refine G_lstore hO [(9, .long r7), (7, .long r5), (6, .int ((a1 / 60) - (a1 / 60) / ((Int64.toInt32 r3) + 2) * ((Int64.toInt32 r3) + 2))), (5, .int (1 + (a1 - a1 / 60 * 60))), (4, .int (Int64.toInt32 r3)), (2, .long r1), (0, .ref (ad 20 0)), (1, .int a1)] dL_follows_47 (by decide) rfl ?_
  refine G_aload_n hO 6 dL_follows_49 rfl rfl ?_
  refine G_iload hO 3 dL_follows_50 rfl ?_
  refine H_callHl hO (rest := []) 1 [.ref (ad 20 0), .int (1 + (a1 - a1 / 60 * 60))] hX (fun l h => c_L_heatFor hm hs h) cw_heatFor mw_741 mw_740 rfl rfl (Nat.le_of_ble_eq_true rfl) ⟨by decide, by decide⟩ ⟨by decide, by decide⟩ rfl (by first | (show _ ≤ 1564; omega) | (show _ ≤ 25024; omega)) dL_follows_52 ?_
  intro r9 M10 hs
  refine G_lstore hO [(11, .long r9), (9, .long r7), (7, .long r5), (6, .int ((a1 / 60) - (a1 / 60) / ((Int64.toInt32 r3) + 2) * ((Int64.toInt32 r3) + 2))), (5, .int (1 + (a1 - a1 / 60 * 60))), (4, .int (Int64.toInt32 r3)), (2, .long r1), (0, .ref (ad 20 0)), (1, .int a1)] dL_follows_55 (by decide) rfl ?_
  refine G_aload_n hO 7 dL_follows_57 rfl rfl ?_
  refine G_bipush hO 9 dL_follows_58 (by decide) ?_
  refine G_iconst hO 0 dL_follows_60 (by decide) ?_
  refine H_callHl hO (rest := []) 1 [.ref (ad 20 0), .int 9, .int 0] hX (fun l h => c_L_moved hm hs h) cw_moved mw_538 mw_537 rfl rfl (Nat.le_of_ble_eq_true rfl) ⟨by decide, by decide⟩ ⟨by decide, by decide⟩ rfl (by first | (show _ ≤ 1564; omega) | (show _ ≤ 25024; omega)) dL_follows_61 ?_
  intro r11 M12 hs
  refine G_lstore hO [(13, .long r11), (11, .long r9), (9, .long r7), (7, .long r5), (6, .int ((a1 / 60) - (a1 / 60) / ((Int64.toInt32 r3) + 2) * ((Int64.toInt32 r3) + 2))), (5, .int (1 + (a1 - a1 / 60 * 60))), (4, .int (Int64.toInt32 r3)), (2, .long r1), (0, .ref (ad 20 0)), (1, .int a1)] dL_follows_64 (by decide) rfl ?_
  refine G_aload_n hO 8 dL_follows_66 rfl rfl ?_
  refine G_iconst hO 1 dL_follows_67 (by decide) ?_
  refine H_callYi hO (rest := []) 0 [.ref (ad 20 0), .int 1] hX (fun l h => c_L_o hm hnr hs h) cv_L_o mw_825 mw_824 rfl rfl (Nat.le_of_ble_eq_true rfl) ⟨by decide, by decide⟩ ⟨by decide, by decide⟩ rfl (by first | (show _ ≤ 1564; omega) | (show _ ≤ 25024; omega)) dL_follows_68 ?_
  intro r13 M14 hs
  refine G_istore hO [(15, .int r13), (13, .long r11), (11, .long r9), (9, .long r7), (7, .long r5), (6, .int ((a1 / 60) - (a1 / 60) / ((Int64.toInt32 r3) + 2) * ((Int64.toInt32 r3) + 2))), (5, .int (1 + (a1 - a1 / 60 * 60))), (4, .int (Int64.toInt32 r3)), (2, .long r1), (0, .ref (ad 20 0)), (1, .int a1)] dL_follows_71 (by decide) rfl ?_
  refine G_aload_n hO 9 dL_follows_73 rfl rfl ?_
  refine G_iconst hO 0 dL_follows_74 (by decide) ?_
  refine H_callYi hO (rest := []) 0 [.ref (ad 20 0), .int 0] hX (fun l h => c_L_o hm hnr hs h) cv_L_o mw_825 mw_824 rfl rfl (Nat.le_of_ble_eq_true rfl) ⟨by decide, by decide⟩ ⟨by decide, by decide⟩ rfl (by first | (show _ ≤ 1564; omega) | (show _ ≤ 25024; omega)) dL_follows_75 ?_
  intro r15 M16 hs
  refine G_istore hO [(16, .int r15), (15, .int r13), (13, .long r11), (11, .long r9), (9, .long r7), (7, .long r5), (6, .int ((a1 / 60) - (a1 / 60) / ((Int64.toInt32 r3) + 2) * ((Int64.toInt32 r3) + 2))), (5, .int (1 + (a1 - a1 / 60 * 60))), (4, .int (Int64.toInt32 r3)), (2, .long r1), (0, .ref (ad 20 0)), (1, .int a1)] dL_follows_78 (by decide) rfl ?_
  refine G_aload_n hO 10 dL_follows_80 rfl rfl ?_
  refine G_iconst hO 5 dL_follows_81 (by decide) ?_
  refine H_callHl hO (rest := []) 1 [.ref (ad 20 0), .int 5] hX (fun l h => c_L_about hm hs h) cw_about mw_429 mw_428 rfl rfl (Nat.le_of_ble_eq_true rfl) ⟨by decide, by decide⟩ ⟨by decide, by decide⟩ rfl (by first | (show _ ≤ 1564; omega) | (show _ ≤ 25024; omega)) dL_follows_82 ?_
  intro r17 M18 hs
  refine G_lstore hO [(17, .long r17), (16, .int r15), (15, .int r13), (13, .long r11), (11, .long r9), (9, .long r7), (7, .long r5), (6, .int ((a1 / 60) - (a1 / 60) / ((Int64.toInt32 r3) + 2) * ((Int64.toInt32 r3) + 2))), (5, .int (1 + (a1 - a1 / 60 * 60))), (4, .int (Int64.toInt32 r3)), (2, .long r1), (0, .ref (ad 20 0)), (1, .int a1)] dL_follows_85 (by decide) rfl ?_
  refine G_aload_n hO 11 dL_follows_87 rfl rfl ?_
  refine G_iconst hO 5 dL_follows_88 (by decide) ?_
  refine H_callHl hO (rest := []) 1 [.ref (ad 20 0), .int 5] hX (fun l h => c_L_setting hm hs h) cw_setting mw_473 mw_472 rfl rfl (Nat.le_of_ble_eq_true rfl) ⟨by decide, by decide⟩ ⟨by decide, by decide⟩ rfl (by first | (show _ ≤ 1564; omega) | (show _ ≤ 25024; omega)) dL_follows_89 ?_
  intro r19 M20 hs
  refine G_lstore hO [(19, .long r19), (17, .long r17), (16, .int r15), (15, .int r13), (13, .long r11), (11, .long r9), (9, .long r7), (7, .long r5), (6, .int ((a1 / 60) - (a1 / 60) / ((Int64.toInt32 r3) + 2) * ((Int64.toInt32 r3) + 2))), (5, .int (1 + (a1 - a1 / 60 * 60))), (4, .int (Int64.toInt32 r3)), (2, .long r1), (0, .ref (ad 20 0)), (1, .int a1)] dL_follows_92 (by decide) rfl ?_
  refine G_aload_n hO 12 dL_follows_94 rfl rfl ?_
  refine G_bipush hO 12 dL_follows_95 (by decide) ?_
  refine H_callHl hO (rest := []) 1 [.ref (ad 20 0), .int 12] hX (fun l h => c_L_about hm hs h) cw_about mw_429 mw_428 rfl rfl (Nat.le_of_ble_eq_true rfl) ⟨by decide, by decide⟩ ⟨by decide, by decide⟩ rfl (by first | (show _ ≤ 1564; omega) | (show _ ≤ 25024; omega)) dL_follows_97 ?_
  intro r21 M22 hs
  refine G_lstore hO [(21, .long r21), (19, .long r19), (17, .long r17), (16, .int r15), (15, .int r13), (13, .long r11), (11, .long r9), (9, .long r7), (7, .long r5), (6, .int ((a1 / 60) - (a1 / 60) / ((Int64.toInt32 r3) + 2) * ((Int64.toInt32 r3) + 2))), (5, .int (1 + (a1 - a1 / 60 * 60))), (4, .int (Int64.toInt32 r3)), (2, .long r1), (0, .ref (ad 20 0)), (1, .int a1)] dL_follows_100 (by decide) rfl ?_
  refine G_aload_n hO 13 dL_follows_102 rfl rfl ?_
  refine G_iconst hO 1 dL_follows_103 (by decide) ?_
  refine H_callHl hO (rest := []) 1 [.ref (ad 20 0), .int 1] hX (fun l h => c_L_save hm hs h) cw_save mw_388 mw_387 rfl rfl (Nat.le_of_ble_eq_true rfl) ⟨by decide, by decide⟩ ⟨by decide, by decide⟩ rfl (by first | (show _ ≤ 1564; omega) | (show _ ≤ 25024; omega)) dL_follows_104 ?_
  intro r23 M24 hs
  refine G_lload hO 8 dL_follows_107 rfl ?_
  refine G_lcmp hO dL_follows_109 ?_
  refine G_if_ne hO 145 dL_follows_110 (by decide) (fun h31 => ?_) (fun h31 => ?_)
  · replace hs := hs.1 h31
    refine G_lv hO [(0, .ref (ad 20 0)), (1, .int a1), (2, .long r1), (4, .int (Int64.toInt32 r3)), (5, .int (1 + (a1 - a1 / 60 * 60))), (6, .int ((a1 / 60) - (a1 / 60) / ((Int64.toInt32 r3) + 2) * ((Int64.toInt32 r3) + 2))), (7, .long r5), (9, .long r7), (11, .long r9), (13, .long r11), (15, .int r13), (16, .int r15), (17, .long r17), (19, .long r19), (21, .long r21)] [13, 14, 12, 11, 10, 9, 8, 7, 6, 5, 4, 3, 2, 1, 0] rfl ?_
    exact b145 _ _ _ _ _ _ _ _ _ _ _ _ _ _ _ (by omega) hs
  · replace hs := hs.2 h31
    refine G_aload_n hO 13 dL_follows_113 rfl rfl ?_
    refine G_iconst hO 1 dL_follows_114 (by decide) ?_
    refine G_ldc2 hO mw_840 dL_follows_115 ?_
    refine G_iload hO 10 dL_follows_118 rfl ?_
    refine G_i2l hO dL_follows_120 ?_
    refine G_ladd hO dL_follows_121 ?_
    refine H_callHl hO (rest := []) 1 [.ref (ad 20 0), .int 1, .long (1000 + (Int32.toInt64 (1 + (a1 - a1 / 60 * 60))))] hX (fun l h => c_L_script hm hs h) cw_script mw_753 mw_752 rfl rfl (Nat.le_of_ble_eq_true rfl) ⟨by decide, by decide⟩ ⟨by decide, by decide⟩ rfl (by first | (show _ ≤ 1564; omega) | (show _ ≤ 25024; omega)) dL_follows_122 ?_
    intro r25 M26 hs
    refine G_ldc2 hO mw_820 dL_follows_125 ?_
    refine G_lcmp hO dL_follows_128 ?_
    refine G_if_ne hO 145 dL_follows_129 (by decide) (fun h30 => ?_) (fun h30 => ?_)
    · replace hs := hs.1 h30
      refine G_lv hO [(0, .ref (ad 20 0)), (1, .int a1), (2, .long r1), (4, .int (Int64.toInt32 r3)), (5, .int (1 + (a1 - a1 / 60 * 60))), (6, .int ((a1 / 60) - (a1 / 60) / ((Int64.toInt32 r3) + 2) * ((Int64.toInt32 r3) + 2))), (7, .long r5), (9, .long r7), (11, .long r9), (13, .long r11), (15, .int r13), (16, .int r15), (17, .long r17), (19, .long r19), (21, .long r21)] [13, 14, 12, 11, 10, 9, 8, 7, 6, 5, 4, 3, 2, 1, 0] rfl ?_
      exact b145 _ _ _ _ _ _ _ _ _ _ _ _ _ _ _ (by omega) hs
    · replace hs := hs.2 h30
      refine G_aload_n hO 13 dL_follows_132 rfl rfl ?_
      refine H_callYl hO (rest := []) 216 [.ref (ad 20 0)] hX (fun l h => c_L_now hm hnr hs h) cv_L_now mw_424 mw_423 rfl rfl (Nat.le_of_ble_eq_true rfl) ⟨by decide, by decide⟩ ⟨by decide, by decide⟩ rfl (by first | (show _ ≤ 1564; omega) | (show _ ≤ 25024; omega)) dL_follows_133 ?_
      intro r27 M28 hs
      refine G_lload_n hO 12 dL_follows_136 rfl rfl ?_
      refine G_lcmp hO dL_follows_137 ?_
      refine G_if_ne hO 145 dL_follows_138 (by decide) (fun h29 => ?_) (fun h29 => ?_)
      · replace hs := hs.1 h29
        refine G_lv hO [(0, .ref (ad 20 0)), (1, .int a1), (2, .long r1), (4, .int (Int64.toInt32 r3)), (5, .int (1 + (a1 - a1 / 60 * 60))), (6, .int ((a1 / 60) - (a1 / 60) / ((Int64.toInt32 r3) + 2) * ((Int64.toInt32 r3) + 2))), (7, .long r5), (9, .long r7), (11, .long r9), (13, .long r11), (15, .int r13), (16, .int r15), (17, .long r17), (19, .long r19), (21, .long r21)] [13, 14, 12, 11, 10, 9, 8, 7, 6, 5, 4, 3, 2, 1, 0] rfl ?_
        exact b145 _ _ _ _ _ _ _ _ _ _ _ _ _ _ _ (by omega) hs
      · replace hs := hs.2 h29
        refine G_iconst hO 1 dL_follows_141 (by decide) ?_
        refine G_goto hO 146 dL_follows_142 (by decide) ?_
        refine G_lv hO [(0, .ref (ad 20 0)), (1, .int a1), (2, .long r1), (4, .int (Int64.toInt32 r3)), (5, .int (1 + (a1 - a1 / 60 * 60))), (6, .int ((a1 / 60) - (a1 / 60) / ((Int64.toInt32 r3) + 2) * ((Int64.toInt32 r3) + 2))), (7, .long r5), (9, .long r7), (11, .long r9), (13, .long r11), (15, .int r13), (16, .int r15), (17, .long r17), (19, .long r19), (21, .long r21)] [13, 14, 12, 11, 10, 9, 8, 7, 6, 5, 4, 3, 2, 1, 0] rfl ?_
        exact b146 _ _ _ _ _ _ _ _ _ _ _ _ _ _ _ _ (by omega) hs
set_option maxHeartbeats 4000000 in
set_option maxRecDepth 20000 in
theorem c_L_types {l : Launch} {Λ : Lay} {B : Zn} {ids : List (Nat × Nat)} {ad : Nat → Nat → Nat} (hm : ∀ q, q ∈ ids0 → q ∈ ids) (hnr : (20, 6) ∉ ids) {a1 : Int32} {a2 : Int32} {M : Mem} {O : Nat → Int64} {P : Int32 → Mem → Prop} (hs : wL_types a1 a2 M P) (hst : l.stackTraces = false) : CY l yL_types cL_types 5 (some .boolean) { frames := 8, cells := 3, slots := 48, locals := 133 } Λ B ids ad (sh Λ ad M O) [.ref (ad 20 0), .int a1, .int a2] (Gi Λ ids ad O P) := by
  refine CY.of hst RL [(0, .ref (ad 20 0)), (1, .int a1), (2, .int a2)] (plainFor_of_name (by decide +kernel)) rfl (Nat.le_of_ble_eq_true rfl) rfl (fun Γ hO hX hF => ?_)
  unfold wL_types at hs
  have b15 : ∀ (N15 k15 : Nat) (v3 : Int32) (v4 : Int32) (M : Mem), k15 + ((1 * N15 + 0)) ≤ 3 → wL_types_L15 a1 a2 P N15 v3 v4 M → G Γ ids ad k15 (16 * k15) (sh Λ ad M O) 15 [(0, .ref (ad 20 0)), (1, .int a1), (3, .int v3), (4, .int v4)] [] := by
    intro N15
    induction N15 with
    | zero => intro k15 v3 v4 M hk hs; exact False.elim hs
    | succ N15 ih15 =>
      intro k15 v3 v4 M hk hs
      unfold wL_types_L15 at hs
      refine G_iload hO 3 dL_types_15 rfl ?_
      refine G_if_le hO 59 dL_types_17 (by decide) (fun h6 => ?_) (fun h6 => ?_)
      · replace hs := hs.1 h6
        refine G_iload_n hO 2 dL_types_59 rfl rfl ?_
        have hb := hs.1.nar
        replace hs := hs.2
        exact G_zret hO hF rfl (by first | (show _ ≤ 3; omega) | (show _ ≤ 48; omega)) (by first | (show _ ≤ 3; omega) | (show _ ≤ 48; omega)) hb dL_types_60 ⟨rfl, rfl, _, _, rfl, rfl, hs⟩
      · replace hs := hs.2 h6
        refine G_iload_n hO 2 dL_types_20 rfl rfl ?_
        refine G_if_eq hO 59 dL_types_21 (by decide) (fun h5 => ?_) (fun h5 => ?_)
        · replace hs := hs.1 h5
          refine G_iload_n hO 2 dL_types_59 rfl rfl ?_
          have hb := hs.1.nar
          replace hs := hs.2
          exact G_zret hO hF rfl (by first | (show _ ≤ 3; omega) | (show _ ≤ 48; omega)) (by first | (show _ ≤ 3; omega) | (show _ ≤ 48; omega)) hb dL_types_60 ⟨rfl, rfl, _, _, rfl, rfl, hs⟩
        · replace hs := hs.2 h5
          refine G_aload_n hO 0 dL_types_24 rfl rfl ?_
          refine G_bipush hO 48 dL_types_25 (by decide) ?_
          refine G_iload_n hO 1 dL_types_27 rfl rfl ?_
          refine G_iload hO 3 dL_types_28 rfl ?_
          refine G_idiv hO dL_types_30 hs.1 ?_
          replace hs := hs.2
          refine G_bipush hO 10 dL_types_31 (by decide) ?_
          refine G_irem hO dL_types_33 (by decide) ?_
          refine G_iadd hO dL_types_34 ?_
          refine H_callHl hO (rest := []) 1 [.ref (ad 20 0), .int (48 + ((a1 / v4) - (a1 / v4) / 10 * 10))] hX (fun l h => c_L_append hm hs h) cw_append mw_800 mw_799 rfl rfl (Nat.le_of_ble_eq_true rfl) ⟨by decide, by decide⟩ ⟨by decide, by decide⟩ rfl (by first | (show _ ≤ 3; omega) | (show _ ≤ 48; omega)) dL_types_35 ?_
          intro r2 M3 hs
          refine G_lconst hO 0 dL_types_38 (by decide) ?_
          refine G_lcmp hO dL_types_39 ?_
          refine G_if_le hO 47 dL_types_40 (by decide) (fun h4 => ?_) (fun h4 => ?_)
          · replace hs := hs.1 h4
            refine G_iconst hO 0 dL_types_47 (by decide) ?_
            refine G_istore_n hO [(3, .int 0), (0, .ref (ad 20 0)), (1, .int a1), (4, .int v4)] dL_types_48 rfl (by decide) rfl ?_
            refine G_iload hO 3 dL_types_49 rfl ?_
            refine G_bipush hO 10 dL_types_51 (by decide) ?_
            refine G_idiv hO dL_types_53 (by decide) ?_
            refine G_istore hO [(4, .int (v4 / 10)), (3, .int 0), (0, .ref (ad 20 0)), (1, .int a1)] dL_types_54 (by decide) rfl ?_
            refine G_goto hO 15 dL_types_56 (by decide) ?_
            refine G_lv hO [(0, .ref (ad 20 0)), (1, .int a1), (3, .int 0), (4, .int (v4 / 10))] [2, 3, 1, 0] rfl ?_
            exact ih15 _ _ _ _ (by omega) hs
          · replace hs := hs.2 h4
            refine G_iconst hO 1 dL_types_43 (by decide) ?_
            refine G_goto hO 48 dL_types_44 (by decide) ?_
            refine G_istore_n hO [(3, .int 1), (0, .ref (ad 20 0)), (1, .int a1), (4, .int v4)] dL_types_48 rfl (by decide) rfl ?_
            refine G_iload hO 3 dL_types_49 rfl ?_
            refine G_bipush hO 10 dL_types_51 (by decide) ?_
            refine G_idiv hO dL_types_53 (by decide) ?_
            refine G_istore hO [(4, .int (v4 / 10)), (3, .int 1), (0, .ref (ad 20 0)), (1, .int a1)] dL_types_54 (by decide) rfl ?_
            refine G_goto hO 15 dL_types_56 (by decide) ?_
            refine G_lv hO [(0, .ref (ad 20 0)), (1, .int a1), (3, .int 1), (4, .int (v4 / 10))] [2, 3, 1, 0] rfl ?_
            exact ih15 _ _ _ _ (by omega) hs
  refine G_iconst hO 1 dL_types_0 (by decide) ?_
  refine G_istore_n hO [(3, .int 1), (0, .ref (ad 20 0)), (1, .int a1), (2, .int a2)] dL_types_1 rfl (by decide) rfl ?_
  refine G_iload_n hO 3 dL_types_2 rfl rfl ?_
  refine G_iconst hO 2 dL_types_3 (by decide) ?_
  refine G_icmp_ne hO 12 dL_types_4 (by decide) (fun h1 => ?_) (fun h1 => ?_)
  · replace hs := hs.1 h1
    refine G_iconst hO 1 dL_types_12 (by decide) ?_
    refine G_istore hO [(4, .int 1), (3, .int 1), (0, .ref (ad 20 0)), (1, .int a1), (2, .int a2)] dL_types_13 (by decide) rfl ?_
    refine G_lv hO [(0, .ref (ad 20 0)), (1, .int a1), (3, .int 1), (4, .int 1)] [2, 3, 1, 0] rfl ?_
    exact b15 3 _ _ _ _ (by omega) hs
  · replace hs := hs.2 h1
    refine G_bipush hO 10 dL_types_7 (by decide) ?_
    refine G_goto hO 13 dL_types_9 (by decide) ?_
    refine G_istore hO [(4, .int 10), (3, .int 1), (0, .ref (ad 20 0)), (1, .int a1), (2, .int a2)] dL_types_13 (by decide) rfl ?_
    refine G_lv hO [(0, .ref (ad 20 0)), (1, .int a1), (3, .int 1), (4, .int 10)] [2, 3, 1, 0] rfl ?_
    exact b15 3 _ _ _ _ (by omega) hs
set_option maxHeartbeats 4000000 in
set_option maxRecDepth 20000 in
theorem c_L_tells {l : Launch} {Λ : Lay} {B : Zn} {ids : List (Nat × Nat)} {ad : Nat → Nat → Nat} (hm : ∀ q, q ∈ ids0 → q ∈ ids) (hnr : (20, 6) ∉ ids) {a1 : Int32} {a2 : Int32} {M : Mem} {O : Nat → Int64} {P : Int32 → Mem → Prop} (hs : wL_tells a1 a2 M P) (hst : l.stackTraces = false) : CY l yL_tells cL_tells 6 (some .boolean) { frames := 9, cells := 68, slots := 1088, locals := 164 } Λ B ids ad (sh Λ ad M O) [.ref (ad 20 0), .int a1, .int a2] (Gi Λ ids ad O P) := by
  refine CY.of hst RL [(0, .ref (ad 20 0)), (1, .int a1), (2, .int a2)] (plainFor_of_name (by decide +kernel)) rfl (Nat.le_of_ble_eq_true rfl) rfl (fun Γ hO hX hF => ?_)
  unfold wL_tells at hs
  have b188 : ∀ (k188 : Nat) (v3 : Int32) (M : Mem), k188 + ((6)) ≤ 68 → wL_tells_L188 a1 a2 P v3 M → G Γ ids ad k188 (16 * k188) (sh Λ ad M O) 188 [(0, .ref (ad 20 0)), (2, .int a2), (3, .int v3)] [] := by
    intro k188 v3 M hk hs
    unfold wL_tells_L188 at hs
    refine G_iload_n hO 2 dL_tells_188 rfl rfl ?_
    refine G_if_eq hO 242 dL_tells_189 (by decide) (fun h45 => ?_) (fun h45 => ?_)
    · replace hs := hs.1 h45
      refine G_iconst hO 0 dL_tells_242 (by decide) ?_
      exact G_zret hO hF rfl (by first | (show _ ≤ 68; omega) | (show _ ≤ 1088; omega)) (by first | (show _ ≤ 68; omega) | (show _ ≤ 1088; omega)) rfl dL_tells_243 ⟨rfl, rfl, _, _, rfl, rfl, hs⟩
    · replace hs := hs.2 h45
      refine G_aload_n hO 0 dL_tells_192 rfl rfl ?_
      refine G_bipush hO 111 dL_tells_193 (by decide) ?_
      refine H_callHl hO (rest := []) 1 [.ref (ad 20 0), .int 111] hX (fun l h => c_L_append hm hs h) cw_append mw_800 mw_799 rfl rfl (Nat.le_of_ble_eq_true rfl) ⟨by decide, by decide⟩ ⟨by decide, by decide⟩ rfl (by first | (show _ ≤ 68; omega) | (show _ ≤ 1088; omega)) dL_tells_195 ?_
      intro r33 M34 hs
      refine G_lconst hO 0 dL_tells_198 (by decide) ?_
      refine G_lcmp hO dL_tells_199 ?_
      refine G_if_le hO 242 dL_tells_200 (by decide) (fun h44 => ?_) (fun h44 => ?_)
      · replace hs := hs.1 h44
        refine G_iconst hO 0 dL_tells_242 (by decide) ?_
        exact G_zret hO hF rfl (by first | (show _ ≤ 68; omega) | (show _ ≤ 1088; omega)) (by first | (show _ ≤ 68; omega) | (show _ ≤ 1088; omega)) rfl dL_tells_243 ⟨rfl, rfl, _, _, rfl, rfl, hs⟩
      · replace hs := hs.2 h44
        refine G_aload_n hO 0 dL_tells_203 rfl rfl ?_
        refine G_bipush hO 43 dL_tells_204 (by decide) ?_
        refine H_callHl hO (rest := []) 1 [.ref (ad 20 0), .int 43] hX (fun l h => c_L_append hm hs h) cw_append mw_800 mw_799 rfl rfl (Nat.le_of_ble_eq_true rfl) ⟨by decide, by decide⟩ ⟨by decide, by decide⟩ rfl (by first | (show _ ≤ 68; omega) | (show _ ≤ 1088; omega)) dL_tells_206 ?_
        intro r35 M36 hs
        refine G_lconst hO 0 dL_tells_209 (by decide) ?_
        refine G_lcmp hO dL_tells_210 ?_
        refine G_if_le hO 242 dL_tells_211 (by decide) (fun h43 => ?_) (fun h43 => ?_)
        · replace hs := hs.1 h43
          refine G_iconst hO 0 dL_tells_242 (by decide) ?_
          exact G_zret hO hF rfl (by first | (show _ ≤ 68; omega) | (show _ ≤ 1088; omega)) (by first | (show _ ≤ 68; omega) | (show _ ≤ 1088; omega)) rfl dL_tells_243 ⟨rfl, rfl, _, _, rfl, rfl, hs⟩
        · replace hs := hs.2 h43
          refine G_aload_n hO 0 dL_tells_214 rfl rfl ?_
          refine G_iload_n hO 1 dL_tells_215 rfl rfl ?_
          refine G_bipush hO 8 dL_tells_216 (by decide) ?_
          refine G_idiv hO dL_tells_218 (by decide) ?_
          refine G_bipush hO 41 dL_tells_219 (by decide) ?_
          refine G_irem hO dL_tells_221 (by decide) ?_
          refine G_iconst hO 2 dL_tells_222 (by decide) ?_
          refine H_callYi hO (rest := []) 3 [.ref (ad 20 0), .int ((a2 / 8) - (a2 / 8) / 41 * 41), .int 2] hX (fun l h => c_L_types hm hnr hs h) cv_L_types mw_877 mw_876 rfl rfl (Nat.le_of_ble_eq_true rfl) ⟨by decide, by decide⟩ ⟨by decide, by decide⟩ rfl (by first | (show _ ≤ 68; omega) | (show _ ≤ 1088; omega)) dL_tells_223 ?_
          intro r37 M38 hs
          refine G_if_eq hO 242 dL_tells_226 (by decide) (fun h42 => ?_) (fun h42 => ?_)
          · replace hs := hs.1 h42
            refine G_iconst hO 0 dL_tells_242 (by decide) ?_
            exact G_zret hO hF rfl (by first | (show _ ≤ 68; omega) | (show _ ≤ 1088; omega)) (by first | (show _ ≤ 68; omega) | (show _ ≤ 1088; omega)) rfl dL_tells_243 ⟨rfl, rfl, _, _, rfl, rfl, hs⟩
          · replace hs := hs.2 h42
            refine G_aload_n hO 0 dL_tells_229 rfl rfl ?_
            refine H_callVi hO (rest := []) 1 [] (fun l => c_X5_errorPosition hm hnr hs) cv_X5_errorPosition mw_865 mw_866 mw_864 (hm _ (id_gl (by decide))) cl5 (show sh Λ ad _ O 20 0 = _ by unfold sh; rw [rS_gl]; exact gl_0 _ _ _) rfl rfl (Nat.le_of_ble_eq_true rfl) ⟨by decide, by decide⟩ ⟨by decide, by decide⟩ rfl (by first | (show _ ≤ 68; omega) | (show _ ≤ 1088; omega)) dL_tells_230 ?_
            intro r39 M40 hs
            refine G_ldc hO mw_880 dL_tells_233 ?_
            refine G_icmp_ne hO 242 dL_tells_235 (by decide) (fun h41 => ?_) (fun h41 => ?_)
            · replace hs := hs.1 h41
              refine G_iconst hO 0 dL_tells_242 (by decide) ?_
              exact G_zret hO hF rfl (by first | (show _ ≤ 68; omega) | (show _ ≤ 1088; omega)) (by first | (show _ ≤ 68; omega) | (show _ ≤ 1088; omega)) rfl dL_tells_243 ⟨rfl, rfl, _, _, rfl, rfl, hs⟩
            · replace hs := hs.2 h41
              refine G_iconst hO 1 dL_tells_238 (by decide) ?_
              refine G_goto hO 243 dL_tells_239 (by decide) ?_
              exact G_zret hO hF rfl (by first | (show _ ≤ 68; omega) | (show _ ≤ 1088; omega)) (by first | (show _ ≤ 68; omega) | (show _ ≤ 1088; omega)) rfl dL_tells_243 ⟨rfl, rfl, _, _, rfl, rfl, hs⟩
  have b71 : ∀ (N71 k71 : Nat) (v3 : Int32) (v4 : Int32) (M : Mem), k71 + ((13 * N71 + 6)) ≤ 68 → wL_tells_L71 a1 a2 P N71 v3 v4 M → G Γ ids ad k71 (16 * k71) (sh Λ ad M O) 71 [(0, .ref (ad 20 0)), (1, .int a1), (2, .int a2), (3, .int v3), (4, .int v4)] [] := by
    intro N71
    induction N71 with
    | zero => intro k71 v3 v4 M hk hs; exact False.elim hs
    | succ N71 ih71 =>
      intro k71 v3 v4 M hk hs
      unfold wL_tells_L71 at hs
      refine G_iload hO 4 dL_tells_71 rfl ?_
      refine G_iload_n hO 2 dL_tells_73 rfl rfl ?_
      refine G_iconst hO 4 dL_tells_74 (by decide) ?_
      refine G_irem hO dL_tells_75 (by decide) ?_
      refine G_icmp_ge hO 188 dL_tells_76 (by decide) (fun h32 => ?_) (fun h32 => ?_)
      · replace hs := hs.1 h32
        refine G_lv hO [(0, .ref (ad 20 0)), (2, .int a2), (3, .int v3)] [0, 2, 3] rfl ?_
        exact b188 _ _ _ (by omega) hs
      · replace hs := hs.2 h32
        refine G_iload_n hO 3 dL_tells_79 rfl rfl ?_
        refine G_if_eq hO 188 dL_tells_80 (by decide) (fun h31 => ?_) (fun h31 => ?_)
        · replace hs := hs.1 h31
          refine G_lv hO [(0, .ref (ad 20 0)), (2, .int a2), (3, .int v3)] [0, 2, 3] rfl ?_
          exact b188 _ _ _ (by omega) hs
        · replace hs := hs.2 h31
          refine G_iload_n hO 1 dL_tells_83 rfl rfl ?_
          refine G_iload hO 4 dL_tells_84 rfl ?_
          refine G_ishr hO dL_tells_86 ?_
          refine G_ldc hO mw_879 dL_tells_87 ?_
          refine G_iand hO dL_tells_89 ?_
          refine G_iload_n hO 2 dL_tells_90 rfl rfl ?_
          refine G_iconst hO 4 dL_tells_91 (by decide) ?_
          refine G_idiv hO dL_tells_92 (by decide) ?_
          refine G_bipush hO 100 dL_tells_93 (by decide) ?_
          refine G_irem hO dL_tells_95 (by decide) ?_
          refine G_iadd hO dL_tells_96 ?_
          refine G_istore hO [(5, .int (((a1 >>> (v4 &&& 31)) &&& 65535) + ((a2 / 4) - (a2 / 4) / 100 * 100))), (0, .ref (ad 20 0)), (1, .int a1), (2, .int a2), (3, .int v3), (4, .int v4)] dL_tells_97 (by decide) rfl ?_
          refine G_aload_n hO 1 dL_tells_99 rfl rfl ?_
          refine G_bipush hO 114 dL_tells_100 (by decide) ?_
          refine H_callHl hO (rest := []) 1 [.ref (ad 20 0), .int 114] hX (fun l h => c_L_append hm hs h) cw_append mw_800 mw_799 rfl rfl (Nat.le_of_ble_eq_true rfl) ⟨by decide, by decide⟩ ⟨by decide, by decide⟩ rfl (by first | (show _ ≤ 68; omega) | (show _ ≤ 1088; omega)) dL_tells_102 ?_
          intro r16 M17 hs
          refine G_lconst hO 0 dL_tells_105 (by decide) ?_
          refine G_lcmp hO dL_tells_106 ?_
          refine G_if_le hO 180 dL_tells_107 (by decide) (fun h30 => ?_) (fun h30 => ?_)
          · replace hs := hs.1 h30
            refine G_iconst hO 0 dL_tells_180 (by decide) ?_
            refine G_istore_n hO [(3, .int 0), (5, .int (((a1 >>> (v4 &&& 31)) &&& 65535) + ((a2 / 4) - (a2 / 4) / 100 * 100))), (0, .ref (ad 20 0)), (1, .int a1), (2, .int a2), (4, .int v4)] dL_tells_181 rfl (by decide) rfl ?_
            refine G_iinc hO 5 (v4 + 1) [(4, .int (v4 + 1)), (3, .int 0), (5, .int (((a1 >>> (v4 &&& 31)) &&& 65535) + ((a2 / 4) - (a2 / 4) / 100 * 100))), (0, .ref (ad 20 0)), (1, .int a1), (2, .int a2)] dL_tells_182 rfl rfl (by decide) rfl ?_
            refine G_goto hO 71 dL_tells_185 (by decide) ?_
            refine G_lv hO [(0, .ref (ad 20 0)), (1, .int a1), (2, .int a2), (3, .int 0), (4, .int (v4 + 1))] [3, 4, 5, 1, 0] rfl ?_
            exact ih71 _ _ _ _ (by omega) hs
          · replace hs := hs.2 h30
            refine G_aload_n hO 1 dL_tells_110 rfl rfl ?_
            refine G_iconst hO 1 dL_tells_111 (by decide) ?_
            refine G_iload hO 0 dL_tells_112 rfl ?_
            refine G_bipush hO 9 dL_tells_114 (by decide) ?_
            refine G_irem hO dL_tells_116 (by decide) ?_
            refine G_iadd hO dL_tells_117 ?_
            refine G_iconst hO 1 dL_tells_118 (by decide) ?_
            refine H_callYi hO (rest := []) 3 [.ref (ad 20 0), .int (1 + ((((a1 >>> (v4 &&& 31)) &&& 65535) + ((a2 / 4) - (a2 / 4) / 100 * 100)) - (((a1 >>> (v4 &&& 31)) &&& 65535) + ((a2 / 4) - (a2 / 4) / 100 * 100)) / 9 * 9)), .int 1] hX (fun l h => c_L_types hm hnr hs h) cv_L_types mw_877 mw_876 rfl rfl (Nat.le_of_ble_eq_true rfl) ⟨by decide, by decide⟩ ⟨by decide, by decide⟩ rfl (by first | (show _ ≤ 68; omega) | (show _ ≤ 1088; omega)) dL_tells_119 ?_
            intro r18 M19 hs
            refine G_if_eq hO 180 dL_tells_122 (by decide) (fun h29 => ?_) (fun h29 => ?_)
            · replace hs := hs.1 h29
              refine G_iconst hO 0 dL_tells_180 (by decide) ?_
              refine G_istore_n hO [(3, .int 0), (5, .int (((a1 >>> (v4 &&& 31)) &&& 65535) + ((a2 / 4) - (a2 / 4) / 100 * 100))), (0, .ref (ad 20 0)), (1, .int a1), (2, .int a2), (4, .int v4)] dL_tells_181 rfl (by decide) rfl ?_
              refine G_iinc hO 5 (v4 + 1) [(4, .int (v4 + 1)), (3, .int 0), (5, .int (((a1 >>> (v4 &&& 31)) &&& 65535) + ((a2 / 4) - (a2 / 4) / 100 * 100))), (0, .ref (ad 20 0)), (1, .int a1), (2, .int a2)] dL_tells_182 rfl rfl (by decide) rfl ?_
              refine G_goto hO 71 dL_tells_185 (by decide) ?_
              refine G_lv hO [(0, .ref (ad 20 0)), (1, .int a1), (2, .int a2), (3, .int 0), (4, .int (v4 + 1))] [3, 4, 5, 1, 0] rfl ?_
              exact ih71 _ _ _ _ (by omega) hs
            · replace hs := hs.2 h29
              refine G_aload_n hO 1 dL_tells_125 rfl rfl ?_
              refine G_bipush hO 10 dL_tells_126 (by decide) ?_
              refine G_iload hO 0 dL_tells_128 rfl ?_
              refine G_bipush hO 9 dL_tells_130 (by decide) ?_
              refine G_idiv hO dL_tells_132 (by decide) ?_
              refine G_bipush hO 16 dL_tells_133 (by decide) ?_
              refine G_irem hO dL_tells_135 (by decide) ?_
              refine G_iadd hO dL_tells_136 ?_
              refine G_iconst hO 2 dL_tells_137 (by decide) ?_
              refine H_callYi hO (rest := []) 3 [.ref (ad 20 0), .int (10 + (((((a1 >>> (v4 &&& 31)) &&& 65535) + ((a2 / 4) - (a2 / 4) / 100 * 100)) / 9) - ((((a1 >>> (v4 &&& 31)) &&& 65535) + ((a2 / 4) - (a2 / 4) / 100 * 100)) / 9) / 16 * 16)), .int 2] hX (fun l h => c_L_types hm hnr hs h) cv_L_types mw_877 mw_876 rfl rfl (Nat.le_of_ble_eq_true rfl) ⟨by decide, by decide⟩ ⟨by decide, by decide⟩ rfl (by first | (show _ ≤ 68; omega) | (show _ ≤ 1088; omega)) dL_tells_138 ?_
              intro r20 M21 hs
              refine G_if_eq hO 180 dL_tells_141 (by decide) (fun h28 => ?_) (fun h28 => ?_)
              · replace hs := hs.1 h28
                refine G_iconst hO 0 dL_tells_180 (by decide) ?_
                refine G_istore_n hO [(3, .int 0), (5, .int (((a1 >>> (v4 &&& 31)) &&& 65535) + ((a2 / 4) - (a2 / 4) / 100 * 100))), (0, .ref (ad 20 0)), (1, .int a1), (2, .int a2), (4, .int v4)] dL_tells_181 rfl (by decide) rfl ?_
                refine G_iinc hO 5 (v4 + 1) [(4, .int (v4 + 1)), (3, .int 0), (5, .int (((a1 >>> (v4 &&& 31)) &&& 65535) + ((a2 / 4) - (a2 / 4) / 100 * 100))), (0, .ref (ad 20 0)), (1, .int a1), (2, .int a2)] dL_tells_182 rfl rfl (by decide) rfl ?_
                refine G_goto hO 71 dL_tells_185 (by decide) ?_
                refine G_lv hO [(0, .ref (ad 20 0)), (1, .int a1), (2, .int a2), (3, .int 0), (4, .int (v4 + 1))] [3, 4, 5, 1, 0] rfl ?_
                exact ih71 _ _ _ _ (by omega) hs
              · replace hs := hs.2 h28
                refine G_aload_n hO 1 dL_tells_144 rfl rfl ?_
                refine G_iconst hO 1 dL_tells_145 (by decide) ?_
                refine G_iload hO 0 dL_tells_146 rfl ?_
                refine G_iconst hO 5 dL_tells_148 (by decide) ?_
                refine G_idiv hO dL_tells_149 (by decide) ?_
                refine G_bipush hO 9 dL_tells_150 (by decide) ?_
                refine G_irem hO dL_tells_152 (by decide) ?_
                refine G_iadd hO dL_tells_153 ?_
                refine G_iconst hO 1 dL_tells_154 (by decide) ?_
                refine H_callYi hO (rest := []) 3 [.ref (ad 20 0), .int (1 + (((((a1 >>> (v4 &&& 31)) &&& 65535) + ((a2 / 4) - (a2 / 4) / 100 * 100)) / 5) - ((((a1 >>> (v4 &&& 31)) &&& 65535) + ((a2 / 4) - (a2 / 4) / 100 * 100)) / 5) / 9 * 9)), .int 1] hX (fun l h => c_L_types hm hnr hs h) cv_L_types mw_877 mw_876 rfl rfl (Nat.le_of_ble_eq_true rfl) ⟨by decide, by decide⟩ ⟨by decide, by decide⟩ rfl (by first | (show _ ≤ 68; omega) | (show _ ≤ 1088; omega)) dL_tells_155 ?_
                intro r22 M23 hs
                refine G_if_eq hO 180 dL_tells_158 (by decide) (fun h27 => ?_) (fun h27 => ?_)
                · replace hs := hs.1 h27
                  refine G_iconst hO 0 dL_tells_180 (by decide) ?_
                  refine G_istore_n hO [(3, .int 0), (5, .int (((a1 >>> (v4 &&& 31)) &&& 65535) + ((a2 / 4) - (a2 / 4) / 100 * 100))), (0, .ref (ad 20 0)), (1, .int a1), (2, .int a2), (4, .int v4)] dL_tells_181 rfl (by decide) rfl ?_
                  refine G_iinc hO 5 (v4 + 1) [(4, .int (v4 + 1)), (3, .int 0), (5, .int (((a1 >>> (v4 &&& 31)) &&& 65535) + ((a2 / 4) - (a2 / 4) / 100 * 100))), (0, .ref (ad 20 0)), (1, .int a1), (2, .int a2)] dL_tells_182 rfl rfl (by decide) rfl ?_
                  refine G_goto hO 71 dL_tells_185 (by decide) ?_
                  refine G_lv hO [(0, .ref (ad 20 0)), (1, .int a1), (2, .int a2), (3, .int 0), (4, .int (v4 + 1))] [3, 4, 5, 1, 0] rfl ?_
                  exact ih71 _ _ _ _ (by omega) hs
                · replace hs := hs.2 h27
                  refine G_aload_n hO 1 dL_tells_161 rfl rfl ?_
                  refine G_iload hO 0 dL_tells_162 rfl ?_
                  refine G_iconst hO 3 dL_tells_164 (by decide) ?_
                  refine G_idiv hO dL_tells_165 (by decide) ?_
                  refine G_bipush hO 10 dL_tells_166 (by decide) ?_
                  refine G_irem hO dL_tells_168 (by decide) ?_
                  refine G_iconst hO 1 dL_tells_169 (by decide) ?_
                  refine H_callYi hO (rest := []) 3 [.ref (ad 20 0), .int (((((a1 >>> (v4 &&& 31)) &&& 65535) + ((a2 / 4) - (a2 / 4) / 100 * 100)) / 3) - ((((a1 >>> (v4 &&& 31)) &&& 65535) + ((a2 / 4) - (a2 / 4) / 100 * 100)) / 3) / 10 * 10), .int 1] hX (fun l h => c_L_types hm hnr hs h) cv_L_types mw_877 mw_876 rfl rfl (Nat.le_of_ble_eq_true rfl) ⟨by decide, by decide⟩ ⟨by decide, by decide⟩ rfl (by first | (show _ ≤ 68; omega) | (show _ ≤ 1088; omega)) dL_tells_170 ?_
                  intro r24 M25 hs
                  refine G_if_eq hO 180 dL_tells_173 (by decide) (fun h26 => ?_) (fun h26 => ?_)
                  · replace hs := hs.1 h26
                    refine G_iconst hO 0 dL_tells_180 (by decide) ?_
                    refine G_istore_n hO [(3, .int 0), (5, .int (((a1 >>> (v4 &&& 31)) &&& 65535) + ((a2 / 4) - (a2 / 4) / 100 * 100))), (0, .ref (ad 20 0)), (1, .int a1), (2, .int a2), (4, .int v4)] dL_tells_181 rfl (by decide) rfl ?_
                    refine G_iinc hO 5 (v4 + 1) [(4, .int (v4 + 1)), (3, .int 0), (5, .int (((a1 >>> (v4 &&& 31)) &&& 65535) + ((a2 / 4) - (a2 / 4) / 100 * 100))), (0, .ref (ad 20 0)), (1, .int a1), (2, .int a2)] dL_tells_182 rfl rfl (by decide) rfl ?_
                    refine G_goto hO 71 dL_tells_185 (by decide) ?_
                    refine G_lv hO [(0, .ref (ad 20 0)), (1, .int a1), (2, .int a2), (3, .int 0), (4, .int (v4 + 1))] [3, 4, 5, 1, 0] rfl ?_
                    exact ih71 _ _ _ _ (by omega) hs
                  · replace hs := hs.2 h26
                    refine G_iconst hO 1 dL_tells_176 (by decide) ?_
                    refine G_goto hO 181 dL_tells_177 (by decide) ?_
                    refine G_istore_n hO [(3, .int 1), (5, .int (((a1 >>> (v4 &&& 31)) &&& 65535) + ((a2 / 4) - (a2 / 4) / 100 * 100))), (0, .ref (ad 20 0)), (1, .int a1), (2, .int a2), (4, .int v4)] dL_tells_181 rfl (by decide) rfl ?_
                    refine G_iinc hO 5 (v4 + 1) [(4, .int (v4 + 1)), (3, .int 1), (5, .int (((a1 >>> (v4 &&& 31)) &&& 65535) + ((a2 / 4) - (a2 / 4) / 100 * 100))), (0, .ref (ad 20 0)), (1, .int a1), (2, .int a2)] dL_tells_182 rfl rfl (by decide) rfl ?_
                    refine G_goto hO 71 dL_tells_185 (by decide) ?_
                    refine G_lv hO [(0, .ref (ad 20 0)), (1, .int a1), (2, .int a2), (3, .int 1), (4, .int (v4 + 1))] [3, 4, 5, 1, 0] rfl ?_
                    exact ih71 _ _ _ _ (by omega) hs
  refine G_aload_n hO 0 dL_tells_0 rfl rfl ?_
  refine H_callVi hO (rest := []) 0 [] (fun l => c_X5_clearText hm hs) cv_X5_clearText mw_873 mw_874 mw_872 (hm _ (id_gl (by decide))) cl5 (show sh Λ ad _ O 20 0 = _ by unfold sh; rw [rS_gl]; exact gl_0 _ _ _) rfl rfl (Nat.le_of_ble_eq_true rfl) ⟨by decide, by decide⟩ ⟨by decide, by decide⟩ rfl (by first | (show _ ≤ 68; omega) | (show _ ≤ 1088; omega)) dL_tells_1 ?_
  intro r1 M2 hs
  refine G_if_lt hO 66 dL_tells_4 (by decide) (fun h15 => ?_) (fun h15 => ?_)
  · replace hs := hs.1 h15
    refine G_iconst hO 0 dL_tells_66 (by decide) ?_
    refine G_istore_n hO [(3, .int 0), (0, .ref (ad 20 0)), (1, .int a1), (2, .int a2)] dL_tells_67 rfl (by decide) rfl ?_
    refine G_iconst hO 0 dL_tells_68 (by decide) ?_
    refine G_istore hO [(4, .int 0), (3, .int 0), (0, .ref (ad 20 0)), (1, .int a1), (2, .int a2)] dL_tells_69 (by decide) rfl ?_
    refine G_lv hO [(0, .ref (ad 20 0)), (1, .int a1), (2, .int a2), (3, .int 0), (4, .int 0)] [2, 3, 4, 1, 0] rfl ?_
    exact b71 4 _ _ _ _ (by omega) hs
  · replace hs := hs.2 h15
    refine G_aload_n hO 0 dL_tells_7 rfl rfl ?_
    refine G_bipush hO 77 dL_tells_8 (by decide) ?_
    refine H_callHl hO (rest := []) 1 [.ref (ad 20 0), .int 77] hX (fun l h => c_L_append hm hs h) cw_append mw_800 mw_799 rfl rfl (Nat.le_of_ble_eq_true rfl) ⟨by decide, by decide⟩ ⟨by decide, by decide⟩ rfl (by first | (show _ ≤ 68; omega) | (show _ ≤ 1088; omega)) dL_tells_10 ?_
    intro r3 M4 hs
    refine G_lconst hO 1 dL_tells_13 (by decide) ?_
    refine G_lcmp hO dL_tells_14 ?_
    refine G_if_ne hO 66 dL_tells_15 (by decide) (fun h14 => ?_) (fun h14 => ?_)
    · replace hs := hs.1 h14
      refine G_iconst hO 0 dL_tells_66 (by decide) ?_
      refine G_istore_n hO [(3, .int 0), (0, .ref (ad 20 0)), (1, .int a1), (2, .int a2)] dL_tells_67 rfl (by decide) rfl ?_
      refine G_iconst hO 0 dL_tells_68 (by decide) ?_
      refine G_istore hO [(4, .int 0), (3, .int 0), (0, .ref (ad 20 0)), (1, .int a1), (2, .int a2)] dL_tells_69 (by decide) rfl ?_
      refine G_lv hO [(0, .ref (ad 20 0)), (1, .int a1), (2, .int a2), (3, .int 0), (4, .int 0)] [2, 3, 4, 1, 0] rfl ?_
      exact b71 4 _ _ _ _ (by omega) hs
    · replace hs := hs.2 h14
      refine G_aload_n hO 0 dL_tells_18 rfl rfl ?_
      refine G_iload_n hO 1 dL_tells_19 rfl rfl ?_
      refine G_iconst hO 2 dL_tells_20 (by decide) ?_
      refine G_irem hO dL_tells_21 (by decide) ?_
      refine G_iconst hO 1 dL_tells_22 (by decide) ?_
      refine H_callYi hO (rest := []) 3 [.ref (ad 20 0), .int (a1 - a1 / 2 * 2), .int 1] hX (fun l h => c_L_types hm hnr hs h) cv_L_types mw_877 mw_876 rfl rfl (Nat.le_of_ble_eq_true rfl) ⟨by decide, by decide⟩ ⟨by decide, by decide⟩ rfl (by first | (show _ ≤ 68; omega) | (show _ ≤ 1088; omega)) dL_tells_23 ?_
      intro r5 M6 hs
      refine G_if_eq hO 66 dL_tells_26 (by decide) (fun h13 => ?_) (fun h13 => ?_)
      · replace hs := hs.1 h13
        refine G_iconst hO 0 dL_tells_66 (by decide) ?_
        refine G_istore_n hO [(3, .int 0), (0, .ref (ad 20 0)), (1, .int a1), (2, .int a2)] dL_tells_67 rfl (by decide) rfl ?_
        refine G_iconst hO 0 dL_tells_68 (by decide) ?_
        refine G_istore hO [(4, .int 0), (3, .int 0), (0, .ref (ad 20 0)), (1, .int a1), (2, .int a2)] dL_tells_69 (by decide) rfl ?_
        refine G_lv hO [(0, .ref (ad 20 0)), (1, .int a1), (2, .int a2), (3, .int 0), (4, .int 0)] [2, 3, 4, 1, 0] rfl ?_
        exact b71 4 _ _ _ _ (by omega) hs
      · replace hs := hs.2 h13
        refine G_aload_n hO 0 dL_tells_29 rfl rfl ?_
        refine G_iload_n hO 1 dL_tells_30 rfl rfl ?_
        refine G_iconst hO 2 dL_tells_31 (by decide) ?_
        refine G_idiv hO dL_tells_32 (by decide) ?_
        refine G_bipush hO 100 dL_tells_33 (by decide) ?_
        refine G_irem hO dL_tells_35 (by decide) ?_
        refine G_iconst hO 2 dL_tells_36 (by decide) ?_
        refine H_callYi hO (rest := []) 3 [.ref (ad 20 0), .int ((a1 / 2) - (a1 / 2) / 100 * 100), .int 2] hX (fun l h => c_L_types hm hnr hs h) cv_L_types mw_877 mw_876 rfl rfl (Nat.le_of_ble_eq_true rfl) ⟨by decide, by decide⟩ ⟨by decide, by decide⟩ rfl (by first | (show _ ≤ 68; omega) | (show _ ≤ 1088; omega)) dL_tells_37 ?_
        intro r7 M8 hs
        refine G_if_eq hO 66 dL_tells_40 (by decide) (fun h12 => ?_) (fun h12 => ?_)
        · replace hs := hs.1 h12
          refine G_iconst hO 0 dL_tells_66 (by decide) ?_
          refine G_istore_n hO [(3, .int 0), (0, .ref (ad 20 0)), (1, .int a1), (2, .int a2)] dL_tells_67 rfl (by decide) rfl ?_
          refine G_iconst hO 0 dL_tells_68 (by decide) ?_
          refine G_istore hO [(4, .int 0), (3, .int 0), (0, .ref (ad 20 0)), (1, .int a1), (2, .int a2)] dL_tells_69 (by decide) rfl ?_
          refine G_lv hO [(0, .ref (ad 20 0)), (1, .int a1), (2, .int a2), (3, .int 0), (4, .int 0)] [2, 3, 4, 1, 0] rfl ?_
          exact b71 4 _ _ _ _ (by omega) hs
        · replace hs := hs.2 h12
          refine G_aload_n hO 0 dL_tells_43 rfl rfl ?_
          refine G_bipush hO 30 dL_tells_44 (by decide) ?_
          refine G_iload_n hO 1 dL_tells_46 rfl rfl ?_
          refine G_sipush hO 200 dL_tells_47 (by decide) ?_
          refine G_idiv hO dL_tells_50 (by decide) ?_
          refine G_bipush hO 51 dL_tells_51 (by decide) ?_
          refine G_irem hO dL_tells_53 (by decide) ?_
          refine G_iadd hO dL_tells_54 ?_
          refine G_iconst hO 2 dL_tells_55 (by decide) ?_
          refine H_callYi hO (rest := []) 3 [.ref (ad 20 0), .int (30 + ((a1 / 200) - (a1 / 200) / 51 * 51)), .int 2] hX (fun l h => c_L_types hm hnr hs h) cv_L_types mw_877 mw_876 rfl rfl (Nat.le_of_ble_eq_true rfl) ⟨by decide, by decide⟩ ⟨by decide, by decide⟩ rfl (by first | (show _ ≤ 68; omega) | (show _ ≤ 1088; omega)) dL_tells_56 ?_
          intro r9 M10 hs
          refine G_if_eq hO 66 dL_tells_59 (by decide) (fun h11 => ?_) (fun h11 => ?_)
          · replace hs := hs.1 h11
            refine G_iconst hO 0 dL_tells_66 (by decide) ?_
            refine G_istore_n hO [(3, .int 0), (0, .ref (ad 20 0)), (1, .int a1), (2, .int a2)] dL_tells_67 rfl (by decide) rfl ?_
            refine G_iconst hO 0 dL_tells_68 (by decide) ?_
            refine G_istore hO [(4, .int 0), (3, .int 0), (0, .ref (ad 20 0)), (1, .int a1), (2, .int a2)] dL_tells_69 (by decide) rfl ?_
            refine G_lv hO [(0, .ref (ad 20 0)), (1, .int a1), (2, .int a2), (3, .int 0), (4, .int 0)] [2, 3, 4, 1, 0] rfl ?_
            exact b71 4 _ _ _ _ (by omega) hs
          · replace hs := hs.2 h11
            refine G_iconst hO 1 dL_tells_62 (by decide) ?_
            refine G_goto hO 67 dL_tells_63 (by decide) ?_
            refine G_istore_n hO [(3, .int 1), (0, .ref (ad 20 0)), (1, .int a1), (2, .int a2)] dL_tells_67 rfl (by decide) rfl ?_
            refine G_iconst hO 0 dL_tells_68 (by decide) ?_
            refine G_istore hO [(4, .int 0), (3, .int 1), (0, .ref (ad 20 0)), (1, .int a1), (2, .int a2)] dL_tells_69 (by decide) rfl ?_
            refine G_lv hO [(0, .ref (ad 20 0)), (1, .int a1), (2, .int a2), (3, .int 1), (4, .int 0)] [2, 3, 4, 1, 0] rfl ?_
            exact b71 4 _ _ _ _ (by omega) hs
set_option maxHeartbeats 4000000 in
set_option maxRecDepth 20000 in
theorem c_L_act {l : Launch} {Λ : Lay} {B : Zn} {ids : List (Nat × Nat)} {ad : Nat → Nat → Nat} (hm : ∀ q, q ∈ ids0 → q ∈ ids) (hnr : (20, 6) ∉ ids) {a1 : Int32} {a2 : Int32} {M : Mem} {O : Nat → Int64} {P : Int64 → Mem → Prop} (hs : wL_act a1 a2 M P) (hst : l.stackTraces = false) : CY l yL_act cL_act 4 (some .long) { frames := 8, cells := 1, slots := 16, locals := 161 } Λ B ids ad (sh Λ ad M O) [.ref (ad 20 0), .int a1, .int a2] (Gl Λ ids ad O P) := by
  refine CY.of hst RL [(0, .ref (ad 20 0)), (1, .int a1), (2, .int a2)] (plainFor_of_name (by decide +kernel)) rfl (Nat.le_of_ble_eq_true rfl) rfl (fun Γ hO hX hF => ?_)
  unfold wL_act at hs
  refine G_iload_n hO 2 dL_act_0 rfl rfl ?_
  refine G_bipush hO 6 dL_act_1 (by decide) ?_
  refine G_irem hO dL_act_3 (by decide) ?_
  refine G_istore_n hO [(3, .int (a2 - a2 / 6 * 6)), (0, .ref (ad 20 0)), (1, .int a1), (2, .int a2)] dL_act_4 rfl (by decide) rfl ?_
  refine G_iload_n hO 2 dL_act_5 rfl rfl ?_
  refine G_bipush hO 17 dL_act_6 (by decide) ?_
  refine G_irem hO dL_act_8 (by decide) ?_
  rcases sw_0_15 (a1 - a1 / 17 * 17) with hq | hq
  · replace hs := hs.1 hq
    refine G_tableOut hO 210 dL_act_9 hq (by decide) ?_
    refine G_iload_n hO 3 dL_act_210 rfl rfl ?_
    refine G_iconst hO 2 dL_act_211 (by decide) ?_
    refine G_irem hO dL_act_212 (by decide) ?_
    refine G_if_ne hO 228 dL_act_213 (by decide) (fun h5 => ?_) (fun h5 => ?_)
    · replace hs := hs.1 h5
      refine G_aload_n hO 1 dL_act_228 rfl rfl ?_
      refine G_iload_n hO 3 dL_act_229 rfl rfl ?_
      refine G_iconst hO 2 dL_act_230 (by decide) ?_
      refine G_idiv hO dL_act_231 (by decide) ?_
      refine G_iconst hO 1 dL_act_232 (by decide) ?_
      refine G_iand hO dL_act_233 ?_
      refine H_callHl hO (rest := []) 1 [.ref (ad 20 0), .int ((a2 / 2) &&& 1)] hX (fun l h => c_L_restore hm hs h) cw_restore mw_413 mw_412 rfl rfl (Nat.le_of_ble_eq_true rfl) ⟨by decide, by decide⟩ ⟨by decide, by decide⟩ rfl (by first | (show _ ≤ 1; omega) | (show _ ≤ 16; omega)) dL_act_234 ?_
      intro r1 M2 hs
      exact G_lret hO hF rfl (by first | (show _ ≤ 1; omega) | (show _ ≤ 16; omega)) (by first | (show _ ≤ 1; omega) | (show _ ≤ 16; omega)) dL_act_237 ⟨rfl, rfl, _, _, rfl, rfl, hs⟩
    · replace hs := hs.2 h5
      refine G_aload_n hO 1 dL_act_216 rfl rfl ?_
      refine G_iload_n hO 3 dL_act_217 rfl rfl ?_
      refine G_iconst hO 2 dL_act_218 (by decide) ?_
      refine G_idiv hO dL_act_219 (by decide) ?_
      refine G_iconst hO 1 dL_act_220 (by decide) ?_
      refine G_iand hO dL_act_221 ?_
      refine H_callHl hO (rest := []) 1 [.ref (ad 20 0), .int ((a2 / 2) &&& 1)] hX (fun l h => c_L_save hm hs h) cw_save mw_388 mw_387 rfl rfl (Nat.le_of_ble_eq_true rfl) ⟨by decide, by decide⟩ ⟨by decide, by decide⟩ rfl (by first | (show _ ≤ 1; omega) | (show _ ≤ 16; omega)) dL_act_222 ?_
      intro r3 M4 hs
      refine G_goto hO 237 dL_act_225 (by decide) ?_
      exact G_lret hO hF rfl (by first | (show _ ≤ 1; omega) | (show _ ≤ 16; omega)) (by first | (show _ ≤ 1; omega) | (show _ ≤ 16; omega)) dL_act_237 ⟨rfl, rfl, _, _, rfl, rfl, hs⟩
  · replace hs := hs.2
    rcases hq with hq | hq | hq | hq | hq | hq | hq | hq | hq | hq | hq | hq | hq | hq | hq | hq
    · replace hs := hs.1 hq
      refine G_tableIn hO 88 dL_act_9 (by rw [hq]; decide) (by rw [hq]; decide) (by rw [hq]; rfl) (by decide) ?_
      refine G_aload_n hO 1 dL_act_88 rfl rfl ?_
      refine G_iconst hO 1 dL_act_89 (by decide) ?_
      refine G_iload_n hO 3 dL_act_90 rfl rfl ?_
      refine G_bipush hO 9 dL_act_91 (by decide) ?_
      refine G_irem hO dL_act_93 (by decide) ?_
      refine G_iadd hO dL_act_94 ?_
      refine G_bipush hO 10 dL_act_95 (by decide) ?_
      refine G_iload_n hO 3 dL_act_97 rfl rfl ?_
      refine G_bipush hO 9 dL_act_98 (by decide) ?_
      refine G_idiv hO dL_act_100 (by decide) ?_
      refine G_bipush hO 16 dL_act_101 (by decide) ?_
      refine G_irem hO dL_act_103 (by decide) ?_
      refine G_iadd hO dL_act_104 ?_
      refine G_iconst hO 1 dL_act_105 (by decide) ?_
      refine G_iload_n hO 3 dL_act_106 rfl rfl ?_
      refine G_sipush hO 144 dL_act_107 (by decide) ?_
      refine G_idiv hO dL_act_110 (by decide) ?_
      refine G_bipush hO 9 dL_act_111 (by decide) ?_
      refine G_irem hO dL_act_113 (by decide) ?_
      refine G_iadd hO dL_act_114 ?_
      refine G_iload_n hO 3 dL_act_115 rfl rfl ?_
      refine G_sipush hO 1296 dL_act_116 (by decide) ?_
      refine G_idiv hO dL_act_119 (by decide) ?_
      refine G_bipush hO 10 dL_act_120 (by decide) ?_
      refine G_irem hO dL_act_122 (by decide) ?_
      refine H_callHl hO (rest := []) 1 [.ref (ad 20 0), .int (1 + (a2 - a2 / 9 * 9)), .int (10 + ((a2 / 9) - (a2 / 9) / 16 * 16)), .int (1 + ((a2 / 144) - (a2 / 144) / 9 * 9)), .int ((a2 / 1296) - (a2 / 1296) / 10 * 10)] hX (fun l h => c_L_addRoom hm hs h) cw_addRoom mw_550 mw_549 rfl rfl (Nat.le_of_ble_eq_true rfl) ⟨by decide, by decide⟩ ⟨by decide, by decide⟩ rfl (by first | (show _ ≤ 1; omega) | (show _ ≤ 16; omega)) dL_act_123 ?_
      intro r6 M7 hs
      exact G_lret hO hF rfl (by first | (show _ ≤ 1; omega) | (show _ ≤ 16; omega)) (by first | (show _ ≤ 1; omega) | (show _ ≤ 16; omega)) dL_act_126 ⟨rfl, rfl, _, _, rfl, rfl, hs⟩
    · replace hs := hs.2.1 hq
      refine G_tableIn hO 88 dL_act_9 (by rw [hq]; decide) (by rw [hq]; decide) (by rw [hq]; rfl) (by decide) ?_
      refine G_aload_n hO 1 dL_act_88 rfl rfl ?_
      refine G_iconst hO 1 dL_act_89 (by decide) ?_
      refine G_iload_n hO 3 dL_act_90 rfl rfl ?_
      refine G_bipush hO 9 dL_act_91 (by decide) ?_
      refine G_irem hO dL_act_93 (by decide) ?_
      refine G_iadd hO dL_act_94 ?_
      refine G_bipush hO 10 dL_act_95 (by decide) ?_
      refine G_iload_n hO 3 dL_act_97 rfl rfl ?_
      refine G_bipush hO 9 dL_act_98 (by decide) ?_
      refine G_idiv hO dL_act_100 (by decide) ?_
      refine G_bipush hO 16 dL_act_101 (by decide) ?_
      refine G_irem hO dL_act_103 (by decide) ?_
      refine G_iadd hO dL_act_104 ?_
      refine G_iconst hO 1 dL_act_105 (by decide) ?_
      refine G_iload_n hO 3 dL_act_106 rfl rfl ?_
      refine G_sipush hO 144 dL_act_107 (by decide) ?_
      refine G_idiv hO dL_act_110 (by decide) ?_
      refine G_bipush hO 9 dL_act_111 (by decide) ?_
      refine G_irem hO dL_act_113 (by decide) ?_
      refine G_iadd hO dL_act_114 ?_
      refine G_iload_n hO 3 dL_act_115 rfl rfl ?_
      refine G_sipush hO 1296 dL_act_116 (by decide) ?_
      refine G_idiv hO dL_act_119 (by decide) ?_
      refine G_bipush hO 10 dL_act_120 (by decide) ?_
      refine G_irem hO dL_act_122 (by decide) ?_
      refine H_callHl hO (rest := []) 1 [.ref (ad 20 0), .int (1 + (a2 - a2 / 9 * 9)), .int (10 + ((a2 / 9) - (a2 / 9) / 16 * 16)), .int (1 + ((a2 / 144) - (a2 / 144) / 9 * 9)), .int ((a2 / 1296) - (a2 / 1296) / 10 * 10)] hX (fun l h => c_L_addRoom hm hs h) cw_addRoom mw_550 mw_549 rfl rfl (Nat.le_of_ble_eq_true rfl) ⟨by decide, by decide⟩ ⟨by decide, by decide⟩ rfl (by first | (show _ ≤ 1; omega) | (show _ ≤ 16; omega)) dL_act_123 ?_
      intro r8 M9 hs
      exact G_lret hO hF rfl (by first | (show _ ≤ 1; omega) | (show _ ≤ 16; omega)) (by first | (show _ ≤ 1; omega) | (show _ ≤ 16; omega)) dL_act_126 ⟨rfl, rfl, _, _, rfl, rfl, hs⟩
    · replace hs := hs.2.2.1 hq
      refine G_tableIn hO 127 dL_act_9 (by rw [hq]; decide) (by rw [hq]; decide) (by rw [hq]; rfl) (by decide) ?_
      refine G_aload_n hO 1 dL_act_127 rfl rfl ?_
      refine G_iload_n hO 0 dL_act_128 rfl rfl ?_
      refine G_iload_n hO 3 dL_act_129 rfl rfl ?_
      refine G_bipush hO 6 dL_act_130 (by decide) ?_
      refine G_idiv hO dL_act_132 (by decide) ?_
      refine G_iconst hO 3 dL_act_133 (by decide) ?_
      refine G_irem hO dL_act_134 (by decide) ?_
      refine G_iload_n hO 3 dL_act_135 rfl rfl ?_
      refine G_bipush hO 18 dL_act_136 (by decide) ?_
      refine G_idiv hO dL_act_138 (by decide) ?_
      refine G_bipush hO 26 dL_act_139 (by decide) ?_
      refine G_irem hO dL_act_141 (by decide) ?_
      refine H_callHl hO (rest := []) 1 [.ref (ad 20 0), .int (a2 - a2 / 6 * 6), .int ((a2 / 6) - (a2 / 6) / 3 * 3), .int ((a2 / 18) - (a2 / 18) / 26 * 26)] hX (fun l h => c_L_setRoom hm hs h) cw_setRoom mw_579 mw_578 rfl rfl (Nat.le_of_ble_eq_true rfl) ⟨by decide, by decide⟩ ⟨by decide, by decide⟩ rfl (by first | (show _ ≤ 1; omega) | (show _ ≤ 16; omega)) dL_act_142 ?_
      intro r10 M11 hs
      exact G_lret hO hF rfl (by first | (show _ ≤ 1; omega) | (show _ ≤ 16; omega)) (by first | (show _ ≤ 1; omega) | (show _ ≤ 16; omega)) dL_act_145 ⟨rfl, rfl, _, _, rfl, rfl, hs⟩
    · replace hs := hs.2.2.2.1 hq
      refine G_tableIn hO 127 dL_act_9 (by rw [hq]; decide) (by rw [hq]; decide) (by rw [hq]; rfl) (by decide) ?_
      refine G_aload_n hO 1 dL_act_127 rfl rfl ?_
      refine G_iload_n hO 0 dL_act_128 rfl rfl ?_
      refine G_iload_n hO 3 dL_act_129 rfl rfl ?_
      refine G_bipush hO 6 dL_act_130 (by decide) ?_
      refine G_idiv hO dL_act_132 (by decide) ?_
      refine G_iconst hO 3 dL_act_133 (by decide) ?_
      refine G_irem hO dL_act_134 (by decide) ?_
      refine G_iload_n hO 3 dL_act_135 rfl rfl ?_
      refine G_bipush hO 18 dL_act_136 (by decide) ?_
      refine G_idiv hO dL_act_138 (by decide) ?_
      refine G_bipush hO 26 dL_act_139 (by decide) ?_
      refine G_irem hO dL_act_141 (by decide) ?_
      refine H_callHl hO (rest := []) 1 [.ref (ad 20 0), .int (a2 - a2 / 6 * 6), .int ((a2 / 6) - (a2 / 6) / 3 * 3), .int ((a2 / 18) - (a2 / 18) / 26 * 26)] hX (fun l h => c_L_setRoom hm hs h) cw_setRoom mw_579 mw_578 rfl rfl (Nat.le_of_ble_eq_true rfl) ⟨by decide, by decide⟩ ⟨by decide, by decide⟩ rfl (by first | (show _ ≤ 1; omega) | (show _ ≤ 16; omega)) dL_act_142 ?_
      intro r12 M13 hs
      exact G_lret hO hF rfl (by first | (show _ ≤ 1; omega) | (show _ ≤ 16; omega)) (by first | (show _ ≤ 1; omega) | (show _ ≤ 16; omega)) dL_act_145 ⟨rfl, rfl, _, _, rfl, rfl, hs⟩
    · replace hs := hs.2.2.2.2.1 hq
      refine G_tableIn hO 146 dL_act_9 (by rw [hq]; decide) (by rw [hq]; decide) (by rw [hq]; rfl) (by decide) ?_
      refine G_aload_n hO 1 dL_act_146 rfl rfl ?_
      refine G_iload_n hO 0 dL_act_147 rfl rfl ?_
      refine G_iload_n hO 3 dL_act_148 rfl rfl ?_
      refine G_bipush hO 6 dL_act_149 (by decide) ?_
      refine G_idiv hO dL_act_151 (by decide) ?_
      refine G_iconst hO 2 dL_act_152 (by decide) ?_
      refine G_irem hO dL_act_153 (by decide) ?_
      refine G_if_ne hO 161 dL_act_154 (by decide) (fun h18 => ?_) (fun h18 => ?_)
      · replace hs := hs.1 h18
        refine G_iconst hO 0 dL_act_161 (by decide) ?_
        refine H_callHl hO (rest := []) 1 [.ref (ad 20 0), .int (a2 - a2 / 6 * 6), .int 0] hX (fun l h => c_L_window hm hs h) cw_window mw_594 mw_593 rfl rfl (Nat.le_of_ble_eq_true rfl) ⟨by decide, by decide⟩ ⟨by decide, by decide⟩ rfl (by first | (show _ ≤ 1; omega) | (show _ ≤ 16; omega)) dL_act_162 ?_
        intro r14 M15 hs
        exact G_lret hO hF rfl (by first | (show _ ≤ 1; omega) | (show _ ≤ 16; omega)) (by first | (show _ ≤ 1; omega) | (show _ ≤ 16; omega)) dL_act_165 ⟨rfl, rfl, _, _, rfl, rfl, hs⟩
      · replace hs := hs.2 h18
        refine G_iconst hO 1 dL_act_157 (by decide) ?_
        refine G_goto hO 162 dL_act_158 (by decide) ?_
        refine H_callHl hO (rest := []) 1 [.ref (ad 20 0), .int (a2 - a2 / 6 * 6), .int 1] hX (fun l h => c_L_window hm hs h) cw_window mw_594 mw_593 rfl rfl (Nat.le_of_ble_eq_true rfl) ⟨by decide, by decide⟩ ⟨by decide, by decide⟩ rfl (by first | (show _ ≤ 1; omega) | (show _ ≤ 16; omega)) dL_act_162 ?_
        intro r16 M17 hs
        exact G_lret hO hF rfl (by first | (show _ ≤ 1; omega) | (show _ ≤ 16; omega)) (by first | (show _ ≤ 1; omega) | (show _ ≤ 16; omega)) dL_act_165 ⟨rfl, rfl, _, _, rfl, rfl, hs⟩
    · replace hs := hs.2.2.2.2.2.1 hq
      refine G_tableIn hO 146 dL_act_9 (by rw [hq]; decide) (by rw [hq]; decide) (by rw [hq]; rfl) (by decide) ?_
      refine G_aload_n hO 1 dL_act_146 rfl rfl ?_
      refine G_iload_n hO 0 dL_act_147 rfl rfl ?_
      refine G_iload_n hO 3 dL_act_148 rfl rfl ?_
      refine G_bipush hO 6 dL_act_149 (by decide) ?_
      refine G_idiv hO dL_act_151 (by decide) ?_
      refine G_iconst hO 2 dL_act_152 (by decide) ?_
      refine G_irem hO dL_act_153 (by decide) ?_
      refine G_if_ne hO 161 dL_act_154 (by decide) (fun h23 => ?_) (fun h23 => ?_)
      · replace hs := hs.1 h23
        refine G_iconst hO 0 dL_act_161 (by decide) ?_
        refine H_callHl hO (rest := []) 1 [.ref (ad 20 0), .int (a2 - a2 / 6 * 6), .int 0] hX (fun l h => c_L_window hm hs h) cw_window mw_594 mw_593 rfl rfl (Nat.le_of_ble_eq_true rfl) ⟨by decide, by decide⟩ ⟨by decide, by decide⟩ rfl (by first | (show _ ≤ 1; omega) | (show _ ≤ 16; omega)) dL_act_162 ?_
        intro r19 M20 hs
        exact G_lret hO hF rfl (by first | (show _ ≤ 1; omega) | (show _ ≤ 16; omega)) (by first | (show _ ≤ 1; omega) | (show _ ≤ 16; omega)) dL_act_165 ⟨rfl, rfl, _, _, rfl, rfl, hs⟩
      · replace hs := hs.2 h23
        refine G_iconst hO 1 dL_act_157 (by decide) ?_
        refine G_goto hO 162 dL_act_158 (by decide) ?_
        refine H_callHl hO (rest := []) 1 [.ref (ad 20 0), .int (a2 - a2 / 6 * 6), .int 1] hX (fun l h => c_L_window hm hs h) cw_window mw_594 mw_593 rfl rfl (Nat.le_of_ble_eq_true rfl) ⟨by decide, by decide⟩ ⟨by decide, by decide⟩ rfl (by first | (show _ ≤ 1; omega) | (show _ ≤ 16; omega)) dL_act_162 ?_
        intro r21 M22 hs
        exact G_lret hO hF rfl (by first | (show _ ≤ 1; omega) | (show _ ≤ 16; omega)) (by first | (show _ ≤ 1; omega) | (show _ ≤ 16; omega)) dL_act_165 ⟨rfl, rfl, _, _, rfl, rfl, hs⟩
    · replace hs := hs.2.2.2.2.2.2.1 hq
      refine G_tableIn hO 166 dL_act_9 (by rw [hq]; decide) (by rw [hq]; decide) (by rw [hq]; rfl) (by decide) ?_
      refine G_aload_n hO 1 dL_act_166 rfl rfl ?_
      refine G_iload_n hO 3 dL_act_167 rfl rfl ?_
      refine G_bipush hO 9 dL_act_168 (by decide) ?_
      refine G_irem hO dL_act_170 (by decide) ?_
      refine G_iload_n hO 3 dL_act_171 rfl rfl ?_
      refine G_bipush hO 9 dL_act_172 (by decide) ?_
      refine G_idiv hO dL_act_174 (by decide) ?_
      refine G_bipush hO 81 dL_act_175 (by decide) ?_
      refine G_irem hO dL_act_177 (by decide) ?_
      refine H_callHl hO (rest := []) 1 [.ref (ad 20 0), .int (a2 - a2 / 9 * 9), .int ((a2 / 9) - (a2 / 9) / 81 * 81)] hX (fun l h => c_L_set hm hs h) cw_set mw_605 mw_604 rfl rfl (Nat.le_of_ble_eq_true rfl) ⟨by decide, by decide⟩ ⟨by decide, by decide⟩ rfl (by first | (show _ ≤ 1; omega) | (show _ ≤ 16; omega)) dL_act_178 ?_
      intro r24 M25 hs
      exact G_lret hO hF rfl (by first | (show _ ≤ 1; omega) | (show _ ≤ 16; omega)) (by first | (show _ ≤ 1; omega) | (show _ ≤ 16; omega)) dL_act_181 ⟨rfl, rfl, _, _, rfl, rfl, hs⟩
    · replace hs := hs.2.2.2.2.2.2.2.1 hq
      refine G_tableIn hO 166 dL_act_9 (by rw [hq]; decide) (by rw [hq]; decide) (by rw [hq]; rfl) (by decide) ?_
      refine G_aload_n hO 1 dL_act_166 rfl rfl ?_
      refine G_iload_n hO 3 dL_act_167 rfl rfl ?_
      refine G_bipush hO 9 dL_act_168 (by decide) ?_
      refine G_irem hO dL_act_170 (by decide) ?_
      refine G_iload_n hO 3 dL_act_171 rfl rfl ?_
      refine G_bipush hO 9 dL_act_172 (by decide) ?_
      refine G_idiv hO dL_act_174 (by decide) ?_
      refine G_bipush hO 81 dL_act_175 (by decide) ?_
      refine G_irem hO dL_act_177 (by decide) ?_
      refine H_callHl hO (rest := []) 1 [.ref (ad 20 0), .int (a2 - a2 / 9 * 9), .int ((a2 / 9) - (a2 / 9) / 81 * 81)] hX (fun l h => c_L_set hm hs h) cw_set mw_605 mw_604 rfl rfl (Nat.le_of_ble_eq_true rfl) ⟨by decide, by decide⟩ ⟨by decide, by decide⟩ rfl (by first | (show _ ≤ 1; omega) | (show _ ≤ 16; omega)) dL_act_178 ?_
      intro r26 M27 hs
      exact G_lret hO hF rfl (by first | (show _ ≤ 1; omega) | (show _ ≤ 16; omega)) (by first | (show _ ≤ 1; omega) | (show _ ≤ 16; omega)) dL_act_181 ⟨rfl, rfl, _, _, rfl, rfl, hs⟩
    · replace hs := hs.2.2.2.2.2.2.2.2.1 hq
      refine G_tableIn hO 182 dL_act_9 (by rw [hq]; decide) (by rw [hq]; decide) (by rw [hq]; rfl) (by decide) ?_
      refine G_aload_n hO 1 dL_act_182 rfl rfl ?_
      refine G_iload_n hO 3 dL_act_183 rfl rfl ?_
      refine G_bipush hO 61 dL_act_184 (by decide) ?_
      refine G_irem hO dL_act_186 (by decide) ?_
      refine G_bipush hO 20 dL_act_187 (by decide) ?_
      refine G_isub hO dL_act_189 ?_
      refine H_callHl hO (rest := []) 1 [.ref (ad 20 0), .int ((a2 - a2 / 61 * 61) - 20)] hX (fun l h => c_L_outside hm hs h) cw_outside mw_619 mw_618 rfl rfl (Nat.le_of_ble_eq_true rfl) ⟨by decide, by decide⟩ ⟨by decide, by decide⟩ rfl (by first | (show _ ≤ 1; omega) | (show _ ≤ 16; omega)) dL_act_190 ?_
      intro r28 M29 hs
      exact G_lret hO hF rfl (by first | (show _ ≤ 1; omega) | (show _ ≤ 16; omega)) (by first | (show _ ≤ 1; omega) | (show _ ≤ 16; omega)) dL_act_193 ⟨rfl, rfl, _, _, rfl, rfl, hs⟩
    · replace hs := hs.2.2.2.2.2.2.2.2.2.1 hq
      refine G_tableIn hO 182 dL_act_9 (by rw [hq]; decide) (by rw [hq]; decide) (by rw [hq]; rfl) (by decide) ?_
      refine G_aload_n hO 1 dL_act_182 rfl rfl ?_
      refine G_iload_n hO 3 dL_act_183 rfl rfl ?_
      refine G_bipush hO 61 dL_act_184 (by decide) ?_
      refine G_irem hO dL_act_186 (by decide) ?_
      refine G_bipush hO 20 dL_act_187 (by decide) ?_
      refine G_isub hO dL_act_189 ?_
      refine H_callHl hO (rest := []) 1 [.ref (ad 20 0), .int ((a2 - a2 / 61 * 61) - 20)] hX (fun l h => c_L_outside hm hs h) cw_outside mw_619 mw_618 rfl rfl (Nat.le_of_ble_eq_true rfl) ⟨by decide, by decide⟩ ⟨by decide, by decide⟩ rfl (by first | (show _ ≤ 1; omega) | (show _ ≤ 16; omega)) dL_act_190 ?_
      intro r30 M31 hs
      exact G_lret hO hF rfl (by first | (show _ ≤ 1; omega) | (show _ ≤ 16; omega)) (by first | (show _ ≤ 1; omega) | (show _ ≤ 16; omega)) dL_act_193 ⟨rfl, rfl, _, _, rfl, rfl, hs⟩
    · replace hs := hs.2.2.2.2.2.2.2.2.2.2.1 hq
      refine G_tableIn hO 194 dL_act_9 (by rw [hq]; decide) (by rw [hq]; decide) (by rw [hq]; rfl) (by decide) ?_
      refine G_aload_n hO 1 dL_act_194 rfl rfl ?_
      refine G_iconst hO 1 dL_act_195 (by decide) ?_
      refine G_iload_n hO 3 dL_act_196 rfl rfl ?_
      refine G_bipush hO 60 dL_act_197 (by decide) ?_
      refine G_irem hO dL_act_199 (by decide) ?_
      refine G_iadd hO dL_act_200 ?_
      refine H_callHl hO (rest := []) 1 [.ref (ad 20 0), .int (1 + (a2 - a2 / 60 * 60))] hX (fun l h => c_L_pass hm hs h) cw_pass mw_630 mw_629 rfl rfl (Nat.le_of_ble_eq_true rfl) ⟨by decide, by decide⟩ ⟨by decide, by decide⟩ rfl (by first | (show _ ≤ 1; omega) | (show _ ≤ 16; omega)) dL_act_201 ?_
      intro r32 M33 hs
      exact G_lret hO hF rfl (by first | (show _ ≤ 1; omega) | (show _ ≤ 16; omega)) (by first | (show _ ≤ 1; omega) | (show _ ≤ 16; omega)) dL_act_204 ⟨rfl, rfl, _, _, rfl, rfl, hs⟩
    · replace hs := hs.2.2.2.2.2.2.2.2.2.2.2.1 hq
      refine G_tableIn hO 194 dL_act_9 (by rw [hq]; decide) (by rw [hq]; decide) (by rw [hq]; rfl) (by decide) ?_
      refine G_aload_n hO 1 dL_act_194 rfl rfl ?_
      refine G_iconst hO 1 dL_act_195 (by decide) ?_
      refine G_iload_n hO 3 dL_act_196 rfl rfl ?_
      refine G_bipush hO 60 dL_act_197 (by decide) ?_
      refine G_irem hO dL_act_199 (by decide) ?_
      refine G_iadd hO dL_act_200 ?_
      refine H_callHl hO (rest := []) 1 [.ref (ad 20 0), .int (1 + (a2 - a2 / 60 * 60))] hX (fun l h => c_L_pass hm hs h) cw_pass mw_630 mw_629 rfl rfl (Nat.le_of_ble_eq_true rfl) ⟨by decide, by decide⟩ ⟨by decide, by decide⟩ rfl (by first | (show _ ≤ 1; omega) | (show _ ≤ 16; omega)) dL_act_201 ?_
      intro r34 M35 hs
      exact G_lret hO hF rfl (by first | (show _ ≤ 1; omega) | (show _ ≤ 16; omega)) (by first | (show _ ≤ 1; omega) | (show _ ≤ 16; omega)) dL_act_204 ⟨rfl, rfl, _, _, rfl, rfl, hs⟩
    · replace hs := hs.2.2.2.2.2.2.2.2.2.2.2.2.1 hq
      refine G_tableIn hO 194 dL_act_9 (by rw [hq]; decide) (by rw [hq]; decide) (by rw [hq]; rfl) (by decide) ?_
      refine G_aload_n hO 1 dL_act_194 rfl rfl ?_
      refine G_iconst hO 1 dL_act_195 (by decide) ?_
      refine G_iload_n hO 3 dL_act_196 rfl rfl ?_
      refine G_bipush hO 60 dL_act_197 (by decide) ?_
      refine G_irem hO dL_act_199 (by decide) ?_
      refine G_iadd hO dL_act_200 ?_
      refine H_callHl hO (rest := []) 1 [.ref (ad 20 0), .int (1 + (a2 - a2 / 60 * 60))] hX (fun l h => c_L_pass hm hs h) cw_pass mw_630 mw_629 rfl rfl (Nat.le_of_ble_eq_true rfl) ⟨by decide, by decide⟩ ⟨by decide, by decide⟩ rfl (by first | (show _ ≤ 1; omega) | (show _ ≤ 16; omega)) dL_act_201 ?_
      intro r36 M37 hs
      exact G_lret hO hF rfl (by first | (show _ ≤ 1; omega) | (show _ ≤ 16; omega)) (by first | (show _ ≤ 1; omega) | (show _ ≤ 16; omega)) dL_act_204 ⟨rfl, rfl, _, _, rfl, rfl, hs⟩
    · replace hs := hs.2.2.2.2.2.2.2.2.2.2.2.2.2.1 hq
      refine G_tableIn hO 194 dL_act_9 (by rw [hq]; decide) (by rw [hq]; decide) (by rw [hq]; rfl) (by decide) ?_
      refine G_aload_n hO 1 dL_act_194 rfl rfl ?_
      refine G_iconst hO 1 dL_act_195 (by decide) ?_
      refine G_iload_n hO 3 dL_act_196 rfl rfl ?_
      refine G_bipush hO 60 dL_act_197 (by decide) ?_
      refine G_irem hO dL_act_199 (by decide) ?_
      refine G_iadd hO dL_act_200 ?_
      refine H_callHl hO (rest := []) 1 [.ref (ad 20 0), .int (1 + (a2 - a2 / 60 * 60))] hX (fun l h => c_L_pass hm hs h) cw_pass mw_630 mw_629 rfl rfl (Nat.le_of_ble_eq_true rfl) ⟨by decide, by decide⟩ ⟨by decide, by decide⟩ rfl (by first | (show _ ≤ 1; omega) | (show _ ≤ 16; omega)) dL_act_201 ?_
      intro r38 M39 hs
      exact G_lret hO hF rfl (by first | (show _ ≤ 1; omega) | (show _ ≤ 16; omega)) (by first | (show _ ≤ 1; omega) | (show _ ≤ 16; omega)) dL_act_204 ⟨rfl, rfl, _, _, rfl, rfl, hs⟩
    · replace hs := hs.2.2.2.2.2.2.2.2.2.2.2.2.2.2.1 hq
      refine G_tableIn hO 205 dL_act_9 (by rw [hq]; decide) (by rw [hq]; decide) (by rw [hq]; rfl) (by decide) ?_
      refine G_aload_n hO 1 dL_act_205 rfl rfl ?_
      refine H_callHl hO (rest := []) 1 [.ref (ad 20 0)] hX (fun l h => c_L_undo hm hs h) cw_undo mw_842 mw_841 rfl rfl (Nat.le_of_ble_eq_true rfl) ⟨by decide, by decide⟩ ⟨by decide, by decide⟩ rfl (by first | (show _ ≤ 1; omega) | (show _ ≤ 16; omega)) dL_act_206 ?_
      intro r40 M41 hs
      exact G_lret hO hF rfl (by first | (show _ ≤ 1; omega) | (show _ ≤ 16; omega)) (by first | (show _ ≤ 1; omega) | (show _ ≤ 16; omega)) dL_act_209 ⟨rfl, rfl, _, _, rfl, rfl, hs⟩
    · replace hs := hs.2.2.2.2.2.2.2.2.2.2.2.2.2.2.2 hq
      refine G_tableIn hO 205 dL_act_9 (by rw [hq]; decide) (by rw [hq]; decide) (by rw [hq]; rfl) (by decide) ?_
      refine G_aload_n hO 1 dL_act_205 rfl rfl ?_
      refine H_callHl hO (rest := []) 1 [.ref (ad 20 0)] hX (fun l h => c_L_undo hm hs h) cw_undo mw_842 mw_841 rfl rfl (Nat.le_of_ble_eq_true rfl) ⟨by decide, by decide⟩ ⟨by decide, by decide⟩ rfl (by first | (show _ ≤ 1; omega) | (show _ ≤ 16; omega)) dL_act_206 ?_
      intro r42 M43 hs
      exact G_lret hO hF rfl (by first | (show _ ≤ 1; omega) | (show _ ≤ 16; omega)) (by first | (show _ ≤ 1; omega) | (show _ ≤ 16; omega)) dL_act_209 ⟨rfl, rfl, _, _, rfl, rfl, hs⟩
