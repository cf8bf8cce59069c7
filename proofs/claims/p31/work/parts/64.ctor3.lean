def cG : Reg := va_up c00 3 (fun k => Int32.ofNat k)
def M0 : Mem := fun i => if i < 18 then cI else if i = 20 then cG else c00
theorem cG3 : ∀ k, k < 14 → (cG 3 k).toNatClampNeg = k := by decide
theorem M0_st {i : Nat} (h : i < 18) : M0 i = cI := by simp [M0, h]
theorem M0_gl : M0 20 = cG := by simp [M0]
set_option maxHeartbeats 4000000 in
set_option maxRecDepth 20000 in
theorem c_X5_init {l : Launch} {Λ : Lay} {B : Zn} {ids : List (Nat × Nat)} {ad : Nat → Nat → Nat} {w : Nat → Nat → va_E} {A : Nat} (hA : ad 20 0 = A) (h0 : (20, 0) ∈ ids) (h20 : ∀ j, 0 < j → (20, j) ∉ ids) (hfr : ∀ i j, i < 18 → (i, j) ∉ ids) (hw : w 20 0 = .inr (5, [.null, .int 0, .null, .null, .null, .null, .null])) : CT l yX5_init cX5_init 2 none { frames := 4, cells := 275, slots := 3142, locals := 122 } Λ B ids ad w [.ref A] (fun v ids' ad' w' => v = none ∧ (∀ q : Nat × Nat, q ∈ ids' ↔ q ∈ ids ∨ (q.1 < 18 ∧ q.2 < 15) ∨ (q.1 = 20 ∧ 1 ≤ q.2 ∧ q.2 ≤ 5)) ∧ (∀ i, 18 ≤ i → i ≠ 20 → ad' i = ad i) ∧ ad' 20 0 = ad 20 0 ∧ w' = (fun i => if i < 18 ∨ i = 20 then rS Λ ad' (fun _ => 0) i (M0 i) else w i)) := by
  refine CT.ofI RX5 [(0, .ref A)] (plainFor_of_name (by decide +kernel)) rfl rfl (Nat.le_of_ble_eq_true rfl) rfl (fun Γ hO hN hF => ?_)
  refine G_aload_n hO 0 dX5_init_0 rfl rfl ?_
  refine G_objInit hO mw_20 (Nat.le_of_ble_eq_true rfl) (Nat.le_of_ble_eq_true rfl) dX5_init_1 ?_
  refine G_aload_n hO 0 dX5_init_4 rfl rfl ?_
  refine G_bipush hO 80 dX5_init_5 (by decide) ?_
  refine A_newaC hO 80 20 1 (by simp [h0, hfr, h20, mem_stL]) mw_55 (by decide) (by decide) (by decide) (Nat.le_of_ble_eq_true rfl) (Nat.le_of_ble_eq_true rfl) dX5_init_7 (fun a1 => ?_)
  refine A_putF (i := 20) (j := 0) hO hN cl5 (by simp [ad2, va_up, hA]) (fs := [.null, .int 0, .null, .null, .null, .null, .null]) 0 (by simp [h0, hfr, h20, mem_stL]) (by simp [up2, va_up, hw, st_0]) (by decide) mw_177 rfl rfl rfl rfl rfl (Nat.le_of_ble_eq_true rfl) dX5_init_9 ?_
  refine G_aload_n hO 0 dX5_init_12 rfl rfl ?_
  refine G_new hO (fs := [.int 0, .int 0, .int 0, .int 0, .int 0, .int 0, .int 0, .int 0, .int 0, .null, .null, .null, .null, .null]) cl3 0 0 (by simp [h0, hfr, h20, mem_stL]) mw_23 mw_24 mw_2 (by intro q hq; rcases (by omega : q = 0 ∨ q = 1 ∨ q = 2 ∨ q = 3 ∨ q = 4 ∨ q = 5 ∨ q = 6 ∨ q = 7 ∨ q = 8 ∨ q = 9 ∨ q = 10 ∨ q = 11 ∨ q = 12 ∨ q = 13) with h | h | h | h | h | h | h | h | h | h | h | h | h | h <;> subst h <;> rfl) (Nat.le_of_ble_eq_true rfl) (Nat.le_of_ble_eq_true rfl) dX5_init_13 (fun s0 => ?_)
  refine G_dup hO dX5_init_16 rfl ?_
  refine G_callI hO (rest := [.ref s0, .ref A]) [] (fun l => c_X3_initA (n := 0) (A := s0) (by simp [ad2, va_up, hA]) (by intro j; simp [h0, hfr, h20, mem_stL]; try omega) (by simp [up2, va_up, hw, st_0])) cv_X3_init mw_26 rfl mw_25 rfl rfl (Nat.le_of_ble_eq_true rfl) (by decide) (by decide) dX5_init_17 ?_
  rintro v ids0 aD0 w0 ⟨rfl, hids0, ⟨f0, hf0, had0⟩, hw0⟩
  show G Γ _ _ 16 249 _ _ _ [.ref s0, .ref A]
  refine A_putF (i := 20) (j := 0) hO hN cl5 (by simp [ad2, va_up, hA, had0, hf0]) (fs := [.ref a1, .int 0, .null, .null, .null, .null, .null]) 2 (by simp [h0, hfr, h20, mem_stL, hids0]) (by simp [up2, va_up, hw, st_0, hw0]) (by decide) mw_179 rfl rfl rfl rfl rfl (Nat.le_of_ble_eq_true rfl) dX5_init_20 ?_
  refine G_aload_n hO 0 dX5_init_23 rfl rfl ?_
  refine G_new hO (fs := [.int 0, .int 0, .int 0, .int 0, .int 0, .int 0, .int 0, .int 0, .int 0, .null, .null, .null, .null, .null]) cl3 1 0 (by simp [h0, hfr, h20, mem_stL, hids0]) mw_23 mw_24 mw_2 (by intro q hq; rcases (by omega : q = 0 ∨ q = 1 ∨ q = 2 ∨ q = 3 ∨ q = 4 ∨ q = 5 ∨ q = 6 ∨ q = 7 ∨ q = 8 ∨ q = 9 ∨ q = 10 ∨ q = 11 ∨ q = 12 ∨ q = 13) with h | h | h | h | h | h | h | h | h | h | h | h | h | h <;> subst h <;> rfl) (Nat.le_of_ble_eq_true rfl) (Nat.le_of_ble_eq_true rfl) dX5_init_24 (fun s1 => ?_)
  refine G_dup hO dX5_init_27 rfl ?_
  refine G_callI hO (rest := [.ref s1, .ref A]) [] (fun l => c_X3_initA (n := 1) (A := s1) (by simp [ad2, va_up, hA, had0, hf0]) (by intro j; simp [h0, hfr, h20, mem_stL, hids0]; try omega) (by simp [up2, va_up, hw, st_0, hw0])) cv_X3_init mw_26 rfl mw_25 rfl rfl (Nat.le_of_ble_eq_true rfl) (by decide) (by decide) dX5_init_28 ?_
  rintro v ids1 aD1 w1 ⟨rfl, hids1, ⟨f1, hf1, had1⟩, hw1⟩
  show G Γ _ _ 31 418 _ _ _ [.ref s1, .ref A]
  refine A_putF (i := 20) (j := 0) hO hN cl5 (by simp [ad2, va_up, hA, had0, hf0, had1, hf1]) (fs := [.ref a1, .int 0, .ref s0, .null, .null, .null, .null]) 3 (by simp [h0, hfr, h20, mem_stL, hids0, hids1]) (by simp [up2, va_up, hw, st_0, hw0, hw1]) (by decide) mw_180 rfl rfl rfl rfl rfl (Nat.le_of_ble_eq_true rfl) dX5_init_31 ?_
  refine G_aload_n hO 0 dX5_init_34 rfl rfl ?_
  refine G_new hO (fs := [.null, .int 0]) cl0 20 2 (by simp [h0, hfr, h20, mem_stL, hids0, hids1]) mw_160 mw_161 mw_6 (by intro q hq; rcases (by omega : q = 0 ∨ q = 1) with h | h <;> subst h <;> rfl) (Nat.le_of_ble_eq_true rfl) (Nat.le_of_ble_eq_true rfl) dX5_init_35 (fun a2 => ?_)
  refine G_dup hO dX5_init_38 rfl ?_
  refine G_callI hO (rest := [.ref a2, .ref A]) [] (fun l => c_X0_init (A := a2) (by simp [ad2, va_up, hA, had0, hf0, had1, hf1]) (by simp [h0, hfr, h20, mem_stL, hids0, hids1]) (by simp [h0, hfr, h20, mem_stL, hids0, hids1]) (by intro i j hi hi2; simp [h0, hfr i j (by omega), h20, mem_stL, hids0, hids1]; omega) (by simp [up2, va_up, hw, st_0, hw0, hw1])) cv_X0_init mw_163 rfl mw_162 rfl rfl (Nat.le_of_ble_eq_true rfl) (by decide) (by decide) dX5_init_39 ?_
  rintro v idsH aDH wH ⟨rfl, hidsH, hb1, hb2, hwH⟩
  show G Γ _ _ 243 2800 _ _ _ [.ref a2, .ref A]
  refine A_putF (i := 20) (j := 0) hO hN cl5 (by simp [ad2, va_up, hA, had0, hf0, had1, hf1, hb1, hb2]) (fs := [.ref a1, .int 0, .ref s0, .ref s1, .null, .null, .null]) 4 (by simp [h0, hfr, h20, mem_stL, hids0, hids1, hidsH]) (by simp [up2, va_up, hw, st_0, hw0, hw1, hwH]) (by decide) mw_181 rfl rfl rfl rfl rfl (Nat.le_of_ble_eq_true rfl) dX5_init_42 ?_
  refine G_aload_n hO 0 dX5_init_45 rfl rfl ?_
  refine G_iconst hO 2 dX5_init_46 (by decide) ?_
  refine A_newqS hO 2 20 4 (by simp [h0, hfr, h20, mem_stL, hids0, hids1, hidsH]) mw_23 (by decide) (by decide) (by decide) (Nat.le_of_ble_eq_true rfl) (Nat.le_of_ble_eq_true rfl) dX5_init_47 (fun a4 => ?_)
  refine A_putF (i := 20) (j := 0) hO hN cl5 (by simp [ad2, va_up, hA, had0, hf0, had1, hf1, hb1, hb2]) (fs := [.ref a1, .int 0, .ref s0, .ref s1, .ref a2, .null, .null]) 5 (by simp [h0, hfr, h20, mem_stL, hids0, hids1, hidsH]) (by simp [up2, va_up, hw, st_0, hw0, hw1, hwH]) (by decide) mw_182 rfl rfl rfl rfl rfl (Nat.le_of_ble_eq_true rfl) dX5_init_50 ?_
  refine G_aload_n hO 0 dX5_init_53 rfl rfl ?_
  refine G_iconst hO 2 dX5_init_54 (by decide) ?_
  refine A_newaZ hO 2 20 5 (by simp [h0, hfr, h20, mem_stL, hids0, hids1, hidsH]) mw_199 (by decide) (by decide) (by decide) (Nat.le_of_ble_eq_true rfl) (Nat.le_of_ble_eq_true rfl) dX5_init_55 (fun a5 => ?_)
  refine A_putF (i := 20) (j := 0) hO hN cl5 (by simp [ad2, va_up, hA, had0, hf0, had1, hf1, hb1, hb2]) (fs := [.ref a1, .int 0, .ref s0, .ref s1, .ref a2, .ref a4, .null]) 6 (by simp [h0, hfr, h20, mem_stL, hids0, hids1, hidsH]) (by simp [up2, va_up, hw, st_0, hw0, hw1, hwH]) (by decide) mw_183 rfl rfl rfl rfl rfl (Nat.le_of_ble_eq_true rfl) dX5_init_57 ?_
  refine G_iconst hO 0 dX5_init_60 (by decide) ?_
  refine G_istore_n hO [(1, .int 0), (0, .ref A)] dX5_init_61 rfl (by decide) rfl ?_
  refine G_iload_n hO 0 dX5_init_62 rfl rfl ?_
  refine G_aload_n hO 1 dX5_init_63 rfl rfl ?_
  refine A_getf (i := 20) (j := 0) hO cl5 (by simp [ad2, va_up, hA, had0, hf0, had1, hf1, hb1, hb2]) (fs := [.ref a1, .int 0, .ref s0, .ref s1, .ref a2, .ref a4, .ref a5]) (v := .ref a4) 5 (by simp [h0, hfr, h20, mem_stL, hids0, hids1, hidsH]) (by simp [up2, va_up, hw, st_0, hw0, hw1, hwH]) (by decide) mw_182 rfl rfl dX5_init_64 ?_
  refine A_alen (i := 20) (j := 4) hO (by simp [ad2, va_up, hA, had0, hf0, had1, hf1, hb1, hb2]) (a := (2, .inr (.inr (.inr (.inr (fun _ => none)))))) (v := 2) 4 (by simp [h0, hfr, h20, mem_stL, hids0, hids1, hidsH]) (by simp [up2, va_up, hw, st_0, hw0, hw1, hwH]) rfl rfl dX5_init_67 ?_
  refine G_icmp_ge hO 90 dX5_init_68 (by decide) (fun h9 => absurd h9 (by decide)) (fun _ => ?_)
  refine G_aload_n hO 1 dX5_init_71 rfl rfl ?_
  refine A_getf (i := 20) (j := 0) hO cl5 (by simp [ad2, va_up, hA, had0, hf0, had1, hf1, hb1, hb2]) (fs := [.ref a1, .int 0, .ref s0, .ref s1, .ref a2, .ref a4, .ref a5]) (v := .ref a4) 5 (by simp [h0, hfr, h20, mem_stL, hids0, hids1, hidsH]) (by simp [up2, va_up, hw, st_0, hw0, hw1, hwH]) (by decide) mw_182 rfl rfl dX5_init_72 ?_
  refine G_iload_n hO 0 dX5_init_75 rfl rfl ?_
  refine G_new hO (fs := [.int 0, .int 0, .int 0, .int 0, .int 0, .int 0, .int 0, .int 0, .int 0, .null, .null, .null, .null, .null]) cl3 16 0 (by simp [h0, hfr, h20, mem_stL, hids0, hids1, hidsH]) mw_23 mw_24 mw_2 (by intro q hq; rcases (by omega : q = 0 ∨ q = 1 ∨ q = 2 ∨ q = 3 ∨ q = 4 ∨ q = 5 ∨ q = 6 ∨ q = 7 ∨ q = 8 ∨ q = 9 ∨ q = 10 ∨ q = 11 ∨ q = 12 ∨ q = 13) with h | h | h | h | h | h | h | h | h | h | h | h | h | h <;> subst h <;> rfl) (Nat.le_of_ble_eq_true rfl) (Nat.le_of_ble_eq_true rfl) dX5_init_76 (fun s2 => ?_)
  refine G_dup hO dX5_init_79 rfl ?_
  refine G_callI hO (rest := [.ref s2, .int 0, .ref a4]) [] (fun l => c_X3_initA (n := 16) (A := s2) (by simp [ad2, va_up, hA, had0, hf0, had1, hf1, hb1, hb2]) (by intro j; simp [h0, hfr, h20, mem_stL, hids0, hids1, hidsH]; try omega) (by simp [up2, va_up, hw, st_0, hw0, hw1, hwH])) cv_X3_init mw_26 rfl mw_25 rfl rfl (Nat.le_of_ble_eq_true rfl) (by decide) (by decide) dX5_init_80 ?_
  rintro v ids2 aD2 w2 ⟨rfl, hids2, ⟨f2, hf2, had2⟩, hw2⟩
  show G Γ _ _ 260 2973 _ _ _ [.ref s2, .int 0, .ref a4]
  refine A_aastS (n := 2) (i := 20) (j := 4) (a := 16) (b := 0) hO (by simp [ad2, va_up, hA, had0, hf0, had1, hf1, hb1, hb2, had2, hf2]) (by simp [ad2, va_up, hA, had0, hf0, had1, hf1, hb1, hb2, had2, hf2]) (f := (fun _ => none)) 0 (by decide) (vs := stF aD2 16 cI) (by simp [h0, hfr, h20, mem_stL, hids0, hids1, hidsH, hids2]) (by simp [up2, va_up, hw, st_0, hw0, hw1, hwH, hw2]) (by simp [h0, hfr, h20, mem_stL, hids0, hids1, hidsH, hids2]) (by simp [up2, va_up, hw, st_0, hw0, hw1, hwH, hw2]) (vp_lit (by decide)) dX5_init_83 ?_
  refine G_iinc hO 0 1 [(1, .int 1), (0, .ref A)] dX5_init_84 rfl (by decide) (by decide) rfl ?_
  refine G_goto hO 62 dX5_init_87 (by decide) ?_
  refine G_iload_n hO 0 dX5_init_62 rfl rfl ?_
  refine G_aload_n hO 1 dX5_init_63 rfl rfl ?_
  refine A_getf (i := 20) (j := 0) hO cl5 (by simp [ad2, va_up, hA, had0, hf0, had1, hf1, hb1, hb2, had2, hf2]) (fs := [.ref a1, .int 0, .ref s0, .ref s1, .ref a2, .ref a4, .ref a5]) (v := .ref a4) 5 (by simp [h0, hfr, h20, mem_stL, hids0, hids1, hidsH, hids2]) (by simp [up2, va_up, hw, st_0, hw0, hw1, hwH, hw2]) (by decide) mw_182 rfl rfl dX5_init_64 ?_
  refine A_alen (i := 20) (j := 4) hO (by simp [ad2, va_up, hA, had0, hf0, had1, hf1, hb1, hb2, had2, hf2]) (a := (2, .inr (.inr (.inr (.inr (va_up (fun _ => none) 0 (some s2))))))) (v := 2) 4 (by simp [h0, hfr, h20, mem_stL, hids0, hids1, hidsH, hids2]) (by simp [up2, va_up, hw, st_0, hw0, hw1, hwH, hw2]) rfl rfl dX5_init_67 ?_
  refine G_icmp_ge hO 90 dX5_init_68 (by decide) (fun h9 => absurd h9 (by decide)) (fun _ => ?_)
  refine G_aload_n hO 1 dX5_init_71 rfl rfl ?_
  refine A_getf (i := 20) (j := 0) hO cl5 (by simp [ad2, va_up, hA, had0, hf0, had1, hf1, hb1, hb2, had2, hf2]) (fs := [.ref a1, .int 0, .ref s0, .ref s1, .ref a2, .ref a4, .ref a5]) (v := .ref a4) 5 (by simp [h0, hfr, h20, mem_stL, hids0, hids1, hidsH, hids2]) (by simp [up2, va_up, hw, st_0, hw0, hw1, hwH, hw2]) (by decide) mw_182 rfl rfl dX5_init_72 ?_
  refine G_iload_n hO 0 dX5_init_75 rfl rfl ?_
  refine G_new hO (fs := [.int 0, .int 0, .int 0, .int 0, .int 0, .int 0, .int 0, .int 0, .int 0, .null, .null, .null, .null, .null]) cl3 17 0 (by simp [h0, hfr, h20, mem_stL, hids0, hids1, hidsH, hids2]) mw_23 mw_24 mw_2 (by intro q hq; rcases (by omega : q = 0 ∨ q = 1 ∨ q = 2 ∨ q = 3 ∨ q = 4 ∨ q = 5 ∨ q = 6 ∨ q = 7 ∨ q = 8 ∨ q = 9 ∨ q = 10 ∨ q = 11 ∨ q = 12 ∨ q = 13) with h | h | h | h | h | h | h | h | h | h | h | h | h | h <;> subst h <;> rfl) (Nat.le_of_ble_eq_true rfl) (Nat.le_of_ble_eq_true rfl) dX5_init_76 (fun s3 => ?_)
  refine G_dup hO dX5_init_79 rfl ?_
  refine G_callI hO (rest := [.ref s3, .int 1, .ref a4]) [] (fun l => c_X3_initA (n := 17) (A := s3) (by simp [ad2, va_up, hA, had0, hf0, had1, hf1, hb1, hb2, had2, hf2]) (by intro j; simp [h0, hfr, h20, mem_stL, hids0, hids1, hidsH, hids2]; try omega) (by simp [up2, va_up, hw, st_0, hw0, hw1, hwH, hw2])) cv_X3_init mw_26 rfl mw_25 rfl rfl (Nat.le_of_ble_eq_true rfl) (by decide) (by decide) dX5_init_80 ?_
  rintro v ids3 aD3 w3 ⟨rfl, hids3, ⟨f3, hf3, had3⟩, hw3⟩
  show G Γ _ _ 275 3142 _ _ _ [.ref s3, .int 1, .ref a4]
  refine A_aastS (n := 2) (i := 20) (j := 4) (a := 17) (b := 0) hO (by simp [ad2, va_up, hA, had0, hf0, had1, hf1, hb1, hb2, had2, hf2, had3, hf3]) (by simp [ad2, va_up, hA, had0, hf0, had1, hf1, hb1, hb2, had2, hf2, had3, hf3]) (f := (va_up (fun _ => none) 0 (some s2))) 1 (by decide) (vs := stF aD3 17 cI) (by simp [h0, hfr, h20, mem_stL, hids0, hids1, hidsH, hids2, hids3]) (by simp [up2, va_up, hw, st_0, hw0, hw1, hwH, hw2, hw3]) (by simp [h0, hfr, h20, mem_stL, hids0, hids1, hidsH, hids2, hids3]) (by simp [up2, va_up, hw, st_0, hw0, hw1, hwH, hw2, hw3]) (vp_lit (by decide)) dX5_init_83 ?_
  refine G_iinc hO 0 2 [(1, .int 2), (0, .ref A)] dX5_init_84 rfl (by decide) (by decide) rfl ?_
  refine G_goto hO 62 dX5_init_87 (by decide) ?_
  refine G_iload_n hO 0 dX5_init_62 rfl rfl ?_
  refine G_aload_n hO 1 dX5_init_63 rfl rfl ?_
  refine A_getf (i := 20) (j := 0) hO cl5 (by simp [ad2, va_up, hA, had0, hf0, had1, hf1, hb1, hb2, had2, hf2, had3, hf3]) (fs := [.ref a1, .int 0, .ref s0, .ref s1, .ref a2, .ref a4, .ref a5]) (v := .ref a4) 5 (by simp [h0, hfr, h20, mem_stL, hids0, hids1, hidsH, hids2, hids3]) (by simp [up2, va_up, hw, st_0, hw0, hw1, hwH, hw2, hw3]) (by decide) mw_182 rfl rfl dX5_init_64 ?_
  refine A_alen (i := 20) (j := 4) hO (by simp [ad2, va_up, hA, had0, hf0, had1, hf1, hb1, hb2, had2, hf2, had3, hf3]) (a := (2, .inr (.inr (.inr (.inr (va_up (va_up (fun _ => none) 0 (some s2)) 1 (some s3))))))) (v := 2) 4 (by simp [h0, hfr, h20, mem_stL, hids0, hids1, hidsH, hids2, hids3]) (by simp [up2, va_up, hw, st_0, hw0, hw1, hwH, hw2, hw3]) rfl rfl dX5_init_67 ?_
  refine G_icmp_ge hO 90 dX5_init_68 (by decide) (fun _ => ?_) (fun h9 => absurd (by decide) h9)
  refine G_cong hO (fun i => if i < 18 ∨ i = 20 then rS Λ aD3 (fun _ => 0) i (M0 i) else w i) ?_ ?_
  · intro q hq
    obtain ⟨i, j⟩ := q
    have n1 : aD3 20 1 = a1 := by simp [ad2, va_up, hA, had0, hf0, had1, hf1, hb1, hb2, had2, hf2, had3, hf3]
    have n2 : aD3 20 2 = a2 := by simp [ad2, va_up, hA, had0, hf0, had1, hf1, hb1, hb2, had2, hf2, had3, hf3]
    have n4 : aD3 20 4 = a4 := by simp [ad2, va_up, hA, had0, hf0, had1, hf1, hb1, hb2, had2, hf2, had3, hf3]
    have n5 : aD3 20 5 = a5 := by simp [ad2, va_up, hA, had0, hf0, had1, hf1, hb1, hb2, had2, hf2, had3, hf3]
    have n3 : aDH 20 3 = aD3 20 3 := by simp [ad2, va_up, had2, had3]
    have g0 : aD0 0 = aD3 0 := by simp [ad2_o, ad2, va_up, hA, had0, hf0, had1, hf1, hb1, hb2, had2, hf2, had3, hf3]
    have g1 : aD1 1 = aD3 1 := by simp [ad2_o, ad2, va_up, hA, had0, hf0, had1, hf1, hb1, hb2, had2, hf2, had3, hf3]
    have g2 : aD2 16 = aD3 16 := by simp [ad2_o, ad2, va_up, hA, had0, hf0, had1, hf1, hb1, hb2, had2, hf2, had3, hf3]
    have g3 : aD3 17 = aD3 17 := by simp [ad2_o, ad2, va_up, hA, had0, hf0, had1, hf1, hb1, hb2, had2, hf2, had3, hf3]
    have k0 : aD3 0 0 = s0 := by simp [ad2, va_up, hA, had0, hf0, had1, hf1, hb1, hb2, had2, hf2, had3, hf3]
    have k1 : aD3 1 0 = s1 := by simp [ad2, va_up, hA, had0, hf0, had1, hf1, hb1, hb2, had2, hf2, had3, hf3]
    have k2 : aD3 16 0 = s2 := by simp [ad2, va_up, hA, had0, hf0, had1, hf1, hb1, hb2, had2, hf2, had3, hf3]
    have k3 : aD3 17 0 = s3 := by simp [ad2, va_up, hA, had0, hf0, had1, hf1, hb1, hb2, had2, hf2, had3, hf3]
    have gH : ∀ i, 2 ≤ i → i < 16 → aDH i = aD3 i := by
      intro i hi1 hi2
      have x1 : i ≠ 16 := by omega
      have x2 : i ≠ 17 := by omega
      have x3 : i ≠ 20 := by omega
      simp [ad2_o, va_up, had2, had3, x1, x2, x3]
    by_cases i0 : i = 0
    · subst i0
      refine Or.inl ?_
      have q0 := stSh_ad (Λ := Λ) g0
      simp [up2, va_up, st_0, hw0, hw1, hwH, hw2, hw3, q0, rS_st, M0_st]
    by_cases i1 : i = 1
    · subst i1
      refine Or.inl ?_
      have q1 := stSh_ad (Λ := Λ) g1
      simp [up2, va_up, st_0, hw0, hw1, hwH, hw2, hw3, q1, rS_st, M0_st]
    by_cases i16 : i = 16
    · subst i16
      refine Or.inl ?_
      have q2 := stSh_ad (Λ := Λ) g2
      simp [up2, va_up, st_0, hw0, hw1, hwH, hw2, hw3, q2, rS_st, M0_st]
    by_cases i17 : i = 17
    · subst i17
      refine Or.inl ?_
      have q3 := stSh_ad (Λ := Λ) g3
      simp [up2, va_up, st_0, hw0, hw1, hwH, hw2, hw3, q3, rS_st, M0_st]
    by_cases hi : 2 ≤ i ∧ i < 16
    · refine Or.inl ?_
      have x4 : i < 18 := by omega
      have x3 : i ≠ 20 := by omega
      have q := stSh_ad (Λ := Λ) (gH i hi.1 hi.2)
      simp [up2, va_up, hw, st_0, hw0, hw1, hwH, hw2, hw3, q, rS_st, M0_st, x4, x3, hi, i0, i1, i16, i17]
    have hi18 : ¬ i < 18 := by omega
    by_cases i20 : i = 20
    · subst i20
      have hj : j ≤ 5 := by
        rcases (by omega : j = 0 ∨ 0 < j) with h | h
        · omega
        · simp [h0, hfr, mem_stL, hids0, hids1, hidsH, hids2, hids3, h20 j h] at hq
          omega
      rcases (by omega : j = 0 ∨ j = 1 ∨ j = 2 ∨ j = 3 ∨ j = 4 ∨ j = 5) with h | h | h | h | h | h <;> subst h
      · refine Or.inl ?_; simp [up2, va_up, hw, st_0, hw0, hw1, hwH, hw2, hw3, rS_gl, M0_gl, glSh, glF, hiF, cG, c00, n1, n2, n3, n4, n5, k0, k1]
      · refine Or.inl ?_; simp [up2, va_up, hw, st_0, hw0, hw1, hwH, hw2, hw3, rS_gl, M0_gl, glSh, glF, hiF, cG, c00, n1, n2, n3, n4, n5, k0, k1]; rfl
      · refine Or.inl ?_; simp [up2, va_up, hw, st_0, hw0, hw1, hwH, hw2, hw3, rS_gl, M0_gl, glSh, glF, hiF, cG, c00, n1, n2, n3, n4, n5, k0, k1]
      · refine Or.inr ⟨Λ.2.1 4, 14, fun k => some (aDH (k + 2) 0), fun k => some (aD3 ((cG 3 k).toNatClampNeg + 2) 0), (by simp [up2, va_up, hw, st_0, hw0, hw1, hwH, hw2, hw3]), (by simp [rS_gl, M0_gl, glSh]), ?_⟩
        intro r hr
        show some (aDH (r + 2) 0) = some (aD3 ((cG 3 r).toNatClampNeg + 2) 0)
        rw [cG3 r hr, gH (r + 2) (by omega) (by omega)]
      · refine Or.inr ⟨Λ.2.1 4, 2, (va_up (va_up (fun _ => none) 0 (some s2)) 1 (some s3)), fun k => some (aD3 (k + 16) 0), (by simp [up2, va_up, hw, st_0, hw0, hw1, hwH, hw2, hw3]), (by simp [rS_gl, M0_gl, glSh]), ?_⟩
        intro r hr
        rcases (by omega : r = 0 ∨ r = 1) with h | h <;> subst h <;> simp [va_up, k2, k3]
      · refine Or.inl ?_; simp [up2, va_up, hw, st_0, hw0, hw1, hwH, hw2, hw3, rS_gl, M0_gl, glSh, glF, hiF, cG, c00, n1, n2, n3, n4, n5, k0, k1]; rfl
    · exact Or.inl (by simp [up2, va_up, hw, st_0, hw0, hw1, hwH, hw2, hw3, i0, i1, i16, i17, hi, hi18, i20])
  refine G_vret hO hF rfl (Nat.le_of_ble_eq_true rfl) (Nat.le_of_ble_eq_true rfl) dX5_init_90 ⟨rfl, ?_, ?_, ?_, rfl⟩
  · intro q
    obtain ⟨i, j⟩ := q
    by_cases hq : (i, j) ∈ ids
    · simp [hids0, hids1, hids2, hids3, hidsH, hq]
    · simp only [hids0, hids1, hids2, hids3, hidsH, List.mem_append, List.mem_cons, List.not_mem_nil, or_false, Prod.mk.injEq, hq, false_or, mem_stL]
      omega
  · intro i hi hi2
    funext j
    have x0 : i ≠ 0 := by omega
    have x1 : i ≠ 1 := by omega
    have x2 : i ≠ 16 := by omega
    have x3 : i ≠ 17 := by omega
    have x4 : ¬ (2 ≤ i ∧ i < 16) := by omega
    simp [ad2, va_up, hA, had0, hf0, had1, hf1, had2, hf2, had3, hf3, hb1 i x4 hi2, hi2, x0, x1, x2, x3]
  · simp [ad2, va_up, hA, had0, hf0, had1, hf1, hb1, hb2, had2, hf2, had3, hf3]
