set_option maxHeartbeats 4000000 in
set_option maxRecDepth 20000 in
theorem c_X0_init {l : Launch} {Λ : Lay} {B : Zn} {ids : List (Nat × Nat)} {ad : Nat → Nat → Nat} {w : Nat → Nat → va_E} {A : Nat} (hA : ad 20 2 = A) (h2 : (20, 2) ∈ ids) (h3 : (20, 3) ∉ ids) (hfr : ∀ i j, 2 ≤ i → i < 16 → (i, j) ∉ ids) (hw : w 20 2 = .inr (0, [.null, .int 0])) : CT l yX0_init cX0_init 2 none { frames := 3, cells := 211, slots := 2380, locals := 101 } Λ B ids ad w [.ref A] (fun v ids' ad' w' => v = none ∧ (∀ q : Nat × Nat, q ∈ ids' ↔ q ∈ ids ∨ (q.1 = 20 ∧ q.2 = 3) ∨ (2 ≤ q.1 ∧ q.1 < 16 ∧ q.2 < 15)) ∧ (∀ i, ¬ (2 ≤ i ∧ i < 16) → i ≠ 20 → ad' i = ad i) ∧ (∀ j, j ≠ 3 → ad' 20 j = ad 20 j) ∧ w' = (fun i => if 2 ≤ i ∧ i < 16 then stSh Λ ad' i cI else if i = 20 then va_up (va_up (w 20) 2 (.inr (0, [.ref (ad' 20 3), .int 0]))) 3 (.inl (Λ.2.1 4, 14, .inr (.inr (.inr (.inr (fun k => some (ad' (k + 2) 0))))))) else w i)) := by
  refine CT.ofI RX0 [(0, .ref A)] (plainFor_of_name (by decide +kernel)) rfl rfl (Nat.le_of_ble_eq_true rfl) rfl (fun Γ hO hN hF => ?_)
  refine G_aload_n hO 0 dX0_init_0 rfl rfl ?_
  refine G_objInit hO mw_165 (Nat.le_of_ble_eq_true rfl) (Nat.le_of_ble_eq_true rfl) dX0_init_1 ?_
  refine G_aload_n hO 0 dX0_init_4 rfl rfl ?_
  refine G_bipush hO 14 dX0_init_5 (by decide) ?_
  refine A_newqS hO 14 20 3 (by simp [h2, h3, hfr, mem_stL]) mw_166 (by decide) (by decide) (by decide) (Nat.le_of_ble_eq_true rfl) (Nat.le_of_ble_eq_true rfl) dX0_init_7 (fun a3 => ?_)
  refine A_putF (i := 20) (j := 2) hO hN cl0 (by simp [ad2, va_up, hA]) (fs := [.null, .int 0]) 0 (by simp [h2, h3, hfr, mem_stL]) (by simp [up2, va_up, hw, st_0]) (by decide) mw_169 rfl rfl rfl rfl rfl (Nat.le_of_ble_eq_true rfl) dX0_init_10 ?_
  refine G_iconst hO 0 dX0_init_13 (by decide) ?_
  refine G_istore_n hO [(1, .int 0), (0, .ref A)] dX0_init_14 rfl (by decide) rfl ?_
  refine G_iload_n hO 0 dX0_init_15 rfl rfl ?_
  refine G_aload_n hO 1 dX0_init_16 rfl rfl ?_
  refine A_getf (i := 20) (j := 2) hO cl0 (by simp [ad2, va_up, hA]) (fs := [.ref a3, .int 0]) (v := .ref a3) 0 (by simp [h2, h3, hfr, mem_stL]) (by simp [up2, va_up, hw, st_0]) (by decide) mw_169 rfl rfl dX0_init_17 ?_
  refine A_alen (i := 20) (j := 3) hO (by simp [ad2, va_up, hA]) (a := (14, .inr (.inr (.inr (.inr (fun _ => none)))))) (v := 14) 4 (by simp [h2, h3, hfr, mem_stL]) (by simp [up2, va_up, hw, st_0]) rfl rfl dX0_init_20 ?_
  refine G_icmp_ge hO 43 dX0_init_21 (by decide) (fun h9 => absurd h9 (by decide)) (fun _ => ?_)
  refine G_aload_n hO 1 dX0_init_24 rfl rfl ?_
  refine A_getf (i := 20) (j := 2) hO cl0 (by simp [ad2, va_up, hA]) (fs := [.ref a3, .int 0]) (v := .ref a3) 0 (by simp [h2, h3, hfr, mem_stL]) (by simp [up2, va_up, hw, st_0]) (by decide) mw_169 rfl rfl dX0_init_25 ?_
  refine G_iload_n hO 0 dX0_init_28 rfl rfl ?_
  refine G_new hO (fs := [.int 0, .int 0, .int 0, .int 0, .int 0, .int 0, .int 0, .int 0, .int 0, .null, .null, .null, .null, .null]) cl3 2 0 (by simp [h2, h3, hfr, mem_stL]) mw_166 mw_24 mw_2 (by intro q hq; rcases (by omega : q = 0 ∨ q = 1 ∨ q = 2 ∨ q = 3 ∨ q = 4 ∨ q = 5 ∨ q = 6 ∨ q = 7 ∨ q = 8 ∨ q = 9 ∨ q = 10 ∨ q = 11 ∨ q = 12 ∨ q = 13) with h | h | h | h | h | h | h | h | h | h | h | h | h | h <;> subst h <;> rfl) (Nat.le_of_ble_eq_true rfl) (Nat.le_of_ble_eq_true rfl) dX0_init_29 (fun s0 => ?_)
  refine G_dup hO dX0_init_32 rfl ?_
  refine G_callI hO (rest := [.ref s0, .int 0, .ref a3]) [] (fun l => c_X3_initA (n := 2) (A := s0) (by simp [ad2, va_up, hA]) (by intro j; simp [h2, h3, hfr, mem_stL]; try omega) (by simp [up2, va_up, hw, st_0])) cv_X3_init mw_26 rfl mw_168 rfl rfl (Nat.le_of_ble_eq_true rfl) (by decide) (by decide) dX0_init_33 ?_
  rintro v ids0 aD0 w0 ⟨rfl, hids0, ⟨f0, hf0, had0⟩, hw0⟩
  show G Γ _ _ 16 183 _ _ _ [.ref s0, .int 0, .ref a3]
  refine A_aastS (n := 14) (i := 20) (j := 3) (a := 2) (b := 0) hO (by simp [ad2, va_up, hA, had0, hf0]) (by simp [ad2, va_up, hA, had0, hf0]) (f := (fun _ => none)) 0 (by decide) (vs := stF aD0 2 cI) (by simp [h2, h3, hfr, mem_stL, hids0]) (by simp [up2, va_up, hw, st_0, hw0]) (by simp [h2, h3, hfr, mem_stL, hids0]) (by simp [up2, va_up, hw, st_0, hw0]) (vp_lit (by decide)) dX0_init_36 ?_
  refine G_iinc hO 0 1 [(1, .int 1), (0, .ref A)] dX0_init_37 rfl (by decide) (by decide) rfl ?_
  refine G_goto hO 15 dX0_init_40 (by decide) ?_
  refine G_iload_n hO 0 dX0_init_15 rfl rfl ?_
  refine G_aload_n hO 1 dX0_init_16 rfl rfl ?_
  refine A_getf (i := 20) (j := 2) hO cl0 (by simp [ad2, va_up, hA, had0, hf0]) (fs := [.ref a3, .int 0]) (v := .ref a3) 0 (by simp [h2, h3, hfr, mem_stL, hids0]) (by simp [up2, va_up, hw, st_0, hw0]) (by decide) mw_169 rfl rfl dX0_init_17 ?_
  refine A_alen (i := 20) (j := 3) hO (by simp [ad2, va_up, hA, had0, hf0]) (a := (14, .inr (.inr (.inr (.inr (va_up (fun _ => none) 0 (some s0))))))) (v := 14) 4 (by simp [h2, h3, hfr, mem_stL, hids0]) (by simp [up2, va_up, hw, st_0, hw0]) rfl rfl dX0_init_20 ?_
  refine G_icmp_ge hO 43 dX0_init_21 (by decide) (fun h9 => absurd h9 (by decide)) (fun _ => ?_)
  refine G_aload_n hO 1 dX0_init_24 rfl rfl ?_
  refine A_getf (i := 20) (j := 2) hO cl0 (by simp [ad2, va_up, hA, had0, hf0]) (fs := [.ref a3, .int 0]) (v := .ref a3) 0 (by simp [h2, h3, hfr, mem_stL, hids0]) (by simp [up2, va_up, hw, st_0, hw0]) (by decide) mw_169 rfl rfl dX0_init_25 ?_
  refine G_iload_n hO 0 dX0_init_28 rfl rfl ?_
  refine G_new hO (fs := [.int 0, .int 0, .int 0, .int 0, .int 0, .int 0, .int 0, .int 0, .int 0, .null, .null, .null, .null, .null]) cl3 3 0 (by simp [h2, h3, hfr, mem_stL, hids0]) mw_166 mw_24 mw_2 (by intro q hq; rcases (by omega : q = 0 ∨ q = 1 ∨ q = 2 ∨ q = 3 ∨ q = 4 ∨ q = 5 ∨ q = 6 ∨ q = 7 ∨ q = 8 ∨ q = 9 ∨ q = 10 ∨ q = 11 ∨ q = 12 ∨ q = 13) with h | h | h | h | h | h | h | h | h | h | h | h | h | h <;> subst h <;> rfl) (Nat.le_of_ble_eq_true rfl) (Nat.le_of_ble_eq_true rfl) dX0_init_29 (fun s1 => ?_)
  refine G_dup hO dX0_init_32 rfl ?_
  refine G_callI hO (rest := [.ref s1, .int 1, .ref a3]) [] (fun l => c_X3_initA (n := 3) (A := s1) (by simp [ad2, va_up, hA, had0, hf0]) (by intro j; simp [h2, h3, hfr, mem_stL, hids0]; try omega) (by simp [up2, va_up, hw, st_0, hw0])) cv_X3_init mw_26 rfl mw_168 rfl rfl (Nat.le_of_ble_eq_true rfl) (by decide) (by decide) dX0_init_33 ?_
  rintro v ids1 aD1 w1 ⟨rfl, hids1, ⟨f1, hf1, had1⟩, hw1⟩
  show G Γ _ _ 31 352 _ _ _ [.ref s1, .int 1, .ref a3]
  refine A_aastS (n := 14) (i := 20) (j := 3) (a := 3) (b := 0) hO (by simp [ad2, va_up, hA, had0, hf0, had1, hf1]) (by simp [ad2, va_up, hA, had0, hf0, had1, hf1]) (f := (va_up (fun _ => none) 0 (some s0))) 1 (by decide) (vs := stF aD1 3 cI) (by simp [h2, h3, hfr, mem_stL, hids0, hids1]) (by simp [up2, va_up, hw, st_0, hw0, hw1]) (by simp [h2, h3, hfr, mem_stL, hids0, hids1]) (by simp [up2, va_up, hw, st_0, hw0, hw1]) (vp_lit (by decide)) dX0_init_36 ?_
  refine G_iinc hO 0 2 [(1, .int 2), (0, .ref A)] dX0_init_37 rfl (by decide) (by decide) rfl ?_
  refine G_goto hO 15 dX0_init_40 (by decide) ?_
  refine G_iload_n hO 0 dX0_init_15 rfl rfl ?_
  refine G_aload_n hO 1 dX0_init_16 rfl rfl ?_
  refine A_getf (i := 20) (j := 2) hO cl0 (by simp [ad2, va_up, hA, had0, hf0, had1, hf1]) (fs := [.ref a3, .int 0]) (v := .ref a3) 0 (by simp [h2, h3, hfr, mem_stL, hids0, hids1]) (by simp [up2, va_up, hw, st_0, hw0, hw1]) (by decide) mw_169 rfl rfl dX0_init_17 ?_
  refine A_alen (i := 20) (j := 3) hO (by simp [ad2, va_up, hA, had0, hf0, had1, hf1]) (a := (14, .inr (.inr (.inr (.inr (va_up (va_up (fun _ => none) 0 (some s0)) 1 (some s1))))))) (v := 14) 4 (by simp [h2, h3, hfr, mem_stL, hids0, hids1]) (by simp [up2, va_up, hw, st_0, hw0, hw1]) rfl rfl dX0_init_20 ?_
  refine G_icmp_ge hO 43 dX0_init_21 (by decide) (fun h9 => absurd h9 (by decide)) (fun _ => ?_)
  refine G_aload_n hO 1 dX0_init_24 rfl rfl ?_
  refine A_getf (i := 20) (j := 2) hO cl0 (by simp [ad2, va_up, hA, had0, hf0, had1, hf1]) (fs := [.ref a3, .int 0]) (v := .ref a3) 0 (by simp [h2, h3, hfr, mem_stL, hids0, hids1]) (by simp [up2, va_up, hw, st_0, hw0, hw1]) (by decide) mw_169 rfl rfl dX0_init_25 ?_
  refine G_iload_n hO 0 dX0_init_28 rfl rfl ?_
  refine G_new hO (fs := [.int 0, .int 0, .int 0, .int 0, .int 0, .int 0, .int 0, .int 0, .int 0, .null, .null, .null, .null, .null]) cl3 4 0 (by simp [h2, h3, hfr, mem_stL, hids0, hids1]) mw_166 mw_24 mw_2 (by intro q hq; rcases (by omega : q = 0 ∨ q = 1 ∨ q = 2 ∨ q = 3 ∨ q = 4 ∨ q = 5 ∨ q = 6 ∨ q = 7 ∨ q = 8 ∨ q = 9 ∨ q = 10 ∨ q = 11 ∨ q = 12 ∨ q = 13) with h | h | h | h | h | h | h | h | h | h | h | h | h | h <;> subst h <;> rfl) (Nat.le_of_ble_eq_true rfl) (Nat.le_of_ble_eq_true rfl) dX0_init_29 (fun s2 => ?_)
  refine G_dup hO dX0_init_32 rfl ?_
  refine G_callI hO (rest := [.ref s2, .int 2, .ref a3]) [] (fun l => c_X3_initA (n := 4) (A := s2) (by simp [ad2, va_up, hA, had0, hf0, had1, hf1]) (by intro j; simp [h2, h3, hfr, mem_stL, hids0, hids1]; try omega) (by simp [up2, va_up, hw, st_0, hw0, hw1])) cv_X3_init mw_26 rfl mw_168 rfl rfl (Nat.le_of_ble_eq_true rfl) (by decide) (by decide) dX0_init_33 ?_
  rintro v ids2 aD2 w2 ⟨rfl, hids2, ⟨f2, hf2, had2⟩, hw2⟩
  show G Γ _ _ 46 521 _ _ _ [.ref s2, .int 2, .ref a3]
  refine A_aastS (n := 14) (i := 20) (j := 3) (a := 4) (b := 0) hO (by simp [ad2, va_up, hA, had0, hf0, had1, hf1, had2, hf2]) (by simp [ad2, va_up, hA, had0, hf0, had1, hf1, had2, hf2]) (f := (va_up (va_up (fun _ => none) 0 (some s0)) 1 (some s1))) 2 (by decide) (vs := stF aD2 4 cI) (by simp [h2, h3, hfr, mem_stL, hids0, hids1, hids2]) (by simp [up2, va_up, hw, st_0, hw0, hw1, hw2]) (by simp [h2, h3, hfr, mem_stL, hids0, hids1, hids2]) (by simp [up2, va_up, hw, st_0, hw0, hw1, hw2]) (vp_lit (by decide)) dX0_init_36 ?_
  refine G_iinc hO 0 3 [(1, .int 3), (0, .ref A)] dX0_init_37 rfl (by decide) (by decide) rfl ?_
  refine G_goto hO 15 dX0_init_40 (by decide) ?_
  refine G_iload_n hO 0 dX0_init_15 rfl rfl ?_
  refine G_aload_n hO 1 dX0_init_16 rfl rfl ?_
  refine A_getf (i := 20) (j := 2) hO cl0 (by simp [ad2, va_up, hA, had0, hf0, had1, hf1, had2, hf2]) (fs := [.ref a3, .int 0]) (v := .ref a3) 0 (by simp [h2, h3, hfr, mem_stL, hids0, hids1, hids2]) (by simp [up2, va_up, hw, st_0, hw0, hw1, hw2]) (by decide) mw_169 rfl rfl dX0_init_17 ?_
  refine A_alen (i := 20) (j := 3) hO (by simp [ad2, va_up, hA, had0, hf0, had1, hf1, had2, hf2]) (a := (14, .inr (.inr (.inr (.inr (va_up (va_up (va_up (fun _ => none) 0 (some s0)) 1 (some s1)) 2 (some s2))))))) (v := 14) 4 (by simp [h2, h3, hfr, mem_stL, hids0, hids1, hids2]) (by simp [up2, va_up, hw, st_0, hw0, hw1, hw2]) rfl rfl dX0_init_20 ?_
  refine G_icmp_ge hO 43 dX0_init_21 (by decide) (fun h9 => absurd h9 (by decide)) (fun _ => ?_)
  refine G_aload_n hO 1 dX0_init_24 rfl rfl ?_
  refine A_getf (i := 20) (j := 2) hO cl0 (by simp [ad2, va_up, hA, had0, hf0, had1, hf1, had2, hf2]) (fs := [.ref a3, .int 0]) (v := .ref a3) 0 (by simp [h2, h3, hfr, mem_stL, hids0, hids1, hids2]) (by simp [up2, va_up, hw, st_0, hw0, hw1, hw2]) (by decide) mw_169 rfl rfl dX0_init_25 ?_
  refine G_iload_n hO 0 dX0_init_28 rfl rfl ?_
  refine G_new hO (fs := [.int 0, .int 0, .int 0, .int 0, .int 0, .int 0, .int 0, .int 0, .int 0, .null, .null, .null, .null, .null]) cl3 5 0 (by simp [h2, h3, hfr, mem_stL, hids0, hids1, hids2]) mw_166 mw_24 mw_2 (by intro q hq; rcases (by omega : q = 0 ∨ q = 1 ∨ q = 2 ∨ q = 3 ∨ q = 4 ∨ q = 5 ∨ q = 6 ∨ q = 7 ∨ q = 8 ∨ q = 9 ∨ q = 10 ∨ q = 11 ∨ q = 12 ∨ q = 13) with h | h | h | h | h | h | h | h | h | h | h | h | h | h <;> subst h <;> rfl) (Nat.le_of_ble_eq_true rfl) (Nat.le_of_ble_eq_true rfl) dX0_init_29 (fun s3 => ?_)
  refine G_dup hO dX0_init_32 rfl ?_
  refine G_callI hO (rest := [.ref s3, .int 3, .ref a3]) [] (fun l => c_X3_initA (n := 5) (A := s3) (by simp [ad2, va_up, hA, had0, hf0, had1, hf1, had2, hf2]) (by intro j; simp [h2, h3, hfr, mem_stL, hids0, hids1, hids2]; try omega) (by simp [up2, va_up, hw, st_0, hw0, hw1, hw2])) cv_X3_init mw_26 rfl mw_168 rfl rfl (Nat.le_of_ble_eq_true rfl) (by decide) (by decide) dX0_init_33 ?_
  rintro v ids3 aD3 w3 ⟨rfl, hids3, ⟨f3, hf3, had3⟩, hw3⟩
  show G Γ _ _ 61 690 _ _ _ [.ref s3, .int 3, .ref a3]
  refine A_aastS (n := 14) (i := 20) (j := 3) (a := 5) (b := 0) hO (by simp [ad2, va_up, hA, had0, hf0, had1, hf1, had2, hf2, had3, hf3]) (by simp [ad2, va_up, hA, had0, hf0, had1, hf1, had2, hf2, had3, hf3]) (f := (va_up (va_up (va_up (fun _ => none) 0 (some s0)) 1 (some s1)) 2 (some s2))) 3 (by decide) (vs := stF aD3 5 cI) (by simp [h2, h3, hfr, mem_stL, hids0, hids1, hids2, hids3]) (by simp [up2, va_up, hw, st_0, hw0, hw1, hw2, hw3]) (by simp [h2, h3, hfr, mem_stL, hids0, hids1, hids2, hids3]) (by simp [up2, va_up, hw, st_0, hw0, hw1, hw2, hw3]) (vp_lit (by decide)) dX0_init_36 ?_
  refine G_iinc hO 0 4 [(1, .int 4), (0, .ref A)] dX0_init_37 rfl (by decide) (by decide) rfl ?_
  refine G_goto hO 15 dX0_init_40 (by decide) ?_
  refine G_iload_n hO 0 dX0_init_15 rfl rfl ?_
  refine G_aload_n hO 1 dX0_init_16 rfl rfl ?_
  refine A_getf (i := 20) (j := 2) hO cl0 (by simp [ad2, va_up, hA, had0, hf0, had1, hf1, had2, hf2, had3, hf3]) (fs := [.ref a3, .int 0]) (v := .ref a3) 0 (by simp [h2, h3, hfr, mem_stL, hids0, hids1, hids2, hids3]) (by simp [up2, va_up, hw, st_0, hw0, hw1, hw2, hw3]) (by decide) mw_169 rfl rfl dX0_init_17 ?_
  refine A_alen (i := 20) (j := 3) hO (by simp [ad2, va_up, hA, had0, hf0, had1, hf1, had2, hf2, had3, hf3]) (a := (14, .inr (.inr (.inr (.inr (va_up (va_up (va_up (va_up (fun _ => none) 0 (some s0)) 1 (some s1)) 2 (some s2)) 3 (some s3))))))) (v := 14) 4 (by simp [h2, h3, hfr, mem_stL, hids0, hids1, hids2, hids3]) (by simp [up2, va_up, hw, st_0, hw0, hw1, hw2, hw3]) rfl rfl dX0_init_20 ?_
  refine G_icmp_ge hO 43 dX0_init_21 (by decide) (fun h9 => absurd h9 (by decide)) (fun _ => ?_)
  refine G_aload_n hO 1 dX0_init_24 rfl rfl ?_
  refine A_getf (i := 20) (j := 2) hO cl0 (by simp [ad2, va_up, hA, had0, hf0, had1, hf1, had2, hf2, had3, hf3]) (fs := [.ref a3, .int 0]) (v := .ref a3) 0 (by simp [h2, h3, hfr, mem_stL, hids0, hids1, hids2, hids3]) (by simp [up2, va_up, hw, st_0, hw0, hw1, hw2, hw3]) (by decide) mw_169 rfl rfl dX0_init_25 ?_
  refine G_iload_n hO 0 dX0_init_28 rfl rfl ?_
  refine G_new hO (fs := [.int 0, .int 0, .int 0, .int 0, .int 0, .int 0, .int 0, .int 0, .int 0, .null, .null, .null, .null, .null]) cl3 6 0 (by simp [h2, h3, hfr, mem_stL, hids0, hids1, hids2, hids3]) mw_166 mw_24 mw_2 (by intro q hq; rcases (by omega : q = 0 ∨ q = 1 ∨ q = 2 ∨ q = 3 ∨ q = 4 ∨ q = 5 ∨ q = 6 ∨ q = 7 ∨ q = 8 ∨ q = 9 ∨ q = 10 ∨ q = 11 ∨ q = 12 ∨ q = 13) with h | h | h | h | h | h | h | h | h | h | h | h | h | h <;> subst h <;> rfl) (Nat.le_of_ble_eq_true rfl) (Nat.le_of_ble_eq_true rfl) dX0_init_29 (fun s4 => ?_)
  refine G_dup hO dX0_init_32 rfl ?_
  refine G_callI hO (rest := [.ref s4, .int 4, .ref a3]) [] (fun l => c_X3_initA (n := 6) (A := s4) (by simp [ad2, va_up, hA, had0, hf0, had1, hf1, had2, hf2, had3, hf3]) (by intro j; simp [h2, h3, hfr, mem_stL, hids0, hids1, hids2, hids3]; try omega) (by simp [up2, va_up, hw, st_0, hw0, hw1, hw2, hw3])) cv_X3_init mw_26 rfl mw_168 rfl rfl (Nat.le_of_ble_eq_true rfl) (by decide) (by decide) dX0_init_33 ?_
  rintro v ids4 aD4 w4 ⟨rfl, hids4, ⟨f4, hf4, had4⟩, hw4⟩
  show G Γ _ _ 76 859 _ _ _ [.ref s4, .int 4, .ref a3]
  refine A_aastS (n := 14) (i := 20) (j := 3) (a := 6) (b := 0) hO (by simp [ad2, va_up, hA, had0, hf0, had1, hf1, had2, hf2, had3, hf3, had4, hf4]) (by simp [ad2, va_up, hA, had0, hf0, had1, hf1, had2, hf2, had3, hf3, had4, hf4]) (f := (va_up (va_up (va_up (va_up (fun _ => none) 0 (some s0)) 1 (some s1)) 2 (some s2)) 3 (some s3))) 4 (by decide) (vs := stF aD4 6 cI) (by simp [h2, h3, hfr, mem_stL, hids0, hids1, hids2, hids3, hids4]) (by simp [up2, va_up, hw, st_0, hw0, hw1, hw2, hw3, hw4]) (by simp [h2, h3, hfr, mem_stL, hids0, hids1, hids2, hids3, hids4]) (by simp [up2, va_up, hw, st_0, hw0, hw1, hw2, hw3, hw4]) (vp_lit (by decide)) dX0_init_36 ?_
  refine G_iinc hO 0 5 [(1, .int 5), (0, .ref A)] dX0_init_37 rfl (by decide) (by decide) rfl ?_
  refine G_goto hO 15 dX0_init_40 (by decide) ?_
  refine G_iload_n hO 0 dX0_init_15 rfl rfl ?_
  refine G_aload_n hO 1 dX0_init_16 rfl rfl ?_
  refine A_getf (i := 20) (j := 2) hO cl0 (by simp [ad2, va_up, hA, had0, hf0, had1, hf1, had2, hf2, had3, hf3, had4, hf4]) (fs := [.ref a3, .int 0]) (v := .ref a3) 0 (by simp [h2, h3, hfr, mem_stL, hids0, hids1, hids2, hids3, hids4]) (by simp [up2, va_up, hw, st_0, hw0, hw1, hw2, hw3, hw4]) (by decide) mw_169 rfl rfl dX0_init_17 ?_
  refine A_alen (i := 20) (j := 3) hO (by simp [ad2, va_up, hA, had0, hf0, had1, hf1, had2, hf2, had3, hf3, had4, hf4]) (a := (14, .inr (.inr (.inr (.inr (va_up (va_up (va_up (va_up (va_up (fun _ => none) 0 (some s0)) 1 (some s1)) 2 (some s2)) 3 (some s3)) 4 (some s4))))))) (v := 14) 4 (by simp [h2, h3, hfr, mem_stL, hids0, hids1, hids2, hids3, hids4]) (by simp [up2, va_up, hw, st_0, hw0, hw1, hw2, hw3, hw4]) rfl rfl dX0_init_20 ?_
  refine G_icmp_ge hO 43 dX0_init_21 (by decide) (fun h9 => absurd h9 (by decide)) (fun _ => ?_)
  refine G_aload_n hO 1 dX0_init_24 rfl rfl ?_
  refine A_getf (i := 20) (j := 2) hO cl0 (by simp [ad2, va_up, hA, had0, hf0, had1, hf1, had2, hf2, had3, hf3, had4, hf4]) (fs := [.ref a3, .int 0]) (v := .ref a3) 0 (by simp [h2, h3, hfr, mem_stL, hids0, hids1, hids2, hids3, hids4]) (by simp [up2, va_up, hw, st_0, hw0, hw1, hw2, hw3, hw4]) (by decide) mw_169 rfl rfl dX0_init_25 ?_
  refine G_iload_n hO 0 dX0_init_28 rfl rfl ?_
  refine G_new hO (fs := [.int 0, .int 0, .int 0, .int 0, .int 0, .int 0, .int 0, .int 0, .int 0, .null, .null, .null, .null, .null]) cl3 7 0 (by simp [h2, h3, hfr, mem_stL, hids0, hids1, hids2, hids3, hids4]) mw_166 mw_24 mw_2 (by intro q hq; rcases (by omega : q = 0 ∨ q = 1 ∨ q = 2 ∨ q = 3 ∨ q = 4 ∨ q = 5 ∨ q = 6 ∨ q = 7 ∨ q = 8 ∨ q = 9 ∨ q = 10 ∨ q = 11 ∨ q = 12 ∨ q = 13) with h | h | h | h | h | h | h | h | h | h | h | h | h | h <;> subst h <;> rfl) (Nat.le_of_ble_eq_true rfl) (Nat.le_of_ble_eq_true rfl) dX0_init_29 (fun s5 => ?_)
  refine G_dup hO dX0_init_32 rfl ?_
  refine G_callI hO (rest := [.ref s5, .int 5, .ref a3]) [] (fun l => c_X3_initA (n := 7) (A := s5) (by simp [ad2, va_up, hA, had0, hf0, had1, hf1, had2, hf2, had3, hf3, had4, hf4]) (by intro j; simp [h2, h3, hfr, mem_stL, hids0, hids1, hids2, hids3, hids4]; try omega) (by simp [up2, va_up, hw, st_0, hw0, hw1, hw2, hw3, hw4])) cv_X3_init mw_26 rfl mw_168 rfl rfl (Nat.le_of_ble_eq_true rfl) (by decide) (by decide) dX0_init_33 ?_
  rintro v ids5 aD5 w5 ⟨rfl, hids5, ⟨f5, hf5, had5⟩, hw5⟩
  show G Γ _ _ 91 1028 _ _ _ [.ref s5, .int 5, .ref a3]
  refine A_aastS (n := 14) (i := 20) (j := 3) (a := 7) (b := 0) hO (by simp [ad2, va_up, hA, had0, hf0, had1, hf1, had2, hf2, had3, hf3, had4, hf4, had5, hf5]) (by simp [ad2, va_up, hA, had0, hf0, had1, hf1, had2, hf2, had3, hf3, had4, hf4, had5, hf5]) (f := (va_up (va_up (va_up (va_up (va_up (fun _ => none) 0 (some s0)) 1 (some s1)) 2 (some s2)) 3 (some s3)) 4 (some s4))) 5 (by decide) (vs := stF aD5 7 cI) (by simp [h2, h3, hfr, mem_stL, hids0, hids1, hids2, hids3, hids4, hids5]) (by simp [up2, va_up, hw, st_0, hw0, hw1, hw2, hw3, hw4, hw5]) (by simp [h2, h3, hfr, mem_stL, hids0, hids1, hids2, hids3, hids4, hids5]) (by simp [up2, va_up, hw, st_0, hw0, hw1, hw2, hw3, hw4, hw5]) (vp_lit (by decide)) dX0_init_36 ?_
  refine G_iinc hO 0 6 [(1, .int 6), (0, .ref A)] dX0_init_37 rfl (by decide) (by decide) rfl ?_
  refine G_goto hO 15 dX0_init_40 (by decide) ?_
  refine G_iload_n hO 0 dX0_init_15 rfl rfl ?_
  refine G_aload_n hO 1 dX0_init_16 rfl rfl ?_
  refine A_getf (i := 20) (j := 2) hO cl0 (by simp [ad2, va_up, hA, had0, hf0, had1, hf1, had2, hf2, had3, hf3, had4, hf4, had5, hf5]) (fs := [.ref a3, .int 0]) (v := .ref a3) 0 (by simp [h2, h3, hfr, mem_stL, hids0, hids1, hids2, hids3, hids4, hids5]) (by simp [up2, va_up, hw, st_0, hw0, hw1, hw2, hw3, hw4, hw5]) (by decide) mw_169 rfl rfl dX0_init_17 ?_
  refine A_alen (i := 20) (j := 3) hO (by simp [ad2, va_up, hA, had0, hf0, had1, hf1, had2, hf2, had3, hf3, had4, hf4, had5, hf5]) (a := (14, .inr (.inr (.inr (.inr (va_up (va_up (va_up (va_up (va_up (va_up (fun _ => none) 0 (some s0)) 1 (some s1)) 2 (some s2)) 3 (some s3)) 4 (some s4)) 5 (some s5))))))) (v := 14) 4 (by simp [h2, h3, hfr, mem_stL, hids0, hids1, hids2, hids3, hids4, hids5]) (by simp [up2, va_up, hw, st_0, hw0, hw1, hw2, hw3, hw4, hw5]) rfl rfl dX0_init_20 ?_
  refine G_icmp_ge hO 43 dX0_init_21 (by decide) (fun h9 => absurd h9 (by decide)) (fun _ => ?_)
  refine G_aload_n hO 1 dX0_init_24 rfl rfl ?_
  refine A_getf (i := 20) (j := 2) hO cl0 (by simp [ad2, va_up, hA, had0, hf0, had1, hf1, had2, hf2, had3, hf3, had4, hf4, had5, hf5]) (fs := [.ref a3, .int 0]) (v := .ref a3) 0 (by simp [h2, h3, hfr, mem_stL, hids0, hids1, hids2, hids3, hids4, hids5]) (by simp [up2, va_up, hw, st_0, hw0, hw1, hw2, hw3, hw4, hw5]) (by decide) mw_169 rfl rfl dX0_init_25 ?_
  refine G_iload_n hO 0 dX0_init_28 rfl rfl ?_
  refine G_new hO (fs := [.int 0, .int 0, .int 0, .int 0, .int 0, .int 0, .int 0, .int 0, .int 0, .null, .null, .null, .null, .null]) cl3 8 0 (by simp [h2, h3, hfr, mem_stL, hids0, hids1, hids2, hids3, hids4, hids5]) mw_166 mw_24 mw_2 (by intro q hq; rcases (by omega : q = 0 ∨ q = 1 ∨ q = 2 ∨ q = 3 ∨ q = 4 ∨ q = 5 ∨ q = 6 ∨ q = 7 ∨ q = 8 ∨ q = 9 ∨ q = 10 ∨ q = 11 ∨ q = 12 ∨ q = 13) with h | h | h | h | h | h | h | h | h | h | h | h | h | h <;> subst h <;> rfl) (Nat.le_of_ble_eq_true rfl) (Nat.le_of_ble_eq_true rfl) dX0_init_29 (fun s6 => ?_)
  refine G_dup hO dX0_init_32 rfl ?_
  refine G_callI hO (rest := [.ref s6, .int 6, .ref a3]) [] (fun l => c_X3_initA (n := 8) (A := s6) (by simp [ad2, va_up, hA, had0, hf0, had1, hf1, had2, hf2, had3, hf3, had4, hf4, had5, hf5]) (by intro j; simp [h2, h3, hfr, mem_stL, hids0, hids1, hids2, hids3, hids4, hids5]; try omega) (by simp [up2, va_up, hw, st_0, hw0, hw1, hw2, hw3, hw4, hw5])) cv_X3_init mw_26 rfl mw_168 rfl rfl (Nat.le_of_ble_eq_true rfl) (by decide) (by decide) dX0_init_33 ?_
  rintro v ids6 aD6 w6 ⟨rfl, hids6, ⟨f6, hf6, had6⟩, hw6⟩
  show G Γ _ _ 106 1197 _ _ _ [.ref s6, .int 6, .ref a3]
  refine A_aastS (n := 14) (i := 20) (j := 3) (a := 8) (b := 0) hO (by simp [ad2, va_up, hA, had0, hf0, had1, hf1, had2, hf2, had3, hf3, had4, hf4, had5, hf5, had6, hf6]) (by simp [ad2, va_up, hA, had0, hf0, had1, hf1, had2, hf2, had3, hf3, had4, hf4, had5, hf5, had6, hf6]) (f := (va_up (va_up (va_up (va_up (va_up (va_up (fun _ => none) 0 (some s0)) 1 (some s1)) 2 (some s2)) 3 (some s3)) 4 (some s4)) 5 (some s5))) 6 (by decide) (vs := stF aD6 8 cI) (by simp [h2, h3, hfr, mem_stL, hids0, hids1, hids2, hids3, hids4, hids5, hids6]) (by simp [up2, va_up, hw, st_0, hw0, hw1, hw2, hw3, hw4, hw5, hw6]) (by simp [h2, h3, hfr, mem_stL, hids0, hids1, hids2, hids3, hids4, hids5, hids6]) (by simp [up2, va_up, hw, st_0, hw0, hw1, hw2, hw3, hw4, hw5, hw6]) (vp_lit (by decide)) dX0_init_36 ?_
  refine G_iinc hO 0 7 [(1, .int 7), (0, .ref A)] dX0_init_37 rfl (by decide) (by decide) rfl ?_
  refine G_goto hO 15 dX0_init_40 (by decide) ?_
  refine G_iload_n hO 0 dX0_init_15 rfl rfl ?_
  refine G_aload_n hO 1 dX0_init_16 rfl rfl ?_
  refine A_getf (i := 20) (j := 2) hO cl0 (by simp [ad2, va_up, hA, had0, hf0, had1, hf1, had2, hf2, had3, hf3, had4, hf4, had5, hf5, had6, hf6]) (fs := [.ref a3, .int 0]) (v := .ref a3) 0 (by simp [h2, h3, hfr, mem_stL, hids0, hids1, hids2, hids3, hids4, hids5, hids6]) (by simp [up2, va_up, hw, st_0, hw0, hw1, hw2, hw3, hw4, hw5, hw6]) (by decide) mw_169 rfl rfl dX0_init_17 ?_
  refine A_alen (i := 20) (j := 3) hO (by simp [ad2, va_up, hA, had0, hf0, had1, hf1, had2, hf2, had3, hf3, had4, hf4, had5, hf5, had6, hf6]) (a := (14, .inr (.inr (.inr (.inr (va_up (va_up (va_up (va_up (va_up (va_up (va_up (fun _ => none) 0 (some s0)) 1 (some s1)) 2 (some s2)) 3 (some s3)) 4 (some s4)) 5 (some s5)) 6 (some s6))))))) (v := 14) 4 (by simp [h2, h3, hfr, mem_stL, hids0, hids1, hids2, hids3, hids4, hids5, hids6]) (by simp [up2, va_up, hw, st_0, hw0, hw1, hw2, hw3, hw4, hw5, hw6]) rfl rfl dX0_init_20 ?_
  refine G_icmp_ge hO 43 dX0_init_21 (by decide) (fun h9 => absurd h9 (by decide)) (fun _ => ?_)
  refine G_aload_n hO 1 dX0_init_24 rfl rfl ?_
  refine A_getf (i := 20) (j := 2) hO cl0 (by simp [ad2, va_up, hA, had0, hf0, had1, hf1, had2, hf2, had3, hf3, had4, hf4, had5, hf5, had6, hf6]) (fs := [.ref a3, .int 0]) (v := .ref a3) 0 (by simp [h2, h3, hfr, mem_stL, hids0, hids1, hids2, hids3, hids4, hids5, hids6]) (by simp [up2, va_up, hw, st_0, hw0, hw1, hw2, hw3, hw4, hw5, hw6]) (by decide) mw_169 rfl rfl dX0_init_25 ?_
  refine G_iload_n hO 0 dX0_init_28 rfl rfl ?_
  refine G_new hO (fs := [.int 0, .int 0, .int 0, .int 0, .int 0, .int 0, .int 0, .int 0, .int 0, .null, .null, .null, .null, .null]) cl3 9 0 (by simp [h2, h3, hfr, mem_stL, hids0, hids1, hids2, hids3, hids4, hids5, hids6]) mw_166 mw_24 mw_2 (by intro q hq; rcases (by omega : q = 0 ∨ q = 1 ∨ q = 2 ∨ q = 3 ∨ q = 4 ∨ q = 5 ∨ q = 6 ∨ q = 7 ∨ q = 8 ∨ q = 9 ∨ q = 10 ∨ q = 11 ∨ q = 12 ∨ q = 13) with h | h | h | h | h | h | h | h | h | h | h | h | h | h <;> subst h <;> rfl) (Nat.le_of_ble_eq_true rfl) (Nat.le_of_ble_eq_true rfl) dX0_init_29 (fun s7 => ?_)
  refine G_dup hO dX0_init_32 rfl ?_
  refine G_callI hO (rest := [.ref s7, .int 7, .ref a3]) [] (fun l => c_X3_initA (n := 9) (A := s7) (by simp [ad2, va_up, hA, had0, hf0, had1, hf1, had2, hf2, had3, hf3, had4, hf4, had5, hf5, had6, hf6]) (by intro j; simp [h2, h3, hfr, mem_stL, hids0, hids1, hids2, hids3, hids4, hids5, hids6]; try omega) (by simp [up2, va_up, hw, st_0, hw0, hw1, hw2, hw3, hw4, hw5, hw6])) cv_X3_init mw_26 rfl mw_168 rfl rfl (Nat.le_of_ble_eq_true rfl) (by decide) (by decide) dX0_init_33 ?_
  rintro v ids7 aD7 w7 ⟨rfl, hids7, ⟨f7, hf7, had7⟩, hw7⟩
  show G Γ _ _ 121 1366 _ _ _ [.ref s7, .int 7, .ref a3]
  refine A_aastS (n := 14) (i := 20) (j := 3) (a := 9) (b := 0) hO (by simp [ad2, va_up, hA, had0, hf0, had1, hf1, had2, hf2, had3, hf3, had4, hf4, had5, hf5, had6, hf6, had7, hf7]) (by simp [ad2, va_up, hA, had0, hf0, had1, hf1, had2, hf2, had3, hf3, had4, hf4, had5, hf5, had6, hf6, had7, hf7]) (f := (va_up (va_up (va_up (va_up (va_up (va_up (va_up (fun _ => none) 0 (some s0)) 1 (some s1)) 2 (some s2)) 3 (some s3)) 4 (some s4)) 5 (some s5)) 6 (some s6))) 7 (by decide) (vs := stF aD7 9 cI) (by simp [h2, h3, hfr, mem_stL, hids0, hids1, hids2, hids3, hids4, hids5, hids6, hids7]) (by simp [up2, va_up, hw, st_0, hw0, hw1, hw2, hw3, hw4, hw5, hw6, hw7]) (by simp [h2, h3, hfr, mem_stL, hids0, hids1, hids2, hids3, hids4, hids5, hids6, hids7]) (by simp [up2, va_up, hw, st_0, hw0, hw1, hw2, hw3, hw4, hw5, hw6, hw7]) (vp_lit (by decide)) dX0_init_36 ?_
  refine G_iinc hO 0 8 [(1, .int 8), (0, .ref A)] dX0_init_37 rfl (by decide) (by decide) rfl ?_
  refine G_goto hO 15 dX0_init_40 (by decide) ?_
  refine G_iload_n hO 0 dX0_init_15 rfl rfl ?_
  refine G_aload_n hO 1 dX0_init_16 rfl rfl ?_
  refine A_getf (i := 20) (j := 2) hO cl0 (by simp [ad2, va_up, hA, had0, hf0, had1, hf1, had2, hf2, had3, hf3, had4, hf4, had5, hf5, had6, hf6, had7, hf7]) (fs := [.ref a3, .int 0]) (v := .ref a3) 0 (by simp [h2, h3, hfr, mem_stL, hids0, hids1, hids2, hids3, hids4, hids5, hids6, hids7]) (by simp [up2, va_up, hw, st_0, hw0, hw1, hw2, hw3, hw4, hw5, hw6, hw7]) (by decide) mw_169 rfl rfl dX0_init_17 ?_
  refine A_alen (i := 20) (j := 3) hO (by simp [ad2, va_up, hA, had0, hf0, had1, hf1, had2, hf2, had3, hf3, had4, hf4, had5, hf5, had6, hf6, had7, hf7]) (a := (14, .inr (.inr (.inr (.inr (va_up (va_up (va_up (va_up (va_up (va_up (va_up (va_up (fun _ => none) 0 (some s0)) 1 (some s1)) 2 (some s2)) 3 (some s3)) 4 (some s4)) 5 (some s5)) 6 (some s6)) 7 (some s7))))))) (v := 14) 4 (by simp [h2, h3, hfr, mem_stL, hids0, hids1, hids2, hids3, hids4, hids5, hids6, hids7]) (by simp [up2, va_up, hw, st_0, hw0, hw1, hw2, hw3, hw4, hw5, hw6, hw7]) rfl rfl dX0_init_20 ?_
  refine G_icmp_ge hO 43 dX0_init_21 (by decide) (fun h9 => absurd h9 (by decide)) (fun _ => ?_)
  refine G_aload_n hO 1 dX0_init_24 rfl rfl ?_
  refine A_getf (i := 20) (j := 2) hO cl0 (by simp [ad2, va_up, hA, had0, hf0, had1, hf1, had2, hf2, had3, hf3, had4, hf4, had5, hf5, had6, hf6, had7, hf7]) (fs := [.ref a3, .int 0]) (v := .ref a3) 0 (by simp [h2, h3, hfr, mem_stL, hids0, hids1, hids2, hids3, hids4, hids5, hids6, hids7]) (by simp [up2, va_up, hw, st_0, hw0, hw1, hw2, hw3, hw4, hw5, hw6, hw7]) (by decide) mw_169 rfl rfl dX0_init_25 ?_
  refine G_iload_n hO 0 dX0_init_28 rfl rfl ?_
  refine G_new hO (fs := [.int 0, .int 0, .int 0, .int 0, .int 0, .int 0, .int 0, .int 0, .int 0, .null, .null, .null, .null, .null]) cl3 10 0 (by simp [h2, h3, hfr, mem_stL, hids0, hids1, hids2, hids3, hids4, hids5, hids6, hids7]) mw_166 mw_24 mw_2 (by intro q hq; rcases (by omega : q = 0 ∨ q = 1 ∨ q = 2 ∨ q = 3 ∨ q = 4 ∨ q = 5 ∨ q = 6 ∨ q = 7 ∨ q = 8 ∨ q = 9 ∨ q = 10 ∨ q = 11 ∨ q = 12 ∨ q = 13) with h | h | h | h | h | h | h | h | h | h | h | h | h | h <;> subst h <;> rfl) (Nat.le_of_ble_eq_true rfl) (Nat.le_of_ble_eq_true rfl) dX0_init_29 (fun s8 => ?_)
  refine G_dup hO dX0_init_32 rfl ?_
  refine G_callI hO (rest := [.ref s8, .int 8, .ref a3]) [] (fun l => c_X3_initA (n := 10) (A := s8) (by simp [ad2, va_up, hA, had0, hf0, had1, hf1, had2, hf2, had3, hf3, had4, hf4, had5, hf5, had6, hf6, had7, hf7]) (by intro j; simp [h2, h3, hfr, mem_stL, hids0, hids1, hids2, hids3, hids4, hids5, hids6, hids7]; try omega) (by simp [up2, va_up, hw, st_0, hw0, hw1, hw2, hw3, hw4, hw5, hw6, hw7])) cv_X3_init mw_26 rfl mw_168 rfl rfl (Nat.le_of_ble_eq_true rfl) (by decide) (by decide) dX0_init_33 ?_
  rintro v ids8 aD8 w8 ⟨rfl, hids8, ⟨f8, hf8, had8⟩, hw8⟩
  show G Γ _ _ 136 1535 _ _ _ [.ref s8, .int 8, .ref a3]
  refine A_aastS (n := 14) (i := 20) (j := 3) (a := 10) (b := 0) hO (by simp [ad2, va_up, hA, had0, hf0, had1, hf1, had2, hf2, had3, hf3, had4, hf4, had5, hf5, had6, hf6, had7, hf7, had8, hf8]) (by simp [ad2, va_up, hA, had0, hf0, had1, hf1, had2, hf2, had3, hf3, had4, hf4, had5, hf5, had6, hf6, had7, hf7, had8, hf8]) (f := (va_up (va_up (va_up (va_up (va_up (va_up (va_up (va_up (fun _ => none) 0 (some s0)) 1 (some s1)) 2 (some s2)) 3 (some s3)) 4 (some s4)) 5 (some s5)) 6 (some s6)) 7 (some s7))) 8 (by decide) (vs := stF aD8 10 cI) (by simp [h2, h3, hfr, mem_stL, hids0, hids1, hids2, hids3, hids4, hids5, hids6, hids7, hids8]) (by simp [up2, va_up, hw, st_0, hw0, hw1, hw2, hw3, hw4, hw5, hw6, hw7, hw8]) (by simp [h2, h3, hfr, mem_stL, hids0, hids1, hids2, hids3, hids4, hids5, hids6, hids7, hids8]) (by simp [up2, va_up, hw, st_0, hw0, hw1, hw2, hw3, hw4, hw5, hw6, hw7, hw8]) (vp_lit (by decide)) dX0_init_36 ?_
  refine G_iinc hO 0 9 [(1, .int 9), (0, .ref A)] dX0_init_37 rfl (by decide) (by decide) rfl ?_
  refine G_goto hO 15 dX0_init_40 (by decide) ?_
  refine G_iload_n hO 0 dX0_init_15 rfl rfl ?_
  refine G_aload_n hO 1 dX0_init_16 rfl rfl ?_
  refine A_getf (i := 20) (j := 2) hO cl0 (by simp [ad2, va_up, hA, had0, hf0, had1, hf1, had2, hf2, had3, hf3, had4, hf4, had5, hf5, had6, hf6, had7, hf7, had8, hf8]) (fs := [.ref a3, .int 0]) (v := .ref a3) 0 (by simp [h2, h3, hfr, mem_stL, hids0, hids1, hids2, hids3, hids4, hids5, hids6, hids7, hids8]) (by simp [up2, va_up, hw, st_0, hw0, hw1, hw2, hw3, hw4, hw5, hw6, hw7, hw8]) (by decide) mw_169 rfl rfl dX0_init_17 ?_
  refine A_alen (i := 20) (j := 3) hO (by simp [ad2, va_up, hA, had0, hf0, had1, hf1, had2, hf2, had3, hf3, had4, hf4, had5, hf5, had6, hf6, had7, hf7, had8, hf8]) (a := (14, .inr (.inr (.inr (.inr (va_up (va_up (va_up (va_up (va_up (va_up (va_up (va_up (va_up (fun _ => none) 0 (some s0)) 1 (some s1)) 2 (some s2)) 3 (some s3)) 4 (some s4)) 5 (some s5)) 6 (some s6)) 7 (some s7)) 8 (some s8))))))) (v := 14) 4 (by simp [h2, h3, hfr, mem_stL, hids0, hids1, hids2, hids3, hids4, hids5, hids6, hids7, hids8]) (by simp [up2, va_up, hw, st_0, hw0, hw1, hw2, hw3, hw4, hw5, hw6, hw7, hw8]) rfl rfl dX0_init_20 ?_
  refine G_icmp_ge hO 43 dX0_init_21 (by decide) (fun h9 => absurd h9 (by decide)) (fun _ => ?_)
  refine G_aload_n hO 1 dX0_init_24 rfl rfl ?_
  refine A_getf (i := 20) (j := 2) hO cl0 (by simp [ad2, va_up, hA, had0, hf0, had1, hf1, had2, hf2, had3, hf3, had4, hf4, had5, hf5, had6, hf6, had7, hf7, had8, hf8]) (fs := [.ref a3, .int 0]) (v := .ref a3) 0 (by simp [h2, h3, hfr, mem_stL, hids0, hids1, hids2, hids3, hids4, hids5, hids6, hids7, hids8]) (by simp [up2, va_up, hw, st_0, hw0, hw1, hw2, hw3, hw4, hw5, hw6, hw7, hw8]) (by decide) mw_169 rfl rfl dX0_init_25 ?_
  refine G_iload_n hO 0 dX0_init_28 rfl rfl ?_
  refine G_new hO (fs := [.int 0, .int 0, .int 0, .int 0, .int 0, .int 0, .int 0, .int 0, .int 0, .null, .null, .null, .null, .null]) cl3 11 0 (by simp [h2, h3, hfr, mem_stL, hids0, hids1, hids2, hids3, hids4, hids5, hids6, hids7, hids8]) mw_166 mw_24 mw_2 (by intro q hq; rcases (by omega : q = 0 ∨ q = 1 ∨ q = 2 ∨ q = 3 ∨ q = 4 ∨ q = 5 ∨ q = 6 ∨ q = 7 ∨ q = 8 ∨ q = 9 ∨ q = 10 ∨ q = 11 ∨ q = 12 ∨ q = 13) with h | h | h | h | h | h | h | h | h | h | h | h | h | h <;> subst h <;> rfl) (Nat.le_of_ble_eq_true rfl) (Nat.le_of_ble_eq_true rfl) dX0_init_29 (fun s9 => ?_)
  refine G_dup hO dX0_init_32 rfl ?_
  refine G_callI hO (rest := [.ref s9, .int 9, .ref a3]) [] (fun l => c_X3_initA (n := 11) (A := s9) (by simp [ad2, va_up, hA, had0, hf0, had1, hf1, had2, hf2, had3, hf3, had4, hf4, had5, hf5, had6, hf6, had7, hf7, had8, hf8]) (by intro j; simp [h2, h3, hfr, mem_stL, hids0, hids1, hids2, hids3, hids4, hids5, hids6, hids7, hids8]; try omega) (by simp [up2, va_up, hw, st_0, hw0, hw1, hw2, hw3, hw4, hw5, hw6, hw7, hw8])) cv_X3_init mw_26 rfl mw_168 rfl rfl (Nat.le_of_ble_eq_true rfl) (by decide) (by decide) dX0_init_33 ?_
  rintro v ids9 aD9 w9 ⟨rfl, hids9, ⟨f9, hf9, had9⟩, hw9⟩
  show G Γ _ _ 151 1704 _ _ _ [.ref s9, .int 9, .ref a3]
  refine A_aastS (n := 14) (i := 20) (j := 3) (a := 11) (b := 0) hO (by simp [ad2, va_up, hA, had0, hf0, had1, hf1, had2, hf2, had3, hf3, had4, hf4, had5, hf5, had6, hf6, had7, hf7, had8, hf8, had9, hf9]) (by simp [ad2, va_up, hA, had0, hf0, had1, hf1, had2, hf2, had3, hf3, had4, hf4, had5, hf5, had6, hf6, had7, hf7, had8, hf8, had9, hf9]) (f := (va_up (va_up (va_up (va_up (va_up (va_up (va_up (va_up (va_up (fun _ => none) 0 (some s0)) 1 (some s1)) 2 (some s2)) 3 (some s3)) 4 (some s4)) 5 (some s5)) 6 (some s6)) 7 (some s7)) 8 (some s8))) 9 (by decide) (vs := stF aD9 11 cI) (by simp [h2, h3, hfr, mem_stL, hids0, hids1, hids2, hids3, hids4, hids5, hids6, hids7, hids8, hids9]) (by simp [up2, va_up, hw, st_0, hw0, hw1, hw2, hw3, hw4, hw5, hw6, hw7, hw8, hw9]) (by simp [h2, h3, hfr, mem_stL, hids0, hids1, hids2, hids3, hids4, hids5, hids6, hids7, hids8, hids9]) (by simp [up2, va_up, hw, st_0, hw0, hw1, hw2, hw3, hw4, hw5, hw6, hw7, hw8, hw9]) (vp_lit (by decide)) dX0_init_36 ?_
  refine G_iinc hO 0 10 [(1, .int 10), (0, .ref A)] dX0_init_37 rfl (by decide) (by decide) rfl ?_
  refine G_goto hO 15 dX0_init_40 (by decide) ?_
  refine G_iload_n hO 0 dX0_init_15 rfl rfl ?_
  refine G_aload_n hO 1 dX0_init_16 rfl rfl ?_
  refine A_getf (i := 20) (j := 2) hO cl0 (by simp [ad2, va_up, hA, had0, hf0, had1, hf1, had2, hf2, had3, hf3, had4, hf4, had5, hf5, had6, hf6, had7, hf7, had8, hf8, had9, hf9]) (fs := [.ref a3, .int 0]) (v := .ref a3) 0 (by simp [h2, h3, hfr, mem_stL, hids0, hids1, hids2, hids3, hids4, hids5, hids6, hids7, hids8, hids9]) (by simp [up2, va_up, hw, st_0, hw0, hw1, hw2, hw3, hw4, hw5, hw6, hw7, hw8, hw9]) (by decide) mw_169 rfl rfl dX0_init_17 ?_
  refine A_alen (i := 20) (j := 3) hO (by simp [ad2, va_up, hA, had0, hf0, had1, hf1, had2, hf2, had3, hf3, had4, hf4, had5, hf5, had6, hf6, had7, hf7, had8, hf8, had9, hf9]) (a := (14, .inr (.inr (.inr (.inr (va_up (va_up (va_up (va_up (va_up (va_up (va_up (va_up (va_up (va_up (fun _ => none) 0 (some s0)) 1 (some s1)) 2 (some s2)) 3 (some s3)) 4 (some s4)) 5 (some s5)) 6 (some s6)) 7 (some s7)) 8 (some s8)) 9 (some s9))))))) (v := 14) 4 (by simp [h2, h3, hfr, mem_stL, hids0, hids1, hids2, hids3, hids4, hids5, hids6, hids7, hids8, hids9]) (by simp [up2, va_up, hw, st_0, hw0, hw1, hw2, hw3, hw4, hw5, hw6, hw7, hw8, hw9]) rfl rfl dX0_init_20 ?_
  refine G_icmp_ge hO 43 dX0_init_21 (by decide) (fun h9 => absurd h9 (by decide)) (fun _ => ?_)
  refine G_aload_n hO 1 dX0_init_24 rfl rfl ?_
  refine A_getf (i := 20) (j := 2) hO cl0 (by simp [ad2, va_up, hA, had0, hf0, had1, hf1, had2, hf2, had3, hf3, had4, hf4, had5, hf5, had6, hf6, had7, hf7, had8, hf8, had9, hf9]) (fs := [.ref a3, .int 0]) (v := .ref a3) 0 (by simp [h2, h3, hfr, mem_stL, hids0, hids1, hids2, hids3, hids4, hids5, hids6, hids7, hids8, hids9]) (by simp [up2, va_up, hw, st_0, hw0, hw1, hw2, hw3, hw4, hw5, hw6, hw7, hw8, hw9]) (by decide) mw_169 rfl rfl dX0_init_25 ?_
  refine G_iload_n hO 0 dX0_init_28 rfl rfl ?_
  refine G_new hO (fs := [.int 0, .int 0, .int 0, .int 0, .int 0, .int 0, .int 0, .int 0, .int 0, .null, .null, .null, .null, .null]) cl3 12 0 (by simp [h2, h3, hfr, mem_stL, hids0, hids1, hids2, hids3, hids4, hids5, hids6, hids7, hids8, hids9]) mw_166 mw_24 mw_2 (by intro q hq; rcases (by omega : q = 0 ∨ q = 1 ∨ q = 2 ∨ q = 3 ∨ q = 4 ∨ q = 5 ∨ q = 6 ∨ q = 7 ∨ q = 8 ∨ q = 9 ∨ q = 10 ∨ q = 11 ∨ q = 12 ∨ q = 13) with h | h | h | h | h | h | h | h | h | h | h | h | h | h <;> subst h <;> rfl) (Nat.le_of_ble_eq_true rfl) (Nat.le_of_ble_eq_true rfl) dX0_init_29 (fun s10 => ?_)
  refine G_dup hO dX0_init_32 rfl ?_
  refine G_callI hO (rest := [.ref s10, .int 10, .ref a3]) [] (fun l => c_X3_initA (n := 12) (A := s10) (by simp [ad2, va_up, hA, had0, hf0, had1, hf1, had2, hf2, had3, hf3, had4, hf4, had5, hf5, had6, hf6, had7, hf7, had8, hf8, had9, hf9]) (by intro j; simp [h2, h3, hfr, mem_stL, hids0, hids1, hids2, hids3, hids4, hids5, hids6, hids7, hids8, hids9]; try omega) (by simp [up2, va_up, hw, st_0, hw0, hw1, hw2, hw3, hw4, hw5, hw6, hw7, hw8, hw9])) cv_X3_init mw_26 rfl mw_168 rfl rfl (Nat.le_of_ble_eq_true rfl) (by decide) (by decide) dX0_init_33 ?_
  rintro v ids10 aD10 w10 ⟨rfl, hids10, ⟨f10, hf10, had10⟩, hw10⟩
  show G Γ _ _ 166 1873 _ _ _ [.ref s10, .int 10, .ref a3]
  refine A_aastS (n := 14) (i := 20) (j := 3) (a := 12) (b := 0) hO (by simp [ad2, va_up, hA, had0, hf0, had1, hf1, had2, hf2, had3, hf3, had4, hf4, had5, hf5, had6, hf6, had7, hf7, had8, hf8, had9, hf9, had10, hf10]) (by simp [ad2, va_up, hA, had0, hf0, had1, hf1, had2, hf2, had3, hf3, had4, hf4, had5, hf5, had6, hf6, had7, hf7, had8, hf8, had9, hf9, had10, hf10]) (f := (va_up (va_up (va_up (va_up (va_up (va_up (va_up (va_up (va_up (va_up (fun _ => none) 0 (some s0)) 1 (some s1)) 2 (some s2)) 3 (some s3)) 4 (some s4)) 5 (some s5)) 6 (some s6)) 7 (some s7)) 8 (some s8)) 9 (some s9))) 10 (by decide) (vs := stF aD10 12 cI) (by simp [h2, h3, hfr, mem_stL, hids0, hids1, hids2, hids3, hids4, hids5, hids6, hids7, hids8, hids9, hids10]) (by simp [up2, va_up, hw, st_0, hw0, hw1, hw2, hw3, hw4, hw5, hw6, hw7, hw8, hw9, hw10]) (by simp [h2, h3, hfr, mem_stL, hids0, hids1, hids2, hids3, hids4, hids5, hids6, hids7, hids8, hids9, hids10]) (by simp [up2, va_up, hw, st_0, hw0, hw1, hw2, hw3, hw4, hw5, hw6, hw7, hw8, hw9, hw10]) (vp_lit (by decide)) dX0_init_36 ?_
  refine G_iinc hO 0 11 [(1, .int 11), (0, .ref A)] dX0_init_37 rfl (by decide) (by decide) rfl ?_
  refine G_goto hO 15 dX0_init_40 (by decide) ?_
  refine G_iload_n hO 0 dX0_init_15 rfl rfl ?_
  refine G_aload_n hO 1 dX0_init_16 rfl rfl ?_
  refine A_getf (i := 20) (j := 2) hO cl0 (by simp [ad2, va_up, hA, had0, hf0, had1, hf1, had2, hf2, had3, hf3, had4, hf4, had5, hf5, had6, hf6, had7, hf7, had8, hf8, had9, hf9, had10, hf10]) (fs := [.ref a3, .int 0]) (v := .ref a3) 0 (by simp [h2, h3, hfr, mem_stL, hids0, hids1, hids2, hids3, hids4, hids5, hids6, hids7, hids8, hids9, hids10]) (by simp [up2, va_up, hw, st_0, hw0, hw1, hw2, hw3, hw4, hw5, hw6, hw7, hw8, hw9, hw10]) (by decide) mw_169 rfl rfl dX0_init_17 ?_
  refine A_alen (i := 20) (j := 3) hO (by simp [ad2, va_up, hA, had0, hf0, had1, hf1, had2, hf2, had3, hf3, had4, hf4, had5, hf5, had6, hf6, had7, hf7, had8, hf8, had9, hf9, had10, hf10]) (a := (14, .inr (.inr (.inr (.inr (va_up (va_up (va_up (va_up (va_up (va_up (va_up (va_up (va_up (va_up (va_up (fun _ => none) 0 (some s0)) 1 (some s1)) 2 (some s2)) 3 (some s3)) 4 (some s4)) 5 (some s5)) 6 (some s6)) 7 (some s7)) 8 (some s8)) 9 (some s9)) 10 (some s10))))))) (v := 14) 4 (by simp [h2, h3, hfr, mem_stL, hids0, hids1, hids2, hids3, hids4, hids5, hids6, hids7, hids8, hids9, hids10]) (by simp [up2, va_up, hw, st_0, hw0, hw1, hw2, hw3, hw4, hw5, hw6, hw7, hw8, hw9, hw10]) rfl rfl dX0_init_20 ?_
  refine G_icmp_ge hO 43 dX0_init_21 (by decide) (fun h9 => absurd h9 (by decide)) (fun _ => ?_)
  refine G_aload_n hO 1 dX0_init_24 rfl rfl ?_
  refine A_getf (i := 20) (j := 2) hO cl0 (by simp [ad2, va_up, hA, had0, hf0, had1, hf1, had2, hf2, had3, hf3, had4, hf4, had5, hf5, had6, hf6, had7, hf7, had8, hf8, had9, hf9, had10, hf10]) (fs := [.ref a3, .int 0]) (v := .ref a3) 0 (by simp [h2, h3, hfr, mem_stL, hids0, hids1, hids2, hids3, hids4, hids5, hids6, hids7, hids8, hids9, hids10]) (by simp [up2, va_up, hw, st_0, hw0, hw1, hw2, hw3, hw4, hw5, hw6, hw7, hw8, hw9, hw10]) (by decide) mw_169 rfl rfl dX0_init_25 ?_
  refine G_iload_n hO 0 dX0_init_28 rfl rfl ?_
  refine G_new hO (fs := [.int 0, .int 0, .int 0, .int 0, .int 0, .int 0, .int 0, .int 0, .int 0, .null, .null, .null, .null, .null]) cl3 13 0 (by simp [h2, h3, hfr, mem_stL, hids0, hids1, hids2, hids3, hids4, hids5, hids6, hids7, hids8, hids9, hids10]) mw_166 mw_24 mw_2 (by intro q hq; rcases (by omega : q = 0 ∨ q = 1 ∨ q = 2 ∨ q = 3 ∨ q = 4 ∨ q = 5 ∨ q = 6 ∨ q = 7 ∨ q = 8 ∨ q = 9 ∨ q = 10 ∨ q = 11 ∨ q = 12 ∨ q = 13) with h | h | h | h | h | h | h | h | h | h | h | h | h | h <;> subst h <;> rfl) (Nat.le_of_ble_eq_true rfl) (Nat.le_of_ble_eq_true rfl) dX0_init_29 (fun s11 => ?_)
  refine G_dup hO dX0_init_32 rfl ?_
  refine G_callI hO (rest := [.ref s11, .int 11, .ref a3]) [] (fun l => c_X3_initA (n := 13) (A := s11) (by simp [ad2, va_up, hA, had0, hf0, had1, hf1, had2, hf2, had3, hf3, had4, hf4, had5, hf5, had6, hf6, had7, hf7, had8, hf8, had9, hf9, had10, hf10]) (by intro j; simp [h2, h3, hfr, mem_stL, hids0, hids1, hids2, hids3, hids4, hids5, hids6, hids7, hids8, hids9, hids10]; try omega) (by simp [up2, va_up, hw, st_0, hw0, hw1, hw2, hw3, hw4, hw5, hw6, hw7, hw8, hw9, hw10])) cv_X3_init mw_26 rfl mw_168 rfl rfl (Nat.le_of_ble_eq_true rfl) (by decide) (by decide) dX0_init_33 ?_
  rintro v ids11 aD11 w11 ⟨rfl, hids11, ⟨f11, hf11, had11⟩, hw11⟩
  show G Γ _ _ 181 2042 _ _ _ [.ref s11, .int 11, .ref a3]
  refine A_aastS (n := 14) (i := 20) (j := 3) (a := 13) (b := 0) hO (by simp [ad2, va_up, hA, had0, hf0, had1, hf1, had2, hf2, had3, hf3, had4, hf4, had5, hf5, had6, hf6, had7, hf7, had8, hf8, had9, hf9, had10, hf10, had11, hf11]) (by simp [ad2, va_up, hA, had0, hf0, had1, hf1, had2, hf2, had3, hf3, had4, hf4, had5, hf5, had6, hf6, had7, hf7, had8, hf8, had9, hf9, had10, hf10, had11, hf11]) (f := (va_up (va_up (va_up (va_up (va_up (va_up (va_up (va_up (va_up (va_up (va_up (fun _ => none) 0 (some s0)) 1 (some s1)) 2 (some s2)) 3 (some s3)) 4 (some s4)) 5 (some s5)) 6 (some s6)) 7 (some s7)) 8 (some s8)) 9 (some s9)) 10 (some s10))) 11 (by decide) (vs := stF aD11 13 cI) (by simp [h2, h3, hfr, mem_stL, hids0, hids1, hids2, hids3, hids4, hids5, hids6, hids7, hids8, hids9, hids10, hids11]) (by simp [up2, va_up, hw, st_0, hw0, hw1, hw2, hw3, hw4, hw5, hw6, hw7, hw8, hw9, hw10, hw11]) (by simp [h2, h3, hfr, mem_stL, hids0, hids1, hids2, hids3, hids4, hids5, hids6, hids7, hids8, hids9, hids10, hids11]) (by simp [up2, va_up, hw, st_0, hw0, hw1, hw2, hw3, hw4, hw5, hw6, hw7, hw8, hw9, hw10, hw11]) (vp_lit (by decide)) dX0_init_36 ?_
  refine G_iinc hO 0 12 [(1, .int 12), (0, .ref A)] dX0_init_37 rfl (by decide) (by decide) rfl ?_
  refine G_goto hO 15 dX0_init_40 (by decide) ?_
  refine G_iload_n hO 0 dX0_init_15 rfl rfl ?_
  refine G_aload_n hO 1 dX0_init_16 rfl rfl ?_
  refine A_getf (i := 20) (j := 2) hO cl0 (by simp [ad2, va_up, hA, had0, hf0, had1, hf1, had2, hf2, had3, hf3, had4, hf4, had5, hf5, had6, hf6, had7, hf7, had8, hf8, had9, hf9, had10, hf10, had11, hf11]) (fs := [.ref a3, .int 0]) (v := .ref a3) 0 (by simp [h2, h3, hfr, mem_stL, hids0, hids1, hids2, hids3, hids4, hids5, hids6, hids7, hids8, hids9, hids10, hids11]) (by simp [up2, va_up, hw, st_0, hw0, hw1, hw2, hw3, hw4, hw5, hw6, hw7, hw8, hw9, hw10, hw11]) (by decide) mw_169 rfl rfl dX0_init_17 ?_
  refine A_alen (i := 20) (j := 3) hO (by simp [ad2, va_up, hA, had0, hf0, had1, hf1, had2, hf2, had3, hf3, had4, hf4, had5, hf5, had6, hf6, had7, hf7, had8, hf8, had9, hf9, had10, hf10, had11, hf11]) (a := (14, .inr (.inr (.inr (.inr (va_up (va_up (va_up (va_up (va_up (va_up (va_up (va_up (va_up (va_up (va_up (va_up (fun _ => none) 0 (some s0)) 1 (some s1)) 2 (some s2)) 3 (some s3)) 4 (some s4)) 5 (some s5)) 6 (some s6)) 7 (some s7)) 8 (some s8)) 9 (some s9)) 10 (some s10)) 11 (some s11))))))) (v := 14) 4 (by simp [h2, h3, hfr, mem_stL, hids0, hids1, hids2, hids3, hids4, hids5, hids6, hids7, hids8, hids9, hids10, hids11]) (by simp [up2, va_up, hw, st_0, hw0, hw1, hw2, hw3, hw4, hw5, hw6, hw7, hw8, hw9, hw10, hw11]) rfl rfl dX0_init_20 ?_
  refine G_icmp_ge hO 43 dX0_init_21 (by decide) (fun h9 => absurd h9 (by decide)) (fun _ => ?_)
  refine G_aload_n hO 1 dX0_init_24 rfl rfl ?_
  refine A_getf (i := 20) (j := 2) hO cl0 (by simp [ad2, va_up, hA, had0, hf0, had1, hf1, had2, hf2, had3, hf3, had4, hf4, had5, hf5, had6, hf6, had7, hf7, had8, hf8, had9, hf9, had10, hf10, had11, hf11]) (fs := [.ref a3, .int 0]) (v := .ref a3) 0 (by simp [h2, h3, hfr, mem_stL, hids0, hids1, hids2, hids3, hids4, hids5, hids6, hids7, hids8, hids9, hids10, hids11]) (by simp [up2, va_up, hw, st_0, hw0, hw1, hw2, hw3, hw4, hw5, hw6, hw7, hw8, hw9, hw10, hw11]) (by decide) mw_169 rfl rfl dX0_init_25 ?_
  refine G_iload_n hO 0 dX0_init_28 rfl rfl ?_
  refine G_new hO (fs := [.int 0, .int 0, .int 0, .int 0, .int 0, .int 0, .int 0, .int 0, .int 0, .null, .null, .null, .null, .null]) cl3 14 0 (by simp [h2, h3, hfr, mem_stL, hids0, hids1, hids2, hids3, hids4, hids5, hids6, hids7, hids8, hids9, hids10, hids11]) mw_166 mw_24 mw_2 (by intro q hq; rcases (by omega : q = 0 ∨ q = 1 ∨ q = 2 ∨ q = 3 ∨ q = 4 ∨ q = 5 ∨ q = 6 ∨ q = 7 ∨ q = 8 ∨ q = 9 ∨ q = 10 ∨ q = 11 ∨ q = 12 ∨ q = 13) with h | h | h | h | h | h | h | h | h | h | h | h | h | h <;> subst h <;> rfl) (Nat.le_of_ble_eq_true rfl) (Nat.le_of_ble_eq_true rfl) dX0_init_29 (fun s12 => ?_)
  refine G_dup hO dX0_init_32 rfl ?_
  refine G_callI hO (rest := [.ref s12, .int 12, .ref a3]) [] (fun l => c_X3_initA (n := 14) (A := s12) (by simp [ad2, va_up, hA, had0, hf0, had1, hf1, had2, hf2, had3, hf3, had4, hf4, had5, hf5, had6, hf6, had7, hf7, had8, hf8, had9, hf9, had10, hf10, had11, hf11]) (by intro j; simp [h2, h3, hfr, mem_stL, hids0, hids1, hids2, hids3, hids4, hids5, hids6, hids7, hids8, hids9, hids10, hids11]; try omega) (by simp [up2, va_up, hw, st_0, hw0, hw1, hw2, hw3, hw4, hw5, hw6, hw7, hw8, hw9, hw10, hw11])) cv_X3_init mw_26 rfl mw_168 rfl rfl (Nat.le_of_ble_eq_true rfl) (by decide) (by decide) dX0_init_33 ?_
  rintro v ids12 aD12 w12 ⟨rfl, hids12, ⟨f12, hf12, had12⟩, hw12⟩
  show G Γ _ _ 196 2211 _ _ _ [.ref s12, .int 12, .ref a3]
  refine A_aastS (n := 14) (i := 20) (j := 3) (a := 14) (b := 0) hO (by simp [ad2, va_up, hA, had0, hf0, had1, hf1, had2, hf2, had3, hf3, had4, hf4, had5, hf5, had6, hf6, had7, hf7, had8, hf8, had9, hf9, had10, hf10, had11, hf11, had12, hf12]) (by simp [ad2, va_up, hA, had0, hf0, had1, hf1, had2, hf2, had3, hf3, had4, hf4, had5, hf5, had6, hf6, had7, hf7, had8, hf8, had9, hf9, had10, hf10, had11, hf11, had12, hf12]) (f := (va_up (va_up (va_up (va_up (va_up (va_up (va_up (va_up (va_up (va_up (va_up (va_up (fun _ => none) 0 (some s0)) 1 (some s1)) 2 (some s2)) 3 (some s3)) 4 (some s4)) 5 (some s5)) 6 (some s6)) 7 (some s7)) 8 (some s8)) 9 (some s9)) 10 (some s10)) 11 (some s11))) 12 (by decide) (vs := stF aD12 14 cI) (by simp [h2, h3, hfr, mem_stL, hids0, hids1, hids2, hids3, hids4, hids5, hids6, hids7, hids8, hids9, hids10, hids11, hids12]) (by simp [up2, va_up, hw, st_0, hw0, hw1, hw2, hw3, hw4, hw5, hw6, hw7, hw8, hw9, hw10, hw11, hw12]) (by simp [h2, h3, hfr, mem_stL, hids0, hids1, hids2, hids3, hids4, hids5, hids6, hids7, hids8, hids9, hids10, hids11, hids12]) (by simp [up2, va_up, hw, st_0, hw0, hw1, hw2, hw3, hw4, hw5, hw6, hw7, hw8, hw9, hw10, hw11, hw12]) (vp_lit (by decide)) dX0_init_36 ?_
  refine G_iinc hO 0 13 [(1, .int 13), (0, .ref A)] dX0_init_37 rfl (by decide) (by decide) rfl ?_
  refine G_goto hO 15 dX0_init_40 (by decide) ?_
  refine G_iload_n hO 0 dX0_init_15 rfl rfl ?_
  refine G_aload_n hO 1 dX0_init_16 rfl rfl ?_
  refine A_getf (i := 20) (j := 2) hO cl0 (by simp [ad2, va_up, hA, had0, hf0, had1, hf1, had2, hf2, had3, hf3, had4, hf4, had5, hf5, had6, hf6, had7, hf7, had8, hf8, had9, hf9, had10, hf10, had11, hf11, had12, hf12]) (fs := [.ref a3, .int 0]) (v := .ref a3) 0 (by simp [h2, h3, hfr, mem_stL, hids0, hids1, hids2, hids3, hids4, hids5, hids6, hids7, hids8, hids9, hids10, hids11, hids12]) (by simp [up2, va_up, hw, st_0, hw0, hw1, hw2, hw3, hw4, hw5, hw6, hw7, hw8, hw9, hw10, hw11, hw12]) (by decide) mw_169 rfl rfl dX0_init_17 ?_
  refine A_alen (i := 20) (j := 3) hO (by simp [ad2, va_up, hA, had0, hf0, had1, hf1, had2, hf2, had3, hf3, had4, hf4, had5, hf5, had6, hf6, had7, hf7, had8, hf8, had9, hf9, had10, hf10, had11, hf11, had12, hf12]) (a := (14, .inr (.inr (.inr (.inr (va_up (va_up (va_up (va_up (va_up (va_up (va_up (va_up (va_up (va_up (va_up (va_up (va_up (fun _ => none) 0 (some s0)) 1 (some s1)) 2 (some s2)) 3 (some s3)) 4 (some s4)) 5 (some s5)) 6 (some s6)) 7 (some s7)) 8 (some s8)) 9 (some s9)) 10 (some s10)) 11 (some s11)) 12 (some s12))))))) (v := 14) 4 (by simp [h2, h3, hfr, mem_stL, hids0, hids1, hids2, hids3, hids4, hids5, hids6, hids7, hids8, hids9, hids10, hids11, hids12]) (by simp [up2, va_up, hw, st_0, hw0, hw1, hw2, hw3, hw4, hw5, hw6, hw7, hw8, hw9, hw10, hw11, hw12]) rfl rfl dX0_init_20 ?_
  refine G_icmp_ge hO 43 dX0_init_21 (by decide) (fun h9 => absurd h9 (by decide)) (fun _ => ?_)
  refine G_aload_n hO 1 dX0_init_24 rfl rfl ?_
  refine A_getf (i := 20) (j := 2) hO cl0 (by simp [ad2, va_up, hA, had0, hf0, had1, hf1, had2, hf2, had3, hf3, had4, hf4, had5, hf5, had6, hf6, had7, hf7, had8, hf8, had9, hf9, had10, hf10, had11, hf11, had12, hf12]) (fs := [.ref a3, .int 0]) (v := .ref a3) 0 (by simp [h2, h3, hfr, mem_stL, hids0, hids1, hids2, hids3, hids4, hids5, hids6, hids7, hids8, hids9, hids10, hids11, hids12]) (by simp [up2, va_up, hw, st_0, hw0, hw1, hw2, hw3, hw4, hw5, hw6, hw7, hw8, hw9, hw10, hw11, hw12]) (by decide) mw_169 rfl rfl dX0_init_25 ?_
  refine G_iload_n hO 0 dX0_init_28 rfl rfl ?_
  refine G_new hO (fs := [.int 0, .int 0, .int 0, .int 0, .int 0, .int 0, .int 0, .int 0, .int 0, .null, .null, .null, .null, .null]) cl3 15 0 (by simp [h2, h3, hfr, mem_stL, hids0, hids1, hids2, hids3, hids4, hids5, hids6, hids7, hids8, hids9, hids10, hids11, hids12]) mw_166 mw_24 mw_2 (by intro q hq; rcases (by omega : q = 0 ∨ q = 1 ∨ q = 2 ∨ q = 3 ∨ q = 4 ∨ q = 5 ∨ q = 6 ∨ q = 7 ∨ q = 8 ∨ q = 9 ∨ q = 10 ∨ q = 11 ∨ q = 12 ∨ q = 13) with h | h | h | h | h | h | h | h | h | h | h | h | h | h <;> subst h <;> rfl) (Nat.le_of_ble_eq_true rfl) (Nat.le_of_ble_eq_true rfl) dX0_init_29 (fun s13 => ?_)
  refine G_dup hO dX0_init_32 rfl ?_
  refine G_callI hO (rest := [.ref s13, .int 13, .ref a3]) [] (fun l => c_X3_initA (n := 15) (A := s13) (by simp [ad2, va_up, hA, had0, hf0, had1, hf1, had2, hf2, had3, hf3, had4, hf4, had5, hf5, had6, hf6, had7, hf7, had8, hf8, had9, hf9, had10, hf10, had11, hf11, had12, hf12]) (by intro j; simp [h2, h3, hfr, mem_stL, hids0, hids1, hids2, hids3, hids4, hids5, hids6, hids7, hids8, hids9, hids10, hids11, hids12]; try omega) (by simp [up2, va_up, hw, st_0, hw0, hw1, hw2, hw3, hw4, hw5, hw6, hw7, hw8, hw9, hw10, hw11, hw12])) cv_X3_init mw_26 rfl mw_168 rfl rfl (Nat.le_of_ble_eq_true rfl) (by decide) (by decide) dX0_init_33 ?_
  rintro v ids13 aD13 w13 ⟨rfl, hids13, ⟨f13, hf13, had13⟩, hw13⟩
  show G Γ _ _ 211 2380 _ _ _ [.ref s13, .int 13, .ref a3]
  refine A_aastS (n := 14) (i := 20) (j := 3) (a := 15) (b := 0) hO (by simp [ad2, va_up, hA, had0, hf0, had1, hf1, had2, hf2, had3, hf3, had4, hf4, had5, hf5, had6, hf6, had7, hf7, had8, hf8, had9, hf9, had10, hf10, had11, hf11, had12, hf12, had13, hf13]) (by simp [ad2, va_up, hA, had0, hf0, had1, hf1, had2, hf2, had3, hf3, had4, hf4, had5, hf5, had6, hf6, had7, hf7, had8, hf8, had9, hf9, had10, hf10, had11, hf11, had12, hf12, had13, hf13]) (f := (va_up (va_up (va_up (va_up (va_up (va_up (va_up (va_up (va_up (va_up (va_up (va_up (va_up (fun _ => none) 0 (some s0)) 1 (some s1)) 2 (some s2)) 3 (some s3)) 4 (some s4)) 5 (some s5)) 6 (some s6)) 7 (some s7)) 8 (some s8)) 9 (some s9)) 10 (some s10)) 11 (some s11)) 12 (some s12))) 13 (by decide) (vs := stF aD13 15 cI) (by simp [h2, h3, hfr, mem_stL, hids0, hids1, hids2, hids3, hids4, hids5, hids6, hids7, hids8, hids9, hids10, hids11, hids12, hids13]) (by simp [up2, va_up, hw, st_0, hw0, hw1, hw2, hw3, hw4, hw5, hw6, hw7, hw8, hw9, hw10, hw11, hw12, hw13]) (by simp [h2, h3, hfr, mem_stL, hids0, hids1, hids2, hids3, hids4, hids5, hids6, hids7, hids8, hids9, hids10, hids11, hids12, hids13]) (by simp [up2, va_up, hw, st_0, hw0, hw1, hw2, hw3, hw4, hw5, hw6, hw7, hw8, hw9, hw10, hw11, hw12, hw13]) (vp_lit (by decide)) dX0_init_36 ?_
  refine G_iinc hO 0 14 [(1, .int 14), (0, .ref A)] dX0_init_37 rfl (by decide) (by decide) rfl ?_
  refine G_goto hO 15 dX0_init_40 (by decide) ?_
  refine G_iload_n hO 0 dX0_init_15 rfl rfl ?_
  refine G_aload_n hO 1 dX0_init_16 rfl rfl ?_
  refine A_getf (i := 20) (j := 2) hO cl0 (by simp [ad2, va_up, hA, had0, hf0, had1, hf1, had2, hf2, had3, hf3, had4, hf4, had5, hf5, had6, hf6, had7, hf7, had8, hf8, had9, hf9, had10, hf10, had11, hf11, had12, hf12, had13, hf13]) (fs := [.ref a3, .int 0]) (v := .ref a3) 0 (by simp [h2, h3, hfr, mem_stL, hids0, hids1, hids2, hids3, hids4, hids5, hids6, hids7, hids8, hids9, hids10, hids11, hids12, hids13]) (by simp [up2, va_up, hw, st_0, hw0, hw1, hw2, hw3, hw4, hw5, hw6, hw7, hw8, hw9, hw10, hw11, hw12, hw13]) (by decide) mw_169 rfl rfl dX0_init_17 ?_
  refine A_alen (i := 20) (j := 3) hO (by simp [ad2, va_up, hA, had0, hf0, had1, hf1, had2, hf2, had3, hf3, had4, hf4, had5, hf5, had6, hf6, had7, hf7, had8, hf8, had9, hf9, had10, hf10, had11, hf11, had12, hf12, had13, hf13]) (a := (14, .inr (.inr (.inr (.inr (va_up (va_up (va_up (va_up (va_up (va_up (va_up (va_up (va_up (va_up (va_up (va_up (va_up (va_up (fun _ => none) 0 (some s0)) 1 (some s1)) 2 (some s2)) 3 (some s3)) 4 (some s4)) 5 (some s5)) 6 (some s6)) 7 (some s7)) 8 (some s8)) 9 (some s9)) 10 (some s10)) 11 (some s11)) 12 (some s12)) 13 (some s13))))))) (v := 14) 4 (by simp [h2, h3, hfr, mem_stL, hids0, hids1, hids2, hids3, hids4, hids5, hids6, hids7, hids8, hids9, hids10, hids11, hids12, hids13]) (by simp [up2, va_up, hw, st_0, hw0, hw1, hw2, hw3, hw4, hw5, hw6, hw7, hw8, hw9, hw10, hw11, hw12, hw13]) rfl rfl dX0_init_20 ?_
  refine G_icmp_ge hO 43 dX0_init_21 (by decide) (fun _ => ?_) (fun h9 => absurd (by decide) h9)
  refine G_cong hO (fun i => if 2 ≤ i ∧ i < 16 then stSh Λ aD13 i cI else if i = 20 then va_up (va_up (w 20) 2 (.inr (0, [.ref (aD13 20 3), .int 0]))) 3 (.inl (Λ.2.1 4, 14, .inr (.inr (.inr (.inr (fun k => some (aD13 (k + 2) 0))))))) else w i) ?_ ?_
  · intro q hq
    obtain ⟨i, j⟩ := q
    have e3 : aD13 20 3 = a3 := by simp [ad2, va_up, hA, had0, hf0, had1, hf1, had2, hf2, had3, hf3, had4, hf4, had5, hf5, had6, hf6, had7, hf7, had8, hf8, had9, hf9, had10, hf10, had11, hf11, had12, hf12, had13, hf13]
    have g0 : aD0 2 = aD13 2 := by simp [ad2_o, ad2, va_up, hA, had0, hf0, had1, hf1, had2, hf2, had3, hf3, had4, hf4, had5, hf5, had6, hf6, had7, hf7, had8, hf8, had9, hf9, had10, hf10, had11, hf11, had12, hf12, had13, hf13]
    have g1 : aD1 3 = aD13 3 := by simp [ad2_o, ad2, va_up, hA, had0, hf0, had1, hf1, had2, hf2, had3, hf3, had4, hf4, had5, hf5, had6, hf6, had7, hf7, had8, hf8, had9, hf9, had10, hf10, had11, hf11, had12, hf12, had13, hf13]
    have g2 : aD2 4 = aD13 4 := by simp [ad2_o, ad2, va_up, hA, had0, hf0, had1, hf1, had2, hf2, had3, hf3, had4, hf4, had5, hf5, had6, hf6, had7, hf7, had8, hf8, had9, hf9, had10, hf10, had11, hf11, had12, hf12, had13, hf13]
    have g3 : aD3 5 = aD13 5 := by simp [ad2_o, ad2, va_up, hA, had0, hf0, had1, hf1, had2, hf2, had3, hf3, had4, hf4, had5, hf5, had6, hf6, had7, hf7, had8, hf8, had9, hf9, had10, hf10, had11, hf11, had12, hf12, had13, hf13]
    have g4 : aD4 6 = aD13 6 := by simp [ad2_o, ad2, va_up, hA, had0, hf0, had1, hf1, had2, hf2, had3, hf3, had4, hf4, had5, hf5, had6, hf6, had7, hf7, had8, hf8, had9, hf9, had10, hf10, had11, hf11, had12, hf12, had13, hf13]
    have g5 : aD5 7 = aD13 7 := by simp [ad2_o, ad2, va_up, hA, had0, hf0, had1, hf1, had2, hf2, had3, hf3, had4, hf4, had5, hf5, had6, hf6, had7, hf7, had8, hf8, had9, hf9, had10, hf10, had11, hf11, had12, hf12, had13, hf13]
    have g6 : aD6 8 = aD13 8 := by simp [ad2_o, ad2, va_up, hA, had0, hf0, had1, hf1, had2, hf2, had3, hf3, had4, hf4, had5, hf5, had6, hf6, had7, hf7, had8, hf8, had9, hf9, had10, hf10, had11, hf11, had12, hf12, had13, hf13]
    have g7 : aD7 9 = aD13 9 := by simp [ad2_o, ad2, va_up, hA, had0, hf0, had1, hf1, had2, hf2, had3, hf3, had4, hf4, had5, hf5, had6, hf6, had7, hf7, had8, hf8, had9, hf9, had10, hf10, had11, hf11, had12, hf12, had13, hf13]
    have g8 : aD8 10 = aD13 10 := by simp [ad2_o, ad2, va_up, hA, had0, hf0, had1, hf1, had2, hf2, had3, hf3, had4, hf4, had5, hf5, had6, hf6, had7, hf7, had8, hf8, had9, hf9, had10, hf10, had11, hf11, had12, hf12, had13, hf13]
    have g9 : aD9 11 = aD13 11 := by simp [ad2_o, ad2, va_up, hA, had0, hf0, had1, hf1, had2, hf2, had3, hf3, had4, hf4, had5, hf5, had6, hf6, had7, hf7, had8, hf8, had9, hf9, had10, hf10, had11, hf11, had12, hf12, had13, hf13]
    have g10 : aD10 12 = aD13 12 := by simp [ad2_o, ad2, va_up, hA, had0, hf0, had1, hf1, had2, hf2, had3, hf3, had4, hf4, had5, hf5, had6, hf6, had7, hf7, had8, hf8, had9, hf9, had10, hf10, had11, hf11, had12, hf12, had13, hf13]
    have g11 : aD11 13 = aD13 13 := by simp [ad2_o, ad2, va_up, hA, had0, hf0, had1, hf1, had2, hf2, had3, hf3, had4, hf4, had5, hf5, had6, hf6, had7, hf7, had8, hf8, had9, hf9, had10, hf10, had11, hf11, had12, hf12, had13, hf13]
    have g12 : aD12 14 = aD13 14 := by simp [ad2_o, ad2, va_up, hA, had0, hf0, had1, hf1, had2, hf2, had3, hf3, had4, hf4, had5, hf5, had6, hf6, had7, hf7, had8, hf8, had9, hf9, had10, hf10, had11, hf11, had12, hf12, had13, hf13]
    have g13 : aD13 15 = aD13 15 := by simp [ad2_o, ad2, va_up, hA, had0, hf0, had1, hf1, had2, hf2, had3, hf3, had4, hf4, had5, hf5, had6, hf6, had7, hf7, had8, hf8, had9, hf9, had10, hf10, had11, hf11, had12, hf12, had13, hf13]
    have k0 : aD13 2 0 = s0 := by simp [ad2, va_up, hA, had0, hf0, had1, hf1, had2, hf2, had3, hf3, had4, hf4, had5, hf5, had6, hf6, had7, hf7, had8, hf8, had9, hf9, had10, hf10, had11, hf11, had12, hf12, had13, hf13]
    have k1 : aD13 3 0 = s1 := by simp [ad2, va_up, hA, had0, hf0, had1, hf1, had2, hf2, had3, hf3, had4, hf4, had5, hf5, had6, hf6, had7, hf7, had8, hf8, had9, hf9, had10, hf10, had11, hf11, had12, hf12, had13, hf13]
    have k2 : aD13 4 0 = s2 := by simp [ad2, va_up, hA, had0, hf0, had1, hf1, had2, hf2, had3, hf3, had4, hf4, had5, hf5, had6, hf6, had7, hf7, had8, hf8, had9, hf9, had10, hf10, had11, hf11, had12, hf12, had13, hf13]
    have k3 : aD13 5 0 = s3 := by simp [ad2, va_up, hA, had0, hf0, had1, hf1, had2, hf2, had3, hf3, had4, hf4, had5, hf5, had6, hf6, had7, hf7, had8, hf8, had9, hf9, had10, hf10, had11, hf11, had12, hf12, had13, hf13]
    have k4 : aD13 6 0 = s4 := by simp [ad2, va_up, hA, had0, hf0, had1, hf1, had2, hf2, had3, hf3, had4, hf4, had5, hf5, had6, hf6, had7, hf7, had8, hf8, had9, hf9, had10, hf10, had11, hf11, had12, hf12, had13, hf13]
    have k5 : aD13 7 0 = s5 := by simp [ad2, va_up, hA, had0, hf0, had1, hf1, had2, hf2, had3, hf3, had4, hf4, had5, hf5, had6, hf6, had7, hf7, had8, hf8, had9, hf9, had10, hf10, had11, hf11, had12, hf12, had13, hf13]
    have k6 : aD13 8 0 = s6 := by simp [ad2, va_up, hA, had0, hf0, had1, hf1, had2, hf2, had3, hf3, had4, hf4, had5, hf5, had6, hf6, had7, hf7, had8, hf8, had9, hf9, had10, hf10, had11, hf11, had12, hf12, had13, hf13]
    have k7 : aD13 9 0 = s7 := by simp [ad2, va_up, hA, had0, hf0, had1, hf1, had2, hf2, had3, hf3, had4, hf4, had5, hf5, had6, hf6, had7, hf7, had8, hf8, had9, hf9, had10, hf10, had11, hf11, had12, hf12, had13, hf13]
    have k8 : aD13 10 0 = s8 := by simp [ad2, va_up, hA, had0, hf0, had1, hf1, had2, hf2, had3, hf3, had4, hf4, had5, hf5, had6, hf6, had7, hf7, had8, hf8, had9, hf9, had10, hf10, had11, hf11, had12, hf12, had13, hf13]
    have k9 : aD13 11 0 = s9 := by simp [ad2, va_up, hA, had0, hf0, had1, hf1, had2, hf2, had3, hf3, had4, hf4, had5, hf5, had6, hf6, had7, hf7, had8, hf8, had9, hf9, had10, hf10, had11, hf11, had12, hf12, had13, hf13]
    have k10 : aD13 12 0 = s10 := by simp [ad2, va_up, hA, had0, hf0, had1, hf1, had2, hf2, had3, hf3, had4, hf4, had5, hf5, had6, hf6, had7, hf7, had8, hf8, had9, hf9, had10, hf10, had11, hf11, had12, hf12, had13, hf13]
    have k11 : aD13 13 0 = s11 := by simp [ad2, va_up, hA, had0, hf0, had1, hf1, had2, hf2, had3, hf3, had4, hf4, had5, hf5, had6, hf6, had7, hf7, had8, hf8, had9, hf9, had10, hf10, had11, hf11, had12, hf12, had13, hf13]
    have k12 : aD13 14 0 = s12 := by simp [ad2, va_up, hA, had0, hf0, had1, hf1, had2, hf2, had3, hf3, had4, hf4, had5, hf5, had6, hf6, had7, hf7, had8, hf8, had9, hf9, had10, hf10, had11, hf11, had12, hf12, had13, hf13]
    have k13 : aD13 15 0 = s13 := by simp [ad2, va_up, hA, had0, hf0, had1, hf1, had2, hf2, had3, hf3, had4, hf4, had5, hf5, had6, hf6, had7, hf7, had8, hf8, had9, hf9, had10, hf10, had11, hf11, had12, hf12, had13, hf13]
    by_cases i2 : i = 2
    · subst i2
      refine Or.inl ?_
      have q0 := stSh_ad (Λ := Λ) g0
      simp [up2, va_up, st_0, hw0, hw1, hw2, hw3, hw4, hw5, hw6, hw7, hw8, hw9, hw10, hw11, hw12, hw13, q0]
    by_cases i3 : i = 3
    · subst i3
      refine Or.inl ?_
      have q1 := stSh_ad (Λ := Λ) g1
      simp [up2, va_up, st_0, hw0, hw1, hw2, hw3, hw4, hw5, hw6, hw7, hw8, hw9, hw10, hw11, hw12, hw13, q1]
    by_cases i4 : i = 4
    · subst i4
      refine Or.inl ?_
      have q2 := stSh_ad (Λ := Λ) g2
      simp [up2, va_up, st_0, hw0, hw1, hw2, hw3, hw4, hw5, hw6, hw7, hw8, hw9, hw10, hw11, hw12, hw13, q2]
    by_cases i5 : i = 5
    · subst i5
      refine Or.inl ?_
      have q3 := stSh_ad (Λ := Λ) g3
      simp [up2, va_up, st_0, hw0, hw1, hw2, hw3, hw4, hw5, hw6, hw7, hw8, hw9, hw10, hw11, hw12, hw13, q3]
    by_cases i6 : i = 6
    · subst i6
      refine Or.inl ?_
      have q4 := stSh_ad (Λ := Λ) g4
      simp [up2, va_up, st_0, hw0, hw1, hw2, hw3, hw4, hw5, hw6, hw7, hw8, hw9, hw10, hw11, hw12, hw13, q4]
    by_cases i7 : i = 7
    · subst i7
      refine Or.inl ?_
      have q5 := stSh_ad (Λ := Λ) g5
      simp [up2, va_up, st_0, hw0, hw1, hw2, hw3, hw4, hw5, hw6, hw7, hw8, hw9, hw10, hw11, hw12, hw13, q5]
    by_cases i8 : i = 8
    · subst i8
      refine Or.inl ?_
      have q6 := stSh_ad (Λ := Λ) g6
      simp [up2, va_up, st_0, hw0, hw1, hw2, hw3, hw4, hw5, hw6, hw7, hw8, hw9, hw10, hw11, hw12, hw13, q6]
    by_cases i9 : i = 9
    · subst i9
      refine Or.inl ?_
      have q7 := stSh_ad (Λ := Λ) g7
      simp [up2, va_up, st_0, hw0, hw1, hw2, hw3, hw4, hw5, hw6, hw7, hw8, hw9, hw10, hw11, hw12, hw13, q7]
    by_cases i10 : i = 10
    · subst i10
      refine Or.inl ?_
      have q8 := stSh_ad (Λ := Λ) g8
      simp [up2, va_up, st_0, hw0, hw1, hw2, hw3, hw4, hw5, hw6, hw7, hw8, hw9, hw10, hw11, hw12, hw13, q8]
    by_cases i11 : i = 11
    · subst i11
      refine Or.inl ?_
      have q9 := stSh_ad (Λ := Λ) g9
      simp [up2, va_up, st_0, hw0, hw1, hw2, hw3, hw4, hw5, hw6, hw7, hw8, hw9, hw10, hw11, hw12, hw13, q9]
    by_cases i12 : i = 12
    · subst i12
      refine Or.inl ?_
      have q10 := stSh_ad (Λ := Λ) g10
      simp [up2, va_up, st_0, hw0, hw1, hw2, hw3, hw4, hw5, hw6, hw7, hw8, hw9, hw10, hw11, hw12, hw13, q10]
    by_cases i13 : i = 13
    · subst i13
      refine Or.inl ?_
      have q11 := stSh_ad (Λ := Λ) g11
      simp [up2, va_up, st_0, hw0, hw1, hw2, hw3, hw4, hw5, hw6, hw7, hw8, hw9, hw10, hw11, hw12, hw13, q11]
    by_cases i14 : i = 14
    · subst i14
      refine Or.inl ?_
      have q12 := stSh_ad (Λ := Λ) g12
      simp [up2, va_up, st_0, hw0, hw1, hw2, hw3, hw4, hw5, hw6, hw7, hw8, hw9, hw10, hw11, hw12, hw13, q12]
    by_cases i15 : i = 15
    · subst i15
      refine Or.inl ?_
      have q13 := stSh_ad (Λ := Λ) g13
      simp [up2, va_up, st_0, hw0, hw1, hw2, hw3, hw4, hw5, hw6, hw7, hw8, hw9, hw10, hw11, hw12, hw13, q13]
    have hi : ¬ (2 ≤ i ∧ i < 16) := by omega
    by_cases i20 : i = 20
    · subst i20
      by_cases j3 : j = 3
      · subst j3
        refine Or.inr ⟨Λ.2.1 4, 14, (va_up (va_up (va_up (va_up (va_up (va_up (va_up (va_up (va_up (va_up (va_up (va_up (va_up (va_up (fun _ => none) 0 (some s0)) 1 (some s1)) 2 (some s2)) 3 (some s3)) 4 (some s4)) 5 (some s5)) 6 (some s6)) 7 (some s7)) 8 (some s8)) 9 (some s9)) 10 (some s10)) 11 (some s11)) 12 (some s12)) 13 (some s13)), fun k => some (aD13 (k + 2) 0), (by simp [up2, va_up, hw, st_0, hw0, hw1, hw2, hw3, hw4, hw5, hw6, hw7, hw8, hw9, hw10, hw11, hw12, hw13]), (by simp [va_up]), ?_⟩
        intro r hr
        rcases (by omega : r = 0 ∨ r = 1 ∨ r = 2 ∨ r = 3 ∨ r = 4 ∨ r = 5 ∨ r = 6 ∨ r = 7 ∨ r = 8 ∨ r = 9 ∨ r = 10 ∨ r = 11 ∨ r = 12 ∨ r = 13) with h | h | h | h | h | h | h | h | h | h | h | h | h | h <;> subst h <;> simp [va_up, k0, k1, k2, k3, k4, k5, k6, k7, k8, k9, k10, k11, k12, k13]
      · refine Or.inl ?_
        by_cases j2 : j = 2
        · subst j2; simp [up2, va_up, hw, st_0, hw0, hw1, hw2, hw3, hw4, hw5, hw6, hw7, hw8, hw9, hw10, hw11, hw12, hw13, e3]
        · simp [up2, va_up, hw, st_0, hw0, hw1, hw2, hw3, hw4, hw5, hw6, hw7, hw8, hw9, hw10, hw11, hw12, hw13, j3, j2]
    · exact Or.inl (by simp [up2, va_up, hw, st_0, hw0, hw1, hw2, hw3, hw4, hw5, hw6, hw7, hw8, hw9, hw10, hw11, hw12, hw13, i2, i3, i4, i5, i6, i7, i8, i9, i10, i11, i12, i13, i14, i15, hi, i20])
  refine G_vret hO hF rfl (Nat.le_of_ble_eq_true rfl) (Nat.le_of_ble_eq_true rfl) dX0_init_43 ⟨rfl, ?_, ?_, ?_, rfl⟩
  · intro q
    obtain ⟨i, j⟩ := q
    by_cases hq : (i, j) ∈ ids
    · simp [hids0, hids1, hids2, hids3, hids4, hids5, hids6, hids7, hids8, hids9, hids10, hids11, hids12, hids13, hq]
    · simp only [hids0, hids1, hids2, hids3, hids4, hids5, hids6, hids7, hids8, hids9, hids10, hids11, hids12, hids13, mem_stL, List.mem_append, List.mem_cons, List.not_mem_nil, or_false, Prod.mk.injEq, hq, false_or, or_assoc]
      constructor
      · intro h
        rcases h with h | h | h | h | h | h | h | h | h | h | h | h | h | h | h | h | h | h | h | h | h | h | h | h | h | h | h | h | h
        all_goals omega
      · intro h
        rcases (by omega : (i = 20 ∧ j = 3) ∨ (j < 15 ∧ (i = 2 ∨ i = 3 ∨ i = 4 ∨ i = 5 ∨ i = 6 ∨ i = 7 ∨ i = 8 ∨ i = 9 ∨ i = 10 ∨ i = 11 ∨ i = 12 ∨ i = 13 ∨ i = 14 ∨ i = 15))) with h | ⟨hj, h⟩
        · simp [h.1, h.2]
        · rcases h with h | h | h | h | h | h | h | h | h | h | h | h | h | h <;> subst h <;> simp <;> omega
  · intro i hi hi2
    funext j
    have hx : i ≠ 2 ∧ i ≠ 3 ∧ i ≠ 4 ∧ i ≠ 5 ∧ i ≠ 6 ∧ i ≠ 7 ∧ i ≠ 8 ∧ i ≠ 9 ∧ i ≠ 10 ∧ i ≠ 11 ∧ i ≠ 12 ∧ i ≠ 13 ∧ i ≠ 14 ∧ i ≠ 15 := by omega
    simp [ad2, va_up, hA, had0, hf0, had1, hf1, had2, hf2, had3, hf3, had4, hf4, had5, hf5, had6, hf6, had7, hf7, had8, hf8, had9, hf9, had10, hf10, had11, hf11, had12, hf12, had13, hf13, hi2, hx]
  · intro j hj
    simp [ad2, va_up, hA, had0, hf0, had1, hf1, had2, hf2, had3, hf3, had4, hf4, had5, hf5, had6, hf6, had7, hf7, had8, hf8, had9, hf9, had10, hf10, had11, hf11, had12, hf12, had13, hf13, hj]
