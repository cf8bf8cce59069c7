def cMd : Reg := cu (cu (cu (cu (cu (cu (cu (cu (cu (cu (cu (cu c00 3 2 5) 3 9 60) 3 10 60) 3 11 5) 3 12 3) 3 13 12) 3 14 20) 3 15 10) 3 16 35) 3 17 18) 3 18 800) 3 19 1200
theorem cu_c00 (i j : Nat) : cu c00 i j 0 = c00 := by
  funext a b
  have e : upd (c00 i) j 0 = c00 a := by
    funext b
    show (if b = j then (0 : Int32) else 0) = 0
    split <;> rfl
  simp only [cu, va_up]
  split
  · rw [e]
  · rfl
theorem i32_128 : ∀ x, x < 128 → ¬ (128 ≤ Int32.ofNat x) ∧ (¬ (Int32.ofNat x < 0 ∨ 128 ≤ (Int32.ofNat x).toNatClampNeg)) ∧ Int32.ofNat x + 1 = Int32.ofNat (x + 1) := by decide +kernel
theorem clean_c00 : ∀ (m N : Nat), m < N → m ≤ 128 → wX6_clean_L2 3 (fun c => c = cMd) N (Int32.ofNat (128 - m)) c00 := by
  intro m
  induction m with
  | zero =>
    intro N hN _
    match N, hN with
    | N + 1, _ => exact ⟨fun _ => rfl, fun h => absurd (by decide) h⟩
  | succ m ih =>
    intro N hN hm
    match N, hN with
    | N + 1, h1 =>
      have q := i32_128 (128 - (m + 1)) (by omega)
      refine ⟨fun h => absurd h q.1, fun _ => ⟨q.2.1, ?_⟩⟩
      rw [q.2.2, cu_c00, show 128 - (m + 1) + 1 = 128 - m by omega]
      exact ih N (by omega) (by omega)
set_option maxHeartbeats 4000000 in
set_option maxRecDepth 20000 in
theorem c_X6_init {l : Launch} {Λ : Lay} {B : Nat} {ids : List (Nat × Nat)} {ad : Nat → Nat → Nat} {w : Nat → Nat → va_E} {A : Nat} (hA : ad 21 0 = A) (h0 : (21, 0) ∈ ids) (h21 : ∀ j, 0 < j → (21, j) ∉ ids) (hw : w 21 0 = .inr (6, [.int 0, .null, .int 0, .int 0, .int 0, .null, .null, .null, .null, .int 0, .null, .null])) : CT l yX6_init cX6_init 1 none { frames := 1, cells := 7, slots := 2514, locals := 21 } Λ B ids ad w [.ref A] (fun v ids' ad' w' => v = none ∧ (∀ q : Nat × Nat, q ∈ ids' ↔ q ∈ ids ∨ (q.1 = 21 ∧ 1 ≤ q.2 ∧ q.2 ≤ 7)) ∧ ((∀ i, i ≠ 21 → ad' i = ad i) ∧ ad' 21 0 = ad 21 0) ∧ w' = va_up w 21 (mdSh Λ ad' cMd)) := by
  refine CT.ofI RX6 [(0, .ref A)] (plainFor_of_name (by decide +kernel)) rfl rfl (Nat.le_of_ble_eq_true rfl) rfl (fun Γ hO hN hF => ?_)
  refine G_aload_n hO 0 dX6_init_0 rfl rfl ?_
  refine G_objInit hO mw_833 (Nat.le_of_ble_eq_true rfl) (Nat.le_of_ble_eq_true rfl) dX6_init_1 ?_
  refine G_aload_n hO 0 dX6_init_4 rfl rfl ?_
  refine G_bipush hO 80 dX6_init_5 (by decide) ?_
  refine A_newaI hO 80 21 1 (by simp [h0, h21]) mw_57 (by decide) (by decide) (by decide) (Nat.le_of_ble_eq_true rfl) (Nat.le_of_ble_eq_true rfl) dX6_init_7 (fun a1 => ?_)
  refine A_putF (i := 21) (j := 0) hO hN cl6 (by simp [ad2, va_up, hA]) (fs := [.int 0, .null, .int 0, .int 0, .int 0, .null, .null, .null, .null, .int 0, .null, .null]) 1 (by simp [h0, h21]) (by simp [up2, va_up, hw]) (by decide) mw_838 rfl rfl rfl rfl rfl (Nat.le_of_ble_eq_true rfl) dX6_init_9 ?_
  refine G_aload_n hO 0 dX6_init_12 rfl rfl ?_
  refine G_sipush hO 128 dX6_init_13 (by decide) ?_
  refine A_newaI hO 128 21 2 (by simp [h0, h21]) mw_57 (by decide) (by decide) (by decide) (Nat.le_of_ble_eq_true rfl) (Nat.le_of_ble_eq_true rfl) dX6_init_16 (fun a2 => ?_)
  refine A_putF (i := 21) (j := 0) hO hN cl6 (by simp [ad2, va_up, hA]) (fs := [.int 0, .ref a1, .int 0, .int 0, .int 0, .null, .null, .null, .null, .int 0, .null, .null]) 5 (by simp [h0, h21]) (by simp [up2, va_up, hw]) (by decide) mw_842 rfl rfl rfl rfl rfl (Nat.le_of_ble_eq_true rfl) dX6_init_18 ?_
  refine G_aload_n hO 0 dX6_init_21 rfl rfl ?_
  refine G_sipush hO 128 dX6_init_22 (by decide) ?_
  refine A_newaI hO 128 21 3 (by simp [h0, h21]) mw_57 (by decide) (by decide) (by decide) (Nat.le_of_ble_eq_true rfl) (Nat.le_of_ble_eq_true rfl) dX6_init_25 (fun a3 => ?_)
  refine A_putF (i := 21) (j := 0) hO hN cl6 (by simp [ad2, va_up, hA]) (fs := [.int 0, .ref a1, .int 0, .int 0, .int 0, .ref a2, .null, .null, .null, .int 0, .null, .null]) 6 (by simp [h0, h21]) (by simp [up2, va_up, hw]) (by decide) mw_843 rfl rfl rfl rfl rfl (Nat.le_of_ble_eq_true rfl) dX6_init_27 ?_
  refine G_aload_n hO 0 dX6_init_30 rfl rfl ?_
  refine G_sipush hO 128 dX6_init_31 (by decide) ?_
  refine A_newaI hO 128 21 4 (by simp [h0, h21]) mw_57 (by decide) (by decide) (by decide) (Nat.le_of_ble_eq_true rfl) (Nat.le_of_ble_eq_true rfl) dX6_init_34 (fun a4 => ?_)
  refine A_putF (i := 21) (j := 0) hO hN cl6 (by simp [ad2, va_up, hA]) (fs := [.int 0, .ref a1, .int 0, .int 0, .int 0, .ref a2, .ref a3, .null, .null, .int 0, .null, .null]) 7 (by simp [h0, h21]) (by simp [up2, va_up, hw]) (by decide) mw_844 rfl rfl rfl rfl rfl (Nat.le_of_ble_eq_true rfl) dX6_init_36 ?_
  refine G_aload_n hO 0 dX6_init_39 rfl rfl ?_
  refine G_sipush hO 1792 dX6_init_40 (by decide) ?_
  refine A_newaI hO 1792 21 5 (by simp [h0, h21]) mw_57 (by decide) (by decide) (by decide) (Nat.le_of_ble_eq_true rfl) (Nat.le_of_ble_eq_true rfl) dX6_init_43 (fun a5 => ?_)
  refine A_putF (i := 21) (j := 0) hO hN cl6 (by simp [ad2, va_up, hA]) (fs := [.int 0, .ref a1, .int 0, .int 0, .int 0, .ref a2, .ref a3, .ref a4, .null, .int 0, .null, .null]) 8 (by simp [h0, h21]) (by simp [up2, va_up, hw]) (by decide) mw_845 rfl rfl rfl rfl rfl (Nat.le_of_ble_eq_true rfl) dX6_init_45 ?_
  refine G_aload_n hO 0 dX6_init_48 rfl rfl ?_
  refine G_sipush hO 256 dX6_init_49 (by decide) ?_
  refine A_newaI hO 256 21 6 (by simp [h0, h21]) mw_57 (by decide) (by decide) (by decide) (Nat.le_of_ble_eq_true rfl) (Nat.le_of_ble_eq_true rfl) dX6_init_52 (fun a6 => ?_)
  refine A_putF (i := 21) (j := 0) hO hN cl6 (by simp [ad2, va_up, hA]) (fs := [.int 0, .ref a1, .int 0, .int 0, .int 0, .ref a2, .ref a3, .ref a4, .ref a5, .int 0, .null, .null]) 10 (by simp [h0, h21]) (by simp [up2, va_up, hw]) (by decide) mw_847 rfl rfl rfl rfl rfl (Nat.le_of_ble_eq_true rfl) dX6_init_54 ?_
  refine G_aload_n hO 0 dX6_init_57 rfl rfl ?_
  refine G_iconst hO 2 dX6_init_58 (by decide) ?_
  refine A_newaZ hO 2 21 7 (by simp [h0, h21]) mw_200 (by decide) (by decide) (by decide) (Nat.le_of_ble_eq_true rfl) (Nat.le_of_ble_eq_true rfl) dX6_init_59 (fun a7 => ?_)
  refine A_putF (i := 21) (j := 0) hO hN cl6 (by simp [ad2, va_up, hA]) (fs := [.int 0, .ref a1, .int 0, .int 0, .int 0, .ref a2, .ref a3, .ref a4, .ref a5, .int 0, .ref a6, .null]) 11 (by simp [h0, h21]) (by simp [up2, va_up, hw]) (by decide) mw_848 rfl rfl rfl rfl rfl (Nat.le_of_ble_eq_true rfl) dX6_init_61 ?_
  refine G_aload_n hO 0 dX6_init_64 rfl rfl ?_
  refine A_getf (i := 21) (j := 0) hO cl6 (by simp [ad2, va_up, hA]) (fs := [.int 0, .ref a1, .int 0, .int 0, .int 0, .ref a2, .ref a3, .ref a4, .ref a5, .int 0, .ref a6, .ref a7]) (v := .ref a3) 6 (by simp [h0, h21]) (by simp [up2, va_up, hw]) (by decide) mw_843 rfl rfl dX6_init_65 ?_
  obtain ⟨adF, hadF⟩ : ∃ x, x = (ad2 (ad2 (ad2 (ad2 (ad2 (ad2 (ad2 ad 21 1 a1) 21 2 a2) 21 3 a3) 21 4 a4) 21 5 a5) 21 6 a6) 21 7 a7) := ⟨_, rfl⟩
  obtain ⟨idF, hidF⟩ : ∃ x, x = ids ++ [(21, 1)] ++ [(21, 2)] ++ [(21, 3)] ++ [(21, 4)] ++ [(21, 5)] ++ [(21, 6)] ++ [(21, 7)] := ⟨_, rfl⟩
  have hm : ∀ j, j < 8 → (21, j) ∈ idF := by
    intro j hj
    rcases (by omega : j = 0 ∨ j = 1 ∨ j = 2 ∨ j = 3 ∨ j = 4 ∨ j = 5 ∨ j = 6 ∨ j = 7) with h | h | h | h | h | h | h | h <;> subst h <;> rw [hidF] <;> simp [h0]
  have e1 : adF 21 1 = a1 := by rw [hadF]; simp [ad2]
  have e2 : adF 21 2 = a2 := by rw [hadF]; simp [ad2]
  have e3 : adF 21 3 = a3 := by rw [hadF]; simp [ad2]
  have e4 : adF 21 4 = a4 := by rw [hadF]; simp [ad2]
  have e5 : adF 21 5 = a5 := by rw [hadF]; simp [ad2]
  have e6 : adF 21 6 = a6 := by rw [hadF]; simp [ad2]
  have e7 : adF 21 7 = a7 := by rw [hadF]; simp [ad2]
  refine G_cong hO (va_up w 21 (mdSh Λ adF c00)) ?_ ?_
  · intro q hq
    obtain ⟨i, j⟩ := q
    by_cases hi : i = 21
    · subst hi
      have hj : j < 8 := by
        rcases (by omega : j = 0 ∨ 0 < j) with h | h
        · omega
        · simp only [List.mem_append, List.mem_cons, List.not_mem_nil, or_false, Prod.mk.injEq, true_and, h21 j h, false_or] at hq
          omega
      rcases (by omega : j = 0 ∨ j = 1 ∨ j = 2 ∨ j = 3 ∨ j = 4 ∨ j = 5 ∨ j = 6 ∨ j = 7) with h | h | h | h | h | h | h | h <;> subst h
      · refine Or.inl ?_; simp [up2, va_up, mdSh, mdF, c00, e1, e2, e3, e4, e5, e6, e7]
      · refine Or.inl ?_; simp [up2, va_up, mdSh]; rfl
      · refine Or.inl ?_; simp [up2, va_up, mdSh]; rfl
      · refine Or.inl ?_; simp [up2, va_up, mdSh]; rfl
      · refine Or.inl ?_; simp [up2, va_up, mdSh]; rfl
      · refine Or.inl ?_; simp [up2, va_up, mdSh]; rfl
      · refine Or.inl ?_; simp [up2, va_up, mdSh]; rfl
      · refine Or.inl ?_; simp [up2, va_up, mdSh]; rfl
    · exact Or.inl (by simp [up2, va_up, hi])
  rw [← hadF, ← hidF, ← e3]
  refine KS_Rv hO (rest := []) [.ref (adF 21 3)] (fun l => c_X6_clean (P := fun c => c = cMd) hm (by decide) ⟨129, clean_c00 128 129 (by decide) (by decide)⟩) cv_X6_clean mw_835 mw_834 rfl rfl (by decide) (by decide) rfl rfl (by decide) (by decide) dX6_init_68 ?_
  intro c1 hc1
  subst hc1
  refine G_vret hO hF rfl (Nat.le_of_ble_eq_true rfl) (Nat.le_of_ble_eq_true rfl) dX6_init_71 ⟨rfl, ?_, ?_, rfl⟩
  · intro q
    obtain ⟨i, j⟩ := q
    rw [hidF]
    by_cases hq : (i, j) ∈ ids
    · simp [hq]
    · simp only [List.mem_append, List.mem_cons, List.not_mem_nil, or_false, Prod.mk.injEq, hq, false_or]
      omega
  · refine ⟨fun i hi => ?_, ?_⟩
    · rw [hadF]; simp [ad2_o, hi]
    · rw [hadF]; simp [ad2]
