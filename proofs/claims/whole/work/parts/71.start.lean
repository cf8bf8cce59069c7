def M1 : Mem := fun i => if i = 21 then cMd else M0 i
theorem ids0_lt {i j : Nat} (h : (i, j) ∈ ids0) : (i < 18 ∧ j < 15) ∨ (i = 20 ∧ j < 6) ∨ (i = 21 ∧ j < 8) ∨ (i = 22 ∧ j = 0) := by
  simp only [ids0, List.mem_append, List.mem_flatMap, List.mem_map, List.mem_range, Prod.mk.injEq, List.mem_cons, List.not_mem_nil, or_false] at h
  rcases h with ⟨n, hn, q, hq, rfl, rfl⟩ | ⟨q, hq, rfl, rfl⟩ | ⟨q, hq, rfl, rfl⟩ | h
  · exact Or.inl ⟨hn, hq⟩
  · exact Or.inr (Or.inl ⟨rfl, hq⟩)
  · exact Or.inr (Or.inr (Or.inl ⟨rfl, hq⟩))
  · exact Or.inr (Or.inr (Or.inr h))
theorem mdSh_ad {Λ : Lay} {ad ad' : Nat → Nat → Nat} {c : Reg} (h : ad 21 = ad' 21) : mdSh Λ ad c = mdSh Λ ad' c := by
  have e : mdF ad c = mdF ad' c := by simp only [mdF, h]
  funext j
  match j with
  | 0 => show Sum.inr (6, mdF ad c) = Sum.inr (6, mdF ad' c); rw [e]
  | 1 => rfl
  | 2 => rfl
  | 3 => rfl
  | 4 => rfl
  | 5 => rfl
  | 6 => rfl
  | j + 7 => rfl
theorem glSh_ad {Λ : Lay} {ad ad' : Nat → Nat → Nat} (h : ∀ i, i ≠ 21 → i ≠ 22 → ad i = ad' i) (j : Nat) : EqE (glSh Λ ad cG j) (glSh Λ ad' cG j) := by
  match j with
  | 0 => exact Or.inl (by rw [gl_0, gl_0]; simp only [glF, h 20 (by decide) (by decide), h 0 (by decide) (by decide), h 1 (by decide) (by decide)])
  | 1 => exact Or.inl (by rw [gl_1, gl_1])
  | 2 => exact Or.inl (by rw [gl_2, gl_2]; simp only [hiF, h 20 (by decide) (by decide)])
  | 3 =>
    refine Or.inr ⟨Λ.2.1 4, 14, _, _, gl_3 _ _ _, gl_3 _ _ _, fun r hr => ?_⟩
    show some (ad ((cG 3 r).toNatClampNeg + 2) 0) = some (ad' ((cG 3 r).toNatClampNeg + 2) 0)
    rw [cG3 r hr, h (r + 2) (by omega) (by omega)]
  | 4 =>
    refine Or.inr ⟨Λ.2.1 4, 2, _, _, gl_4 _ _ _, gl_4 _ _ _, fun r hr => ?_⟩
    show some (ad (r + 16) 0) = some (ad' (r + 16) 0)
    rw [h (r + 16) (by omega) (by omega)]
  | 5 => exact Or.inl (by rw [gl_5, gl_5])
  | j + 6 =>
    refine Or.inl ?_
    show Sum.inr (4, rdF ad (cG (j + 6))) = Sum.inr (4, rdF ad' (cG (j + 6)))
    simp only [rdF, h 20 (by decide) (by decide)]
set_option maxHeartbeats 4000000 in
set_option maxRecDepth 20000 in
theorem c_start {Γ : Cx} {Λ : Lay} {B : Nat} {b L : Nat} {xs : Nat → Int32} (hO : Ok Γ RL cL_law 8 room_1 Λ B) (hL : LX Γ b L xs) (hcc : cL_law = code) (hs : wL_loop L xs 513 0 M1 (fun _ => 0)) (ad : Nat → Nat → Nat) (w : Nat → Nat → va_E) : G Γ [] ad 0 0 w 0 [(0, .ref b)] [] := by
  refine G_new hO (fs := [.null, .int 0, .null, .null, .null, .null, .null]) cl5 20 0 (by simp [List.mem_append]) mw_16 mw_17 mw_1 (by intro q hq; rcases (by omega : q = 0 ∨ q = 1 ∨ q = 2 ∨ q = 3 ∨ q = 4 ∨ q = 5 ∨ q = 6) with h | h | h | h | h | h | h <;> subst h <;> rfl) (Nat.le_of_ble_eq_true rfl) (Nat.le_of_ble_eq_true rfl) dL_law_0 (fun a0 => ?_)
  refine G_dup hO dL_law_3 rfl ?_
  refine G_callI hO (rest := [.ref a0]) [] (fun l => c_X5_init (A := a0) (by simp [ad2, va_up]) (by simp) (by intro j hj; simp; omega) (by intro i j hi; simp; omega) (by simp [up2, va_up])) cv_X5_init mw_19 rfl mw_18 rfl rfl (Nat.le_of_ble_eq_true rfl) (by decide) (by decide) dL_law_4 ?_
  rintro v ids1 ad1 w1 ⟨rfl, hids1, hb1, hb2, hw1⟩
  show G Γ _ _ 276 3149 _ _ _ [.ref a0]
  refine G_astore_n hO [(1, .ref a0), (0, .ref b)] dL_law_7 rfl (by decide) rfl ?_
  refine G_new hO (fs := [.int 0, .null, .int 0, .int 0, .int 0, .null, .null, .null, .null, .int 0, .null, .null]) cl6 21 0 (by simp [List.mem_append, hids1]) mw_828 mw_829 mw_7 (by intro q hq; rcases (by omega : q = 0 ∨ q = 1 ∨ q = 2 ∨ q = 3 ∨ q = 4 ∨ q = 5 ∨ q = 6 ∨ q = 7 ∨ q = 8 ∨ q = 9 ∨ q = 10 ∨ q = 11) with h | h | h | h | h | h | h | h | h | h | h | h <;> subst h <;> rfl) (Nat.le_of_ble_eq_true rfl) (Nat.le_of_ble_eq_true rfl) dL_law_8 (fun m0 => ?_)
  refine G_dup hO dL_law_11 rfl ?_
  refine G_callI hO (rest := [.ref m0]) [] (fun l => c_X6_init (A := m0) (by simp [ad2, va_up, hb1, hb2]) (by simp [hids1]) (by intro j hj; simp [hids1]; omega) (by simp [up2, va_up])) cv_X6_init mw_831 rfl mw_830 rfl rfl (Nat.le_of_ble_eq_true rfl) (by decide) (by decide) dL_law_12 ?_
  rintro v ids2 ad2' w2 ⟨rfl, hids2, ⟨hd1, hd2⟩, hw2⟩
  show G Γ _ _ 284 5675 _ _ _ [.ref m0]
  refine G_astore_n hO [(2, .ref m0), (1, .ref a0), (0, .ref b)] dL_law_15 rfl (by decide) rfl ?_
  refine G_iconst hO 1 dL_law_16 (by decide) ?_
  refine A_newaJ hO 1 22 0 (by simp [List.mem_append, hids1, hids2, hids1]) mw_1162 (by decide) (by decide) (by decide) (Nat.le_of_ble_eq_true rfl) (Nat.le_of_ble_eq_true rfl) dL_law_17 (fun o0 => ?_)
  refine G_astore_n hO [(3, .ref o0), (2, .ref m0), (1, .ref a0), (0, .ref b)] dL_law_19 rfl (by decide) rfl ?_
  refine G_iconst hO 0 dL_law_20 (by decide) ?_
  refine G_istore hO [(4, .int 0), (3, .ref o0), (2, .ref m0), (1, .ref a0), (0, .ref b)] dL_law_21 (by decide) rfl ?_
  obtain ⟨adF, hadF⟩ : ∃ x, x = ad2 ad2' 22 0 o0 := ⟨_, rfl⟩
  obtain ⟨idF, hidF⟩ : ∃ x, x = ids2 ++ [(22, 0)] := ⟨_, rfl⟩
  rw [← hadF, ← hidF]
  have e20 : adF 20 0 = a0 := by rw [hadF]; simp [ad2, va_up, hb1, hb2, hd1, hd2]
  have e21 : adF 21 0 = m0 := by rw [hadF]; simp [ad2, va_up, hb1, hb2, hd1, hd2]
  have e22 : adF 22 0 = o0 := by rw [hadF]; simp [ad2, va_up, hb1, hb2, hd1, hd2]
  have f1 : ∀ i, i ≠ 21 → i ≠ 22 → ad1 i = adF i := by intro i h1 h2; rw [hadF]; simp [ad2_o, hd1, h1, h2]
  have f2 : ad2' 21 = adF 21 := by rw [hadF]; simp [ad2_o]
  have hidi : ∀ i j, (i, j) ∈ idF ↔ (i < 18 ∧ j < 15) ∨ (i = 20 ∧ j < 6) ∨ (i = 21 ∧ j < 8) ∨ (i = 22 ∧ j = 0) := by
    intro i j
    rw [hidF]
    simp only [hids2, hids1, List.mem_append, List.mem_cons, List.not_mem_nil, or_false, Prod.mk.injEq, List.nil_append]
    omega
  refine G_cong hO (sh Λ adF M1 (fun _ => 0)) ?_ ?_
  · intro q hq
    obtain ⟨i, j⟩ := q
    have h9 := (hidi i j).mp hq
    show EqE _ (rS Λ adF (fun _ => 0) i (M1 i) j)
    rcases (by omega : i < 18 ∨ i = 20 ∨ i = 21 ∨ i = 22) with h | h | h | h
    · have x1 : i ≠ 21 := by omega
      have x2 : i ≠ 22 := by omega
      have x3 : i ≠ 20 := by omega
      refine Or.inl ?_
      rw [rS_st Λ adF _ h, ← stSh_ad (f1 i x1 x2)]
      simp [up2, va_up, hw2, hw1, x1, x2, h, M1, rS_st]
    · subst h
      rw [rS_gl]
      have q0 := glSh_ad (Λ := Λ) f1 j
      simp only [hw2, hw1, M1, M0_gl]
      simp [up2, va_up, rS_gl, M0_gl]
      exact q0
    · subst h
      refine Or.inl ?_
      rw [rS_md, ← mdSh_ad f2]
      simp [up2, va_up, hw2, M1]
    · subst h
      have hj : j = 0 := by omega
      subst hj
      refine Or.inl ?_
      rw [rS_ou]
      simp [up2, va_up, ouSh]
  rw [← e20, ← e21, ← e22]
  refine c_loop hO hL hcc (fun q hq => ?_) (fun h => ?_) 513 285 5676 0 M1 _ (by decide) (by decide) hs
  · obtain ⟨i, j⟩ := q
    exact (hidi i j).mpr (ids0_lt hq)
  · have h9 := (hidi 20 6).mp h
    omega
