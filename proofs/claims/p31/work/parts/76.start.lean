def GW (Γ : Cx) (Wo : va_W) (k z : Nat) (pc : Nat) (lv : List (Nat × Value)) (st : List Value) : Prop := match Γ with
  | (p, l, e, R, s, m, args, below, meth, c, Q, nL, Λ, B) => ∀ (H : Heap) (locs : List Loc) (ls : Array Slot), (va_P Λ.1 vwCl Wo H ∧ va_D (Aq B) Wo) → va_S (Aq B) s.heap H locs → lv_has ls nL lv → W p l e R s m args below meth c H locs k z Q (F0 m pc ls st)
theorem GW_G {Γ : Cx} {Wo : va_W} {k z : Nat} {pc : Nat} {lv : List (Nat × Value)} {st : List Value} {ids : List (Nat × Nat)} {ad : Nat → Nat → Nat} {w : Nat → Nat → va_E} (e : wl ids ad w = Wo) (h : G Γ ids ad k z w pc lv st) : GW Γ Wo k z pc lv st := by
  subst e
  exact h
/-- a constructor's call over a part of the world -/
theorem D_callI {Γ : Cx} {own : String} {cc : ByteArray} {nL : Nat} {rm : Room} {Λ : Lay} {B : Zn} {ids : List (Nat × Nat)} {ad : Nat → Nat → Nat} {k z : Nat} {w : Nat → Nat → va_E} {pc : Nat} {lv : List (Nat × Value)} {st : List Value} (hO : Ok Γ own cc nL rm Λ B) {rest : List Value} {y : MethodName} {cc' : ByteArray} {nL' : Nat} {rm' : Room} {P : Po} {n index b : Nat} (i2 : List (Nat × Nat)) (a2 : Nat → Nat → Nat) (w2 : Nat → Nat → va_E) (W1 : va_W) (hW : wl ids ad w = W1 ++ wl i2 a2 w2) (As : List Value) (hM : ∀ (l : Launch) (B' : Zn), CT l y cc' nL' none rm' Λ B' i2 a2 w2 (.ref b :: As) P) (hv : CV y cc' nL' none n) (hin : Cond.instanceMethod y ∈ UW) (hy1 : y.name = "<init>") (hl0 : Cond.methodLink own index y ∈ UW) (hn : As.length = n) (hst : st = As.reverse ++ .ref b :: rest) (hcat : (rest.map fun v => v.category).sum ≤ 8) (hrm : rm'.frames + 1 ≤ rm.frames ∧ 8 + (nL' + 11) + rm'.locals ≤ rm.locals) (hkz : k + rm'.cells ≤ rm.cells ∧ z + rm'.slots ≤ rm.slots) (hd : decode cc pc = .ok (.invokespecial index, 3)) (h : ∀ (v : Option Value) (ids' : List (Nat × Nat)) (ad' : Nat → Nat → Nat) (w' : Nat → Nat → va_E), P v ids' ad' w' → GW Γ (W1 ++ wl ids' ad' w') (k + rm'.cells) (z + rm'.slots) (pc + 3) lv (v.toList ++ rest)) : G Γ ids ad k z w pc lv st := by
  obtain ⟨p, l, e, s, m, args, below, meth, c9, Q, rfl, hx, hb, hml, hown, hts, hI, hlk⟩ := hO
  intro H locs ls hP hS hl
  subst hst
  have hP0 := hP
  unfold HP at hP0
  rw [hW] at hP0
  obtain ⟨hP2, hP1⟩ := d_splitL hP0
  refine run_doneD (B := B) Bx.sub (va_runI (Ts := UW) (As := As) (rest := rest) ⟨hx, hb, hml, hown, hts⟩ (hM l (Bx B W1)) ⟨callB_of n hts (uw_of hv.2.1) rfl rfl rfl (hts _ hv.1) (hts _ hl0) hv.2.2 hrm, hy1, hts _ hin⟩ ⟨pc_blind, fun U hU hW => ⟨rfl, (hI.moved hS hU hW).narrow (by rw [hU]; exact hP2.1), by rw [hU]; exact hP1⟩⟩ rfl hn hl.1 rfl (lv_room hcat) hd hkz) hS ?_
  intro v ids' ad' w' H' locs' hp hh hkp hS'
  exact h v ids' ad' w' hp H' locs' ls (d_swap (d_join hh ⟨d_keep hP2.1 hkp, hP2.2.1, fun k q hq => (hP2.2.2 k q hq).1⟩)) hS' hl
theorem ids0_lt {i j : Nat} (h : (i, j) ∈ ids0) : (i < 18 ∧ j < 15) ∨ (i = 20 ∧ j < 6) := by
  simp only [ids0, List.mem_append, List.mem_flatMap, List.mem_map, List.mem_range, Prod.mk.injEq] at h
  rcases h with ⟨n, hn, q, hq, rfl, rfl⟩ | ⟨q, hq, rfl, rfl⟩
  · exact Or.inl ⟨hn, hq⟩
  · exact Or.inr ⟨rfl, hq⟩
theorem glSh_ad {Λ : Lay} {ad ad' : Nat → Nat → Nat} (h : ∀ i, i < 23 → ad i = ad' i) (j : Nat) : EqE (glSh Λ ad cG j) (glSh Λ ad' cG j) := by
  match j with
  | 0 => exact Or.inl (by rw [gl_0, gl_0]; simp only [glF, h 20 (by decide), h 0 (by decide), h 1 (by decide)])
  | 1 => exact Or.inl (by rw [gl_1, gl_1])
  | 2 => exact Or.inl (by rw [gl_2, gl_2]; simp only [hiF, h 20 (by decide)])
  | 3 =>
    refine Or.inr ⟨Λ.2.1 4, 14, _, _, gl_3 _ _ _, gl_3 _ _ _, fun r hr => ?_⟩
    show some (ad ((cG 3 r).toNatClampNeg + 2) 0) = some (ad' ((cG 3 r).toNatClampNeg + 2) 0)
    rw [cG3 r hr, h (r + 2) (by omega)]
  | 4 =>
    refine Or.inr ⟨Λ.2.1 4, 2, _, _, gl_4 _ _ _, gl_4 _ _ _, fun r hr => ?_⟩
    show some (ad (r + 16) 0) = some (ad' (r + 16) 0)
    rw [h (r + 16) (by omega)]
  | 5 => exact Or.inl (by rw [gl_5, gl_5])
  | j + 6 =>
    refine Or.inl ?_
    show Sum.inr (4, rdF ad (cG (j + 6))) = Sum.inr (4, rdF ad' (cG (j + 6)))
    simp only [rdF, h 20 (by decide)]
set_option maxHeartbeats 4000000 in
set_option maxRecDepth 20000 in
theorem c_start {Γ : Cx} {Λ : Lay} {B : Zn} {b L : Nat} {xs : Nat → Int32} (hO : Ok Γ RL cL_law 7 room_1 Λ B) (hX : OkI Γ) (hL : LX Γ b L xs) (hcc : cL_law = code) (hs : wL_law L xs (M0, M0) (fun _ _ => True)) (ad : Nat → Nat → Nat) (w : Nat → Nat → va_E) : G Γ [] ad 0 0 w 0 [(0, .ref b)] [] := by
  refine G_new hO (fs := [.null, .int 0, .null, .null, .null, .null, .null]) cl5 20 0 (by simp) mw_15 mw_16 mw_1 (by intro q hq; rcases (by omega : q = 0 ∨ q = 1 ∨ q = 2 ∨ q = 3 ∨ q = 4 ∨ q = 5 ∨ q = 6) with h | h | h | h | h | h | h <;> subst h <;> rfl) (Nat.le_of_ble_eq_true rfl) (Nat.le_of_ble_eq_true rfl) dL_law_0 (fun a0 => ?_)
  refine G_dup hO dL_law_3 rfl ?_
  refine G_callI hO (rest := [.ref a0]) [] (fun l => c_X5_init (A := a0) (by simp [ad2]) (by simp) (by intro j hj; simp; omega) (by intro i j hi; simp; omega) (by simp [up2, va_up])) cv_X5_init mw_18 rfl mw_17 rfl rfl (Nat.le_of_ble_eq_true rfl) (by decide) (by decide) dL_law_4 ?_
  rintro v ids1 ad1 w1 ⟨rfl, hids1, hb1, hb2, hw1⟩
  show G Γ _ _ 276 3149 _ _ _ [.ref a0]
  refine G_astore_n hO [(1, .ref a0), (0, .ref b)] dL_law_7 rfl (by decide) rfl ?_
  have hm1 : ∀ i j, (i, j) ∈ ids1 ↔ (i < 18 ∧ j < 15) ∨ (i = 20 ∧ j < 6) := by
    intro i j
    simp only [hids1, List.mem_append, List.mem_cons, List.not_mem_nil, or_false, Prod.mk.injEq, List.nil_append]
    omega
  have n120 : (120, 0) ∉ ids1 := fun h => by have := (hm1 120 0).mp h; omega
  refine G_new hO (fs := [.null, .int 0, .null, .null, .null, .null, .null]) cl5 120 0 n120 mw_15 mw_16 mw_1 (by intro q hq; rcases (by omega : q = 0 ∨ q = 1 ∨ q = 2 ∨ q = 3 ∨ q = 4 ∨ q = 5 ∨ q = 6) with h | h | h | h | h | h | h <;> subst h <;> rfl) (Nat.le_of_ble_eq_true rfl) (Nat.le_of_ble_eq_true rfl) dL_law_8 (fun a1 => ?_)
  refine G_dup hO dL_law_11 rfl ?_
  refine D_callI hO (rest := [.ref a1]) [(20, 0)] (fun _ _ => a1) (fun _ _ => .inr (5, [.null, .int 0, .null, .null, .null, .null, .null])) (wl ids1 ad1 w1) (wl_new n120) [] (fun l B' => c_X5_init (A := a1) rfl (by simp) (by intro j hj; simp; omega) (by intro i j hi; simp; omega) rfl) cv_X5_init mw_18 rfl mw_17 rfl rfl (Nat.le_of_ble_eq_true rfl) (by decide) (by decide) dL_law_12 ?_
  rintro v ids2 ad3 w3 ⟨rfl, hids2, hb3, hb4, hw3⟩
  have hm2 : ∀ i j, (i, j) ∈ ids2 ↔ (i < 18 ∧ j < 15) ∨ (i = 20 ∧ j < 6) := by
    intro i j
    simp only [hids2, List.mem_cons, List.not_mem_nil, or_false, Prod.mk.injEq]
    omega
  have l1 : ∀ q ∈ ids1, q.1 < 100 := fun q hq => by have := (hm1 q.1 q.2).mp hq; omega
  obtain ⟨adF, hadF⟩ : ∃ x : Nat → Nat → Nat, x = fun n j => if n < 100 then ad1 n j else ad3 (n - 100) j := ⟨_, rfl⟩
  obtain ⟨wF, hwF⟩ : ∃ x : Nat → Nat → va_E, x = fun n => if n < 100 then w1 n else w3 (n - 100) := ⟨_, rfl⟩
  have e1 : ∀ n, n < 100 → adF n = ad1 n := fun n h => by rw [hadF]; funext j; simp [h]
  have n100 : ∀ n, ¬ n + 100 < 100 := fun n => by omega
  have e2 : adR adF = ad3 := by rw [hadF]; funext n j; simp [adR, n100]
  have eW : wl (dids ids1 ids2) adF wF = wl ids1 ad1 w1 ++ wl ids2 ad3 w3 := by
    unfold wl dids
    rw [List.map_append, List.map_map]
    congr 1
    · apply List.map_congr_left
      intro q hq
      rw [e1 _ (l1 q hq), hwF]
      simp [l1 q hq]
    · apply List.map_congr_left
      intro q hq
      show (adR adF q.1 q.2, wF (q.1 + 100) q.2) = _
      rw [e2, hwF]
      simp [n100]
  refine GW_G eW ?_
  show G Γ _ _ 552 6298 _ 15 _ [.ref a1]
  refine G_widen hO (k' := 560) (z' := 16 * 560) (by decide) (by decide) ?_
  refine G_astore_n hO [(2, .ref a1), (1, .ref a0), (0, .ref b)] dL_law_15 rfl (by decide) rfl ?_
  have r0 : ad1 20 0 = a0 := by rw [hb2]; simp [ad2]
  have r1 : adR adF 20 0 = a1 := by rw [e2]; exact hb4
  refine G_cong hO (dw Λ adF (M0, M0) (fun _ => 0)) ?_ ?_
  · intro q hq
    rcases List.mem_append.mp hq with hq | hq
    · obtain ⟨i, j⟩ := q
      have h9 := (hm1 i j).mp hq
      have h8 : i < 100 := l1 (i, j) hq
      show EqE (wF i j) (dw Λ adF (M0, M0) (fun _ => 0) i j)
      have x1 : wF i = w1 i := by rw [hwF]; simp [h8]
      have x2 : dw Λ adF (M0, M0) (fun _ => 0) i = rS Λ adF (fun _ => 0) i (M0 i) := by unfold dw; rw [if_pos h8]; rfl
      have x3 : w1 i = rS Λ ad1 (fun _ => 0) i (M0 i) := by rw [hw1]; show (if i < 18 ∨ i = 20 then _ else _) = _; rw [if_pos (by omega)]
      rw [x1, x2, x3]
      rcases (by omega : i < 18 ∨ i = 20) with h | h
      · refine Or.inl ?_
        rw [rS_st Λ ad1 _ h, rS_st Λ adF _ h, stSh_ad (e1 i h8).symm]
      · subst h
        rw [rS_gl, rS_gl, M0_gl]
        exact glSh_ad (fun n hn => (e1 n (by omega)).symm) j
    · obtain ⟨⟨i, j⟩, hq9, rfl⟩ := List.mem_map.mp hq
      have h9 := (hm2 i j).mp hq9
      refine Or.inl ?_
      show wF (i + 100) j = dw Λ adF (M0, M0) (fun _ => 0) (i + 100) j
      have x1 : wF (i + 100) = w3 i := by rw [hwF]; simp [n100]
      have x2 : dw Λ adF (M0, M0) (fun _ => 0) (i + 100) = rS Λ ad3 (fun _ => 0) i (M0 i) := by unfold dw; rw [if_neg (by omega), Nat.add_sub_cancel, e2]; rfl
      have x3 : w3 i = rS Λ ad3 (fun _ => 0) i (M0 i) := by rw [hw3]; show (if i < 18 ∨ i = 20 then _ else _) = _; rw [if_pos (by omega)]
      rw [x1, x2, x3]
  rw [← r0, ← r1, ← e1 20 (by decide)]
  refine c_law hO hX hL hcc l1 (fun q hq => (hm1 q.1 q.2).mpr (ids0_lt hq)) (fun q hq => (hm2 q.1 q.2).mpr (ids0_lt hq)) (fun h => ?_) (fun h => ?_) (fun h => ?_) (fun h => ?_) hs
  · have := (hm1 _ _).mp h; omega
  · have := (hm2 _ _).mp h; omega
  · have := (hm1 _ _).mp h; omega
  · have := (hm2 _ _).mp h; omega
/-- what of the start's conditions is used -/
def gvs : List Cond :=
  [("FIRST_SETTINGS", sv0), ("LOWEST_SETTINGS", sv1), ("HIGHEST_SETTINGS", sv2)].flatMap (fun q => [.arrayOf (.static RX5 q.1 "[I") .int, .eq (.length (.static RX5 q.1 "[I")) (.int 9)] ++ (List.range 9).map (fun j => .eq (.elem (.static RX5 q.1 "[I") (.int (Int32.ofNat j))) (.int (q.2 j)))) ++
  (strs.map (fun q => .exactly (.string RX5 q.1) "java/lang/String") ++
  [.isRef (.static Bundle.tN "UNASSIGNED_STACK" Bundle.steD), .isRef (.static Bundle.tN "SUPPRESSED_SENTINEL" Bundle.listD), .not (.castable eISE eIAE), .not (.castable eIAE eIOB), .not (.castable eISE eIOB)])
set_option maxRecDepth 100000 in
theorem gvs_in : ∀ c ∈ gvs, c ∈ flatC (Jvm.Cond.and given_1 narrow_1) := by decide +kernel
theorem gvs_of {args : Array Value} {s : State} (h : (Jvm.Cond.and given_1 narrow_1).before args s = true) : ∀ c ∈ gvs, c.before args s = true := fun c hc => flat_of_before _ h c (gvs_in c hc)
theorem gv_sv {args : Array Value} {s : State} {B : Zn} (h : ∀ c ∈ gvs, c.before args s = true) (hts : ∀ w ∈ lw_tbl, w.before args s = true) (hB : ∀ q, B q ↔ s.heap.size ≤ q) {n : String} {f : Nat → Int32} (hn : (n, f) = ("FIRST_SETTINGS", sv0) ∨ (n, f) = ("LOWEST_SETTINGS", sv1) ∨ (n, f) = ("HIGHEST_SETTINGS", sv2)) : ∃ t : Nat, va_Z RX5 n "[I" (.ref t) (Aq B) s s.heap ∧ va_T .int t 9 (fun j => .int (f j)) (Aq B) s s.heap := by
  have hA : ∀ a : Nat, a < s.heap.size → ¬ Aq B a := fun a h1 h2 => absurd ((hB a).mp h2) (Nat.not_le.mpr h1)
  have hm : ∀ c ∈ [Cond.arrayOf (.static RX5 n "[I") .int, .eq (.length (.static RX5 n "[I")) (.int 9)] ++ (List.range 9).map (fun j => Cond.eq (.elem (.static RX5 n "[I") (.int (Int32.ofNat j))) (.int (f j))), c.before args s = true := by
    intro c hc
    refine h c (List.mem_append_left _ (List.mem_flatMap.mpr ⟨(n, f), ?_, hc⟩))
    rcases hn with h | h | h <;> rw [h] <;> simp
  have hl : (Cond.laysStatic RX5 n "[I").before args s = true := by
    rcases hn with h | h | h <;> cases h <;> exact hts _ (by decide +kernel)
  have hini : (Cond.initialized RX5).before args s = true := hts _ (by decide +kernel)
  obtain ⟨t, h1, h2⟩ := va_Tof (tm := .static RX5 n "[I") (ty := .int) (N := 9) (f := fun j => .int (f j)) (A := Aq B) (by decide) (hm _ (by simp)) (va_eqt (hm _ (by simp))) (fun j hj => va_eqt (hm _ (List.mem_append_right _ (List.mem_map.mpr ⟨j, List.mem_range.mpr hj, rfl⟩)))) hA
  exact ⟨t, va_Zof hl hini h1 hA, h2⟩
theorem gv_str {args : Array Value} {s : State} (h : ∀ c ∈ gvs, c.before args s = true) (hts : ∀ w ∈ lw_tbl, w.before args s = true) : ∃ f : Nat → Nat, ∀ q ∈ strs, vk_R RX5 q.1 q.2 (f q.1) s := by
  have key : ∀ k : Nat, ∃ a : Nat, ∀ q ∈ strs, q.1 = k → (Term.string RX5 k).eval args s none [] s = some (.ref a) := by
    intro k
    by_cases hk : ∃ q ∈ strs, q.1 = k
    · obtain ⟨q, hq, rfl⟩ := hk
      have h1 := h (.exactly (.string RX5 q.1) "java/lang/String") (List.mem_append_right _ (List.mem_append_left _ (List.mem_map.mpr ⟨q, hq, rfl⟩)))
      obtain ⟨a, -, -, -, h2, -⟩ := Cond.exactly_spec (args := args) (first := s) (o := none) (s := s) (idx := []) h1
      exact ⟨a, fun _ _ _ => h2⟩
    · exact ⟨0, fun q hq e => absurd ⟨q, hq, e⟩ hk⟩
  obtain ⟨f, hf⟩ := Classical.axiomOfChoice key
  have hw : ∀ q ∈ strs, Cond.stringRef RX5 q.1 q.2 ∈ lw_tbl := by decide +kernel
  exact ⟨f, fun q hq => vk_R.of (hts _ (hw q hq)) (hf q.1 q hq rfl)⟩
theorem gv_cl {args : Array Value} {s : State} (hts : ∀ w ∈ lw_tbl, w.before args s = true) (hUW : ∀ w ∈ UW, w.before args s = true) : ∃ D : va_G, ∀ (c : Nat) (q : vw_C), vwCl[c]? = some q → u_Kn s q.1 q.2.1 q.2.2 (D.1 c) (D.2 c) := by
  have key : ∀ c : Nat, ∃ p : ClassId × (Nat → Nat), ∀ q : vw_C, vwCl[c]? = some q → u_Kn s q.1 q.2.1 q.2.2 p.1 p.2 := by
    intro c
    match c with
    | 0 => obtain ⟨cC, iS, h⟩ := u_known (n := 2) hUW cl0.2.1 (hts _ (by decide +kernel)); exact ⟨(cC, iS), fun q hq => by cases hq; exact h⟩
    | 1 => obtain ⟨cC, iS, h⟩ := u_known (n := 4) hUW cl1.2.1 (hts _ (by decide +kernel)); exact ⟨(cC, iS), fun q hq => by cases hq; exact h⟩
    | 2 => obtain ⟨cC, iS, h⟩ := u_known (n := 7) hUW cl2.2.1 (hts _ (by decide +kernel)); exact ⟨(cC, iS), fun q hq => by cases hq; exact h⟩
    | 3 => obtain ⟨cC, iS, h⟩ := u_known (n := 14) hUW cl3.2.1 (hts _ (by decide +kernel)); exact ⟨(cC, iS), fun q hq => by cases hq; exact h⟩
    | 4 => obtain ⟨cC, iS, h⟩ := u_known (n := 3) hUW cl4.2.1 (hts _ (by decide +kernel)); exact ⟨(cC, iS), fun q hq => by cases hq; exact h⟩
    | 5 => obtain ⟨cC, iS, h⟩ := u_known (n := 7) hUW cl5.2.1 (hts _ (by decide +kernel)); exact ⟨(cC, iS), fun q hq => by cases hq; exact h⟩
    | c + 6 => exact ⟨(0, fun _ => 0), fun q hq => by simp at hq⟩
  obtain ⟨f, hf⟩ := Classical.axiomOfChoice key
  exact ⟨(fun c => (f c).1, fun c => (f c).2), fun c q hq => hf c q hq⟩
theorem gv_ar {args : Array Value} {s : State} {ty : FieldType} (h : (Cond.arrayClass ty).before args s = true) : ∃ cA : ClassId, ArrOfT s cA ty ∧ s.vm.findClass ("[" ++ ty.toString) = some cA := by
  obtain ⟨cA, kA, comp, h1, h2, h3⟩ := Cond.arrayClass_spec (args := args) (first := s) (o := none) (s := s) (idx := []) h
  exact ⟨cA, fun n z => ⟨(fun k h => by cases h), kA, h2, comp, h3⟩, h1⟩
theorem gv_ao {args : Array Value} {s : State} {C : String} (h : (Cond.arrayOver (.object C)).before args s = true) : ∃ cA : ClassId, ArrOfT s cA (.object C) ∧ va_RA s cA (.object C) := by
  obtain ⟨comp, cA, kA, h1, -, h3, h4, h5⟩ := Cond.arrayOver_spec (args := args) (first := s) (o := none) (s := s) (idx := []) h
  exact ⟨cA, fun n z => ⟨(fun k h => by cases h), kA, h3, comp, h4⟩, kA, comp, h3, h4, h1, h5⟩
theorem gv_IU {args : Array Value} {s : State} {B : Zn} (h : ∀ c ∈ gvs, c.before args s = true) (hts : ∀ w ∈ lw_tbl, w.before args s = true) (hUW : ∀ w ∈ UW, w.before args s = true) (hB : ∀ q, B q ↔ s.heap.size ≤ q) : ∃ Λ : Lay, IU Λ B s ∧ IX Λ B s s.heap := by
  have hA : ∀ a : Nat, a < s.heap.size → ¬ Aq B a := fun a h1 h2 => absurd ((hB a).mp h2) (Nat.not_le.mpr h1)
  obtain ⟨D, hD⟩ := gv_cl hts hUW
  obtain ⟨a0, b0, c0⟩ := gv_ar (hts (.arrayClass .int) (by decide +kernel))
  obtain ⟨a1, b1, c1⟩ := gv_ar (hts (.arrayClass .char) (by decide +kernel))
  obtain ⟨a2, b2, c2⟩ := gv_ar (hts (.arrayClass .boolean) (by decide +kernel))
  obtain ⟨a3, b3, c3⟩ := gv_ar (hts (.arrayClass .int) (by decide +kernel))
  obtain ⟨a4, b4, c4⟩ := gv_ao (hts (.arrayOver (.object RX3)) (by decide +kernel))
  obtain ⟨a5, b5, c5⟩ := gv_ao (hts (.arrayOver (.object RX2)) (by decide +kernel))
  obtain ⟨t0, d0, e0⟩ := gv_sv h hts hB (n := "FIRST_SETTINGS") (f := sv0) (Or.inl rfl)
  obtain ⟨t1, d1, e1⟩ := gv_sv h hts hB (n := "LOWEST_SETTINGS") (f := sv1) (Or.inr (Or.inl rfl))
  obtain ⟨t2, d2, e2⟩ := gv_sv h hts hB (n := "HIGHEST_SETTINGS") (f := sv2) (Or.inr (Or.inr rfl))
  obtain ⟨g, hg⟩ := gv_str h hts
  refine ⟨(D, fun j => [a0, a1, a2, a3, a4, a5].getD j a0, fun j => [t0, t1, t2].getD j 0, g), ⟨⟨hD, fun k q hq => ?_⟩, ⟨⟨d0, e0⟩, ⟨d1, e1⟩, ⟨d2, e2⟩⟩, ?_, fun q hq => (hB q).mpr hq⟩, ?_⟩
  · match k with
    | 0 => cases hq; exact ⟨b0, c0⟩
    | 1 => cases hq; exact ⟨b1, c1⟩
    | 2 => cases hq; exact ⟨b2, c2⟩
    | 3 => cases hq; exact ⟨b3, c3⟩
    | 4 => cases hq; exact ⟨b4, c4⟩
    | 5 => cases hq; exact ⟨b5, c5⟩
    | k + 6 => simp [gtys] at hq
  · exact ⟨va_Nw.of (by decide +kernel) (hts _ (by decide +kernel)), va_Nw.of (by decide +kernel) (hts _ (by decide +kernel)), va_Nw.of (by decide +kernel) (hts _ (by decide +kernel)), va_Nw.of (by decide +kernel) (hts _ (by decide +kernel)), va_Nw.of (by decide +kernel) (hts _ (by decide +kernel)), va_AO.of (hts (.arrayOver (.object RX3)) (by decide +kernel)), va_AO.of (hts (.arrayOver (.object RX2)) (by decide +kernel))⟩
  · have hnx : ∀ w ∈ nx, w ∈ lw_tbl ∧ w.onTables = true := by decide +kernel
    refine ⟨vx_Zqof (hts _ (by decide +kernel)) (hts _ (by decide +kernel)) (h _ (by decide +kernel)) hA, vx_Zqof (hts _ (by decide +kernel)) (hts _ (by decide +kernel)) (h _ (by decide +kernel)) hA, hg, fun w hw => va_Nw.of (hnx w hw).2 (hts w (hnx w hw).1), va_Nc.of (h _ (by decide +kernel)), va_Nc.of (h _ (by decide +kernel)), va_Nc.of (h _ (by decide +kernel))⟩
theorem whole_enter {p : Program} {e : Env} {s : State} {m : MethodId} {below : List Frame} {meth : Method} {c : Code} (l : Launch) (hflags : l.flags = flags0) {b L : Nat} {xs : Nat → Int32} (C0 : lw_At p s m meth c b L xs) (hs : wL_law L xs (M0, M0) (fun _ _ => True)) : W p l e room_1 s m #[Value.ref b] below meth c s.heap [] 0 0 (lw_Z below #[Value.ref b] s) (entryFrame m ([Value.ref b] : List Value).toArray 7) := by
  obtain ⟨hx, hb, hr, hml, hown, hts, hX, hbl, hlk, hgv⟩ := C0
  have hUW : ∀ w ∈ UW, w.before #[Value.ref b] s = true := fun w hw => hts w (List.mem_filter.mp hw).1
  obtain ⟨Λ, hI, hIX⟩ := gv_IU (B := fun q => s.heap.size ≤ q) (gvs_of hgv) hts hUW (fun _ => Iff.rfl)
  have hst : l.stackTraces = false := by unfold Launch.stackTraces; rw [hflags]; decide +kernel
  have hcc : cL_law = code := rfl
  have hl := lv_entry [Value.ref b] (n := 7) (Nat.le_of_ble_eq_true rfl)
  rw [lg_entry_eq]
  have hg := c_start (Γ := (p, l, e, room_1, s, m, #[Value.ref b], below, meth, c, lw_Z below #[Value.ref b] s, 7, Λ, fun q => s.heap.size ≤ q)) ⟨p, l, e, s, m, _, below, meth, c, _, rfl, hx, hb.trans hcc.symm, hml, hown, hUW, hI, hlk⟩ ⟨hIX, hst⟩ ⟨hX, hbl, fun _ => Iff.rfl, rfl, rfl, hr, rfl⟩ hcc hs (fun _ _ => 0) (fun _ _ => .inl (0, 0, .inl (fun _ => 0)))
  exact hg s.heap [] _ ⟨fun i q hq => by simp [wl] at hq, ⟨fun i j p q hp => by simp [wl] at hp, fun i q hq => by simp [wl] at hq⟩⟩ va_S.rf hl
