/-- what of the start's conditions is used -/
def gvs : List Cond :=
  [("FIRST_SETTINGS", sv0), ("LOWEST_SETTINGS", sv1), ("HIGHEST_SETTINGS", sv2)].flatMap (fun q => [.arrayOf (.static RX5 q.1 "[I") .int, .eq (.length (.static RX5 q.1 "[I")) (.int 9)] ++ (List.range 9).map (fun j => .eq (.elem (.static RX5 q.1 "[I") (.int (Int32.ofNat j))) (.int (q.2 j)))) ++
  (strs.map (fun q => .exactly (.string RX5 q.1) "java/lang/String") ++
  [.isRef (.static Bundle.tN "UNASSIGNED_STACK" Bundle.steD), .isRef (.static Bundle.tN "SUPPRESSED_SENTINEL" Bundle.listD), .not (.castable eISE eIAE), .not (.castable eIAE eIOB), .not (.castable eISE eIOB)])
set_option maxRecDepth 100000 in
theorem gvs_in : ∀ c ∈ gvs, c ∈ flatC (Jvm.Cond.and given_1 narrow_1) := by decide +kernel
theorem gvs_of {args : Array Value} {s : State} (h : (Jvm.Cond.and given_1 narrow_1).before args s = true) : ∀ c ∈ gvs, c.before args s = true := fun c hc => flat_of_before _ h c (gvs_in c hc)
theorem gv_sv {args : Array Value} {s : State} {B : Nat} (h : ∀ c ∈ gvs, c.before args s = true) (hts : ∀ w ∈ lw_tbl, w.before args s = true) (hB : s.heap.size = B) {n : String} {f : Nat → Int32} (hn : (n, f) = ("FIRST_SETTINGS", sv0) ∨ (n, f) = ("LOWEST_SETTINGS", sv1) ∨ (n, f) = ("HIGHEST_SETTINGS", sv2)) : ∃ t : Nat, va_Z RX5 n "[I" (.ref t) (Aq B) s s.heap ∧ va_T .int t 9 (fun j => .int (f j)) (Aq B) s s.heap := by
  have hA : ∀ a : Nat, a < s.heap.size → ¬ Aq B a := fun a h1 h2 => absurd (Nat.lt_of_lt_of_le (hB ▸ h1) h2) (Nat.lt_irrefl _)
  have hm : ∀ c ∈ [Cond.arrayOf (.static RX5 n "[I") .int, .eq (.length (.static RX5 n "[I")) (.int 9)] ++ (List.range 9).map (fun j => Cond.eq (.elem (.static RX5 n "[I") (.int (Int32.ofNat j))) (.int (f j))), c.before args s = true := by
    intro c hc
    refine h c (List.mem_append_left _ (List.mem_flatMap.mpr ⟨(n, f), ?_, hc⟩))
    rcases hn with h | h | h <;> rw [h] <;> simp
  have hl : (Cond.laysStatic RX5 n "[I").before args s = true := by
    rcases hn with h | h | h <;> cases h <;> exact hts _ (by decide +kernel)
  have hini : (Cond.initialized RX5).before args s = true := hts _ (by decide +kernel)
  obtain ⟨t, h1, h2⟩ := va_Tof (tm := .static RX5 n "[I") (ty := .int) (N := 9) (f := fun j => .int (f j)) (A := Aq B) (by decide) (hm _ (by simp)) (va_eqt (hm _ (by simp))) (fun j hj => va_eqt (hm _ (List.mem_append_right _ (List.mem_map.mpr ⟨j, List.mem_range.mpr hj, rfl⟩)))) hA
  exact ⟨t, va_Zof hl hini h1 hA, h2⟩
theorem gv_str {args : Array Value} {s : State} (h : ∀ c ∈ gvs, c.before args s = true) (hts : ∀ w ∈ lw_tbl, w.before args s = true) : ∃ f : Nat → Nat, ∀ q ∈ strs, vk_R RX5 q.1 q.2 (f q.1) s := by
  have key : ∀ k : Nat, ∃ a : Nat, ∀ q ∈ strs, q.1 = k → (Term.string RX5 k).eval args s none [] s = some (.ref a) := by
    intro k
    by_cases hk : ∃ q ∈ strs, q.1 = k
    · obtain ⟨q, hq, rfl⟩ := hk
      have h1 := h (.exactly (.string RX5 q.1) "java/lang/String") (List.mem_append_right _ (List.mem_append_left _ (List.mem_map.mpr ⟨q, hq, rfl⟩)))
      obtain ⟨a, -, -, -, h2, -⟩ := Cond.exactly_spec (args := args) (first := s) (o := none) (s := s) (idx := []) h1
      exact ⟨a, fun _ _ _ => h2⟩
    · exact ⟨0, fun q hq e => absurd ⟨q, hq, e⟩ hk⟩
  obtain ⟨f, hf⟩ := Classical.axiomOfChoice key
  have hw : ∀ q ∈ strs, Cond.stringRef RX5 q.1 q.2 ∈ lw_tbl := by decide +kernel
  exact ⟨f, fun q hq => vk_R.of (hts _ (hw q hq)) (hf q.1 q hq rfl)⟩
theorem gv_cl {args : Array Value} {s : State} (hts : ∀ w ∈ lw_tbl, w.before args s = true) (hUW : ∀ w ∈ UW, w.before args s = true) : ∃ D : va_G, ∀ (c : Nat) (q : vw_C), vwCl[c]? = some q → u_Kn s q.1 q.2.1 q.2.2 (D.1 c) (D.2 c) := by
  have key : ∀ c : Nat, ∃ p : ClassId × (Nat → Nat), ∀ q : vw_C, vwCl[c]? = some q → u_Kn s q.1 q.2.1 q.2.2 p.1 p.2 := by
    intro c
    match c with
    | 0 => obtain ⟨cC, iS, h⟩ := u_known (n := 2) hUW cl0.2.1 (hts _ (by decide +kernel)); exact ⟨(cC, iS), fun q hq => by cases hq; exact h⟩
    | 1 => obtain ⟨cC, iS, h⟩ := u_known (n := 4) hUW cl1.2.1 (hts _ (by decide +kernel)); exact ⟨(cC, iS), fun q hq => by cases hq; exact h⟩
    | 2 => obtain ⟨cC, iS, h⟩ := u_known (n := 7) hUW cl2.2.1 (hts _ (by decide +kernel)); exact ⟨(cC, iS), fun q hq => by cases hq; exact h⟩
    | 3 => obtain ⟨cC, iS, h⟩ := u_known (n := 14) hUW cl3.2.1 (hts _ (by decide +kernel)); exact ⟨(cC, iS), fun q hq => by cases hq; exact h⟩
    | 4 => obtain ⟨cC, iS, h⟩ := u_known (n := 3) hUW cl4.2.1 (hts _ (by decide +kernel)); exact ⟨(cC, iS), fun q hq => by cases hq; exact h⟩
    | 5 => obtain ⟨cC, iS, h⟩ := u_known (n := 7) hUW cl5.2.1 (hts _ (by decide +kernel)); exact ⟨(cC, iS), fun q hq => by cases hq; exact h⟩
    | 6 => obtain ⟨cC, iS, h⟩ := u_known (n := 12) hUW cl6.2.1 (hts _ (by decide +kernel)); exact ⟨(cC, iS), fun q hq => by cases hq; exact h⟩
    | c + 7 => exact ⟨(0, fun _ => 0), fun q hq => by simp at hq⟩
  obtain ⟨f, hf⟩ := Classical.axiomOfChoice key
  exact ⟨(fun c => (f c).1, fun c => (f c).2), fun c q hq => hf c q hq⟩
theorem gv_ar {args : Array Value} {s : State} {ty : FieldType} (h : (Cond.arrayClass ty).before args s = true) : ∃ cA : ClassId, ArrOfT s cA ty ∧ s.vm.findClass ("[" ++ ty.toString) = some cA := by
  obtain ⟨cA, kA, comp, h1, h2, h3⟩ := Cond.arrayClass_spec (args := args) (first := s) (o := none) (s := s) (idx := []) h
  exact ⟨cA, fun n z => ⟨(fun k h => by cases h), kA, h2, comp, h3⟩, h1⟩
theorem gv_ao {args : Array Value} {s : State} {C : String} (h : (Cond.arrayOver (.object C)).before args s = true) : ∃ cA : ClassId, ArrOfT s cA (.object C) ∧ va_RA s cA (.object C) := by
  obtain ⟨comp, cA, kA, h1, -, h3, h4, h5⟩ := Cond.arrayOver_spec (args := args) (first := s) (o := none) (s := s) (idx := []) h
  exact ⟨cA, fun n z => ⟨(fun k h => by cases h), kA, h3, comp, h4⟩, kA, comp, h3, h4, h1, h5⟩
theorem gv_IU {args : Array Value} {s : State} {B : Nat} (h : ∀ c ∈ gvs, c.before args s = true) (hts : ∀ w ∈ lw_tbl, w.before args s = true) (hUW : ∀ w ∈ UW, w.before args s = true) (hB : s.heap.size = B) : ∃ Λ : Lay, IU Λ B s ∧ IX Λ B s s.heap := by
  have hA : ∀ a : Nat, a < s.heap.size → ¬ Aq B a := fun a h1 h2 => absurd (Nat.lt_of_lt_of_le (hB ▸ h1) h2) (Nat.lt_irrefl _)
  obtain ⟨D, hD⟩ := gv_cl hts hUW
  obtain ⟨a0, b0, c0⟩ := gv_ar (hts (.arrayClass .int) (by decide +kernel))
  obtain ⟨a1, b1, c1⟩ := gv_ar (hts (.arrayClass .char) (by decide +kernel))
  obtain ⟨a2, b2, c2⟩ := gv_ar (hts (.arrayClass .boolean) (by decide +kernel))
  obtain ⟨a3, b3, c3⟩ := gv_ar (hts (.arrayClass .long) (by decide +kernel))
  obtain ⟨a4, b4, c4⟩ := gv_ao (hts (.arrayOver (.object RX3)) (by decide +kernel))
  obtain ⟨a5, b5, c5⟩ := gv_ao (hts (.arrayOver (.object RX2)) (by decide +kernel))
  obtain ⟨t0, d0, e0⟩ := gv_sv h hts hB (n := "FIRST_SETTINGS") (f := sv0) (Or.inl rfl)
  obtain ⟨t1, d1, e1⟩ := gv_sv h hts hB (n := "LOWEST_SETTINGS") (f := sv1) (Or.inr (Or.inl rfl))
  obtain ⟨t2, d2, e2⟩ := gv_sv h hts hB (n := "HIGHEST_SETTINGS") (f := sv2) (Or.inr (Or.inr rfl))
  obtain ⟨g, hg⟩ := gv_str h hts
  refine ⟨(D, fun j => [a0, a1, a2, a3, a4, a5].getD j a0, fun j => [t0, t1, t2].getD j 0, g), ⟨⟨hD, fun k q hq => ?_⟩, ⟨⟨d0, e0⟩, ⟨d1, e1⟩, ⟨d2, e2⟩⟩, ?_, Nat.le_of_eq hB.symm⟩, ?_⟩
  · match k with
    | 0 => cases hq; exact ⟨b0, c0⟩
    | 1 => cases hq; exact ⟨b1, c1⟩
    | 2 => cases hq; exact ⟨b2, c2⟩
    | 3 => cases hq; exact ⟨b3, c3⟩
    | 4 => cases hq; exact ⟨b4, c4⟩
    | 5 => cases hq; exact ⟨b5, c5⟩
    | k + 6 => simp [gtys] at hq
  · exact ⟨va_Nw.of (by decide +kernel) (hts _ (by decide +kernel)), va_Nw.of (by decide +kernel) (hts _ (by decide +kernel)), va_Nw.of (by decide +kernel) (hts _ (by decide +kernel)), va_Nw.of (by decide +kernel) (hts _ (by decide +kernel)), va_Nw.of (by decide +kernel) (hts _ (by decide +kernel)), va_AO.of (hts (.arrayOver (.object RX3)) (by decide +kernel)), va_AO.of (hts (.arrayOver (.object RX2)) (by decide +kernel))⟩
  · have hnx : ∀ w ∈ nx, w ∈ lw_tbl ∧ w.onTables = true := by decide +kernel
    refine ⟨vx_Zqof (hts _ (by decide +kernel)) (hts _ (by decide +kernel)) (h _ (by decide +kernel)) hA, vx_Zqof (hts _ (by decide +kernel)) (hts _ (by decide +kernel)) (h _ (by decide +kernel)) hA, hg, fun w hw => va_Nw.of (hnx w hw).2 (hts w (hnx w hw).1), va_Nc.of (h _ (by decide +kernel)), va_Nc.of (h _ (by decide +kernel)), va_Nc.of (h _ (by decide +kernel))⟩
theorem whole_enter {p : Program} {e : Env} {s : State} {m : MethodId} {below : List Frame} {meth : Method} {c : Code} (l : Launch) (hflags : l.flags = flags0) {b L : Nat} {xs : Nat → Int32} (C0 : lw_At p s m meth c b L xs) (hs : wL_loop L xs 513 0 M1 (fun _ => 0)) : W p l e room_1 s m #[Value.ref b] below meth c s.heap [] 0 0 (lw_Z below #[Value.ref b] s) (entryFrame m ([Value.ref b] : List Value).toArray 8) := by
  obtain ⟨hx, hb, hr, hml, hown, hts, hX, hbl, hlk, hgv⟩ := C0
  have hUW : ∀ w ∈ UW, w.before #[Value.ref b] s = true := fun w hw => hts w (List.mem_filter.mp hw).1
  obtain ⟨Λ, hI, hIX⟩ := gv_IU (B := s.heap.size) (gvs_of hgv) hts hUW rfl
  have hst : l.stackTraces = false := by unfold Launch.stackTraces; rw [hflags]; decide +kernel
  have hcc : cL_law = code := rfl
  have hl := lv_entry [Value.ref b] (n := 8) (Nat.le_of_ble_eq_true rfl)
  rw [lg_entry_eq]
  have hg := c_start (Γ := (p, l, e, room_1, s, m, #[Value.ref b], below, meth, c, lw_Z below #[Value.ref b] s, 8, Λ, s.heap.size)) ⟨p, l, e, s, m, _, below, meth, c, _, rfl, hx, hb.trans hcc.symm, hml, hown, hUW, hI, hlk⟩ ⟨hX, hbl, rfl, hst, hIX, rfl, rfl, hr, rfl⟩ hcc hs (fun _ _ => 0) (fun _ _ => .inl (0, 0, .inl (fun _ => 0)))
  exact hg s.heap [] _ ⟨fun i q hq => by simp [wl] at hq, ⟨fun i j p q hp => by simp [wl] at hp, fun i q hq => by simp [wl] at hq⟩⟩ va_S.rf hl
