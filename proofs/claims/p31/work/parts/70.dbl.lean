/-! TWO STATIONS: the first one's cells in the regions below 100, the second one's from 100 on. -/
abbrev DM : Type := Mem × Mem
def adR (ad : Nat → Nat → Nat) : Nat → Nat → Nat := fun n j => ad (n + 100) j
def dw (Λ : Lay) (ad : Nat → Nat → Nat) (D : DM) (O : Nat → Int64) : Nat → Nat → va_E := fun n => if n < 100 then sh Λ ad D.1 O n else sh Λ (adR ad) D.2 O (n - 100)
def dids (i1 i2 : List (Nat × Nat)) : List (Nat × Nat) := i1 ++ i2.map (fun q => (q.1 + 100, q.2))
theorem wl_d {Λ : Lay} {ad : Nat → Nat → Nat} {D : DM} {O : Nat → Int64} {i1 i2 : List (Nat × Nat)} (h1 : ∀ q ∈ i1, q.1 < 100) : wl (dids i1 i2) ad (dw Λ ad D O) = wl i1 ad (sh Λ ad D.1 O) ++ wl i2 (adR ad) (sh Λ (adR ad) D.2 O) := by
  unfold wl dids
  rw [List.map_append, List.map_map]
  congr 1
  · apply List.map_congr_left
    intro q hq
    show (ad q.1 q.2, dw Λ ad D O q.1 q.2) = _
    unfold dw
    rw [if_pos (h1 q hq)]
/-- B without the cells of W -/
def Bx (B : Zn) (W : va_W) : Zn := fun q => B q ∧ ∀ p ∈ W, p.1 ≠ q
theorem Bx.sub {B : Zn} {W : va_W} : ∀ q, Bx B W q → B q := fun _ h => h.1
theorem d_splitL {Λ : Lay} {B : Zn} {W1 W2 : va_W} {H : Heap} (h : va_P Λ.1 vwCl (W1 ++ W2) H ∧ va_D (Aq B) (W1 ++ W2)) : (va_P Λ.1 vwCl W1 H ∧ va_D (Aq (Bx B W2)) W1) ∧ (va_P Λ.1 vwCl W2 H ∧ va_D (Aq (Bx B W1)) W2) := by
  obtain ⟨hP, hD1, hD2⟩ := h
  have l1 : ∀ {k : Nat} {q : Nat × va_E}, W1[k]? = some q → (W1 ++ W2)[k]? = some q := fun {k q} hk => by
    rw [List.getElem?_append_left (List.getElem?_eq_some_iff.mp hk).1]; exact hk
  have l2 : ∀ {k : Nat} {q : Nat × va_E}, W2[k]? = some q → (W1 ++ W2)[W1.length + k]? = some q := fun {k q} hk => by
    rw [List.getElem?_append_right (Nat.le_add_right _ _), Nat.add_sub_cancel_left]; exact hk
  have hne : ∀ {i j : Nat} {p q : Nat × va_E}, W1[i]? = some p → W2[j]? = some q → p.1 ≠ q.1 := fun {i j p q} hp hq e => by
    have e1 := hD1 _ _ _ _ (l1 hp) (l2 hq) e
    have := (List.getElem?_eq_some_iff.mp hp).1
    omega
  refine ⟨⟨fun k q hk => hP k q (l1 hk), fun i j p q hp hq e => hD1 _ _ _ _ (l1 hp) (l1 hq) e, fun k q hk => ⟨hD2 _ _ (l1 hk), fun p hp => ?_⟩⟩, ⟨fun k q hk => hP _ q (l2 hk), fun i j p q hp hq e => ?_, fun k q hk => ⟨hD2 _ _ (l2 hk), fun p hp => ?_⟩⟩⟩
  · obtain ⟨j, hj⟩ := List.getElem?_of_mem hp
    exact fun e => hne hk hj e.symm
  · have := hD1 _ _ _ _ (l2 hp) (l2 hq) e
    omega
  · obtain ⟨j, hj⟩ := List.getElem?_of_mem hp
    exact fun e => hne hj hk e
theorem d_join {Λ : Lay} {B : Zn} {W1 W2 : va_W} {H : Heap} (h1 : va_P Λ.1 vwCl W1 H ∧ va_D (Aq (Bx B W2)) W1) (h2 : va_P Λ.1 vwCl W2 H ∧ va_D (Aq B) W2) : va_P Λ.1 vwCl (W1 ++ W2) H ∧ va_D (Aq B) (W1 ++ W2) := by
  have cs : ∀ {k : Nat} {q : Nat × va_E}, (W1 ++ W2)[k]? = some q → (k < W1.length ∧ W1[k]? = some q) ∨ (W1.length ≤ k ∧ W2[k - W1.length]? = some q) := fun {k q} hk => by
    by_cases h : k < W1.length
    · rw [List.getElem?_append_left h] at hk; exact Or.inl ⟨h, hk⟩
    · rw [List.getElem?_append_right (by omega)] at hk; exact Or.inr ⟨by omega, hk⟩
  refine ⟨fun k q hk => ?_, fun i j p q hp hq e => ?_, fun k q hk => ?_⟩
  · rcases cs hk with ⟨-, h⟩ | ⟨-, h⟩
    · exact h1.1 _ _ h
    · exact h2.1 _ _ h
  · rcases cs hp with ⟨a1, hp⟩ | ⟨a1, hp⟩ <;> rcases cs hq with ⟨a2, hq⟩ | ⟨a2, hq⟩
    · exact h1.2.1 _ _ _ _ hp hq e
    · exact absurd e.symm ((h1.2.2 _ _ hp).2 q (List.mem_of_getElem? hq))
    · exact absurd e ((h1.2.2 _ _ hq).2 p (List.mem_of_getElem? hp))
    · have := h2.2.1 _ _ _ _ hp hq e
      omega
  · rcases cs hk with ⟨-, h⟩ | ⟨-, h⟩
    · exact (h1.2.2 _ _ h).1
    · exact h2.2.2 _ _ h
theorem d_swap {Λ : Lay} {B : Zn} {W1 W2 : va_W} {H : Heap} (h : va_P Λ.1 vwCl (W1 ++ W2) H ∧ va_D (Aq B) (W1 ++ W2)) : va_P Λ.1 vwCl (W2 ++ W1) H ∧ va_D (Aq B) (W2 ++ W1) := by
  obtain ⟨h1, h2⟩ := d_splitL h
  exact d_join ⟨h2.1, h2.2⟩ ⟨h1.1, h1.2.1, fun k q hk => (h1.2.2 k q hk).1⟩
theorem IU.narrow {Λ : Lay} {B : Zn} {U : State} {W : va_W} (h : IU Λ B U) (hW : va_P Λ.1 vwCl W U.heap) : IU Λ (Bx B W) U := by
  obtain ⟨hK, ⟨⟨a1, b1⟩, ⟨a2, b2⟩, ⟨a3, b3⟩⟩, hN, hB⟩ := h
  refine ⟨hK, ⟨⟨a1.narrow Bx.sub, b1.narrow Bx.sub⟩, ⟨a2.narrow Bx.sub, b2.narrow Bx.sub⟩, ⟨a3.narrow Bx.sub, b3.narrow Bx.sub⟩⟩, hN, fun q hq => ⟨hB q hq, fun p hp e => ?_⟩⟩
  obtain ⟨k, hk⟩ := List.getElem?_of_mem hp
  have := (hW k p hk).lt
  omega
theorem IX.narrow {Λ : Lay} {B : Zn} {U : State} {W : va_W} {H : Heap} (h : IX Λ B U H) : IX Λ (Bx B W) U H := by
  obtain ⟨h1, h2, h3⟩ := h
  exact ⟨h1.narrow Bx.sub, h2.narrow Bx.sub, h3⟩
/-- behind a call that may write only in B' -/
theorem run_doneD {p : Program} {l : Launch} {e : Env} {R : Room} {s : State} {m : MethodId} {args : Array Value} {below : List Frame} {meth : Method} {c : Code} {H : Heap} {locs : List Loc} {k z mc ms pc : Nat} {Q : State → Prop} {ls : Array Slot} {st rest : List Value} {Λ : Lay} {B B' : Zn} {P : Po} {a : Array Value} (hBB : ∀ q, B' q → B q)
    (hr : va_Run p l e R s m args below meth c H locs k z mc ms (F0 m pc ls st) rest (QC Λ B' P a) (Aq B')) (hS : va_S (Aq B) s.heap H locs)
    (h : ∀ (v : Option Value) (ids : List (Nat × Nat)) (ad : Nat → Nat → Nat) (w : Nat → Nat → va_E) (H' : Heap) (locs' : List Loc), P v ids ad w → HP Λ B' ids ad w H' → (∀ q, q < H.size → ¬ B' q → H'[q]? = H[q]?) → va_S (Aq B) s.heap H' locs' → W p l e R s m args below meth c H' locs' (k + mc) (z + ms) Q (F0 m (pc + 3) ls (v.toList ++ rest))) : W p l e R s m args below meth c H locs k z Q (F0 m pc ls st) := by
  intro T hT X
  obtain ⟨v, st₀, t, T', L, h0, X', hL, e1, e2, ⟨⟨v', ids, ad, w, hv, hp, hh⟩, hz, hk⟩, stp⟩ := hr T hT X
  cases hv
  rw [h0] at hz hk
  obtain ⟨t2, a1, b1⟩ := h v ids ad w T'.heap (locs ++ L) hp (by rw [e1]; exact hh) (fun q h1 h2 => by rw [e1]; exact hk q h1 h2) ⟨Nat.le_trans hS.1 (by rw [e1]; exact hz), fun q h1 h2 => by rw [e1, hk q (Nat.lt_of_lt_of_le h1 hS.1) (fun h9 => h2 (hBB q h9))]; exact hS.2.1 q h1 h2, fun q hq => by
      rcases List.mem_append.mp hq with h | h
      · exact hS.2.2 q h
      · exact hBB _ (hL q h)⟩ T' rfl X'
  exact ⟨t2, stp t2 a1, b1⟩
theorem d_keep {Λ : Lay} {B : Zn} {W : va_W} {H H' : Heap} (h : va_P Λ.1 vwCl W H) (hk : ∀ q, q < H.size → ¬ Bx B W q → H'[q]? = H[q]?) : va_P Λ.1 vwCl W H' :=
  h.kept fun k q hq => hk q.1 ((h k q hq).lt) (fun h9 => h9.2 q (List.mem_of_getElem? hq) rfl)
def Gdm (Λ : Lay) (ids : List (Nat × Nat)) (ad : Nat → Nat → Nat) (O : Nat → Int64) (P : Int32 → DM → Prop) : Po := fun v ids' ad' w' => ids' = ids ∧ ad' = ad ∧ ∃ D r, w' = dw Λ ad D O ∧ v = some (.int r) ∧ P r D
set_option maxHeartbeats 1000000 in
theorem D_callHlL {Γ : Cx} {own : String} {cc : ByteArray} {nL : Nat} {rm : Room} {Λ : Lay} {B : Zn} {i1 i2 : List (Nat × Nat)} {ad : Nat → Nat → Nat} {k : Nat} {D : DM} {O : Nat → Int64} {pc : Nat} {lv : List (Nat × Value)} {st : List Value} (hO : Ok Γ own cc nL rm Λ B) (hi1 : ∀ q ∈ i1, q.1 < 100) {rest : List Value} {y : MethodName} {cc' : ByteArray} {nL' : Nat} {ret' : Option FieldType} {rm' : Room} {n index cap : Nat} (c : Nat) (As : List Value) {P : Int64 → Mem → Prop} {hh : List (Nat × Nat × Nat × Nat)} (hX : OkI Γ) (hM : ∀ (l : Launch) (B' : Zn), l.stackTraces = false → CH l y cc' nL' ret' hh rm' Λ B' i1 ad (sh Λ ad D.1 O) As (Gl Λ i1 ad O P)) (hv : CW y cc' nL' ret' hh n) (hss : Cond.static y ∈ UW) (hl0 : Cond.methodLink own index y ∈ UW) (hn : As.length = n) (hst : st = As.reverse ++ rest) (hcat : (rest.map fun v => v.category).sum ≤ 8) (hrm : rm'.frames + 1 ≤ rm.frames ∧ 8 + (nL' + 11) + rm'.locals ≤ rm.locals) (hc : rm'.cells ≤ c ∧ rm'.slots ≤ 16 * c) (hcap : cap ≤ rm.cells ∧ 16 * cap ≤ rm.slots) (hk : k + c ≤ cap) (hd : decode cc pc = .ok (.invokestatic index, 3)) (h : ∀ (r : Int64) (M1 : Mem), P r M1 → G Γ (dids i1 i2) ad (k + c) (16 * (k + c)) (dw Λ ad (M1, D.2) O) (pc + 3) lv (.long r :: rest)) : G Γ (dids i1 i2) ad k (16 * k) (dw Λ ad D O) pc lv st := by
  have hO2 := hO
  obtain ⟨p, l, e, s, m, args, below, meth, c9, Q, rfl, hx, hb, hml, hown, hts, hI, hlk⟩ := hO
  intro H locs ls hP hS hl
  subst hst
  have hP0 := hP
  unfold HP at hP0
  rw [wl_d hi1] at hP0
  obtain ⟨hP1, hP2⟩ := d_splitL hP0
  have hkz : k + rm'.cells ≤ rm.cells ∧ 16 * k + rm'.slots ≤ rm.slots := by omega
  refine run_doneD (B := B) Bx.sub (vx_runSW (Ts := UW) (As := As) (rest := rest) ⟨hx, hb, hml, hown, hts⟩ (hM l (Bx B (wl i2 (adR ad) (sh Λ (adR ad) D.2 O))) hX.2) (vx_cwSW (ws' := UW) n hts (fun q hq => ?_) rfl rfl rfl hv.2.2 hrm) ⟨px_blind, fun U hU hW => ⟨rfl, (hI.moved hS hU hW).narrow (by rw [hU]; exact hP2.1), (hX.1.moved hS hU hW).narrow, by rw [hU]; exact hP1⟩⟩ rfl hn hl.1 rfl (lv_room hcat) hd hkz) hS ?_
  · have key : q ∈ UW := by
      simp only [va_wsS, List.mem_append, List.mem_cons, List.not_mem_nil, or_false] at hq
      rcases hq with (rfl | rfl | rfl) | rfl | hq
      all_goals first | exact hss | exact hl0 | exact hv.1 | exact hv.2.1 | exact hq
    exact ⟨key, uw_good key⟩
  rintro v ids' ad' w' H' locs' ⟨rfl, rfl, M1, r, rfl, rfl, hp⟩ hh hkp hS'
  refine G_widen hO2 (by omega) (by omega) (h r M1 hp) H' locs' ls ?_ hS' hl
  unfold HP
  rw [wl_d hi1]
  exact d_join hh ⟨d_keep hP2.1 hkp, hP2.2.1, fun k q hq => (hP2.2.2 k q hq).1⟩
set_option maxHeartbeats 1000000 in
theorem D_callYiL {Γ : Cx} {own : String} {cc : ByteArray} {nL : Nat} {rm : Room} {Λ : Lay} {B : Zn} {i1 i2 : List (Nat × Nat)} {ad : Nat → Nat → Nat} {k : Nat} {D : DM} {O : Nat → Int64} {pc : Nat} {lv : List (Nat × Value)} {st : List Value} (hO : Ok Γ own cc nL rm Λ B) (hi1 : ∀ q ∈ i1, q.1 < 100) {rest : List Value} {y : MethodName} {cc' : ByteArray} {nL' : Nat} {ret' : Option FieldType} {rm' : Room} {n index cap : Nat} (c : Nat) (As : List Value) {P : Int32 → Mem → Prop} (hX : OkI Γ) (hM : ∀ (l : Launch) (B' : Zn), l.stackTraces = false → CY l y cc' nL' ret' rm' Λ B' i1 ad (sh Λ ad D.1 O) As (Gi Λ i1 ad O P)) (hv : CV y cc' nL' ret' n) (hss : Cond.static y ∈ UW) (hl0 : Cond.methodLink own index y ∈ UW) (hn : As.length = n) (hst : st = As.reverse ++ rest) (hcat : (rest.map fun v => v.category).sum ≤ 8) (hrm : rm'.frames + 1 ≤ rm.frames ∧ 8 + (nL' + 11) + rm'.locals ≤ rm.locals) (hc : rm'.cells ≤ c ∧ rm'.slots ≤ 16 * c) (hcap : cap ≤ rm.cells ∧ 16 * cap ≤ rm.slots) (hk : k + c ≤ cap) (hd : decode cc pc = .ok (.invokestatic index, 3)) (h : ∀ (r : Int32) (M1 : Mem), P r M1 → G Γ (dids i1 i2) ad (k + c) (16 * (k + c)) (dw Λ ad (M1, D.2) O) (pc + 3) lv (.int r :: rest)) : G Γ (dids i1 i2) ad k (16 * k) (dw Λ ad D O) pc lv st := by
  have hO2 := hO
  obtain ⟨p, l, e, s, m, args, below, meth, c9, Q, rfl, hx, hb, hml, hown, hts, hI, hlk⟩ := hO
  intro H locs ls hP hS hl
  subst hst
  have hP0 := hP
  unfold HP at hP0
  rw [wl_d hi1] at hP0
  obtain ⟨hP1, hP2⟩ := d_splitL hP0
  have hkz : k + rm'.cells ≤ rm.cells ∧ 16 * k + rm'.slots ≤ rm.slots := by omega
  refine run_doneD (B := B) Bx.sub (va_runS (Ts := UW) (As := As) (rest := rest) ⟨hx, hb, hml, hown, hts⟩ (hM l (Bx B (wl i2 (adR ad) (sh Λ (adR ad) D.2 O))) hX.2) ⟨callB_of n hts (uw_of hv.2.1) rfl rfl rfl (hts _ hv.1) (hts _ hl0) hv.2.2 hrm, hts _ hss⟩ ⟨px_blind, fun U hU hW => ⟨rfl, (hI.moved hS hU hW).narrow (by rw [hU]; exact hP2.1), (hX.1.moved hS hU hW).narrow, by rw [hU]; exact hP1⟩⟩ rfl hn hl.1 rfl (lv_room hcat) hd hkz) hS ?_
  rintro v ids' ad' w' H' locs' ⟨rfl, rfl, M1, r, rfl, rfl, hp⟩ hh hkp hS'
  refine G_widen hO2 (by omega) (by omega) (h r M1 hp) H' locs' ls ?_ hS' hl
  unfold HP
  rw [wl_d hi1]
  exact d_join hh ⟨d_keep hP2.1 hkp, hP2.2.1, fun k q hq => (hP2.2.2 k q hq).1⟩
set_option maxHeartbeats 1000000 in
theorem D_callYlL {Γ : Cx} {own : String} {cc : ByteArray} {nL : Nat} {rm : Room} {Λ : Lay} {B : Zn} {i1 i2 : List (Nat × Nat)} {ad : Nat → Nat → Nat} {k : Nat} {D : DM} {O : Nat → Int64} {pc : Nat} {lv : List (Nat × Value)} {st : List Value} (hO : Ok Γ own cc nL rm Λ B) (hi1 : ∀ q ∈ i1, q.1 < 100) {rest : List Value} {y : MethodName} {cc' : ByteArray} {nL' : Nat} {ret' : Option FieldType} {rm' : Room} {n index cap : Nat} (c : Nat) (As : List Value) {P : Int64 → Mem → Prop} (hX : OkI Γ) (hM : ∀ (l : Launch) (B' : Zn), l.stackTraces = false → CY l y cc' nL' ret' rm' Λ B' i1 ad (sh Λ ad D.1 O) As (Gl Λ i1 ad O P)) (hv : CV y cc' nL' ret' n) (hss : Cond.static y ∈ UW) (hl0 : Cond.methodLink own index y ∈ UW) (hn : As.length = n) (hst : st = As.reverse ++ rest) (hcat : (rest.map fun v => v.category).sum ≤ 8) (hrm : rm'.frames + 1 ≤ rm.frames ∧ 8 + (nL' + 11) + rm'.locals ≤ rm.locals) (hc : rm'.cells ≤ c ∧ rm'.slots ≤ 16 * c) (hcap : cap ≤ rm.cells ∧ 16 * cap ≤ rm.slots) (hk : k + c ≤ cap) (hd : decode cc pc = .ok (.invokestatic index, 3)) (h : ∀ (r : Int64) (M1 : Mem), P r M1 → G Γ (dids i1 i2) ad (k + c) (16 * (k + c)) (dw Λ ad (M1, D.2) O) (pc + 3) lv (.long r :: rest)) : G Γ (dids i1 i2) ad k (16 * k) (dw Λ ad D O) pc lv st := by
  have hO2 := hO
  obtain ⟨p, l, e, s, m, args, below, meth, c9, Q, rfl, hx, hb, hml, hown, hts, hI, hlk⟩ := hO
  intro H locs ls hP hS hl
  subst hst
  have hP0 := hP
  unfold HP at hP0
  rw [wl_d hi1] at hP0
  obtain ⟨hP1, hP2⟩ := d_splitL hP0
  have hkz : k + rm'.cells ≤ rm.cells ∧ 16 * k + rm'.slots ≤ rm.slots := by omega
  refine run_doneD (B := B) Bx.sub (va_runS (Ts := UW) (As := As) (rest := rest) ⟨hx, hb, hml, hown, hts⟩ (hM l (Bx B (wl i2 (adR ad) (sh Λ (adR ad) D.2 O))) hX.2) ⟨callB_of n hts (uw_of hv.2.1) rfl rfl rfl (hts _ hv.1) (hts _ hl0) hv.2.2 hrm, hts _ hss⟩ ⟨px_blind, fun U hU hW => ⟨rfl, (hI.moved hS hU hW).narrow (by rw [hU]; exact hP2.1), (hX.1.moved hS hU hW).narrow, by rw [hU]; exact hP1⟩⟩ rfl hn hl.1 rfl (lv_room hcat) hd hkz) hS ?_
  rintro v ids' ad' w' H' locs' ⟨rfl, rfl, M1, r, rfl, rfl, hp⟩ hh hkp hS'
  refine G_widen hO2 (by omega) (by omega) (h r M1 hp) H' locs' ls ?_ hS' hl
  unfold HP
  rw [wl_d hi1]
  exact d_join hh ⟨d_keep hP2.1 hkp, hP2.2.1, fun k q hq => (hP2.2.2 k q hq).1⟩
set_option maxHeartbeats 1000000 in
theorem D_callVL {Γ : Cx} {own : String} {cc : ByteArray} {nL : Nat} {rm : Room} {Λ : Lay} {B : Zn} {i1 i2 : List (Nat × Nat)} {ad : Nat → Nat → Nat} {k : Nat} {D : DM} {O : Nat → Int64} {pc : Nat} {lv : List (Nat × Value)} {st : List Value} (hO : Ok Γ own cc nL rm Λ B) (hi1 : ∀ q ∈ i1, q.1 < 100) {rest : List Value} {y : MethodName} {cc' : ByteArray} {nL' : Nat} {ret' : Option FieldType} {rm' : Room} {n index cap : Nat} (c : Nat) (As : List Value) {P : Int32 → Mem → Prop} (hM : ∀ (l : Launch) (B' : Zn), CT l y cc' nL' ret' rm' Λ B' i1 ad (sh Λ ad D.1 O) (.ref (ad 20 0) :: As) (Gi Λ i1 ad O P)) (hv : CV y cc' nL' ret' n) (hin : Cond.instanceMethod y ∈ UW) (hse : Cond.selects y.cls y y ∈ UW) (hl0 : Cond.methodLink own index y ∈ UW) (hid : (20, 0) ∈ i1) (hyc : y.cls = RX5) (hn : As.length = n) (hst : st = As.reverse ++ .ref (ad 20 0) :: rest) (hcat : (rest.map fun v => v.category).sum ≤ 8) (hrm : rm'.frames + 1 ≤ rm.frames ∧ 8 + (nL' + 11) + rm'.locals ≤ rm.locals) (hc : rm'.cells ≤ c ∧ rm'.slots ≤ 16 * c) (hcap : cap ≤ rm.cells ∧ 16 * cap ≤ rm.slots) (hk : k + c ≤ cap) (hd : decode cc pc = .ok (.invokevirtual index, 3)) (h : ∀ (r : Int32) (M1 : Mem), P r M1 → G Γ (dids i1 i2) ad (k + c) (16 * (k + c)) (dw Λ ad (M1, D.2) O) (pc + 3) lv (.int r :: rest)) : G Γ (dids i1 i2) ad k (16 * k) (dw Λ ad D O) pc lv st := by
  have hO2 := hO
  obtain ⟨p, l, e, s, m, args, below, meth, c9, Q, rfl, hx, hb, hml, hown, hts, hI, hlk⟩ := hO
  intro H locs ls hP hS hl
  subst hst
  have hP0 := hP
  unfold HP at hP0
  rw [wl_d hi1] at hP0
  obtain ⟨hP1, hP2⟩ := d_splitL hP0
  have hkz : k + rm'.cells ≤ rm.cells ∧ 16 * k + rm'.slots ≤ rm.slots := by omega
  have hw : sh Λ ad D.1 O 20 0 = .inr (5, glF ad (D.1 20)) := by unfold sh; rw [rS_gl]; exact gl_0 _ _ _
  obtain ⟨q0, hq0, -⟩ := HP.at (Λ := Λ) (B := Bx B (wl i2 (adR ad) (sh Λ (adR ad) D.2 O))) (ids := i1) (ad := ad) hP1 hid hw
  refine run_doneD (B := B) Bx.sub (va_runV (Ts := UW) (As := As) (rest := rest) ⟨hx, hb, hml, hown, hts⟩ (hM l (Bx B (wl i2 (adR ad) (sh Λ (adR ad) D.2 O)))) ⟨callB_of n hts (uw_of hv.2.1) rfl rfl rfl (hts _ hv.1) (hts _ hl0) hv.2.2 hrm, hts _ hin, hts _ hse⟩ ⟨pc_blind, va_recv hI.1 hP1.1 (q := (y.cls, TX5, 7)) (by rw [hyc]; exact cl5.1) hq0, fun U hU hW => ⟨rfl, (hI.moved hS hU hW).narrow (by rw [hU]; exact hP2.1), by rw [hU]; exact hP1⟩⟩ rfl hn hl.1 rfl (lv_room hcat) hd hkz) hS ?_
  rintro v ids' ad' w' H' locs' ⟨rfl, rfl, M1, r, rfl, rfl, hp⟩ hh hkp hS'
  refine G_widen hO2 (by omega) (by omega) (h r M1 hp) H' locs' ls ?_ hS' hl
  unfold HP
  rw [wl_d hi1]
  exact d_join hh ⟨d_keep hP2.1 hkp, hP2.2.1, fun k q hq => (hP2.2.2 k q hq).1⟩
set_option maxHeartbeats 1000000 in
theorem D_callHlR {Γ : Cx} {own : String} {cc : ByteArray} {nL : Nat} {rm : Room} {Λ : Lay} {B : Zn} {i1 i2 : List (Nat × Nat)} {ad : Nat → Nat → Nat} {k : Nat} {D : DM} {O : Nat → Int64} {pc : Nat} {lv : List (Nat × Value)} {st : List Value} (hO : Ok Γ own cc nL rm Λ B) (hi1 : ∀ q ∈ i1, q.1 < 100) {rest : List Value} {y : MethodName} {cc' : ByteArray} {nL' : Nat} {ret' : Option FieldType} {rm' : Room} {n index cap : Nat} (c : Nat) (As : List Value) {P : Int64 → Mem → Prop} {hh : List (Nat × Nat × Nat × Nat)} (hX : OkI Γ) (hM : ∀ (l : Launch) (B' : Zn), l.stackTraces = false → CH l y cc' nL' ret' hh rm' Λ B' i2 (adR ad) (sh Λ (adR ad) D.2 O) As (Gl Λ i2 (adR ad) O P)) (hv : CW y cc' nL' ret' hh n) (hss : Cond.static y ∈ UW) (hl0 : Cond.methodLink own index y ∈ UW) (hn : As.length = n) (hst : st = As.reverse ++ rest) (hcat : (rest.map fun v => v.category).sum ≤ 8) (hrm : rm'.frames + 1 ≤ rm.frames ∧ 8 + (nL' + 11) + rm'.locals ≤ rm.locals) (hc : rm'.cells ≤ c ∧ rm'.slots ≤ 16 * c) (hcap : cap ≤ rm.cells ∧ 16 * cap ≤ rm.slots) (hk : k + c ≤ cap) (hd : decode cc pc = .ok (.invokestatic index, 3)) (h : ∀ (r : Int64) (M1 : Mem), P r M1 → G Γ (dids i1 i2) ad (k + c) (16 * (k + c)) (dw Λ ad (D.1, M1) O) (pc + 3) lv (.long r :: rest)) : G Γ (dids i1 i2) ad k (16 * k) (dw Λ ad D O) pc lv st := by
  have hO2 := hO
  obtain ⟨p, l, e, s, m, args, below, meth, c9, Q, rfl, hx, hb, hml, hown, hts, hI, hlk⟩ := hO
  intro H locs ls hP hS hl
  subst hst
  have hP0 := hP
  unfold HP at hP0
  rw [wl_d hi1] at hP0
  obtain ⟨hP2, hP1⟩ := d_splitL hP0
  have hkz : k + rm'.cells ≤ rm.cells ∧ 16 * k + rm'.slots ≤ rm.slots := by omega
  refine run_doneD (B := B) Bx.sub (vx_runSW (Ts := UW) (As := As) (rest := rest) ⟨hx, hb, hml, hown, hts⟩ (hM l (Bx B (wl i1 ad (sh Λ ad D.1 O))) hX.2) (vx_cwSW (ws' := UW) n hts (fun q hq => ?_) rfl rfl rfl hv.2.2 hrm) ⟨px_blind, fun U hU hW => ⟨rfl, (hI.moved hS hU hW).narrow (by rw [hU]; exact hP2.1), (hX.1.moved hS hU hW).narrow, by rw [hU]; exact hP1⟩⟩ rfl hn hl.1 rfl (lv_room hcat) hd hkz) hS ?_
  · have key : q ∈ UW := by
      simp only [va_wsS, List.mem_append, List.mem_cons, List.not_mem_nil, or_false] at hq
      rcases hq with (rfl | rfl | rfl) | rfl | hq
      all_goals first | exact hss | exact hl0 | exact hv.1 | exact hv.2.1 | exact hq
    exact ⟨key, uw_good key⟩
  rintro v ids' ad' w' H' locs' ⟨rfl, rfl, M1, r, rfl, rfl, hp⟩ hh hkp hS'
  refine G_widen hO2 (by omega) (by omega) (h r M1 hp) H' locs' ls ?_ hS' hl
  unfold HP
  rw [wl_d hi1]
  exact d_swap (d_join hh ⟨d_keep hP2.1 hkp, hP2.2.1, fun k q hq => (hP2.2.2 k q hq).1⟩)
set_option maxHeartbeats 1000000 in
theorem D_callYiR {Γ : Cx} {own : String} {cc : ByteArray} {nL : Nat} {rm : Room} {Λ : Lay} {B : Zn} {i1 i2 : List (Nat × Nat)} {ad : Nat → Nat → Nat} {k : Nat} {D : DM} {O : Nat → Int64} {pc : Nat} {lv : List (Nat × Value)} {st : List Value} (hO : Ok Γ own cc nL rm Λ B) (hi1 : ∀ q ∈ i1, q.1 < 100) {rest : List Value} {y : MethodName} {cc' : ByteArray} {nL' : Nat} {ret' : Option FieldType} {rm' : Room} {n index cap : Nat} (c : Nat) (As : List Value) {P : Int32 → Mem → Prop} (hX : OkI Γ) (hM : ∀ (l : Launch) (B' : Zn), l.stackTraces = false → CY l y cc' nL' ret' rm' Λ B' i2 (adR ad) (sh Λ (adR ad) D.2 O) As (Gi Λ i2 (adR ad) O P)) (hv : CV y cc' nL' ret' n) (hss : Cond.static y ∈ UW) (hl0 : Cond.methodLink own index y ∈ UW) (hn : As.length = n) (hst : st = As.reverse ++ rest) (hcat : (rest.map fun v => v.category).sum ≤ 8) (hrm : rm'.frames + 1 ≤ rm.frames ∧ 8 + (nL' + 11) + rm'.locals ≤ rm.locals) (hc : rm'.cells ≤ c ∧ rm'.slots ≤ 16 * c) (hcap : cap ≤ rm.cells ∧ 16 * cap ≤ rm.slots) (hk : k + c ≤ cap) (hd : decode cc pc = .ok (.invokestatic index, 3)) (h : ∀ (r : Int32) (M1 : Mem), P r M1 → G Γ (dids i1 i2) ad (k + c) (16 * (k + c)) (dw Λ ad (D.1, M1) O) (pc + 3) lv (.int r :: rest)) : G Γ (dids i1 i2) ad k (16 * k) (dw Λ ad D O) pc lv st := by
  have hO2 := hO
  obtain ⟨p, l, e, s, m, args, below, meth, c9, Q, rfl, hx, hb, hml, hown, hts, hI, hlk⟩ := hO
  intro H locs ls hP hS hl
  subst hst
  have hP0 := hP
  unfold HP at hP0
  rw [wl_d hi1] at hP0
  obtain ⟨hP2, hP1⟩ := d_splitL hP0
  have hkz : k + rm'.cells ≤ rm.cells ∧ 16 * k + rm'.slots ≤ rm.slots := by omega
  refine run_doneD (B := B) Bx.sub (va_runS (Ts := UW) (As := As) (rest := rest) ⟨hx, hb, hml, hown, hts⟩ (hM l (Bx B (wl i1 ad (sh Λ ad D.1 O))) hX.2) ⟨callB_of n hts (uw_of hv.2.1) rfl rfl rfl (hts _ hv.1) (hts _ hl0) hv.2.2 hrm, hts _ hss⟩ ⟨px_blind, fun U hU hW => ⟨rfl, (hI.moved hS hU hW).narrow (by rw [hU]; exact hP2.1), (hX.1.moved hS hU hW).narrow, by rw [hU]; exact hP1⟩⟩ rfl hn hl.1 rfl (lv_room hcat) hd hkz) hS ?_
  rintro v ids' ad' w' H' locs' ⟨rfl, rfl, M1, r, rfl, rfl, hp⟩ hh hkp hS'
  refine G_widen hO2 (by omega) (by omega) (h r M1 hp) H' locs' ls ?_ hS' hl
  unfold HP
  rw [wl_d hi1]
  exact d_swap (d_join hh ⟨d_keep hP2.1 hkp, hP2.2.1, fun k q hq => (hP2.2.2 k q hq).1⟩)
set_option maxHeartbeats 1000000 in
theorem D_callYlR {Γ : Cx} {own : String} {cc : ByteArray} {nL : Nat} {rm : Room} {Λ : Lay} {B : Zn} {i1 i2 : List (Nat × Nat)} {ad : Nat → Nat → Nat} {k : Nat} {D : DM} {O : Nat → Int64} {pc : Nat} {lv : List (Nat × Value)} {st : List Value} (hO : Ok Γ own cc nL rm Λ B) (hi1 : ∀ q ∈ i1, q.1 < 100) {rest : List Value} {y : MethodName} {cc' : ByteArray} {nL' : Nat} {ret' : Option FieldType} {rm' : Room} {n index cap : Nat} (c : Nat) (As : List Value) {P : Int64 → Mem → Prop} (hX : OkI Γ) (hM : ∀ (l : Launch) (B' : Zn), l.stackTraces = false → CY l y cc' nL' ret' rm' Λ B' i2 (adR ad) (sh Λ (adR ad) D.2 O) As (Gl Λ i2 (adR ad) O P)) (hv : CV y cc' nL' ret' n) (hss : Cond.static y ∈ UW) (hl0 : Cond.methodLink own index y ∈ UW) (hn : As.length = n) (hst : st = As.reverse ++ rest) (hcat : (rest.map fun v => v.category).sum ≤ 8) (hrm : rm'.frames + 1 ≤ rm.frames ∧ 8 + (nL' + 11) + rm'.locals ≤ rm.locals) (hc : rm'.cells ≤ c ∧ rm'.slots ≤ 16 * c) (hcap : cap ≤ rm.cells ∧ 16 * cap ≤ rm.slots) (hk : k + c ≤ cap) (hd : decode cc pc = .ok (.invokestatic index, 3)) (h : ∀ (r : Int64) (M1 : Mem), P r M1 → G Γ (dids i1 i2) ad (k + c) (16 * (k + c)) (dw Λ ad (D.1, M1) O) (pc + 3) lv (.long r :: rest)) : G Γ (dids i1 i2) ad k (16 * k) (dw Λ ad D O) pc lv st := by
  have hO2 := hO
  obtain ⟨p, l, e, s, m, args, below, meth, c9, Q, rfl, hx, hb, hml, hown, hts, hI, hlk⟩ := hO
  intro H locs ls hP hS hl
  subst hst
  have hP0 := hP
  unfold HP at hP0
  rw [wl_d hi1] at hP0
  obtain ⟨hP2, hP1⟩ := d_splitL hP0
  have hkz : k + rm'.cells ≤ rm.cells ∧ 16 * k + rm'.slots ≤ rm.slots := by omega
  refine run_doneD (B := B) Bx.sub (va_runS (Ts := UW) (As := As) (rest := rest) ⟨hx, hb, hml, hown, hts⟩ (hM l (Bx B (wl i1 ad (sh Λ ad D.1 O))) hX.2) ⟨callB_of n hts (uw_of hv.2.1) rfl rfl rfl (hts _ hv.1) (hts _ hl0) hv.2.2 hrm, hts _ hss⟩ ⟨px_blind, fun U hU hW => ⟨rfl, (hI.moved hS hU hW).narrow (by rw [hU]; exact hP2.1), (hX.1.moved hS hU hW).narrow, by rw [hU]; exact hP1⟩⟩ rfl hn hl.1 rfl (lv_room hcat) hd hkz) hS ?_
  rintro v ids' ad' w' H' locs' ⟨rfl, rfl, M1, r, rfl, rfl, hp⟩ hh hkp hS'
  refine G_widen hO2 (by omega) (by omega) (h r M1 hp) H' locs' ls ?_ hS' hl
  unfold HP
  rw [wl_d hi1]
  exact d_swap (d_join hh ⟨d_keep hP2.1 hkp, hP2.2.1, fun k q hq => (hP2.2.2 k q hq).1⟩)
set_option maxHeartbeats 1000000 in
theorem D_callVR {Γ : Cx} {own : String} {cc : ByteArray} {nL : Nat} {rm : Room} {Λ : Lay} {B : Zn} {i1 i2 : List (Nat × Nat)} {ad : Nat → Nat → Nat} {k : Nat} {D : DM} {O : Nat → Int64} {pc : Nat} {lv : List (Nat × Value)} {st : List Value} (hO : Ok Γ own cc nL rm Λ B) (hi1 : ∀ q ∈ i1, q.1 < 100) {rest : List Value} {y : MethodName} {cc' : ByteArray} {nL' : Nat} {ret' : Option FieldType} {rm' : Room} {n index cap : Nat} (c : Nat) (As : List Value) {P : Int32 → Mem → Prop} (hM : ∀ (l : Launch) (B' : Zn), CT l y cc' nL' ret' rm' Λ B' i2 (adR ad) (sh Λ (adR ad) D.2 O) (.ref (adR ad 20 0) :: As) (Gi Λ i2 (adR ad) O P)) (hv : CV y cc' nL' ret' n) (hin : Cond.instanceMethod y ∈ UW) (hse : Cond.selects y.cls y y ∈ UW) (hl0 : Cond.methodLink own index y ∈ UW) (hid : (20, 0) ∈ i2) (hyc : y.cls = RX5) (hn : As.length = n) (hst : st = As.reverse ++ .ref (adR ad 20 0) :: rest) (hcat : (rest.map fun v => v.category).sum ≤ 8) (hrm : rm'.frames + 1 ≤ rm.frames ∧ 8 + (nL' + 11) + rm'.locals ≤ rm.locals) (hc : rm'.cells ≤ c ∧ rm'.slots ≤ 16 * c) (hcap : cap ≤ rm.cells ∧ 16 * cap ≤ rm.slots) (hk : k + c ≤ cap) (hd : decode cc pc = .ok (.invokevirtual index, 3)) (h : ∀ (r : Int32) (M1 : Mem), P r M1 → G Γ (dids i1 i2) ad (k + c) (16 * (k + c)) (dw Λ ad (D.1, M1) O) (pc + 3) lv (.int r :: rest)) : G Γ (dids i1 i2) ad k (16 * k) (dw Λ ad D O) pc lv st := by
  have hO2 := hO
  obtain ⟨p, l, e, s, m, args, below, meth, c9, Q, rfl, hx, hb, hml, hown, hts, hI, hlk⟩ := hO
  intro H locs ls hP hS hl
  subst hst
  have hP0 := hP
  unfold HP at hP0
  rw [wl_d hi1] at hP0
  obtain ⟨hP2, hP1⟩ := d_splitL hP0
  have hkz : k + rm'.cells ≤ rm.cells ∧ 16 * k + rm'.slots ≤ rm.slots := by omega
  have hw : sh Λ (adR ad) D.2 O 20 0 = .inr (5, glF (adR ad) (D.2 20)) := by unfold sh; rw [rS_gl]; exact gl_0 _ _ _
  obtain ⟨q0, hq0, -⟩ := HP.at (Λ := Λ) (B := Bx B (wl i1 ad (sh Λ ad D.1 O))) (ids := i2) (ad := (adR ad)) hP1 hid hw
  refine run_doneD (B := B) Bx.sub (va_runV (Ts := UW) (As := As) (rest := rest) ⟨hx, hb, hml, hown, hts⟩ (hM l (Bx B (wl i1 ad (sh Λ ad D.1 O)))) ⟨callB_of n hts (uw_of hv.2.1) rfl rfl rfl (hts _ hv.1) (hts _ hl0) hv.2.2 hrm, hts _ hin, hts _ hse⟩ ⟨pc_blind, va_recv hI.1 hP1.1 (q := (y.cls, TX5, 7)) (by rw [hyc]; exact cl5.1) hq0, fun U hU hW => ⟨rfl, (hI.moved hS hU hW).narrow (by rw [hU]; exact hP2.1), by rw [hU]; exact hP1⟩⟩ rfl hn hl.1 rfl (lv_room hcat) hd hkz) hS ?_
  rintro v ids' ad' w' H' locs' ⟨rfl, rfl, M1, r, rfl, rfl, hp⟩ hh hkp hS'
  refine G_widen hO2 (by omega) (by omega) (h r M1 hp) H' locs' ls ?_ hS' hl
  unfold HP
  rw [wl_d hi1]
  exact d_swap (d_join hh ⟨d_keep hP2.1 hkp, hP2.2.1, fun k q hq => (hP2.2.2 k q hq).1⟩)
