theorem A_newaI {Γ : Cx} {own : String} {cc : ByteArray} {nL : Nat} {rm : Room} {Λ : Lay} {B : Zn} {ids : List (Nat × Nat)} {ad : Nat → Nat → Nat} {k z : Nat} {w : Nat → Nat → va_E} {pc : Nat} {lv : List (Nat × Value)} {st : List Value} (hO : Ok Γ own cc nL rm Λ B) {x : Int32} (N : Nat) (i j : Nat) (hni : (i, j) ∉ ids) (harr : Cond.arrayClass .int ∈ UW) (hn : ¬ x < 0) (hN : x.toNatClampNeg = N) (hb9 : N * 8 ≤ 536870912) (hk : k + 1 ≤ rm.cells) (hz : z + N ≤ rm.slots) (hd : decode cc pc = .ok (.newarray .int, 2)) (h : ∀ a : Nat, G Γ (ids ++ [(i, j)]) (ad2 ad i j a) (k + 1) (z + N) (up2 w i j (.inl (Λ.2.1 0, N, .inl (fun _ => 0)))) (pc + 2) lv (.ref a :: st)) : G Γ ids ad k z w pc lv (.int x :: st) := by
  obtain ⟨p, l, e, s, m, args, below, meth, c, Q, rfl, hx, hb, hml, hown, hts, hI, hlk⟩ := hO
  intro H locs ls hP hS hl
  refine va_newa (atype := .int) (a0 := (N, .inl (fun _ => 0))) hx hb (hts _ harr) rfl hI.1 hP.1 hP.2 hS (fun q h9 => hI.2.2.2 q h9) (fun _ => rfl) hn hN (Nat.le_trans (Nat.mul_le_mul_left N (by decide)) hb9) hk hz hd (fun q cA H1 hK1 hP1 hD1 hS1 => ?_)
  have e1 : s.vm.findClass ("[" ++ FieldType.toString .int) = some cA := (hK1.2 6 (cA, .int) rfl).2
  have e2 : s.vm.findClass ("[" ++ FieldType.toString .int) = some (Λ.2.1 0) := (hI.1.2 0 (Λ.2.1 0, .int) rfl).2
  cases Option.some.inj (e1.symm.trans e2)
  rw [← wl_new hni] at hP1 hD1
  exact h q H1 locs ls ⟨hP1, hD1⟩ hS1 hl
theorem A_newaC {Γ : Cx} {own : String} {cc : ByteArray} {nL : Nat} {rm : Room} {Λ : Lay} {B : Zn} {ids : List (Nat × Nat)} {ad : Nat → Nat → Nat} {k z : Nat} {w : Nat → Nat → va_E} {pc : Nat} {lv : List (Nat × Value)} {st : List Value} (hO : Ok Γ own cc nL rm Λ B) {x : Int32} (N : Nat) (i j : Nat) (hni : (i, j) ∉ ids) (harr : Cond.arrayClass .char ∈ UW) (hn : ¬ x < 0) (hN : x.toNatClampNeg = N) (hb9 : N * 8 ≤ 536870912) (hk : k + 1 ≤ rm.cells) (hz : z + N ≤ rm.slots) (hd : decode cc pc = .ok (.newarray .char, 2)) (h : ∀ a : Nat, G Γ (ids ++ [(i, j)]) (ad2 ad i j a) (k + 1) (z + N) (up2 w i j (.inl (Λ.2.1 1, N, .inl (fun _ => 0)))) (pc + 2) lv (.ref a :: st)) : G Γ ids ad k z w pc lv (.int x :: st) := by
  obtain ⟨p, l, e, s, m, args, below, meth, c, Q, rfl, hx, hb, hml, hown, hts, hI, hlk⟩ := hO
  intro H locs ls hP hS hl
  refine va_newa (atype := .char) (a0 := (N, .inl (fun _ => 0))) hx hb (hts _ harr) rfl hI.1 hP.1 hP.2 hS (fun q h9 => hI.2.2.2 q h9) (fun _ => rfl) hn hN (Nat.le_trans (Nat.mul_le_mul_left N (by decide)) hb9) hk hz hd (fun q cA H1 hK1 hP1 hD1 hS1 => ?_)
  have e1 : s.vm.findClass ("[" ++ FieldType.toString .char) = some cA := (hK1.2 6 (cA, .char) rfl).2
  have e2 : s.vm.findClass ("[" ++ FieldType.toString .char) = some (Λ.2.1 1) := (hI.1.2 1 (Λ.2.1 1, .char) rfl).2
  cases Option.some.inj (e1.symm.trans e2)
  rw [← wl_new hni] at hP1 hD1
  exact h q H1 locs ls ⟨hP1, hD1⟩ hS1 hl
theorem A_newaZ {Γ : Cx} {own : String} {cc : ByteArray} {nL : Nat} {rm : Room} {Λ : Lay} {B : Zn} {ids : List (Nat × Nat)} {ad : Nat → Nat → Nat} {k z : Nat} {w : Nat → Nat → va_E} {pc : Nat} {lv : List (Nat × Value)} {st : List Value} (hO : Ok Γ own cc nL rm Λ B) {x : Int32} (N : Nat) (i j : Nat) (hni : (i, j) ∉ ids) (harr : Cond.arrayClass .boolean ∈ UW) (hn : ¬ x < 0) (hN : x.toNatClampNeg = N) (hb9 : N * 8 ≤ 536870912) (hk : k + 1 ≤ rm.cells) (hz : z + N ≤ rm.slots) (hd : decode cc pc = .ok (.newarray .boolean, 2)) (h : ∀ a : Nat, G Γ (ids ++ [(i, j)]) (ad2 ad i j a) (k + 1) (z + N) (up2 w i j (.inl (Λ.2.1 2, N, .inl (fun _ => 0)))) (pc + 2) lv (.ref a :: st)) : G Γ ids ad k z w pc lv (.int x :: st) := by
  obtain ⟨p, l, e, s, m, args, below, meth, c, Q, rfl, hx, hb, hml, hown, hts, hI, hlk⟩ := hO
  intro H locs ls hP hS hl
  refine va_newa (atype := .boolean) (a0 := (N, .inl (fun _ => 0))) hx hb (hts _ harr) rfl hI.1 hP.1 hP.2 hS (fun q h9 => hI.2.2.2 q h9) (fun _ => rfl) hn hN (Nat.le_trans (Nat.mul_le_mul_left N (by decide)) hb9) hk hz hd (fun q cA H1 hK1 hP1 hD1 hS1 => ?_)
  have e1 : s.vm.findClass ("[" ++ FieldType.toString .boolean) = some cA := (hK1.2 6 (cA, .boolean) rfl).2
  have e2 : s.vm.findClass ("[" ++ FieldType.toString .boolean) = some (Λ.2.1 2) := (hI.1.2 2 (Λ.2.1 2, .boolean) rfl).2
  cases Option.some.inj (e1.symm.trans e2)
  rw [← wl_new hni] at hP1 hD1
  exact h q H1 locs ls ⟨hP1, hD1⟩ hS1 hl
theorem A_newqS {Γ : Cx} {own : String} {cc : ByteArray} {nL : Nat} {rm : Room} {Λ : Lay} {B : Zn} {ids : List (Nat × Nat)} {ad : Nat → Nat → Nat} {k z : Nat} {w : Nat → Nat → va_E} {pc : Nat} {lv : List (Nat × Value)} {st : List Value} (hO : Ok Γ own cc nL rm Λ B) {x : Int32} {index : Nat} (N : Nat) (i j : Nat) (hni : (i, j) ∉ ids) (hcl : Cond.classLink own index RX3 ∈ UW) (hn : ¬ x < 0) (hN : x.toNatClampNeg = N) (hb9 : N * 4 ≤ 536870912) (hk : k + 1 ≤ rm.cells) (hz : z + N ≤ rm.slots) (hd : decode cc pc = .ok (.anewarray index, 3)) (h : ∀ a : Nat, G Γ (ids ++ [(i, j)]) (ad2 ad i j a) (k + 1) (z + N) (up2 w i j (.inl (Λ.2.1 4, N, .inr (.inr (.inr (.inr (fun _ => none))))))) (pc + 3) lv (.ref a :: st)) : G Γ ids ad k z w pc lv (.int x :: st) := by
  obtain ⟨p, l, e, s, m, args, below, meth, c, Q, rfl, hx, hb, hml, hown, hts, hI, hlk⟩ := hO
  intro H locs ls hP hS hl
  refine va_newq hx hb hown (hts _ hcl) hI.2.2.1.2.2.2.2.2.1 hI.1 hP.1 hP.2 hS (fun q h9 => hI.2.2.2 q h9) hn hN hb9 hk hz hd (fun q cA H1 hK1 hP1 hD1 hS1 => ?_)
  obtain ⟨-, -, -, -, -, e1⟩ : ∃ (kA : Class) (comp : ClassId), s.vm.classes[cA]? = some kA ∧ kA.kind = .array comp (.object RX3) ∧ s.vm.findClass RX3 = some comp ∧ s.vm.findClass ("[" ++ (FieldType.object RX3).toString) = some cA := (hK1.2 6 (cA, .object RX3) rfl).2
  obtain ⟨-, -, -, -, -, e2⟩ : ∃ (kA : Class) (comp : ClassId), s.vm.classes[Λ.2.1 4]? = some kA ∧ kA.kind = .array comp (.object RX3) ∧ s.vm.findClass RX3 = some comp ∧ s.vm.findClass ("[" ++ (FieldType.object RX3).toString) = some (Λ.2.1 4) := (hI.1.2 4 (Λ.2.1 4, .object RX3) rfl).2
  cases Option.some.inj (e1.symm.trans e2)
  rw [← wl_new hni] at hP1 hD1
  exact h q H1 locs ls ⟨hP1, hD1⟩ hS1 hl
theorem A_newqR {Γ : Cx} {own : String} {cc : ByteArray} {nL : Nat} {rm : Room} {Λ : Lay} {B : Zn} {ids : List (Nat × Nat)} {ad : Nat → Nat → Nat} {k z : Nat} {w : Nat → Nat → va_E} {pc : Nat} {lv : List (Nat × Value)} {st : List Value} (hO : Ok Γ own cc nL rm Λ B) {x : Int32} {index : Nat} (N : Nat) (i j : Nat) (hni : (i, j) ∉ ids) (hcl : Cond.classLink own index RX2 ∈ UW) (hn : ¬ x < 0) (hN : x.toNatClampNeg = N) (hb9 : N * 4 ≤ 536870912) (hk : k + 1 ≤ rm.cells) (hz : z + N ≤ rm.slots) (hd : decode cc pc = .ok (.anewarray index, 3)) (h : ∀ a : Nat, G Γ (ids ++ [(i, j)]) (ad2 ad i j a) (k + 1) (z + N) (up2 w i j (.inl (Λ.2.1 5, N, .inr (.inr (.inr (.inr (fun _ => none))))))) (pc + 3) lv (.ref a :: st)) : G Γ ids ad k z w pc lv (.int x :: st) := by
  obtain ⟨p, l, e, s, m, args, below, meth, c, Q, rfl, hx, hb, hml, hown, hts, hI, hlk⟩ := hO
  intro H locs ls hP hS hl
  refine va_newq hx hb hown (hts _ hcl) hI.2.2.1.2.2.2.2.2.2 hI.1 hP.1 hP.2 hS (fun q h9 => hI.2.2.2 q h9) hn hN hb9 hk hz hd (fun q cA H1 hK1 hP1 hD1 hS1 => ?_)
  obtain ⟨-, -, -, -, -, e1⟩ : ∃ (kA : Class) (comp : ClassId), s.vm.classes[cA]? = some kA ∧ kA.kind = .array comp (.object RX2) ∧ s.vm.findClass RX2 = some comp ∧ s.vm.findClass ("[" ++ (FieldType.object RX2).toString) = some cA := (hK1.2 6 (cA, .object RX2) rfl).2
  obtain ⟨-, -, -, -, -, e2⟩ : ∃ (kA : Class) (comp : ClassId), s.vm.classes[Λ.2.1 5]? = some kA ∧ kA.kind = .array comp (.object RX2) ∧ s.vm.findClass RX2 = some comp ∧ s.vm.findClass ("[" ++ (FieldType.object RX2).toString) = some (Λ.2.1 5) := (hI.1.2 5 (Λ.2.1 5, .object RX2) rfl).2
  cases Option.some.inj (e1.symm.trans e2)
  rw [← wl_new hni] at hP1 hD1
  exact h q H1 locs ls ⟨hP1, hD1⟩ hS1 hl
/-- the same cell: rows of references may differ behind their ends -/
def EqE (e e2 : va_E) : Prop := e = e2 ∨ ∃ (cA : ClassId) (N : Nat) (f g : Nat → Option Nat), e = .inl (cA, N, .inr (.inr (.inr (.inr f)))) ∧ e2 = .inl (cA, N, .inr (.inr (.inr (.inr g)))) ∧ ∀ r, r < N → f r = g r
theorem EqE.at {D : va_G} {cl : List vw_C} {a : Nat} {e e2 : va_E} {H : Heap} (h : EqE e e2) (ha : va_at D cl (a, e) H) : va_at D cl (a, e2) H := by
  rcases h with rfl | ⟨cA, N, f, g, rfl, rfl, h⟩
  · exact ha
  · have hc : vp_cell cA (N, .inr (.inr (.inr (.inr f)))) = vp_cell cA (N, .inr (.inr (.inr (.inr g)))) := by
      show arrV cA N (fun j => va_rf (f j)) = arrV cA N (fun j => va_rf (g j))
      unfold arrV
      congr 1
      apply congrArg
      funext j
      show va_rf (f j.val) = va_rf (g j.val)
      rw [h j.val j.isLt]
    show H[a]? = some (vp_cell cA (N, .inr (.inr (.inr (.inr g)))))
    rw [← hc]
    exact ha
theorem G_cong {Γ : Cx} {own : String} {cc : ByteArray} {nL : Nat} {rm : Room} {Λ : Lay} {B : Zn} {ids : List (Nat × Nat)} {ad : Nat → Nat → Nat} {k z : Nat} {w : Nat → Nat → va_E} {pc : Nat} {lv : List (Nat × Value)} {st : List Value} (hO : Ok Γ own cc nL rm Λ B) (w2 : Nat → Nat → va_E) (hc : ∀ q ∈ ids, EqE (w q.1 q.2) (w2 q.1 q.2)) (h : G Γ ids ad k z w2 pc lv st) : G Γ ids ad k z w pc lv st := by
  obtain ⟨p, l, e, s, m, args, below, meth, c, Q, rfl, hx, hb, hml, hown, hts, hI, hlk⟩ := hO
  intro H locs ls hP hS hl
  refine h H locs ls ⟨fun i q hq => ?_, ?_⟩ hS hl
  · simp only [wl, List.getElem?_map, Option.map_eq_some_iff] at hq
    obtain ⟨x, hx1, hx2⟩ := hq
    subst hx2
    exact (hc x (List.mem_of_getElem? hx1)).at (hP.1 i (ad x.1 x.2, w x.1 x.2) (by simp [wl, hx1]))
  · have key : ∀ (i : Nat) (q : Nat × va_E), (wl ids ad w2)[i]? = some q → ∃ e, (wl ids ad w)[i]? = some (q.1, e) := by
      intro i q hq
      simp only [wl, List.getElem?_map, Option.map_eq_some_iff] at hq
      obtain ⟨x, hx1, hx2⟩ := hq
      subst hx2
      exact ⟨w x.1 x.2, by simp [wl, hx1]⟩
    refine ⟨fun i j p q hp hq e => ?_, fun i q hq => ?_⟩
    · obtain ⟨e1, h1⟩ := key i p hp
      obtain ⟨e2, h2⟩ := key j q hq
      exact hP.2.1 i j _ _ h1 h2 e
    · obtain ⟨e1, h1⟩ := key i q hq
      exact hP.2.2 i (q.1, e1) h1
theorem A_putF {Γ : Cx} {own : String} {cc : ByteArray} {nL : Nat} {rm : Room} {Λ : Lay} {B : Zn} {ids : List (Nat × Nat)} {ad : Nat → Nat → Nat} {k z : Nat} {w : Nat → Nat → va_E} {pc : Nat} {lv : List (Nat × Value)} {st : List Value} (hO : Ok Γ own cc nL rm Λ B) (hN : OkN Γ) {ci : Nat} {C : String} {T : u_T} {N : Nat} {ty : Nat → FieldType} (hc : Cl ci C T N ty) {i j index A : Nat} (hA : ad i j = A) {fs : List Value} {v : Value} {ref : String} (f : Nat) (hid : (i, j) ∈ ids) (hw : w i j = .inr (ci, fs)) (hf : f < N) (hl0 : Cond.fieldLink own index ref (T f).2.1 (T f).2.2.1 ∈ UW) (hr : ref = (T f).1) (hfin : (T f).2.2.2 = true) (hdc : (T f).1 = own) (hn : narrow (ty f) v = v) (hfit : fits (ty f) v = true) (hlen : f < fs.length) (hd : decode cc pc = .ok (.putfield index, 3)) (h : G Γ ids ad k z (up2 w i j (.inr (ci, fs.set f v))) (pc + 3) lv st) : G Γ ids ad k z w pc lv (v :: .ref A :: st) := by
  subst hA
  exact G_putF hO hN hc f hid hw hf hl0 hr hfin hdc hn hfit hlen hd h
theorem A_getf {Γ : Cx} {own : String} {cc : ByteArray} {nL : Nat} {rm : Room} {Λ : Lay} {B : Zn} {ids : List (Nat × Nat)} {ad : Nat → Nat → Nat} {k z : Nat} {w : Nat → Nat → va_E} {pc : Nat} {lv : List (Nat × Value)} {st : List Value} (hO : Ok Γ own cc nL rm Λ B) {ci : Nat} {C : String} {T : u_T} {N : Nat} {ty : Nat → FieldType} (hc : Cl ci C T N ty) {i j index A : Nat} (hA : ad i j = A) {fs : List Value} {v : Value} {ref : String} (f : Nat) (hid : (i, j) ∈ ids) (hw : w i j = .inr (ci, fs)) (hf : f < N) (hl0 : Cond.fieldLink own index ref (T f).2.1 (T f).2.2.1 ∈ UW) (hr : ref = (T f).1) (hv : fs[f]? = some v) (hd : decode cc pc = .ok (.getfield index, 3)) (h : G Γ ids ad k z w (pc + 3) lv (v :: st)) : G Γ ids ad k z w pc lv (.ref A :: st) := by
  subst hA
  exact G_getf hO hc f hid hw hf hl0 hr hv hd h
theorem A_aastS {Γ : Cx} {own : String} {cc : ByteArray} {nL : Nat} {rm : Room} {Λ : Lay} {B : Zn} {ids : List (Nat × Nat)} {ad : Nat → Nat → Nat} {k z : Nat} {w : Nat → Nat → va_E} {pc : Nat} {lv : List (Nat × Value)} {st : List Value} (hO : Ok Γ own cc nL rm Λ B) {i j n a b A A2 : Nat} (hA : ad i j = A) (hA2 : ad a b = A2) {f : Nat → Option Nat} {y : Int32} (kx : Nat) (hkx : y.toNatClampNeg = kx) {vs : List Value} (hid : (i, j) ∈ ids) (hw : w i j = .inl (Λ.2.1 4, n, .inr (.inr (.inr (.inr f))))) (hid2 : (a, b) ∈ ids) (hw2 : w a b = .inr (3, vs)) (hin : vp_in y n) (hd : decode cc pc = .ok (.aastore, 1)) (h : G Γ ids ad k z (up2 w i j (.inl (Λ.2.1 4, n, .inr (.inr (.inr (.inr (va_up f kx (some A2)))))))) (pc + 1) lv st) : G Γ ids ad k z w pc lv (.ref A2 :: .int y :: .ref A :: st) := by
  subst hA hA2 hkx
  exact G_aastS hO hid hw hid2 hw2 hin hd h
theorem A_aastR {Γ : Cx} {own : String} {cc : ByteArray} {nL : Nat} {rm : Room} {Λ : Lay} {B : Zn} {ids : List (Nat × Nat)} {ad : Nat → Nat → Nat} {k z : Nat} {w : Nat → Nat → va_E} {pc : Nat} {lv : List (Nat × Value)} {st : List Value} (hO : Ok Γ own cc nL rm Λ B) {i j n a b A A2 : Nat} (hA : ad i j = A) (hA2 : ad a b = A2) {f : Nat → Option Nat} {y : Int32} (kx : Nat) (hkx : y.toNatClampNeg = kx) {vs : List Value} (hid : (i, j) ∈ ids) (hw : w i j = .inl (Λ.2.1 5, n, .inr (.inr (.inr (.inr f))))) (hid2 : (a, b) ∈ ids) (hw2 : w a b = .inr (2, vs)) (hin : vp_in y n) (hd : decode cc pc = .ok (.aastore, 1)) (h : G Γ ids ad k z (up2 w i j (.inl (Λ.2.1 5, n, .inr (.inr (.inr (.inr (va_up f kx (some A2)))))))) (pc + 1) lv st) : G Γ ids ad k z w pc lv (.ref A2 :: .int y :: .ref A :: st) := by
  subst hA hA2 hkx
  exact G_aastR hO hid hw hid2 hw2 hin hd h
theorem A_alen {Γ : Cx} {own : String} {cc : ByteArray} {nL : Nat} {rm : Room} {Λ : Lay} {B : Zn} {ids : List (Nat × Nat)} {ad : Nat → Nat → Nat} {k z : Nat} {w : Nat → Nat → va_E} {pc : Nat} {lv : List (Nat × Value)} {st : List Value} (hO : Ok Γ own cc nL rm Λ B) {i j A : Nat} (hA : ad i j = A) {a : vp_A} {ty : FieldType} {cA : ClassId} {v : Int32} (t0 : Nat) (hid : (i, j) ∈ ids) (hw : w i j = .inl (cA, a)) (ht : (gtys Λ)[t0]? = some (cA, ty)) (hv : Int32.ofNat a.1 = v) (hd : decode cc pc = .ok (.arraylength, 1)) (h : G Γ ids ad k z w (pc + 1) lv (.int v :: st)) : G Γ ids ad k z w pc lv (.ref A :: st) := by
  subst hA
  exact G_alen hO t0 hid hw ht hv hd h
def stL (n : Nat) : List (Nat × Nat) := [(n, 1), (n, 2), (n, 3), (n, 4), (n, 5), (n, 6), (n, 7), (n, 8), (n, 9), (n, 10), (n, 11), (n, 12), (n, 13), (n, 14)]
theorem mem_stL {n i j : Nat} : (i, j) ∈ stL n ↔ i = n ∧ 1 ≤ j ∧ j ≤ 14 := by
  simp only [stL, List.mem_cons, Prod.mk.injEq, List.not_mem_nil, or_false]
  omega
def z26 (Λ : Lay) : va_E := .inl (Λ.2.1 0, 26, .inl (fun _ => 0))
def c00 : Reg := fun _ _ => 0
/-- a new State's memory -/
def cI : Reg := cu (cu (cu (cu (va_up (cu (cu (cu (cu (cu (cu (cu (cu (cu (cu c00 0 0 0) 0 1 5) 0 2 0) 0 3 0) 0 4 0) 0 5 0) 0 6 0) 0 7 0) 0 8 0) 5 3 0) 1 (va_cpy sv0 ((cu (cu (cu (cu (cu (cu (cu (cu (cu (cu c00 0 0 0) 0 1 5) 0 2 0) 0 3 0) 0 4 0) 0 5 0) 0 6 0) 0 7 0) 0 8 0) 5 3 0) 1) 0 0 9)) 3 0 40) 2 0 800) 3 1 60) 2 1 1200
theorem stSh_ad {Λ : Lay} {ad ad' : Nat → Nat → Nat} {n : Nat} (h : ad n = ad' n) : stSh Λ ad n = stSh Λ ad' n := by
  funext c j
  match j with
  | 0 => simp only [stSh, stF, h]
  | 1 => simp only [stSh]
  | 2 => simp only [stSh]
  | 3 => simp only [stSh]
  | 4 => simp only [stSh, h]
  | 5 => simp only [stSh, leF, h]
  | 6 => simp only [stSh]
  | 7 => simp only [stSh]
  | 8 => simp only [stSh]
  | r + 9 => simp only [stSh]
theorem ad2_o {ad : Nat → Nat → Nat} {i j a i' : Nat} (h : i' ≠ i) : ad2 ad i j a i' = ad i' := by
  funext j'
  simp [ad2, h]
theorem ad2_r (ad : Nat → Nat → Nat) (i j a : Nat) : ad2 ad i j a = va_up ad i (va_up (ad i) j a) := by
  funext i' j'
  by_cases h : i' = i
  · subst h
    by_cases h2 : j' = j
    · subst h2; simp [ad2, va_up]
    · simp [ad2, va_up, h2]
  · simp [ad2, va_up, h]
