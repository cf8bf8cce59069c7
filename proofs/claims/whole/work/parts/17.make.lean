theorem A_newaI {Γ : Cx} {own : String} {cc : ByteArray} {nL : Nat} {rm : Room} {Λ : Lay} {B : Nat} {ids : List (Nat × Nat)} {ad : Nat → Nat → Nat} {k z : Nat} {w : Nat → Nat → va_E} {pc : Nat} {lv : List (Nat × Value)} {st : List Value} (hO : Ok Γ own cc nL rm Λ B) {x : Int32} (N : Nat) (i j : Nat) (hni : (i, j) ∉ ids) (harr : Cond.arrayClass .int ∈ UW) (hn : ¬ x < 0) (hN : x.toNatClampNeg = N) (hb9 : N * 8 ≤ 536870912) (hk : k + 1 ≤ rm.cells) (hz : z + N ≤ rm.slots) (hd : decode cc pc = .ok (.newarray .int, 2)) (h : ∀ a : Nat, G Γ (ids ++ [(i, j)]) (ad2 ad i j a) (k + 1) (z + N) (up2 w i j (.inl (Λ.2.1 0, N, .inl (fun _ => 0)))) (pc + 2) lv (.ref a :: st)) : G Γ ids ad k z w pc lv (.int x :: st) := by
  obtain ⟨p, l, e, s, m, args, below, meth, c, Q, rfl, hx, hb, hml, hown, hts, hI, hlk⟩ := hO
  intro H locs ls hP hS hl
  refine va_newa (atype := .int) (a0 := (N, .inl (fun _ => 0))) hx hb (hts _ harr) rfl hI.1 hP.1 hP.2 hS (fun q h9 => Nat.le_trans hI.2.2.2 h9) (fun _ => rfl) hn hN (Nat.le_trans (Nat.mul_le_mul_left N (by decide)) hb9) hk hz hd (fun q cA H1 hK1 hP1 hD1 hS1 => ?_)
  have e1 : s.vm.findClass ("[" ++ FieldType.toString .int) = some cA := (hK1.2 6 (cA, .int) rfl).2
  have e2 : s.vm.findClass ("[" ++ FieldType.toString .int) = some (Λ.2.1 0) := (hI.1.2 0 (Λ.2.1 0, .int) rfl).2
  cases Option.some.inj (e1.symm.trans e2)
  rw [← wl_new hni] at hP1 hD1
  exact h q H1 locs ls ⟨hP1, hD1⟩ hS1 hl
theorem A_newaC {Γ : Cx} {own : String} {cc : ByteArray} {nL : Nat} {rm : Room} {Λ : Lay} {B : Nat} {ids : List (Nat × Nat)} {ad : Nat → Nat → Nat} {k z : Nat} {w : Nat → Nat → va_E} {pc : Nat} {lv : List (Nat × Value)} {st : List Value} (hO : Ok Γ own cc nL rm Λ B) {x : Int32} (N : Nat) (i j : Nat) (hni : (i, j) ∉ ids) (harr : Cond.arrayClass .char ∈ UW) (hn : ¬ x < 0) (hN : x.toNatClampNeg = N) (hb9 : N * 8 ≤ 536870912) (hk : k + 1 ≤ rm.cells) (hz : z + N ≤ rm.slots) (hd : decode cc pc = .ok (.newarray .char, 2)) (h : ∀ a : Nat, G Γ (ids ++ [(i, j)]) (ad2 ad i j a) (k + 1) (z + N) (up2 w i j (.inl (Λ.2.1 1, N, .inl (fun _ => 0)))) (pc + 2) lv (.ref a :: st)) : G Γ ids ad k z w pc lv (.int x :: st) := by
  obtain ⟨p, l, e, s, m, args, below, meth, c, Q, rfl, hx, hb, hml, hown, hts, hI, hlk⟩ := hO
  intro H locs ls hP hS hl
  refine va_newa (atype := .char) (a0 := (N, .inl (fun _ => 0))) hx hb (hts _ harr) rfl hI.1 hP.1 hP.2 hS (fun q h9 => Nat.le_trans hI.2.2.2 h9) (fun _ => rfl) hn hN (Nat.le_trans (Nat.mul_le_mul_left N (by decide)) hb9) hk hz hd (fun q cA H1 hK1 hP1 hD1 hS1 => ?_)
  have e1 : s.vm.findClass ("[" ++ FieldType.toString .char) = some cA := (hK1.2 6 (cA, .char) rfl).2
  have e2 : s.vm.findClass ("[" ++ FieldType.toString .char) = some (Λ.2.1 1) := (hI.1.2 1 (Λ.2.1 1, .char) rfl).2
  cases Option.some.inj (e1.symm.trans e2)
  rw [← wl_new hni] at hP1 hD1
  exact h q H1 locs ls ⟨hP1, hD1⟩ hS1 hl
theorem A_newaZ {Γ : Cx} {own : String} {cc : ByteArray} {nL : Nat} {rm : Room} {Λ : Lay} {B : Nat} {ids : List (Nat × Nat)} {ad : Nat → Nat → Nat} {k z : Nat} {w : Nat → Nat → va_E} {pc : Nat} {lv : List (Nat × Value)} {st : List Value} (hO : Ok Γ own cc nL rm Λ B) {x : Int32} (N : Nat) (i j : Nat) (hni : (i, j) ∉ ids) (harr : Cond.arrayClass .boolean ∈ UW) (hn : ¬ x < 0) (hN : x.toNatClampNeg = N) (hb9 : N * 8 ≤ 536870912) (hk : k + 1 ≤ rm.cells) (hz : z + N ≤ rm.slots) (hd : decode cc pc = .ok (.newarray .boolean, 2)) (h : ∀ a : Nat, G Γ (ids ++ [(i, j)]) (ad2 ad i j a) (k + 1) (z + N) (up2 w i j (.inl (Λ.2.1 2, N, .inl (fun _ => 0)))) (pc + 2) lv (.ref a :: st)) : G Γ ids ad k z w pc lv (.int x :: st) := by
  obtain ⟨p, l, e, s, m, args, below, meth, c, Q, rfl, hx, hb, hml, hown, hts, hI, hlk⟩ := hO
  intro H locs ls hP hS hl
  refine va_newa (atype := .boolean) (a0 := (N, .inl (fun _ => 0))) hx hb (hts _ harr) rfl hI.1 hP.1 hP.2 hS (fun q h9 => Nat.le_trans hI.2.2.2 h9) (fun _ => rfl) hn hN (Nat.le_trans (Nat.mul_le_mul_left N (by decide)) hb9) hk hz hd (fun q cA H1 hK1 hP1 hD1 hS1 => ?_)
  have e1 : s.vm.findClass ("[" ++ FieldType.toString .boolean) = some cA := (hK1.2 6 (cA, .boolean) rfl).2
  have e2 : s.vm.findClass ("[" ++ FieldType.toString .boolean) = some (Λ.2.1 2) := (hI.1.2 2 (Λ.2.1 2, .boolean) rfl).2
  cases Option.some.inj (e1.symm.trans e2)
  rw [← wl_new hni] at hP1 hD1
  exact h q H1 locs ls ⟨hP1, hD1⟩ hS1 hl
theorem A_newaJ {Γ : Cx} {own : String} {cc : ByteArray} {nL : Nat} {rm : Room} {Λ : Lay} {B : Nat} {ids : List (Nat × Nat)} {ad : Nat → Nat → Nat} {k z : Nat} {w : Nat → Nat → va_E} {pc : Nat} {lv : List (Nat × Value)} {st : List Value} (hO : Ok Γ own cc nL rm Λ B) {x : Int32} (N : Nat) (i j : Nat) (hni : (i, j) ∉ ids) (harr : Cond.arrayClass .long ∈ UW) (hn : ¬ x < 0) (hN : x.toNatClampNeg = N) (hb9 : N * 8 ≤ 536870912) (hk : k + 1 ≤ rm.cells) (hz : z + N ≤ rm.slots) (hd : decode cc pc = .ok (.newarray .long, 2)) (h : ∀ a : Nat, G Γ (ids ++ [(i, j)]) (ad2 ad i j a) (k + 1) (z + N) (up2 w i j (.inl (Λ.2.1 3, N, .inr (.inl (fun _ => 0))))) (pc + 2) lv (.ref a :: st)) : G Γ ids ad k z w pc lv (.int x :: st) := by
  obtain ⟨p, l, e, s, m, args, below, meth, c, Q, rfl, hx, hb, hml, hown, hts, hI, hlk⟩ := hO
  intro H locs ls hP hS hl
  refine va_newa (atype := .long) (a0 := (N, .inr (.inl (fun _ => 0)))) hx hb (hts _ harr) rfl hI.1 hP.1 hP.2 hS (fun q h9 => Nat.le_trans hI.2.2.2 h9) (fun _ => rfl) hn hN (Nat.le_trans (Nat.mul_le_mul_left N (by decide)) hb9) hk hz hd (fun q cA H1 hK1 hP1 hD1 hS1 => ?_)
  have e1 : s.vm.findClass ("[" ++ FieldType.toString .long) = some cA := (hK1.2 6 (cA, .long) rfl).2
  have e2 : s.vm.findClass ("[" ++ FieldType.toString .long) = some (Λ.2.1 3) := (hI.1.2 3 (Λ.2.1 3, .long) rfl).2
  cases Option.some.inj (e1.symm.trans e2)
  rw [← wl_new hni] at hP1 hD1
  exact h q H1 locs ls ⟨hP1, hD1⟩ hS1 hl
theorem A_newqS {Γ : Cx} {own : String} {cc : ByteArray} {nL : Nat} {rm : Room} {Λ : Lay} {B : Nat} {ids : List (Nat × Nat)} {ad : Nat → Nat → Nat} {k z : Nat} {w : Nat → Nat → va_E} {pc : Nat} {lv : List (Nat × Value)} {st : List Value} (hO : Ok Γ own cc nL rm Λ B) {x : Int32} {index : Nat} (N : Nat) (i j : Nat) (hni : (i, j) ∉ ids) (hcl : Cond.classLink own index RX3 ∈ UW) (hn : ¬ x < 0) (hN : x.toNatClampNeg = N) (hb9 : N * 4 ≤ 536870912) (hk : k + 1 ≤ rm.cells) (hz : z + N ≤ rm.slots) (hd : decode cc pc = .ok (.anewarray index, 3)) (h : ∀ a : Nat, G Γ (ids ++ [(i, j)]) (ad2 ad i j a) (k + 1) (z + N) (up2 w i j (.inl (Λ.2.1 4, N, .inr (.inr (.inr (.inr (fun _ => none))))))) (pc + 3) lv (.ref a :: st)) : G Γ ids ad k z w pc lv (.int x :: st) := by
  obtain ⟨p, l, e, s, m, args, below, meth, c, Q, rfl, hx, hb, hml, hown, hts, hI, hlk⟩ := hO
  intro H locs ls hP hS hl
  refine va_newq hx hb hown (hts _ hcl) hI.2.2.1.2.2.2.2.2.1 hI.1 hP.1 hP.2 hS (fun q h9 => Nat.le_trans hI.2.2.2 h9) hn hN hb9 hk hz hd (fun q cA H1 hK1 hP1 hD1 hS1 => ?_)
  obtain ⟨-, -, -, -, -, e1⟩ : ∃ (kA : Class) (comp : ClassId), s.vm.classes[cA]? = some kA ∧ kA.kind = .array comp (.object RX3) ∧ s.vm.findClass RX3 = some comp ∧ s.vm.findClass ("[" ++ (FieldType.object RX3).toString) = some cA := (hK1.2 6 (cA, .object RX3) rfl).2
  obtain ⟨-, -, -, -, -, e2⟩ : ∃ (kA : Class) (comp : ClassId), s.vm.classes[Λ.2.1 4]? = some kA ∧ kA.kind = .array comp (.object RX3) ∧ s.vm.findClass RX3 = some comp ∧ s.vm.findClass ("[" ++ (FieldType.object RX3).toString) = some (Λ.2.1 4) := (hI.1.2 4 (Λ.2.1 4, .object RX3) rfl).2
  cases Option.some.inj (e1.symm.trans e2)
  rw [← wl_new hni] at hP1 hD1
  exact h q H1 locs ls ⟨hP1, hD1⟩ hS1 hl
theorem A_newqR {Γ : Cx} {own : String} {cc : ByteArray} {nL : Nat} {rm : Room} {Λ : Lay} {B : Nat} {ids : List (Nat × Nat)} {ad : Nat → Nat → Nat} {k z : Nat} {w : Nat → Nat → va_E} {pc : Nat} {lv : List (Nat × Value)} {st : List Value} (hO : Ok Γ own cc nL rm Λ B) {x : Int32} {index : Nat} (N : Nat) (i j : Nat) (hni : (i, j) ∉ ids) (hcl : Cond.classLink own index RX2 ∈ UW) (hn : ¬ x < 0) (hN : x.toNatClampNeg = N) (hb9 : N * 4 ≤ 536870912) (hk : k + 1 ≤ rm.cells) (hz : z + N ≤ rm.slots) (hd : decode cc pc = .ok (.anewarray index, 3)) (h : ∀ a : Nat, G Γ (ids ++ [(i, j)]) (ad2 ad i j a) (k + 1) (z + N) (up2 w i j (.inl (Λ.2.1 5, N, .inr (.inr (.inr (.inr (fun _ => none))))))) (pc + 3) lv (.ref a :: st)) : G Γ ids ad k z w pc lv (.int x :: st) := by
  obtain ⟨p, l, e, s, m, args, below, meth, c, Q, rfl, hx, hb, hml, hown, hts, hI, hlk⟩ := hO
  intro H locs ls hP hS hl
  refine va_newq hx hb hown (hts _ hcl) hI.2.2.1.2.2.2.2.2.2 hI.1 hP.1 hP.2 hS (fun q h9 => Nat.le_trans hI.2.2.2 h9) hn hN hb9 hk hz hd (fun q cA H1 hK1 hP1 hD1 hS1 => ?_)
  obtain ⟨-, -, -, -, -, e1⟩ : ∃ (kA : Class) (comp : ClassId), s.vm.classes[cA]? = some kA ∧ kA.kind = .array comp (.object RX2) ∧ s.vm.findClass RX2 = some comp ∧ s.vm.findClass ("[" ++ (FieldType.object RX2).toString) = some cA := (hK1.2 6 (cA, .object RX2) rfl).2
  obtain ⟨-, -, -, -, -, e2⟩ : ∃ (kA : Class) (comp : ClassId), s.vm.classes[Λ.2.1 5]? = some kA ∧ kA.kind = .array comp (.object RX2) ∧ s.vm.findClass RX2 = some comp ∧ s.vm.findClass ("[" ++ (FieldType.object RX2).toString) = some (Λ.2.1 5) := (hI.1.2 5 (Λ.2.1 5, .object RX2) rfl).2
  cases Option.some.inj (e1.symm.trans e2)
  rw [← wl_new hni] at hP1 hD1
  exact h q H1 locs ls ⟨hP1, hD1⟩ hS1 hl
