/-! THE LAYER. A world is: ids (the cells that there are, by region and number), ad (their addresses), w (what each holds). G: the machine, at a program counter, with locals and stack, over any heap that holds the world, comes to the method's end. -/
/-- the addresses that a method may write -/
abbrev Zn : Type := Nat → Prop
abbrev Lay : Type := va_G × (Nat → ClassId) × (Nat → Nat) × (Nat → Nat)
def gtys (Λ : Lay) : List (ClassId × FieldType) := [(Λ.2.1 0, .int), (Λ.2.1 1, .char), (Λ.2.1 2, .boolean), (Λ.2.1 3, .int), (Λ.2.1 4, .object RX3), (Λ.2.1 5, .object RX2)]
abbrev Aq (B : Zn) : Nat → Prop := B
def sv0 (j : Nat) : Int32 := ([60, 60, 5, 3, 12, 20, 10, 35, 18] : List Int32).getD j 0
def sv1 (j : Nat) : Int32 := ([0, 30, 0, 0, 0, 1, 1, 0, 10] : List Int32).getD j 0
def sv2 (j : Nat) : Int32 := ([200, 80, 30, 30, 30, 50, 20, 60, 30] : List Int32).getD j 0
def SZ (Λ : Lay) (B : Zn) (U : State) (H : Heap) : Prop :=
  (va_Z RX5 "FIRST_SETTINGS" "[I" (.ref (Λ.2.2.1 0)) (Aq B) U H ∧ va_T .int (Λ.2.2.1 0) 9 (fun j => .int (sv0 j)) (Aq B) U H) ∧
  (va_Z RX5 "LOWEST_SETTINGS" "[I" (.ref (Λ.2.2.1 1)) (Aq B) U H ∧ va_T .int (Λ.2.2.1 1) 9 (fun j => .int (sv1 j)) (Aq B) U H) ∧
  (va_Z RX5 "HIGHEST_SETTINGS" "[I" (.ref (Λ.2.2.1 2)) (Aq B) U H ∧ va_T .int (Λ.2.2.1 2) 9 (fun j => .int (sv2 j)) (Aq B) U H)
def NW (U : State) : Prop := va_Nw (.methodLinkNest RX3 29 yX1_init RX5) U ∧ va_Nw (.methodLinkNest RX3 34 yX2_init RX5) U ∧ va_Nw (.fieldLinkNest RX3 70 RX5 "FIRST_SETTINGS" "[I" RX5) U ∧ va_Nw (.methodLinkNest RX4 56 yX5_lowestSetting RX5) U ∧ va_Nw (.methodLinkNest RX4 60 yX5_highestSetting RX5) U ∧ va_AO RX3 U ∧ va_AO RX2 U
def IU (Λ : Lay) (B : Zn) (U : State) : Prop := va_K Λ.1 vwCl (gtys Λ) U ∧ SZ Λ B U U.heap ∧ NW U ∧ ∀ q : Nat, U.heap.size ≤ q → B q
def wl (ids : List (Nat × Nat)) (ad : Nat → Nat → Nat) (w : Nat → Nat → va_E) : va_W := ids.map fun q => (ad q.1 q.2, w q.1 q.2)
def HP (Λ : Lay) (B : Zn) (ids : List (Nat × Nat)) (ad : Nat → Nat → Nat) (w : Nat → Nat → va_E) (H : Heap) : Prop := va_P Λ.1 vwCl (wl ids ad w) H ∧ va_D (Aq B) (wl ids ad w)
def up2 (w : Nat → Nat → va_E) (i j : Nat) (e : va_E) : Nat → Nat → va_E := va_up w i (va_up (w i) j e)
theorem up2_s (w : Nat → Nat → va_E) (i j : Nat) (e : va_E) : up2 w i j e i j = e := by simp [up2, va_up]
theorem up2_n (w : Nat → Nat → va_E) (i j : Nat) (e : va_E) {a b : Nat} (h : ¬ (a = i ∧ b = j)) : up2 w i j e a b = w a b := by
  by_cases h1 : a = i
  · subst h1
    have h2 : b ≠ j := fun h2 => h ⟨rfl, h2⟩
    simp [up2, va_up, h2]
  · simp [up2, va_up, h1]
theorem wl_at {ids : List (Nat × Nat)} {ad : Nat → Nat → Nat} {w : Nat → Nat → va_E} {i j : Nat} (h : (i, j) ∈ ids) {e : va_E} (he : w i j = e) : ∃ q : Nat, ids[q]? = some (i, j) ∧ (wl ids ad w)[q]? = some (ad i j, e) := by
  obtain ⟨q, hq⟩ := List.getElem?_of_mem h
  exact ⟨q, hq, by simp [wl, hq, he]⟩
theorem wl_set {ids : List (Nat × Nat)} {ad : Nat → Nat → Nat} {w : Nat → Nat → va_E} {A : Nat → Prop} {i j q : Nat} {e : va_E} (hD : va_D A (wl ids ad w)) (hq : ids[q]? = some (i, j)) : (wl ids ad w).set q (ad i j, e) = wl ids ad (up2 w i j e) := by
  have hl : q < ids.length := (List.getElem?_eq_some_iff.mp hq).1
  apply List.ext_getElem?
  intro r
  by_cases hr : r = q
  · subst hr
    rw [List.getElem?_set_self (by simp [wl]; exact hl)]
    simp [wl, hq, up2_s]
  · rw [List.getElem?_set_ne (Ne.symm hr)]
    cases hz : ids[r]? with
    | none => simp [wl, hz]
    | some x =>
      obtain ⟨a, b⟩ := x
      have hne : ¬ (a = i ∧ b = j) := by
        rintro ⟨rfl, rfl⟩
        exact hr (hD.1 r q (ad a b, w a b) (ad a b, w a b) (by simp [wl, hz]) (by simp [wl, hq]) rfl)
      simp [wl, hz, up2_n w i j e hne]
theorem HP.at {Λ : Lay} {B : Zn} {ids : List (Nat × Nat)} {ad : Nat → Nat → Nat} {w : Nat → Nat → va_E} {H : Heap} {i j : Nat} (h : HP Λ B ids ad w H) (hi : (i, j) ∈ ids) {e : va_E} (he : w i j = e) :
    ∃ q : Nat, (wl ids ad w)[q]? = some (ad i j, e) ∧ ∀ e' : va_E, (wl ids ad w).set q (ad i j, e') = wl ids ad (up2 w i j e') := by
  obtain ⟨q, h1, h2⟩ := wl_at (ad := ad) hi he
  exact ⟨q, h2, fun e' => wl_set h.2 h1⟩
theorem IU.moved {Λ : Lay} {B : Zn} {s U : State} {H : Heap} {locs : List Loc} (h : IU Λ B s) (hS : va_S (Aq B) s.heap H locs) (hU : U.heap = H) (hW : s.WarmedH U.vm) : IU Λ B U := by
  obtain ⟨hK, ⟨⟨a1, b1⟩, ⟨a2, b2⟩, ⟨a3, b3⟩⟩, ⟨n1, n2, n3, n4, n5, n6, n7⟩, hB⟩ := h
  have hq : ∀ a : Nat, a < s.heap.size → ¬ Aq B a → U.heap[a]? = s.heap[a]? := fun a h1 h2 => by rw [hU]; exact hS.2.1 a h1 h2
  refine ⟨va_K.moved hW.alike hK, ⟨⟨(a1.kept hq).moved hW.alike, (b1.kept hq).moved hW.alike⟩, ⟨(a2.kept hq).moved hW.alike, (b2.kept hq).moved hW.alike⟩, ⟨(a3.kept hq).moved hW.alike, (b3.kept hq).moved hW.alike⟩⟩, ⟨n1.warmM hW, n2.warmM hW, n3.warmF hW, n4.warmM hW, n5.warmM hW, n6.moved hW.alike, n7.moved hW.alike⟩, ?_⟩
  rw [hU]
  exact fun q hq => hB q (Nat.le_trans hS.1 hq)
theorem IU.blind {Λ : Lay} {B : Zn} {U : State} {g : JFrame} {mk : MethodId} {a : Array Value} (h : IU Λ B U) : IU Λ B (U.calling g mk a) := by
  obtain ⟨hK, ⟨⟨a1, b1⟩, ⟨a2, b2⟩, ⟨a3, b3⟩⟩, ⟨n1, n2, n3, n4, n5, n6, n7⟩, hB⟩ := h
  have hA : U.vm.Alike (U.calling g mk a).vm := Vm.Alike.refl U.vm
  refine ⟨va_K.moved hA hK, ⟨⟨a1.moved hA, b1.moved hA⟩, ⟨a2.moved hA, b2.moved hA⟩, ⟨a3.moved hA, b3.moved hA⟩⟩, ⟨va_Nw.same rfl rfl n1, va_Nw.same rfl rfl n2, va_Nw.same rfl rfl n3, va_Nw.same rfl rfl n4, va_Nw.same rfl rfl n5, n6.moved hA, n7.moved hA⟩, hB⟩
/-- all that a method's walk stands on -/
abbrev Cx : Type _ := Program × Launch × Env × Room × State × MethodId × Array Value × List Frame × Method × Code × (State → Prop) × Nat × Lay × Zn
def G (Γ : Cx) (ids : List (Nat × Nat)) (ad : Nat → Nat → Nat) (k z : Nat) (w : Nat → Nat → va_E) (pc : Nat) (lv : List (Nat × Value)) (st : List Value) : Prop := match Γ with
  | (p, l, e, R, s, m, args, below, meth, c, Q, nL, Λ, B) => ∀ (H : Heap) (locs : List Loc) (ls : Array Slot), HP Λ B ids ad w H → va_S (Aq B) s.heap H locs → lv_has ls nL lv → W p l e R s m args below meth c H locs k z Q (F0 m pc ls st)
def Ok (Γ : Cx) (own : String) (cc : ByteArray) (nL : Nat) (rm : Room) (Λ : Lay) (B : Zn) : Prop :=
  ∃ (p : Program) (l : Launch) (e : Env) (s : State) (m : MethodId) (args : Array Value) (below : List Frame) (meth : Method) (c : Code) (Q : State → Prop), Γ = (p, l, e, rm, s, m, args, below, meth, c, Q, nL, Λ, B) ∧
    p.tables.exec = Jvm.exec ∧ c.code = cc ∧ c.maxLocals = nL ∧ s.vm.findClass own = some m.cls ∧ (∀ w ∈ UW, w.before args s = true) ∧ IU Λ B s ∧ meth.locks = false
/-- a method's end: with the answer v and the world w that P takes -/
abbrev Po : Type := Option Value → List (Nat × Nat) → (Nat → Nat → Nat) → (Nat → Nat → va_E) → Prop
def QC (Λ : Lay) (B : Zn) (P : Po) : Array Value → State → Outcome → State → Prop := fun _ st oc t =>
  (∃ (v : Option Value) (ids : List (Nat × Nat)) (ad : Nat → Nat → Nat) (w : Nat → Nat → va_E), oc = .returned v ∧ P v ids ad w ∧ HP Λ B ids ad w t.heap) ∧ va_F (Aq B) st t
/-- an end that makes no cell -/
def Sm (ids : List (Nat × Nat)) (ad : Nat → Nat → Nat) (P : Option Value → (Nat → Nat → va_E) → Prop) : Po := fun v ids' ad' w => ids' = ids ∧ ad' = ad ∧ P v w
def Fin' (Γ : Cx) (mc ms : Nat) (ret : Option FieldType) (P : Po) : Prop := match Γ with
  | (_, _, _, _, s, _, args, below, meth, _, Q, _, Λ, B) => meth.sig.returnType = ret ∧ Q = MQ below (QC Λ B P) args s mc ms (Aq B)
def uw (y : MethodName) (cc : ByteArray) (nL : Nat) (ret : Option FieldType) : List Cond := Cond.code y cc nL ret :: UW
/-- a method's contract -/
def CT (l : Launch) (y : MethodName) (cc : ByteArray) (nL : Nat) (ret : Option FieldType) (rm : Room) (Λ : Lay) (B : Zn) (ids : List (Nat × Nat)) (ad : Nat → Nat → Nat) (w : Nat → Nat → va_E) (av : List Value) (P : Po) : Prop :=
  Met l y (uw y cc nL ret) rm (va_Pc av (fun U => IU Λ B U ∧ HP Λ B ids ad w U.heap)) (QC Λ B P) rm.cells rm.slots (Aq B)
/-- a contract by its walk, for a method that no entry of the machine's own replaces -/
theorem met_ofF {l : Launch} {y : MethodName} {ws ws' : List Cond} {rm : Room} {Pc : Array Value → State → Prop} {Qc : Array Value → State → Outcome → State → Prop} {mc ms : Nat} {free : Addr → Prop} {cc : ByteArray} {maxL : Nat} {ret : Option FieldType}
    (hy : plainFor y = true) (hw : ws = Cond.code y cc maxL ret :: ws')
    (body : ∀ p e s m args below meth c s₁, BodyLoose p l y (headSpec ws rm) cc maxL ret e s m args below meth c s₁ → c.maxLocals = maxL → Pc args s →
      W p l e (headSpec ws rm).room s m args below meth c s.heap [] 0 0 (MQ below Qc args s mc ms free) (entryFrame m args maxL)) : Met l y ws rm Pc Qc mc ms free := by
  refine MetFree.of_bodySF (code := cc) (maxLocals := maxL) (ret := ret) hy ?_ ?_
  · intro args s m h hn
    obtain ⟨meth, c, h1, h2, h3, h4, h5, h6, -, -⟩ := Cond.code_spec hn (atoms_spec (ws := ws) h _ (by rw [hw]; exact List.mem_cons_self))
    exact ⟨meth, c, h1, h2, h3, h4, h5, h6⟩
  · intro p e s m args below meth c s₁ B hml hP _
    obtain ⟨t, a1, o, b1, b2, b3⟩ := body p e s m args below meth c s₁ B hml hP s₁ (by rw [B.state]; rfl) (Stand.of_body B)
    exact ⟨t, o, a1, b1, b2, ⟨b3.1, b3.2⟩⟩
theorem CT.of {l : Launch} {y : MethodName} {cc : ByteArray} {nL : Nat} {ret : Option FieldType} {rm : Room} {Λ : Lay} {B : Zn} {ids : List (Nat × Nat)} {ad : Nat → Nat → Nat} {w : Nat → Nat → va_E} {av : List Value} {P : Po} (own : String) (lv : List (Nat × Value))
    (hpl : plainFor y = true) (hown : y.cls = own) (hlen : (lg_sl av).length ≤ nL) (hlv : lv_args 0 av = lv)
    (body : ∀ Γ : Cx, Ok Γ own cc nL rm Λ B → Fin' Γ rm.cells rm.slots ret P → G Γ ids ad 0 0 w 0 lv []) : CT l y cc nL ret rm Λ B ids ad w av P := by
  subst hown
  refine met_ofF (cc := cc) (maxL := nL) (ret := ret) hpl rfl ?_
  intro p e s m args below meth c s₁ B1 hml hv
  obtain ⟨rfl, hI, hH⟩ := hv
  have hts : ∀ w ∈ uw y cc nL ret, w.before av.toArray s = true := atoms_spec (ws := uw y cc nL ret) B1.pre
  have hl := lv_entry av (n := nL) hlen
  rw [hlv] at hl
  rw [lg_entry_eq]
  have hg := body (p, l, e, rm, s, m, av.toArray, below, meth, c, _, nL, Λ, B) ⟨p, l, e, s, m, _, below, meth, c, _, rfl, B1.exec, B1.bytes, hml, findClass_of_methodNamed B1.named, fun w hw => hts w (List.mem_cons_of_mem _ hw), hI, B1.notSynchronized⟩ ⟨B1.returns, rfl⟩
  exact hg s.heap [] _ hH va_S.rf hl

theorem G_iconst {Γ : Cx} {own : String} {cc : ByteArray} {nL : Nat} {rm : Room} {Λ : Lay} {B : Zn} {ids : List (Nat × Nat)} {ad : Nat → Nat → Nat} {k z : Nat} {w : Nat → Nat → va_E} {pc : Nat} {lv : List (Nat × Value)} {st : List Value} (hO : Ok Γ own cc nL rm Λ B) {n : Int} (v : Int32) (hd : decode cc pc = .ok (.iconst n, 1)) (hv : Int32.ofInt n = v) (h : G Γ ids ad k z w (pc + 1) lv (.int v :: st)) : G Γ ids ad k z w pc lv (st) := by
  obtain ⟨p, l, e, s, m, args, below, meth, c, Q, rfl, hx, hb, hml, hown, hts, hI, hlk⟩ := hO
  intro H locs ls hP hS hl
  exact lv_iconst hx hb hd hv (h H locs ls hP hS hl)
theorem G_bipush {Γ : Cx} {own : String} {cc : ByteArray} {nL : Nat} {rm : Room} {Λ : Lay} {B : Zn} {ids : List (Nat × Nat)} {ad : Nat → Nat → Nat} {k z : Nat} {w : Nat → Nat → va_E} {pc : Nat} {lv : List (Nat × Value)} {st : List Value} (hO : Ok Γ own cc nL rm Λ B) {n : Int} (v : Int32) (hd : decode cc pc = .ok (.bipush n, 2)) (hv : (Int8.ofInt n).toInt32 = v) (h : G Γ ids ad k z w (pc + 2) lv (.int v :: st)) : G Γ ids ad k z w pc lv (st) := by
  obtain ⟨p, l, e, s, m, args, below, meth, c, Q, rfl, hx, hb, hml, hown, hts, hI, hlk⟩ := hO
  intro H locs ls hP hS hl
  exact lv_bipush hx hb hd hv (h H locs ls hP hS hl)
theorem G_sipush {Γ : Cx} {own : String} {cc : ByteArray} {nL : Nat} {rm : Room} {Λ : Lay} {B : Zn} {ids : List (Nat × Nat)} {ad : Nat → Nat → Nat} {k z : Nat} {w : Nat → Nat → va_E} {pc : Nat} {lv : List (Nat × Value)} {st : List Value} (hO : Ok Γ own cc nL rm Λ B) {n : Int} (v : Int32) (hd : decode cc pc = .ok (.sipush n, 3)) (hv : (Int16.ofInt n).toInt32 = v) (h : G Γ ids ad k z w (pc + 3) lv (.int v :: st)) : G Γ ids ad k z w pc lv (st) := by
  obtain ⟨p, l, e, s, m, args, below, meth, c, Q, rfl, hx, hb, hml, hown, hts, hI, hlk⟩ := hO
  intro H locs ls hP hS hl
  exact lv_sipush hx hb hd hv (h H locs ls hP hS hl)
theorem G_lconst {Γ : Cx} {own : String} {cc : ByteArray} {nL : Nat} {rm : Room} {Λ : Lay} {B : Zn} {ids : List (Nat × Nat)} {ad : Nat → Nat → Nat} {k z : Nat} {w : Nat → Nat → va_E} {pc : Nat} {lv : List (Nat × Value)} {st : List Value} (hO : Ok Γ own cc nL rm Λ B) {n : Fin 2} (v : Int64) (hd : decode cc pc = .ok (.lconst n, 1)) (hv : Int64.ofNat (n : Nat) = v) (h : G Γ ids ad k z w (pc + 1) lv (.long v :: st)) : G Γ ids ad k z w pc lv (st) := by
  obtain ⟨p, l, e, s, m, args, below, meth, c, Q, rfl, hx, hb, hml, hown, hts, hI, hlk⟩ := hO
  intro H locs ls hP hS hl
  exact lv_lconst hx hb hd hv (h H locs ls hP hS hl)
theorem G_iload_n {Γ : Cx} {own : String} {cc : ByteArray} {nL : Nat} {rm : Room} {Λ : Lay} {B : Zn} {ids : List (Nat × Nat)} {ad : Nat → Nat → Nat} {k z : Nat} {w : Nat → Nat → va_E} {pc : Nat} {lv : List (Nat × Value)} {st : List Value} (hO : Ok Γ own cc nL rm Λ B) {i : Fin 4} {j : Nat} {x : Int32} (q : Nat) (hd : decode cc pc = .ok (.iload_n i, 1)) (hi : (i : Nat) = j) (hq : lv[q]? = some (j, .int x)) (h : G Γ ids ad k z w (pc + 1) lv (.int x :: st)) : G Γ ids ad k z w pc lv st := by
  obtain ⟨p, l, e, s, m, args, below, meth, c, Q, rfl, hx, hb, hml, hown, hts, hI, hlk⟩ := hO
  intro H locs ls hP hS hl
  exact lv_iload_n hx hb hd hi (lv_at hl q hq) (h H locs ls hP hS hl)
theorem G_iload {Γ : Cx} {own : String} {cc : ByteArray} {nL : Nat} {rm : Room} {Λ : Lay} {B : Zn} {ids : List (Nat × Nat)} {ad : Nat → Nat → Nat} {k z : Nat} {w : Nat → Nat → va_E} {pc : Nat} {lv : List (Nat × Value)} {st : List Value} (hO : Ok Γ own cc nL rm Λ B) {j : Nat} {x : Int32} (q : Nat) (hd : decode cc pc = .ok (.iload j, 2)) (hq : lv[q]? = some (j, .int x)) (h : G Γ ids ad k z w (pc + 2) lv (.int x :: st)) : G Γ ids ad k z w pc lv st := by
  obtain ⟨p, l, e, s, m, args, below, meth, c, Q, rfl, hx, hb, hml, hown, hts, hI, hlk⟩ := hO
  intro H locs ls hP hS hl
  exact lv_iload hx hb hd (lv_at hl q hq) (h H locs ls hP hS hl)
theorem G_lload_n {Γ : Cx} {own : String} {cc : ByteArray} {nL : Nat} {rm : Room} {Λ : Lay} {B : Zn} {ids : List (Nat × Nat)} {ad : Nat → Nat → Nat} {k z : Nat} {w : Nat → Nat → va_E} {pc : Nat} {lv : List (Nat × Value)} {st : List Value} (hO : Ok Γ own cc nL rm Λ B) {i : Fin 4} {j : Nat} {x : Int64} (q : Nat) (hd : decode cc pc = .ok (.lload_n i, 1)) (hi : (i : Nat) = j) (hq : lv[q]? = some (j, .long x)) (h : G Γ ids ad k z w (pc + 1) lv (.long x :: st)) : G Γ ids ad k z w pc lv st := by
  obtain ⟨p, l, e, s, m, args, below, meth, c, Q, rfl, hx, hb, hml, hown, hts, hI, hlk⟩ := hO
  intro H locs ls hP hS hl
  exact lv_lload_n hx hb hd hi (lv_at hl q hq) (h H locs ls hP hS hl)
theorem G_lload {Γ : Cx} {own : String} {cc : ByteArray} {nL : Nat} {rm : Room} {Λ : Lay} {B : Zn} {ids : List (Nat × Nat)} {ad : Nat → Nat → Nat} {k z : Nat} {w : Nat → Nat → va_E} {pc : Nat} {lv : List (Nat × Value)} {st : List Value} (hO : Ok Γ own cc nL rm Λ B) {j : Nat} {x : Int64} (q : Nat) (hd : decode cc pc = .ok (.lload j, 2)) (hq : lv[q]? = some (j, .long x)) (h : G Γ ids ad k z w (pc + 2) lv (.long x :: st)) : G Γ ids ad k z w pc lv st := by
  obtain ⟨p, l, e, s, m, args, below, meth, c, Q, rfl, hx, hb, hml, hown, hts, hI, hlk⟩ := hO
  intro H locs ls hP hS hl
  exact lv_lload hx hb hd (lv_at hl q hq) (h H locs ls hP hS hl)
theorem G_aload_n {Γ : Cx} {own : String} {cc : ByteArray} {nL : Nat} {rm : Room} {Λ : Lay} {B : Zn} {ids : List (Nat × Nat)} {ad : Nat → Nat → Nat} {k z : Nat} {w : Nat → Nat → va_E} {pc : Nat} {lv : List (Nat × Value)} {st : List Value} (hO : Ok Γ own cc nL rm Λ B) {i : Fin 4} {j : Nat} {x : Nat} (q : Nat) (hd : decode cc pc = .ok (.aload_n i, 1)) (hi : (i : Nat) = j) (hq : lv[q]? = some (j, .ref x)) (h : G Γ ids ad k z w (pc + 1) lv (.ref x :: st)) : G Γ ids ad k z w pc lv st := by
  obtain ⟨p, l, e, s, m, args, below, meth, c, Q, rfl, hx, hb, hml, hown, hts, hI, hlk⟩ := hO
  intro H locs ls hP hS hl
  exact lv_aload_n hx hb hd hi (lv_at hl q hq) (h H locs ls hP hS hl)
theorem G_aload {Γ : Cx} {own : String} {cc : ByteArray} {nL : Nat} {rm : Room} {Λ : Lay} {B : Zn} {ids : List (Nat × Nat)} {ad : Nat → Nat → Nat} {k z : Nat} {w : Nat → Nat → va_E} {pc : Nat} {lv : List (Nat × Value)} {st : List Value} (hO : Ok Γ own cc nL rm Λ B) {j : Nat} {x : Nat} (q : Nat) (hd : decode cc pc = .ok (.aload j, 2)) (hq : lv[q]? = some (j, .ref x)) (h : G Γ ids ad k z w (pc + 2) lv (.ref x :: st)) : G Γ ids ad k z w pc lv st := by
  obtain ⟨p, l, e, s, m, args, below, meth, c, Q, rfl, hx, hb, hml, hown, hts, hI, hlk⟩ := hO
  intro H locs ls hP hS hl
  exact lv_aload hx hb hd (lv_at hl q hq) (h H locs ls hP hS hl)
theorem G_istore_n {Γ : Cx} {own : String} {cc : ByteArray} {nL : Nat} {rm : Room} {Λ : Lay} {B : Zn} {ids : List (Nat × Nat)} {ad : Nat → Nat → Nat} {k z : Nat} {w : Nat → Nat → va_E} {pc : Nat} {lv : List (Nat × Value)} {st : List Value} (hO : Ok Γ own cc nL rm Λ B) {i : Fin 4} {j : Nat} {x : Int32} (lv' : List (Nat × Value)) (hd : decode cc pc = .ok (.istore_n i, 1)) (hi : (i : Nat) = j) (hn : j < nL) (hq : (j, Value.int x) :: lv.filter (fun q => !(q.1 == j) && !(q.1 + 1 == j && q.2.category == 2)) = lv') (h : G Γ ids ad k z w (pc + 1) lv' st) : G Γ ids ad k z w pc lv (.int x :: st) := by
  obtain ⟨p, l, e, s, m, args, below, meth, c, Q, rfl, hx, hb, hml, hown, hts, hI, hlk⟩ := hO
  intro H locs ls hP hS hl
  exact lv_istore_n hx hb hd hi hl hn hq (fun ls' hl' => h H locs ls' hP hS hl')
theorem G_istore {Γ : Cx} {own : String} {cc : ByteArray} {nL : Nat} {rm : Room} {Λ : Lay} {B : Zn} {ids : List (Nat × Nat)} {ad : Nat → Nat → Nat} {k z : Nat} {w : Nat → Nat → va_E} {pc : Nat} {lv : List (Nat × Value)} {st : List Value} (hO : Ok Γ own cc nL rm Λ B) {j : Nat} {x : Int32} (lv' : List (Nat × Value)) (hd : decode cc pc = .ok (.istore j, 2)) (hn : j < nL) (hq : (j, Value.int x) :: lv.filter (fun q => !(q.1 == j) && !(q.1 + 1 == j && q.2.category == 2)) = lv') (h : G Γ ids ad k z w (pc + 2) lv' st) : G Γ ids ad k z w pc lv (.int x :: st) := by
  obtain ⟨p, l, e, s, m, args, below, meth, c, Q, rfl, hx, hb, hml, hown, hts, hI, hlk⟩ := hO
  intro H locs ls hP hS hl
  exact lv_istore hx hb hd hl hn hq (fun ls' hl' => h H locs ls' hP hS hl')
theorem G_lstore_n {Γ : Cx} {own : String} {cc : ByteArray} {nL : Nat} {rm : Room} {Λ : Lay} {B : Zn} {ids : List (Nat × Nat)} {ad : Nat → Nat → Nat} {k z : Nat} {w : Nat → Nat → va_E} {pc : Nat} {lv : List (Nat × Value)} {st : List Value} (hO : Ok Γ own cc nL rm Λ B) {i : Fin 4} {j : Nat} {x : Int64} (lv' : List (Nat × Value)) (hd : decode cc pc = .ok (.lstore_n i, 1)) (hi : (i : Nat) = j) (hn : j + 1 < nL) (hq : (j, Value.long x) :: lv.filter (fun q => !(q.1 == j) && (!(q.1 == j + 1) && !(q.1 + 1 == j && q.2.category == 2))) = lv') (h : G Γ ids ad k z w (pc + 1) lv' st) : G Γ ids ad k z w pc lv (.long x :: st) := by
  obtain ⟨p, l, e, s, m, args, below, meth, c, Q, rfl, hx, hb, hml, hown, hts, hI, hlk⟩ := hO
  intro H locs ls hP hS hl
  exact lv_lstore_n hx hb hd hi hl hn hq (fun ls' hl' => h H locs ls' hP hS hl')
theorem G_lstore {Γ : Cx} {own : String} {cc : ByteArray} {nL : Nat} {rm : Room} {Λ : Lay} {B : Zn} {ids : List (Nat × Nat)} {ad : Nat → Nat → Nat} {k z : Nat} {w : Nat → Nat → va_E} {pc : Nat} {lv : List (Nat × Value)} {st : List Value} (hO : Ok Γ own cc nL rm Λ B) {j : Nat} {x : Int64} (lv' : List (Nat × Value)) (hd : decode cc pc = .ok (.lstore j, 2)) (hn : j + 1 < nL) (hq : (j, Value.long x) :: lv.filter (fun q => !(q.1 == j) && (!(q.1 == j + 1) && !(q.1 + 1 == j && q.2.category == 2))) = lv') (h : G Γ ids ad k z w (pc + 2) lv' st) : G Γ ids ad k z w pc lv (.long x :: st) := by
  obtain ⟨p, l, e, s, m, args, below, meth, c, Q, rfl, hx, hb, hml, hown, hts, hI, hlk⟩ := hO
  intro H locs ls hP hS hl
  exact lv_lstore hx hb hd hl hn hq (fun ls' hl' => h H locs ls' hP hS hl')
theorem G_astore_n {Γ : Cx} {own : String} {cc : ByteArray} {nL : Nat} {rm : Room} {Λ : Lay} {B : Zn} {ids : List (Nat × Nat)} {ad : Nat → Nat → Nat} {k z : Nat} {w : Nat → Nat → va_E} {pc : Nat} {lv : List (Nat × Value)} {st : List Value} (hO : Ok Γ own cc nL rm Λ B) {i : Fin 4} {j : Nat} {x : Nat} (lv' : List (Nat × Value)) (hd : decode cc pc = .ok (.astore_n i, 1)) (hi : (i : Nat) = j) (hn : j < nL) (hq : (j, Value.ref x) :: lv.filter (fun q => !(q.1 == j) && !(q.1 + 1 == j && q.2.category == 2)) = lv') (h : G Γ ids ad k z w (pc + 1) lv' st) : G Γ ids ad k z w pc lv (.ref x :: st) := by
  obtain ⟨p, l, e, s, m, args, below, meth, c, Q, rfl, hx, hb, hml, hown, hts, hI, hlk⟩ := hO
  intro H locs ls hP hS hl
  exact lv_astore_n hx hb hd hi hl hn hq (fun ls' hl' => h H locs ls' hP hS hl')
theorem G_astore {Γ : Cx} {own : String} {cc : ByteArray} {nL : Nat} {rm : Room} {Λ : Lay} {B : Zn} {ids : List (Nat × Nat)} {ad : Nat → Nat → Nat} {k z : Nat} {w : Nat → Nat → va_E} {pc : Nat} {lv : List (Nat × Value)} {st : List Value} (hO : Ok Γ own cc nL rm Λ B) {j : Nat} {x : Nat} (lv' : List (Nat × Value)) (hd : decode cc pc = .ok (.astore j, 2)) (hn : j < nL) (hq : (j, Value.ref x) :: lv.filter (fun q => !(q.1 == j) && !(q.1 + 1 == j && q.2.category == 2)) = lv') (h : G Γ ids ad k z w (pc + 2) lv' st) : G Γ ids ad k z w pc lv (.ref x :: st) := by
  obtain ⟨p, l, e, s, m, args, below, meth, c, Q, rfl, hx, hb, hml, hown, hts, hI, hlk⟩ := hO
  intro H locs ls hP hS hl
  exact lv_astore hx hb hd hl hn hq (fun ls' hl' => h H locs ls' hP hS hl')
theorem G_iinc {Γ : Cx} {own : String} {cc : ByteArray} {nL : Nat} {rm : Room} {Λ : Lay} {B : Zn} {ids : List (Nat × Nat)} {ad : Nat → Nat → Nat} {k z : Nat} {w : Nat → Nat → va_E} {pc : Nat} {lv : List (Nat × Value)} {st : List Value} (hO : Ok Γ own cc nL rm Λ B) {j : Nat} {n : Int} {x : Int32} (q : Nat) (v : Int32) (lv' : List (Nat × Value)) (hd : decode cc pc = .ok (.iinc j n, 3)) (hq : lv[q]? = some (j, .int x)) (hv : x + Int32.ofInt n = v) (hn : j < nL) (hl' : (j, Value.int v) :: lv.filter (fun q => !(q.1 == j) && !(q.1 + 1 == j && q.2.category == 2)) = lv') (h : G Γ ids ad k z w (pc + 3) lv' st) : G Γ ids ad k z w pc lv st := by
  obtain ⟨p, l, e, s, m, args, below, meth, c, Q, rfl, hx, hb, hml, hown, hts, hI, hlk⟩ := hO
  intro H locs ls hP hS hl
  exact lv_iinc hx hb hd hl hq hv hn hl' (fun ls' hl' => h H locs ls' hP hS hl')
theorem G_lv {Γ : Cx} {own : String} {cc : ByteArray} {nL : Nat} {rm : Room} {Λ : Lay} {B : Zn} {ids : List (Nat × Nat)} {ad : Nat → Nat → Nat} {k z : Nat} {w : Nat → Nat → va_E} {pc : Nat} {lv : List (Nat × Value)} {st : List Value} (hO : Ok Γ own cc nL rm Λ B) (lv' : List (Nat × Value)) (ks : List Nat) (hk : lv_pick lv ks = lv') (h : G Γ ids ad k z w pc lv' st) : G Γ ids ad k z w pc lv st := by
  obtain ⟨p, l, e, s, m, args, below, meth, c, Q, rfl, hx, hb, hml, hown, hts, hI, hlk⟩ := hO
  intro H locs ls hP hS hl
  exact h H locs ls hP hS (lv_sub hl ks hk)
theorem G_widen {Γ : Cx} {own : String} {cc : ByteArray} {nL : Nat} {rm : Room} {Λ : Lay} {B : Zn} {ids : List (Nat × Nat)} {ad : Nat → Nat → Nat} {k z : Nat} {w : Nat → Nat → va_E} {pc : Nat} {lv : List (Nat × Value)} {st : List Value} (hO : Ok Γ own cc nL rm Λ B) {k' z' : Nat} (hk : k ≤ k') (hz : z ≤ z') (h : G Γ ids ad k' z' w pc lv st) : G Γ ids ad k z w pc lv st := by
  obtain ⟨p, l, e, s, m, args, below, meth, c, Q, rfl, hx, hb, hml, hown, hts, hI, hlk⟩ := hO
  intro H locs ls hP hS hl
  exact W.widen hk hz (h H locs ls hP hS hl)
theorem G_iadd {Γ : Cx} {own : String} {cc : ByteArray} {nL : Nat} {rm : Room} {Λ : Lay} {B : Zn} {ids : List (Nat × Nat)} {ad : Nat → Nat → Nat} {k z : Nat} {w : Nat → Nat → va_E} {pc : Nat} {lv : List (Nat × Value)} {st : List Value} (hO : Ok Γ own cc nL rm Λ B) {x y : Int32} (hd : decode cc pc = .ok (.iadd, 1)) (h : G Γ ids ad k z w (pc + 1) lv (.int (x + y) :: st)) : G Γ ids ad k z w pc lv (.int y :: .int x :: st) := by
  obtain ⟨p, l, e, s, m, args, below, meth, c, Q, rfl, hx, hb, hml, hown, hts, hI, hlk⟩ := hO
  intro H locs ls hP hS hl
  exact lv_iadd hx hb hd (h H locs ls hP hS hl)
theorem G_isub {Γ : Cx} {own : String} {cc : ByteArray} {nL : Nat} {rm : Room} {Λ : Lay} {B : Zn} {ids : List (Nat × Nat)} {ad : Nat → Nat → Nat} {k z : Nat} {w : Nat → Nat → va_E} {pc : Nat} {lv : List (Nat × Value)} {st : List Value} (hO : Ok Γ own cc nL rm Λ B) {x y : Int32} (hd : decode cc pc = .ok (.isub, 1)) (h : G Γ ids ad k z w (pc + 1) lv (.int (x - y) :: st)) : G Γ ids ad k z w pc lv (.int y :: .int x :: st) := by
  obtain ⟨p, l, e, s, m, args, below, meth, c, Q, rfl, hx, hb, hml, hown, hts, hI, hlk⟩ := hO
  intro H locs ls hP hS hl
  exact lv_isub hx hb hd (h H locs ls hP hS hl)
theorem G_imul {Γ : Cx} {own : String} {cc : ByteArray} {nL : Nat} {rm : Room} {Λ : Lay} {B : Zn} {ids : List (Nat × Nat)} {ad : Nat → Nat → Nat} {k z : Nat} {w : Nat → Nat → va_E} {pc : Nat} {lv : List (Nat × Value)} {st : List Value} (hO : Ok Γ own cc nL rm Λ B) {x y : Int32} (hd : decode cc pc = .ok (.imul, 1)) (h : G Γ ids ad k z w (pc + 1) lv (.int (x * y) :: st)) : G Γ ids ad k z w pc lv (.int y :: .int x :: st) := by
  obtain ⟨p, l, e, s, m, args, below, meth, c, Q, rfl, hx, hb, hml, hown, hts, hI, hlk⟩ := hO
  intro H locs ls hP hS hl
  exact lv_imul hx hb hd (h H locs ls hP hS hl)
theorem G_iand {Γ : Cx} {own : String} {cc : ByteArray} {nL : Nat} {rm : Room} {Λ : Lay} {B : Zn} {ids : List (Nat × Nat)} {ad : Nat → Nat → Nat} {k z : Nat} {w : Nat → Nat → va_E} {pc : Nat} {lv : List (Nat × Value)} {st : List Value} (hO : Ok Γ own cc nL rm Λ B) {x y : Int32} (hd : decode cc pc = .ok (.iand, 1)) (h : G Γ ids ad k z w (pc + 1) lv (.int (x &&& y) :: st)) : G Γ ids ad k z w pc lv (.int y :: .int x :: st) := by
  obtain ⟨p, l, e, s, m, args, below, meth, c, Q, rfl, hx, hb, hml, hown, hts, hI, hlk⟩ := hO
  intro H locs ls hP hS hl
  exact lv_iand hx hb hd (h H locs ls hP hS hl)
theorem G_ior {Γ : Cx} {own : String} {cc : ByteArray} {nL : Nat} {rm : Room} {Λ : Lay} {B : Zn} {ids : List (Nat × Nat)} {ad : Nat → Nat → Nat} {k z : Nat} {w : Nat → Nat → va_E} {pc : Nat} {lv : List (Nat × Value)} {st : List Value} (hO : Ok Γ own cc nL rm Λ B) {x y : Int32} (hd : decode cc pc = .ok (.ior, 1)) (h : G Γ ids ad k z w (pc + 1) lv (.int (x ||| y) :: st)) : G Γ ids ad k z w pc lv (.int y :: .int x :: st) := by
  obtain ⟨p, l, e, s, m, args, below, meth, c, Q, rfl, hx, hb, hml, hown, hts, hI, hlk⟩ := hO
  intro H locs ls hP hS hl
  exact lv_ior hx hb hd (h H locs ls hP hS hl)
theorem G_ixor {Γ : Cx} {own : String} {cc : ByteArray} {nL : Nat} {rm : Room} {Λ : Lay} {B : Zn} {ids : List (Nat × Nat)} {ad : Nat → Nat → Nat} {k z : Nat} {w : Nat → Nat → va_E} {pc : Nat} {lv : List (Nat × Value)} {st : List Value} (hO : Ok Γ own cc nL rm Λ B) {x y : Int32} (hd : decode cc pc = .ok (.ixor, 1)) (h : G Γ ids ad k z w (pc + 1) lv (.int (x ^^^ y) :: st)) : G Γ ids ad k z w pc lv (.int y :: .int x :: st) := by
  obtain ⟨p, l, e, s, m, args, below, meth, c, Q, rfl, hx, hb, hml, hown, hts, hI, hlk⟩ := hO
  intro H locs ls hP hS hl
  exact lv_ixor hx hb hd (h H locs ls hP hS hl)
theorem G_ladd {Γ : Cx} {own : String} {cc : ByteArray} {nL : Nat} {rm : Room} {Λ : Lay} {B : Zn} {ids : List (Nat × Nat)} {ad : Nat → Nat → Nat} {k z : Nat} {w : Nat → Nat → va_E} {pc : Nat} {lv : List (Nat × Value)} {st : List Value} (hO : Ok Γ own cc nL rm Λ B) {x y : Int64} (hd : decode cc pc = .ok (.ladd, 1)) (h : G Γ ids ad k z w (pc + 1) lv (.long (x + y) :: st)) : G Γ ids ad k z w pc lv (.long y :: .long x :: st) := by
  obtain ⟨p, l, e, s, m, args, below, meth, c, Q, rfl, hx, hb, hml, hown, hts, hI, hlk⟩ := hO
  intro H locs ls hP hS hl
  exact lv_ladd hx hb hd (h H locs ls hP hS hl)
theorem G_lsub {Γ : Cx} {own : String} {cc : ByteArray} {nL : Nat} {rm : Room} {Λ : Lay} {B : Zn} {ids : List (Nat × Nat)} {ad : Nat → Nat → Nat} {k z : Nat} {w : Nat → Nat → va_E} {pc : Nat} {lv : List (Nat × Value)} {st : List Value} (hO : Ok Γ own cc nL rm Λ B) {x y : Int64} (hd : decode cc pc = .ok (.lsub, 1)) (h : G Γ ids ad k z w (pc + 1) lv (.long (x - y) :: st)) : G Γ ids ad k z w pc lv (.long y :: .long x :: st) := by
  obtain ⟨p, l, e, s, m, args, below, meth, c, Q, rfl, hx, hb, hml, hown, hts, hI, hlk⟩ := hO
  intro H locs ls hP hS hl
  exact lv_lsub hx hb hd (h H locs ls hP hS hl)
theorem G_lmul {Γ : Cx} {own : String} {cc : ByteArray} {nL : Nat} {rm : Room} {Λ : Lay} {B : Zn} {ids : List (Nat × Nat)} {ad : Nat → Nat → Nat} {k z : Nat} {w : Nat → Nat → va_E} {pc : Nat} {lv : List (Nat × Value)} {st : List Value} (hO : Ok Γ own cc nL rm Λ B) {x y : Int64} (hd : decode cc pc = .ok (.lmul, 1)) (h : G Γ ids ad k z w (pc + 1) lv (.long (x * y) :: st)) : G Γ ids ad k z w pc lv (.long y :: .long x :: st) := by
  obtain ⟨p, l, e, s, m, args, below, meth, c, Q, rfl, hx, hb, hml, hown, hts, hI, hlk⟩ := hO
  intro H locs ls hP hS hl
  exact lv_lmul hx hb hd (h H locs ls hP hS hl)
theorem G_land {Γ : Cx} {own : String} {cc : ByteArray} {nL : Nat} {rm : Room} {Λ : Lay} {B : Zn} {ids : List (Nat × Nat)} {ad : Nat → Nat → Nat} {k z : Nat} {w : Nat → Nat → va_E} {pc : Nat} {lv : List (Nat × Value)} {st : List Value} (hO : Ok Γ own cc nL rm Λ B) {x y : Int64} (hd : decode cc pc = .ok (.land, 1)) (h : G Γ ids ad k z w (pc + 1) lv (.long (x &&& y) :: st)) : G Γ ids ad k z w pc lv (.long y :: .long x :: st) := by
  obtain ⟨p, l, e, s, m, args, below, meth, c, Q, rfl, hx, hb, hml, hown, hts, hI, hlk⟩ := hO
  intro H locs ls hP hS hl
  exact lv_land hx hb hd (h H locs ls hP hS hl)
theorem G_lor {Γ : Cx} {own : String} {cc : ByteArray} {nL : Nat} {rm : Room} {Λ : Lay} {B : Zn} {ids : List (Nat × Nat)} {ad : Nat → Nat → Nat} {k z : Nat} {w : Nat → Nat → va_E} {pc : Nat} {lv : List (Nat × Value)} {st : List Value} (hO : Ok Γ own cc nL rm Λ B) {x y : Int64} (hd : decode cc pc = .ok (.lor, 1)) (h : G Γ ids ad k z w (pc + 1) lv (.long (x ||| y) :: st)) : G Γ ids ad k z w pc lv (.long y :: .long x :: st) := by
  obtain ⟨p, l, e, s, m, args, below, meth, c, Q, rfl, hx, hb, hml, hown, hts, hI, hlk⟩ := hO
  intro H locs ls hP hS hl
  exact lv_lor hx hb hd (h H locs ls hP hS hl)
theorem G_idiv {Γ : Cx} {own : String} {cc : ByteArray} {nL : Nat} {rm : Room} {Λ : Lay} {B : Zn} {ids : List (Nat × Nat)} {ad : Nat → Nat → Nat} {k z : Nat} {w : Nat → Nat → va_E} {pc : Nat} {lv : List (Nat × Value)} {st : List Value} (hO : Ok Γ own cc nL rm Λ B) {x y : Int32} (hd : decode cc pc = .ok (.idiv, 1)) (hne : ¬ y = 0) (h : G Γ ids ad k z w (pc + 1) lv (.int (x / y) :: st)) : G Γ ids ad k z w pc lv (.int y :: .int x :: st) := by
  obtain ⟨p, l, e, s, m, args, below, meth, c, Q, rfl, hx, hb, hml, hown, hts, hI, hlk⟩ := hO
  intro H locs ls hP hS hl
  exact lv_idiv hx hb hd hne (h H locs ls hP hS hl)
theorem G_irem {Γ : Cx} {own : String} {cc : ByteArray} {nL : Nat} {rm : Room} {Λ : Lay} {B : Zn} {ids : List (Nat × Nat)} {ad : Nat → Nat → Nat} {k z : Nat} {w : Nat → Nat → va_E} {pc : Nat} {lv : List (Nat × Value)} {st : List Value} (hO : Ok Γ own cc nL rm Λ B) {x y : Int32} (hd : decode cc pc = .ok (.irem, 1)) (hne : ¬ y = 0) (h : G Γ ids ad k z w (pc + 1) lv (.int (x - x / y * y) :: st)) : G Γ ids ad k z w pc lv (.int y :: .int x :: st) := by
  obtain ⟨p, l, e, s, m, args, below, meth, c, Q, rfl, hx, hb, hml, hown, hts, hI, hlk⟩ := hO
  intro H locs ls hP hS hl
  exact lv_irem hx hb hd hne (h H locs ls hP hS hl)
theorem G_ldiv {Γ : Cx} {own : String} {cc : ByteArray} {nL : Nat} {rm : Room} {Λ : Lay} {B : Zn} {ids : List (Nat × Nat)} {ad : Nat → Nat → Nat} {k z : Nat} {w : Nat → Nat → va_E} {pc : Nat} {lv : List (Nat × Value)} {st : List Value} (hO : Ok Γ own cc nL rm Λ B) {x y : Int64} (hd : decode cc pc = .ok (.ldiv, 1)) (hne : ¬ y = 0) (h : G Γ ids ad k z w (pc + 1) lv (.long (x / y) :: st)) : G Γ ids ad k z w pc lv (.long y :: .long x :: st) := by
  obtain ⟨p, l, e, s, m, args, below, meth, c, Q, rfl, hx, hb, hml, hown, hts, hI, hlk⟩ := hO
  intro H locs ls hP hS hl
  exact lv_ldiv hx hb hd hne (h H locs ls hP hS hl)
theorem G_lrem {Γ : Cx} {own : String} {cc : ByteArray} {nL : Nat} {rm : Room} {Λ : Lay} {B : Zn} {ids : List (Nat × Nat)} {ad : Nat → Nat → Nat} {k z : Nat} {w : Nat → Nat → va_E} {pc : Nat} {lv : List (Nat × Value)} {st : List Value} (hO : Ok Γ own cc nL rm Λ B) {x y : Int64} (hd : decode cc pc = .ok (.lrem, 1)) (hne : ¬ y = 0) (h : G Γ ids ad k z w (pc + 1) lv (.long (x - x / y * y) :: st)) : G Γ ids ad k z w pc lv (.long y :: .long x :: st) := by
  obtain ⟨p, l, e, s, m, args, below, meth, c, Q, rfl, hx, hb, hml, hown, hts, hI, hlk⟩ := hO
  intro H locs ls hP hS hl
  exact lv_lrem hx hb hd hne (h H locs ls hP hS hl)
theorem G_ineg {Γ : Cx} {own : String} {cc : ByteArray} {nL : Nat} {rm : Room} {Λ : Lay} {B : Zn} {ids : List (Nat × Nat)} {ad : Nat → Nat → Nat} {k z : Nat} {w : Nat → Nat → va_E} {pc : Nat} {lv : List (Nat × Value)} {st : List Value} (hO : Ok Γ own cc nL rm Λ B) {x : Int32} (hd : decode cc pc = .ok (.ineg, 1)) (h : G Γ ids ad k z w (pc + 1) lv (.int (-x) :: st)) : G Γ ids ad k z w pc lv (.int x :: st) := by
  obtain ⟨p, l, e, s, m, args, below, meth, c, Q, rfl, hx, hb, hml, hown, hts, hI, hlk⟩ := hO
  intro H locs ls hP hS hl
  exact lv_ineg hx hb hd (h H locs ls hP hS hl)
theorem G_i2l {Γ : Cx} {own : String} {cc : ByteArray} {nL : Nat} {rm : Room} {Λ : Lay} {B : Zn} {ids : List (Nat × Nat)} {ad : Nat → Nat → Nat} {k z : Nat} {w : Nat → Nat → va_E} {pc : Nat} {lv : List (Nat × Value)} {st : List Value} (hO : Ok Γ own cc nL rm Λ B) {x : Int32} (hd : decode cc pc = .ok (.i2l, 1)) (h : G Γ ids ad k z w (pc + 1) lv (.long x.toInt64 :: st)) : G Γ ids ad k z w pc lv (.int x :: st) := by
  obtain ⟨p, l, e, s, m, args, below, meth, c, Q, rfl, hx, hb, hml, hown, hts, hI, hlk⟩ := hO
  intro H locs ls hP hS hl
  exact lv_i2l hx hb hd rfl (h H locs ls hP hS hl)
theorem G_l2i {Γ : Cx} {own : String} {cc : ByteArray} {nL : Nat} {rm : Room} {Λ : Lay} {B : Zn} {ids : List (Nat × Nat)} {ad : Nat → Nat → Nat} {k z : Nat} {w : Nat → Nat → va_E} {pc : Nat} {lv : List (Nat × Value)} {st : List Value} (hO : Ok Γ own cc nL rm Λ B) {x : Int64} (hd : decode cc pc = .ok (.l2i, 1)) (h : G Γ ids ad k z w (pc + 1) lv (.int x.toInt32 :: st)) : G Γ ids ad k z w pc lv (.long x :: st) := by
  obtain ⟨p, l, e, s, m, args, below, meth, c, Q, rfl, hx, hb, hml, hown, hts, hI, hlk⟩ := hO
  intro H locs ls hP hS hl
  exact lv_l2i hx hb hd rfl (h H locs ls hP hS hl)
theorem G_i2c {Γ : Cx} {own : String} {cc : ByteArray} {nL : Nat} {rm : Room} {Λ : Lay} {B : Zn} {ids : List (Nat × Nat)} {ad : Nat → Nat → Nat} {k z : Nat} {w : Nat → Nat → va_E} {pc : Nat} {lv : List (Nat × Value)} {st : List Value} (hO : Ok Γ own cc nL rm Λ B) {x : Int32} (hd : decode cc pc = .ok (.i2c, 1)) (h : G Γ ids ad k z w (pc + 1) lv (.int (x.toUInt32 % 65536).toInt32 :: st)) : G Γ ids ad k z w pc lv (.int x :: st) := by
  obtain ⟨p, l, e, s, m, args, below, meth, c, Q, rfl, hx, hb, hml, hown, hts, hI, hlk⟩ := hO
  intro H locs ls hP hS hl
  exact lv_i2c hx hb hd rfl (h H locs ls hP hS hl)
theorem G_ishl {Γ : Cx} {own : String} {cc : ByteArray} {nL : Nat} {rm : Room} {Λ : Lay} {B : Zn} {ids : List (Nat × Nat)} {ad : Nat → Nat → Nat} {k z : Nat} {w : Nat → Nat → va_E} {pc : Nat} {lv : List (Nat × Value)} {st : List Value} (hO : Ok Γ own cc nL rm Λ B) {x y : Int32} (hd : decode cc pc = .ok (.ishl, 1)) (h : G Γ ids ad k z w (pc + 1) lv (.int (x <<< (y &&& 31)) :: st)) : G Γ ids ad k z w pc lv (.int y :: .int x :: st) := by
  obtain ⟨p, l, e, s, m, args, below, meth, c, Q, rfl, hx, hb, hml, hown, hts, hI, hlk⟩ := hO
  intro H locs ls hP hS hl
  exact lv_ishl hx hb hd (h H locs ls hP hS hl)
theorem G_lshl {Γ : Cx} {own : String} {cc : ByteArray} {nL : Nat} {rm : Room} {Λ : Lay} {B : Zn} {ids : List (Nat × Nat)} {ad : Nat → Nat → Nat} {k z : Nat} {w : Nat → Nat → va_E} {pc : Nat} {lv : List (Nat × Value)} {st : List Value} (hO : Ok Γ own cc nL rm Λ B) {x : Int64} {y : Int32} (hd : decode cc pc = .ok (.lshl, 1)) (h : G Γ ids ad k z w (pc + 1) lv (.long (x <<< (y.toInt64 &&& 63)) :: st)) : G Γ ids ad k z w pc lv (.int y :: .long x :: st) := by
  obtain ⟨p, l, e, s, m, args, below, meth, c, Q, rfl, hx, hb, hml, hown, hts, hI, hlk⟩ := hO
  intro H locs ls hP hS hl
  exact lv_lshl hx hb hd rfl (h H locs ls hP hS hl)
theorem G_lushr {Γ : Cx} {own : String} {cc : ByteArray} {nL : Nat} {rm : Room} {Λ : Lay} {B : Zn} {ids : List (Nat × Nat)} {ad : Nat → Nat → Nat} {k z : Nat} {w : Nat → Nat → va_E} {pc : Nat} {lv : List (Nat × Value)} {st : List Value} (hO : Ok Γ own cc nL rm Λ B) {x : Int64} {y : Int32} (hd : decode cc pc = .ok (.lushr, 1)) (h : G Γ ids ad k z w (pc + 1) lv (.long (x.toUInt64 >>> (y.toInt64.toUInt64 &&& Int64.toUInt64 63)).toInt64 :: st)) : G Γ ids ad k z w pc lv (.int y :: .long x :: st) := by
  obtain ⟨p, l, e, s, m, args, below, meth, c, Q, rfl, hx, hb, hml, hown, hts, hI, hlk⟩ := hO
  intro H locs ls hP hS hl
  exact lv_lushr hx hb hd rfl (h H locs ls hP hS hl)
theorem G_dup {Γ : Cx} {own : String} {cc : ByteArray} {nL : Nat} {rm : Room} {Λ : Lay} {B : Zn} {ids : List (Nat × Nat)} {ad : Nat → Nat → Nat} {k z : Nat} {w : Nat → Nat → va_E} {pc : Nat} {lv : List (Nat × Value)} {st : List Value} (hO : Ok Γ own cc nL rm Λ B) {va : Value} (hd : decode cc pc = .ok (.dup, 1)) (hva : va.category = 1) (h : G Γ ids ad k z w (pc + 1) lv (va :: va :: st)) : G Γ ids ad k z w pc lv (va :: st) := by
  obtain ⟨p, l, e, s, m, args, below, meth, c, Q, rfl, hx, hb, hml, hown, hts, hI, hlk⟩ := hO
  intro H locs ls hP hS hl
  exact lv_dup hx hb hd hva (h H locs ls hP hS hl)
theorem G_pop {Γ : Cx} {own : String} {cc : ByteArray} {nL : Nat} {rm : Room} {Λ : Lay} {B : Zn} {ids : List (Nat × Nat)} {ad : Nat → Nat → Nat} {k z : Nat} {w : Nat → Nat → va_E} {pc : Nat} {lv : List (Nat × Value)} {st : List Value} (hO : Ok Γ own cc nL rm Λ B) {va : Value} (hd : decode cc pc = .ok (.pop, 1)) (hva : va.category = 1) (h : G Γ ids ad k z w (pc + 1) lv (st)) : G Γ ids ad k z w pc lv (va :: st) := by
  obtain ⟨p, l, e, s, m, args, below, meth, c, Q, rfl, hx, hb, hml, hown, hts, hI, hlk⟩ := hO
  intro H locs ls hP hS hl
  exact lv_pop hx hb hd hva (h H locs ls hP hS hl)
theorem G_dup2 {Γ : Cx} {own : String} {cc : ByteArray} {nL : Nat} {rm : Room} {Λ : Lay} {B : Zn} {ids : List (Nat × Nat)} {ad : Nat → Nat → Nat} {k z : Nat} {w : Nat → Nat → va_E} {pc : Nat} {lv : List (Nat × Value)} {st : List Value} (hO : Ok Γ own cc nL rm Λ B) {va vb : Value} (hd : decode cc pc = .ok (.dup2, 1)) (hva : va.category = 1) (hvb : vb.category = 1) (h : G Γ ids ad k z w (pc + 1) lv (va :: vb :: va :: vb :: st)) : G Γ ids ad k z w pc lv (va :: vb :: st) := by
  obtain ⟨p, l, e, s, m, args, below, meth, c, Q, rfl, hx, hb, hml, hown, hts, hI, hlk⟩ := hO
  intro H locs ls hP hS hl
  exact lv_dup2_11 hx hb hd hva hvb (h H locs ls hP hS hl)
theorem G_lcmp {Γ : Cx} {own : String} {cc : ByteArray} {nL : Nat} {rm : Room} {Λ : Lay} {B : Zn} {ids : List (Nat × Nat)} {ad : Nat → Nat → Nat} {k z : Nat} {w : Nat → Nat → va_E} {pc : Nat} {lv : List (Nat × Value)} {st : List Value} (hO : Ok Γ own cc nL rm Λ B) {x y : Int64} (hd : decode cc pc = .ok (.lcmp, 1)) (h : G Γ ids ad k z w (pc + 1) lv (.int (lg_cmp x y) :: st)) : G Γ ids ad k z w pc lv (.long y :: .long x :: st) := by
  obtain ⟨p, l, e, s, m, args, below, meth, c, Q, rfl, hx, hb, hml, hown, hts, hI, hlk⟩ := hO
  intro H locs ls hP hS hl
  refine W.lcmp hx hb hd ?_
  exact h H locs ls hP hS hl
theorem G_if_eq {Γ : Cx} {own : String} {cc : ByteArray} {nL : Nat} {rm : Room} {Λ : Lay} {B : Zn} {ids : List (Nat × Nat)} {ad : Nat → Nat → Nat} {k z : Nat} {w : Nat → Nat → va_E} {pc : Nat} {lv : List (Nat × Value)} {st : List Value} (hO : Ok Γ own cc nL rm Λ B) {x : Int32} {off : Int} (tgt : Nat) (hd : decode cc pc = .ok (.ifCond .eq off, 3)) (ht : (pc : Int) + off = (tgt : Int)) (kt : x = 0 → G Γ ids ad k z w tgt lv st) (kf : ¬ x = 0 → G Γ ids ad k z w (pc + 3) lv st) : G Γ ids ad k z w pc lv (.int x :: st) := by
  obtain ⟨p, l, e, s, m, args, below, meth, c, Q, rfl, hx, hb, hml, hown, hts, hI, hlk⟩ := hO
  intro H locs ls hP hS hl
  exact lv_if_eq hx hb hd ht (fun q => kt q H locs ls hP hS hl) (fun q => kf q H locs ls hP hS hl)
theorem G_if_ne {Γ : Cx} {own : String} {cc : ByteArray} {nL : Nat} {rm : Room} {Λ : Lay} {B : Zn} {ids : List (Nat × Nat)} {ad : Nat → Nat → Nat} {k z : Nat} {w : Nat → Nat → va_E} {pc : Nat} {lv : List (Nat × Value)} {st : List Value} (hO : Ok Γ own cc nL rm Λ B) {x : Int32} {off : Int} (tgt : Nat) (hd : decode cc pc = .ok (.ifCond .ne off, 3)) (ht : (pc : Int) + off = (tgt : Int)) (kt : ¬ x = 0 → G Γ ids ad k z w tgt lv st) (kf : x = 0 → G Γ ids ad k z w (pc + 3) lv st) : G Γ ids ad k z w pc lv (.int x :: st) := by
  obtain ⟨p, l, e, s, m, args, below, meth, c, Q, rfl, hx, hb, hml, hown, hts, hI, hlk⟩ := hO
  intro H locs ls hP hS hl
  exact lv_if_ne hx hb hd ht (fun q => kt q H locs ls hP hS hl) (fun q => kf q H locs ls hP hS hl)
theorem G_if_lt {Γ : Cx} {own : String} {cc : ByteArray} {nL : Nat} {rm : Room} {Λ : Lay} {B : Zn} {ids : List (Nat × Nat)} {ad : Nat → Nat → Nat} {k z : Nat} {w : Nat → Nat → va_E} {pc : Nat} {lv : List (Nat × Value)} {st : List Value} (hO : Ok Γ own cc nL rm Λ B) {x : Int32} {off : Int} (tgt : Nat) (hd : decode cc pc = .ok (.ifCond .lt off, 3)) (ht : (pc : Int) + off = (tgt : Int)) (kt : x < 0 → G Γ ids ad k z w tgt lv st) (kf : ¬ x < 0 → G Γ ids ad k z w (pc + 3) lv st) : G Γ ids ad k z w pc lv (.int x :: st) := by
  obtain ⟨p, l, e, s, m, args, below, meth, c, Q, rfl, hx, hb, hml, hown, hts, hI, hlk⟩ := hO
  intro H locs ls hP hS hl
  exact lv_if_lt hx hb hd ht (fun q => kt q H locs ls hP hS hl) (fun q => kf q H locs ls hP hS hl)
theorem G_if_ge {Γ : Cx} {own : String} {cc : ByteArray} {nL : Nat} {rm : Room} {Λ : Lay} {B : Zn} {ids : List (Nat × Nat)} {ad : Nat → Nat → Nat} {k z : Nat} {w : Nat → Nat → va_E} {pc : Nat} {lv : List (Nat × Value)} {st : List Value} (hO : Ok Γ own cc nL rm Λ B) {x : Int32} {off : Int} (tgt : Nat) (hd : decode cc pc = .ok (.ifCond .ge off, 3)) (ht : (pc : Int) + off = (tgt : Int)) (kt : 0 ≤ x → G Γ ids ad k z w tgt lv st) (kf : ¬ 0 ≤ x → G Γ ids ad k z w (pc + 3) lv st) : G Γ ids ad k z w pc lv (.int x :: st) := by
  obtain ⟨p, l, e, s, m, args, below, meth, c, Q, rfl, hx, hb, hml, hown, hts, hI, hlk⟩ := hO
  intro H locs ls hP hS hl
  exact lv_if_ge hx hb hd ht (fun q => kt q H locs ls hP hS hl) (fun q => kf q H locs ls hP hS hl)
theorem G_if_gt {Γ : Cx} {own : String} {cc : ByteArray} {nL : Nat} {rm : Room} {Λ : Lay} {B : Zn} {ids : List (Nat × Nat)} {ad : Nat → Nat → Nat} {k z : Nat} {w : Nat → Nat → va_E} {pc : Nat} {lv : List (Nat × Value)} {st : List Value} (hO : Ok Γ own cc nL rm Λ B) {x : Int32} {off : Int} (tgt : Nat) (hd : decode cc pc = .ok (.ifCond .gt off, 3)) (ht : (pc : Int) + off = (tgt : Int)) (kt : 0 < x → G Γ ids ad k z w tgt lv st) (kf : ¬ 0 < x → G Γ ids ad k z w (pc + 3) lv st) : G Γ ids ad k z w pc lv (.int x :: st) := by
  obtain ⟨p, l, e, s, m, args, below, meth, c, Q, rfl, hx, hb, hml, hown, hts, hI, hlk⟩ := hO
  intro H locs ls hP hS hl
  exact lv_if_gt hx hb hd ht (fun q => kt q H locs ls hP hS hl) (fun q => kf q H locs ls hP hS hl)
theorem G_if_le {Γ : Cx} {own : String} {cc : ByteArray} {nL : Nat} {rm : Room} {Λ : Lay} {B : Zn} {ids : List (Nat × Nat)} {ad : Nat → Nat → Nat} {k z : Nat} {w : Nat → Nat → va_E} {pc : Nat} {lv : List (Nat × Value)} {st : List Value} (hO : Ok Γ own cc nL rm Λ B) {x : Int32} {off : Int} (tgt : Nat) (hd : decode cc pc = .ok (.ifCond .le off, 3)) (ht : (pc : Int) + off = (tgt : Int)) (kt : x ≤ 0 → G Γ ids ad k z w tgt lv st) (kf : ¬ x ≤ 0 → G Γ ids ad k z w (pc + 3) lv st) : G Γ ids ad k z w pc lv (.int x :: st) := by
  obtain ⟨p, l, e, s, m, args, below, meth, c, Q, rfl, hx, hb, hml, hown, hts, hI, hlk⟩ := hO
  intro H locs ls hP hS hl
  exact lv_if_le hx hb hd ht (fun q => kt q H locs ls hP hS hl) (fun q => kf q H locs ls hP hS hl)
theorem G_icmp_eq {Γ : Cx} {own : String} {cc : ByteArray} {nL : Nat} {rm : Room} {Λ : Lay} {B : Zn} {ids : List (Nat × Nat)} {ad : Nat → Nat → Nat} {k z : Nat} {w : Nat → Nat → va_E} {pc : Nat} {lv : List (Nat × Value)} {st : List Value} (hO : Ok Γ own cc nL rm Λ B) {x y : Int32} {off : Int} (tgt : Nat) (hd : decode cc pc = .ok (.if_icmp .eq off, 3)) (ht : (pc : Int) + off = (tgt : Int)) (kt : x = y → G Γ ids ad k z w tgt lv st) (kf : ¬ x = y → G Γ ids ad k z w (pc + 3) lv st) : G Γ ids ad k z w pc lv (.int y :: .int x :: st) := by
  obtain ⟨p, l, e, s, m, args, below, meth, c, Q, rfl, hx, hb, hml, hown, hts, hI, hlk⟩ := hO
  intro H locs ls hP hS hl
  exact lv_icmp_eq hx hb hd ht (fun q => kt q H locs ls hP hS hl) (fun q => kf q H locs ls hP hS hl)
theorem G_icmp_ne {Γ : Cx} {own : String} {cc : ByteArray} {nL : Nat} {rm : Room} {Λ : Lay} {B : Zn} {ids : List (Nat × Nat)} {ad : Nat → Nat → Nat} {k z : Nat} {w : Nat → Nat → va_E} {pc : Nat} {lv : List (Nat × Value)} {st : List Value} (hO : Ok Γ own cc nL rm Λ B) {x y : Int32} {off : Int} (tgt : Nat) (hd : decode cc pc = .ok (.if_icmp .ne off, 3)) (ht : (pc : Int) + off = (tgt : Int)) (kt : ¬ x = y → G Γ ids ad k z w tgt lv st) (kf : x = y → G Γ ids ad k z w (pc + 3) lv st) : G Γ ids ad k z w pc lv (.int y :: .int x :: st) := by
  obtain ⟨p, l, e, s, m, args, below, meth, c, Q, rfl, hx, hb, hml, hown, hts, hI, hlk⟩ := hO
  intro H locs ls hP hS hl
  exact lv_icmp_ne hx hb hd ht (fun q => kt q H locs ls hP hS hl) (fun q => kf q H locs ls hP hS hl)
theorem G_icmp_lt {Γ : Cx} {own : String} {cc : ByteArray} {nL : Nat} {rm : Room} {Λ : Lay} {B : Zn} {ids : List (Nat × Nat)} {ad : Nat → Nat → Nat} {k z : Nat} {w : Nat → Nat → va_E} {pc : Nat} {lv : List (Nat × Value)} {st : List Value} (hO : Ok Γ own cc nL rm Λ B) {x y : Int32} {off : Int} (tgt : Nat) (hd : decode cc pc = .ok (.if_icmp .lt off, 3)) (ht : (pc : Int) + off = (tgt : Int)) (kt : x < y → G Γ ids ad k z w tgt lv st) (kf : ¬ x < y → G Γ ids ad k z w (pc + 3) lv st) : G Γ ids ad k z w pc lv (.int y :: .int x :: st) := by
  obtain ⟨p, l, e, s, m, args, below, meth, c, Q, rfl, hx, hb, hml, hown, hts, hI, hlk⟩ := hO
  intro H locs ls hP hS hl
  exact lv_icmp_lt hx hb hd ht (fun q => kt q H locs ls hP hS hl) (fun q => kf q H locs ls hP hS hl)
theorem G_icmp_ge {Γ : Cx} {own : String} {cc : ByteArray} {nL : Nat} {rm : Room} {Λ : Lay} {B : Zn} {ids : List (Nat × Nat)} {ad : Nat → Nat → Nat} {k z : Nat} {w : Nat → Nat → va_E} {pc : Nat} {lv : List (Nat × Value)} {st : List Value} (hO : Ok Γ own cc nL rm Λ B) {x y : Int32} {off : Int} (tgt : Nat) (hd : decode cc pc = .ok (.if_icmp .ge off, 3)) (ht : (pc : Int) + off = (tgt : Int)) (kt : y ≤ x → G Γ ids ad k z w tgt lv st) (kf : ¬ y ≤ x → G Γ ids ad k z w (pc + 3) lv st) : G Γ ids ad k z w pc lv (.int y :: .int x :: st) := by
  obtain ⟨p, l, e, s, m, args, below, meth, c, Q, rfl, hx, hb, hml, hown, hts, hI, hlk⟩ := hO
  intro H locs ls hP hS hl
  exact lv_icmp_ge hx hb hd ht (fun q => kt q H locs ls hP hS hl) (fun q => kf q H locs ls hP hS hl)
theorem G_icmp_gt {Γ : Cx} {own : String} {cc : ByteArray} {nL : Nat} {rm : Room} {Λ : Lay} {B : Zn} {ids : List (Nat × Nat)} {ad : Nat → Nat → Nat} {k z : Nat} {w : Nat → Nat → va_E} {pc : Nat} {lv : List (Nat × Value)} {st : List Value} (hO : Ok Γ own cc nL rm Λ B) {x y : Int32} {off : Int} (tgt : Nat) (hd : decode cc pc = .ok (.if_icmp .gt off, 3)) (ht : (pc : Int) + off = (tgt : Int)) (kt : y < x → G Γ ids ad k z w tgt lv st) (kf : ¬ y < x → G Γ ids ad k z w (pc + 3) lv st) : G Γ ids ad k z w pc lv (.int y :: .int x :: st) := by
  obtain ⟨p, l, e, s, m, args, below, meth, c, Q, rfl, hx, hb, hml, hown, hts, hI, hlk⟩ := hO
  intro H locs ls hP hS hl
  exact lv_icmp_gt hx hb hd ht (fun q => kt q H locs ls hP hS hl) (fun q => kf q H locs ls hP hS hl)
theorem G_icmp_le {Γ : Cx} {own : String} {cc : ByteArray} {nL : Nat} {rm : Room} {Λ : Lay} {B : Zn} {ids : List (Nat × Nat)} {ad : Nat → Nat → Nat} {k z : Nat} {w : Nat → Nat → va_E} {pc : Nat} {lv : List (Nat × Value)} {st : List Value} (hO : Ok Γ own cc nL rm Λ B) {x y : Int32} {off : Int} (tgt : Nat) (hd : decode cc pc = .ok (.if_icmp .le off, 3)) (ht : (pc : Int) + off = (tgt : Int)) (kt : x ≤ y → G Γ ids ad k z w tgt lv st) (kf : ¬ x ≤ y → G Γ ids ad k z w (pc + 3) lv st) : G Γ ids ad k z w pc lv (.int y :: .int x :: st) := by
  obtain ⟨p, l, e, s, m, args, below, meth, c, Q, rfl, hx, hb, hml, hown, hts, hI, hlk⟩ := hO
  intro H locs ls hP hS hl
  exact lv_icmp_le hx hb hd ht (fun q => kt q H locs ls hP hS hl) (fun q => kf q H locs ls hP hS hl)
theorem G_goto {Γ : Cx} {own : String} {cc : ByteArray} {nL : Nat} {rm : Room} {Λ : Lay} {B : Zn} {ids : List (Nat × Nat)} {ad : Nat → Nat → Nat} {k z : Nat} {w : Nat → Nat → va_E} {pc : Nat} {lv : List (Nat × Value)} {st : List Value} (hO : Ok Γ own cc nL rm Λ B) {off : Int} (tgt : Nat) (hd : decode cc pc = .ok (.goto off, 3)) (ht : (pc : Int) + off = (tgt : Int)) (h : G Γ ids ad k z w tgt lv st) : G Γ ids ad k z w pc lv st := by
  obtain ⟨p, l, e, s, m, args, below, meth, c, Q, rfl, hx, hb, hml, hown, hts, hI, hlk⟩ := hO
  intro H locs ls hP hS hl
  exact lv_goto hx hb hd ht (h H locs ls hP hS hl)
theorem G_tableOut {Γ : Cx} {own : String} {cc : ByteArray} {nL : Nat} {rm : Room} {Λ : Lay} {B : Zn} {ids : List (Nat × Nat)} {ad : Nat → Nat → Nat} {k z : Nat} {w : Nat → Nat → va_E} {pc : Nat} {lv : List (Nat × Value)} {st : List Value} (hO : Ok Γ own cc nL rm Λ B) {dflt lo hi : Int} {offs : Array Int} {len : Nat} {x : Int32} (tgt : Nat) (hd : decode cc pc = .ok (.tableswitch dflt lo hi offs, len)) (hx0 : x.toInt < lo ∨ hi < x.toInt) (ht : (pc : Int) + dflt = (tgt : Int)) (h : G Γ ids ad k z w tgt lv st) : G Γ ids ad k z w pc lv (.int x :: st) := by
  obtain ⟨p, l, e, s, m, args, below, meth, c, Q, rfl, hx, hb, hml, hown, hts, hI, hlk⟩ := hO
  intro H locs ls hP hS hl
  exact lv_tableOut hx hb hd hx0 ht (h H locs ls hP hS hl)
theorem G_tableIn {Γ : Cx} {own : String} {cc : ByteArray} {nL : Nat} {rm : Room} {Λ : Lay} {B : Zn} {ids : List (Nat × Nat)} {ad : Nat → Nat → Nat} {k z : Nat} {w : Nat → Nat → va_E} {pc : Nat} {lv : List (Nat × Value)} {st : List Value} (hO : Ok Γ own cc nL rm Λ B) {dflt lo hi : Int} {offs : Array Int} {len : Nat} {x : Int32} {off : Int} (tgt : Nat) (hd : decode cc pc = .ok (.tableswitch dflt lo hi offs, len)) (h1 : ¬ x.toInt < lo) (h2 : ¬ hi < x.toInt) (ho : offs[(x.toInt - lo).toNat]? = some off) (ht : (pc : Int) + off = (tgt : Int)) (h : G Γ ids ad k z w tgt lv st) : G Γ ids ad k z w pc lv (.int x :: st) := by
  obtain ⟨p, l, e, s, m, args, below, meth, c, Q, rfl, hx, hb, hml, hown, hts, hI, hlk⟩ := hO
  intro H locs ls hP hS hl
  exact lv_tableIn hx hb hd h1 h2 ho ht (h H locs ls hP hS hl)
theorem G_ldc {Γ : Cx} {own : String} {cc : ByteArray} {nL : Nat} {rm : Room} {Λ : Lay} {B : Zn} {ids : List (Nat × Nat)} {ad : Nat → Nat → Nat} {k z : Nat} {w : Nat → Nat → va_E} {pc : Nat} {lv : List (Nat × Value)} {st : List Value} (hO : Ok Γ own cc nL rm Λ B) {index : Nat} {v : Int32} (hw : Cond.constant own index v ∈ UW) (hd : decode cc pc = .ok (.ldc index, 2)) (h : G Γ ids ad k z w (pc + 2) lv (.int v :: st)) : G Γ ids ad k z w pc lv st := by
  obtain ⟨p, l, e, s, m, args, below, meth, c, Q, rfl, hx, hb, hml, hown, hts, hI, hlk⟩ := hO
  intro H locs ls hP hS hl
  exact lv_ldc hx hb hown (hts _ hw) hd (h H locs ls hP hS hl)
theorem G_ldcw {Γ : Cx} {own : String} {cc : ByteArray} {nL : Nat} {rm : Room} {Λ : Lay} {B : Zn} {ids : List (Nat × Nat)} {ad : Nat → Nat → Nat} {k z : Nat} {w : Nat → Nat → va_E} {pc : Nat} {lv : List (Nat × Value)} {st : List Value} (hO : Ok Γ own cc nL rm Λ B) {index : Nat} {v : Int32} (hw : Cond.constant own index v ∈ UW) (hd : decode cc pc = .ok (.ldc_w index, 3)) (h : G Γ ids ad k z w (pc + 3) lv (.int v :: st)) : G Γ ids ad k z w pc lv st := by
  obtain ⟨p, l, e, s, m, args, below, meth, c, Q, rfl, hx, hb, hml, hown, hts, hI, hlk⟩ := hO
  intro H locs ls hP hS hl
  exact lv_ldcw hx hb hown (hts _ hw) hd (h H locs ls hP hS hl)
theorem G_ldc2 {Γ : Cx} {own : String} {cc : ByteArray} {nL : Nat} {rm : Room} {Λ : Lay} {B : Zn} {ids : List (Nat × Nat)} {ad : Nat → Nat → Nat} {k z : Nat} {w : Nat → Nat → va_E} {pc : Nat} {lv : List (Nat × Value)} {st : List Value} (hO : Ok Γ own cc nL rm Λ B) {index : Nat} {v : Int64} (hw : Cond.constantLong own index v ∈ UW) (hd : decode cc pc = .ok (.ldc2_w index, 3)) (h : G Γ ids ad k z w (pc + 3) lv (.long v :: st)) : G Γ ids ad k z w pc lv st := by
  obtain ⟨p, l, e, s, m, args, below, meth, c, Q, rfl, hx, hb, hml, hown, hts, hI, hlk⟩ := hO
  intro H locs ls hP hS hl
  exact lv_ldc2 hx hb hown (hts _ hw) hd (h H locs ls hP hS hl)
/-- what a class's fields stand on -/
def Cl (ci : Nat) (C : String) (T : u_T) (N : Nat) (ty : Nat → FieldType) : Prop := vwCl[ci]? = some (C, T, N) ∧ (∀ w ∈ u_ws C T N, w ∈ UW) ∧ (∀ k, k < N → parseFieldDescriptor (T k).2.2.1 = some (ty k)) ∧ (∀ a, a < N → ∀ b, b < N → a ≠ b → (T a).2.1 ≠ (T b).2.1)
theorem cl0 : Cl 0 RX0 TX0 2 tyX0 := ⟨rfl, by decide +kernel, tyX0_ok, nmX0⟩
theorem cl1 : Cl 1 RX1 TX1 4 tyX1 := ⟨rfl, by decide +kernel, tyX1_ok, nmX1⟩
theorem cl2 : Cl 2 RX2 TX2 7 tyX2 := ⟨rfl, by decide +kernel, tyX2_ok, nmX2⟩
theorem cl3 : Cl 3 RX3 TX3 14 tyX3 := ⟨rfl, by decide +kernel, tyX3_ok, nmX3⟩
theorem cl4 : Cl 4 RX4 TX4 3 tyX4 := ⟨rfl, by decide +kernel, tyX4_ok, nmX4⟩
theorem cl5 : Cl 5 RX5 TX5 7 tyX5 := ⟨rfl, by decide +kernel, tyX5_ok, nmX5⟩

theorem G_getf {Γ : Cx} {own : String} {cc : ByteArray} {nL : Nat} {rm : Room} {Λ : Lay} {B : Zn} {ids : List (Nat × Nat)} {ad : Nat → Nat → Nat} {k z : Nat} {w : Nat → Nat → va_E} {pc : Nat} {lv : List (Nat × Value)} {st : List Value} (hO : Ok Γ own cc nL rm Λ B) {ci : Nat} {C : String} {T : u_T} {N : Nat} {ty : Nat → FieldType} (hc : Cl ci C T N ty) {i j index : Nat} {fs : List Value} {v : Value} {ref : String} (f : Nat) (hid : (i, j) ∈ ids) (hw : w i j = .inr (ci, fs)) (hf : f < N) (hl0 : Cond.fieldLink own index ref (T f).2.1 (T f).2.2.1 ∈ UW) (hr : ref = (T f).1) (hv : fs[f]? = some v) (hd : decode cc pc = .ok (.getfield index, 3)) (h : G Γ ids ad k z w (pc + 3) lv (v :: st)) : G Γ ids ad k z w pc lv (.ref (ad i j) :: st) := by
  obtain ⟨p, l, e, s, m, args, below, meth, c, Q, rfl, hx, hb, hml, hown, hts, hI, hlk⟩ := hO
  intro H locs ls hP hS hl
  obtain ⟨q, hq, -⟩ := hP.at hid hw
  subst hr
  exact va_get hx hb hts hc.2.1 hown hI.1 hP.1 q hq hc.1 f hf (hts _ hl0) (fun _ h9 => h9) hv hd (h H locs ls hP hS hl)
theorem G_putf {Γ : Cx} {own : String} {cc : ByteArray} {nL : Nat} {rm : Room} {Λ : Lay} {B : Zn} {ids : List (Nat × Nat)} {ad : Nat → Nat → Nat} {k z : Nat} {w : Nat → Nat → va_E} {pc : Nat} {lv : List (Nat × Value)} {st : List Value} (hO : Ok Γ own cc nL rm Λ B) {ci : Nat} {C : String} {T : u_T} {N : Nat} {ty : Nat → FieldType} (hc : Cl ci C T N ty) {i j index : Nat} {fs : List Value} {v : Value} {ref : String} (f : Nat) (hid : (i, j) ∈ ids) (hw : w i j = .inr (ci, fs)) (hf : f < N) (hl0 : Cond.fieldLink own index ref (T f).2.1 (T f).2.2.1 ∈ UW) (hr : ref = (T f).1) (hfin : (T f).2.2.2 = false) (hn : narrow (ty f) v = v) (hfit : fits (ty f) v = true) (hlen : f < fs.length) (hd : decode cc pc = .ok (.putfield index, 3)) (h : G Γ ids ad k z (up2 w i j (.inr (ci, fs.set f v))) (pc + 3) lv st) : G Γ ids ad k z w pc lv (v :: .ref (ad i j) :: st) := by
  obtain ⟨p, l, e, s, m, args, below, meth, c, Q, rfl, hx, hb, hml, hown, hts, hI, hlk⟩ := hO
  intro H locs ls hP hS hl
  obtain ⟨q, hq, hset⟩ := hP.at hid hw
  subst hr
  refine va_put hx hb hts hc.2.1 ty hc.2.2.1 hc.2.2.2 hown hI.1 hP.1 hP.2 hS q hq hc.1 f hf (hts _ hl0) (fun _ h9 => h9) hfin (hc.2.2.1 f hf) hn hfit hlen hd (fun H1 locs1 hP1 hD1 hS1 => ?_)
  rw [hset] at hP1 hD1
  exact h H1 locs1 ls ⟨hP1, hD1⟩ hS1 hl
theorem G_iald {Γ : Cx} {own : String} {cc : ByteArray} {nL : Nat} {rm : Room} {Λ : Lay} {B : Zn} {ids : List (Nat × Nat)} {ad : Nat → Nat → Nat} {k z : Nat} {w : Nat → Nat → va_E} {pc : Nat} {lv : List (Nat × Value)} {st : List Value} (hO : Ok Γ own cc nL rm Λ B) {i j n : Nat} {f : Nat → Int32} {x : Int32} (hid : (i, j) ∈ ids) (hw : w i j = .inl (Λ.2.1 0, n, .inl f)) (hin : vp_in x n) (hd : decode cc pc = .ok (.iaload, 1)) (h : G Γ ids ad k z w (pc + 1) lv (.int (f x.toNatClampNeg) :: st)) : G Γ ids ad k z w pc lv (.int x :: .ref (ad i j) :: st) := by
  obtain ⟨p, l, e, s, m, args, below, meth, c, Q, rfl, hx, hb, hml, hown, hts, hI, hlk⟩ := hO
  intro H locs ls hP hS hl
  obtain ⟨q, hq, -⟩ := hP.at hid hw
  exact va_iald hx hb hI.1 hP.1 q 0 hq rfl hin hd (h H locs ls hP hS hl)
theorem G_cald {Γ : Cx} {own : String} {cc : ByteArray} {nL : Nat} {rm : Room} {Λ : Lay} {B : Zn} {ids : List (Nat × Nat)} {ad : Nat → Nat → Nat} {k z : Nat} {w : Nat → Nat → va_E} {pc : Nat} {lv : List (Nat × Value)} {st : List Value} (hO : Ok Γ own cc nL rm Λ B) {i j n : Nat} {f : Nat → Int32} {x : Int32} (hid : (i, j) ∈ ids) (hw : w i j = .inl (Λ.2.1 1, n, .inl f)) (hin : vp_in x n) (hd : decode cc pc = .ok (.caload, 1)) (h : G Γ ids ad k z w (pc + 1) lv (.int (f x.toNatClampNeg) :: st)) : G Γ ids ad k z w pc lv (.int x :: .ref (ad i j) :: st) := by
  obtain ⟨p, l, e, s, m, args, below, meth, c, Q, rfl, hx, hb, hml, hown, hts, hI, hlk⟩ := hO
  intro H locs ls hP hS hl
  obtain ⟨q, hq, -⟩ := hP.at hid hw
  exact va_cald hx hb hI.1 hP.1 q 1 hq rfl hin hd (h H locs ls hP hS hl)
theorem G_zald {Γ : Cx} {own : String} {cc : ByteArray} {nL : Nat} {rm : Room} {Λ : Lay} {B : Zn} {ids : List (Nat × Nat)} {ad : Nat → Nat → Nat} {k z : Nat} {w : Nat → Nat → va_E} {pc : Nat} {lv : List (Nat × Value)} {st : List Value} (hO : Ok Γ own cc nL rm Λ B) {i j n : Nat} {f : Nat → Int32} {x : Int32} (hid : (i, j) ∈ ids) (hw : w i j = .inl (Λ.2.1 2, n, .inl f)) (hin : vp_in x n) (hd : decode cc pc = .ok (.baload, 1)) (h : G Γ ids ad k z w (pc + 1) lv (.int (f x.toNatClampNeg) :: st)) : G Γ ids ad k z w pc lv (.int x :: .ref (ad i j) :: st) := by
  obtain ⟨p, l, e, s, m, args, below, meth, c, Q, rfl, hx, hb, hml, hown, hts, hI, hlk⟩ := hO
  intro H locs ls hP hS hl
  obtain ⟨q, hq, -⟩ := hP.at hid hw
  exact va_zald hx hb hI.1 hP.1 q 2 hq rfl hin hd (h H locs ls hP hS hl)
theorem G_iast {Γ : Cx} {own : String} {cc : ByteArray} {nL : Nat} {rm : Room} {Λ : Lay} {B : Zn} {ids : List (Nat × Nat)} {ad : Nat → Nat → Nat} {k z : Nat} {w : Nat → Nat → va_E} {pc : Nat} {lv : List (Nat × Value)} {st : List Value} (hO : Ok Γ own cc nL rm Λ B) {i j n : Nat} {f : Nat → Int32} {x y : Int32} (hid : (i, j) ∈ ids) (hw : w i j = .inl (Λ.2.1 0, n, .inl f)) (hin : vp_in y n) (hd : decode cc pc = .ok (.iastore, 1)) (h : G Γ ids ad k z (up2 w i j (.inl (Λ.2.1 0, n, .inl (upd f y.toNatClampNeg x)))) (pc + 1) lv st) : G Γ ids ad k z w pc lv (.int x :: .int y :: .ref (ad i j) :: st) := by
  obtain ⟨p, l, e, s, m, args, below, meth, c, Q, rfl, hx, hb, hml, hown, hts, hI, hlk⟩ := hO
  intro H locs ls hP hS hl
  obtain ⟨q, hq, hset⟩ := hP.at hid hw
  refine va_iast hx hb hI.1 hP.1 hP.2 hS q 0 hq rfl hin hd (fun H1 locs1 hP1 hD1 hS1 => ?_)
  rw [hset] at hP1 hD1
  exact h H1 locs1 ls ⟨hP1, hD1⟩ hS1 hl
theorem G_cast {Γ : Cx} {own : String} {cc : ByteArray} {nL : Nat} {rm : Room} {Λ : Lay} {B : Zn} {ids : List (Nat × Nat)} {ad : Nat → Nat → Nat} {k z : Nat} {w : Nat → Nat → va_E} {pc : Nat} {lv : List (Nat × Value)} {st : List Value} (hO : Ok Γ own cc nL rm Λ B) {i j n : Nat} {f : Nat → Int32} {x y : Int32} (hid : (i, j) ∈ ids) (hw : w i j = .inl (Λ.2.1 1, n, .inl f)) (hin : vp_in y n) (hd : decode cc pc = .ok (.castore, 1)) (h : G Γ ids ad k z (up2 w i j (.inl (Λ.2.1 1, n, .inl (upd f y.toNatClampNeg (vp_nar .char x))))) (pc + 1) lv st) : G Γ ids ad k z w pc lv (.int x :: .int y :: .ref (ad i j) :: st) := by
  obtain ⟨p, l, e, s, m, args, below, meth, c, Q, rfl, hx, hb, hml, hown, hts, hI, hlk⟩ := hO
  intro H locs ls hP hS hl
  obtain ⟨q, hq, hset⟩ := hP.at hid hw
  refine va_cast hx hb hI.1 hP.1 hP.2 hS q 1 hq rfl hin hd (fun H1 locs1 hP1 hD1 hS1 => ?_)
  rw [hset] at hP1 hD1
  exact h H1 locs1 ls ⟨hP1, hD1⟩ hS1 hl
theorem G_zast {Γ : Cx} {own : String} {cc : ByteArray} {nL : Nat} {rm : Room} {Λ : Lay} {B : Zn} {ids : List (Nat × Nat)} {ad : Nat → Nat → Nat} {k z : Nat} {w : Nat → Nat → va_E} {pc : Nat} {lv : List (Nat × Value)} {st : List Value} (hO : Ok Γ own cc nL rm Λ B) {i j n : Nat} {f : Nat → Int32} {x y : Int32} (hid : (i, j) ∈ ids) (hw : w i j = .inl (Λ.2.1 2, n, .inl f)) (hin : vp_in y n) (hd : decode cc pc = .ok (.bastore, 1)) (h : G Γ ids ad k z (up2 w i j (.inl (Λ.2.1 2, n, .inl (upd f y.toNatClampNeg (vp_nar .boolean x))))) (pc + 1) lv st) : G Γ ids ad k z w pc lv (.int x :: .int y :: .ref (ad i j) :: st) := by
  obtain ⟨p, l, e, s, m, args, below, meth, c, Q, rfl, hx, hb, hml, hown, hts, hI, hlk⟩ := hO
  intro H locs ls hP hS hl
  obtain ⟨q, hq, hset⟩ := hP.at hid hw
  refine va_zast hx hb hI.1 hP.1 hP.2 hS q 2 hq rfl hin hd (fun H1 locs1 hP1 hD1 hS1 => ?_)
  rw [hset] at hP1 hD1
  exact h H1 locs1 ls ⟨hP1, hD1⟩ hS1 hl
theorem G_aaldS {Γ : Cx} {own : String} {cc : ByteArray} {nL : Nat} {rm : Room} {Λ : Lay} {B : Zn} {ids : List (Nat × Nat)} {ad : Nat → Nat → Nat} {k z : Nat} {w : Nat → Nat → va_E} {pc : Nat} {lv : List (Nat × Value)} {st : List Value} (hO : Ok Γ own cc nL rm Λ B) {i j n : Nat} {f : Nat → Option Nat} {x : Int32} {v : Value} (hid : (i, j) ∈ ids) (hw : w i j = .inl (Λ.2.1 4, n, .inr (.inr (.inr (.inr f))))) (hin : vp_in x n) (hv : va_rf (f x.toNatClampNeg) = v) (hd : decode cc pc = .ok (.aaload, 1)) (h : G Γ ids ad k z w (pc + 1) lv (v :: st)) : G Γ ids ad k z w pc lv (.int x :: .ref (ad i j) :: st) := by
  obtain ⟨p, l, e, s, m, args, below, meth, c, Q, rfl, hx, hb, hml, hown, hts, hI, hlk⟩ := hO
  intro H locs ls hP hS hl
  obtain ⟨q, hq, -⟩ := hP.at hid hw
  subst hv
  exact va_aldq (C := RX3) hx hb hI.1 hP.1 q 4 hq rfl hin hd (h H locs ls hP hS hl)
theorem G_aastS {Γ : Cx} {own : String} {cc : ByteArray} {nL : Nat} {rm : Room} {Λ : Lay} {B : Zn} {ids : List (Nat × Nat)} {ad : Nat → Nat → Nat} {k z : Nat} {w : Nat → Nat → va_E} {pc : Nat} {lv : List (Nat × Value)} {st : List Value} (hO : Ok Γ own cc nL rm Λ B) {i j n a b : Nat} {f : Nat → Option Nat} {y : Int32} {vs : List Value} (hid : (i, j) ∈ ids) (hw : w i j = .inl (Λ.2.1 4, n, .inr (.inr (.inr (.inr f))))) (hid2 : (a, b) ∈ ids) (hw2 : w a b = .inr (3, vs)) (hin : vp_in y n) (hd : decode cc pc = .ok (.aastore, 1)) (h : G Γ ids ad k z (up2 w i j (.inl (Λ.2.1 4, n, .inr (.inr (.inr (.inr (va_up f y.toNatClampNeg (some (ad a b)))))))) ) (pc + 1) lv st) : G Γ ids ad k z w pc lv (.ref (ad a b) :: .int y :: .ref (ad i j) :: st) := by
  obtain ⟨p, l, e, s, m, args, below, meth, c, Q, rfl, hx, hb, hml, hown, hts, hI, hlk⟩ := hO
  intro H locs ls hP hS hl
  obtain ⟨q, hq, hset⟩ := hP.at hid hw
  obtain ⟨q2, hq2, -⟩ := hP.at hid2 hw2
  refine va_astq hx hb hI.1 hP.1 hP.2 hS q 4 q2 3 (r := (RX3, TX3, 14)) hq rfl hq2 rfl hin hd (fun H1 locs1 hP1 hD1 hS1 => ?_)
  rw [hset] at hP1 hD1
  exact h H1 locs1 ls ⟨hP1, hD1⟩ hS1 hl
theorem G_aaldR {Γ : Cx} {own : String} {cc : ByteArray} {nL : Nat} {rm : Room} {Λ : Lay} {B : Zn} {ids : List (Nat × Nat)} {ad : Nat → Nat → Nat} {k z : Nat} {w : Nat → Nat → va_E} {pc : Nat} {lv : List (Nat × Value)} {st : List Value} (hO : Ok Γ own cc nL rm Λ B) {i j n : Nat} {f : Nat → Option Nat} {x : Int32} {v : Value} (hid : (i, j) ∈ ids) (hw : w i j = .inl (Λ.2.1 5, n, .inr (.inr (.inr (.inr f))))) (hin : vp_in x n) (hv : va_rf (f x.toNatClampNeg) = v) (hd : decode cc pc = .ok (.aaload, 1)) (h : G Γ ids ad k z w (pc + 1) lv (v :: st)) : G Γ ids ad k z w pc lv (.int x :: .ref (ad i j) :: st) := by
  obtain ⟨p, l, e, s, m, args, below, meth, c, Q, rfl, hx, hb, hml, hown, hts, hI, hlk⟩ := hO
  intro H locs ls hP hS hl
  obtain ⟨q, hq, -⟩ := hP.at hid hw
  subst hv
  exact va_aldq (C := RX2) hx hb hI.1 hP.1 q 5 hq rfl hin hd (h H locs ls hP hS hl)
theorem G_aastR {Γ : Cx} {own : String} {cc : ByteArray} {nL : Nat} {rm : Room} {Λ : Lay} {B : Zn} {ids : List (Nat × Nat)} {ad : Nat → Nat → Nat} {k z : Nat} {w : Nat → Nat → va_E} {pc : Nat} {lv : List (Nat × Value)} {st : List Value} (hO : Ok Γ own cc nL rm Λ B) {i j n a b : Nat} {f : Nat → Option Nat} {y : Int32} {vs : List Value} (hid : (i, j) ∈ ids) (hw : w i j = .inl (Λ.2.1 5, n, .inr (.inr (.inr (.inr f))))) (hid2 : (a, b) ∈ ids) (hw2 : w a b = .inr (2, vs)) (hin : vp_in y n) (hd : decode cc pc = .ok (.aastore, 1)) (h : G Γ ids ad k z (up2 w i j (.inl (Λ.2.1 5, n, .inr (.inr (.inr (.inr (va_up f y.toNatClampNeg (some (ad a b)))))))) ) (pc + 1) lv st) : G Γ ids ad k z w pc lv (.ref (ad a b) :: .int y :: .ref (ad i j) :: st) := by
  obtain ⟨p, l, e, s, m, args, below, meth, c, Q, rfl, hx, hb, hml, hown, hts, hI, hlk⟩ := hO
  intro H locs ls hP hS hl
  obtain ⟨q, hq, hset⟩ := hP.at hid hw
  obtain ⟨q2, hq2, -⟩ := hP.at hid2 hw2
  refine va_astq hx hb hI.1 hP.1 hP.2 hS q 5 q2 2 (r := (RX2, TX2, 7)) hq rfl hq2 rfl hin hd (fun H1 locs1 hP1 hD1 hS1 => ?_)
  rw [hset] at hP1 hD1
  exact h H1 locs1 ls ⟨hP1, hD1⟩ hS1 hl
theorem G_alen {Γ : Cx} {own : String} {cc : ByteArray} {nL : Nat} {rm : Room} {Λ : Lay} {B : Zn} {ids : List (Nat × Nat)} {ad : Nat → Nat → Nat} {k z : Nat} {w : Nat → Nat → va_E} {pc : Nat} {lv : List (Nat × Value)} {st : List Value} (hO : Ok Γ own cc nL rm Λ B) {i j : Nat} {a : vp_A} {ty : FieldType} {cA : ClassId} {v : Int32} (t0 : Nat) (hid : (i, j) ∈ ids) (hw : w i j = .inl (cA, a)) (ht : (gtys Λ)[t0]? = some (cA, ty)) (hv : Int32.ofNat a.1 = v) (hd : decode cc pc = .ok (.arraylength, 1)) (h : G Γ ids ad k z w (pc + 1) lv (.int v :: st)) : G Γ ids ad k z w pc lv (.ref (ad i j) :: st) := by
  obtain ⟨p, l, e, s, m, args, below, meth, c, Q, rfl, hx, hb, hml, hown, hts, hI, hlk⟩ := hO
  intro H locs ls hP hS hl
  obtain ⟨q, hq, -⟩ := hP.at hid hw
  exact va_alen hx hb hI.1 hP.1 q t0 hq ht hv hd (h H locs ls hP hS hl)
theorem G_gets0 {Γ : Cx} {own : String} {cc : ByteArray} {nL : Nat} {rm : Room} {Λ : Lay} {B : Zn} {ids : List (Nat × Nat)} {ad : Nat → Nat → Nat} {k z : Nat} {w : Nat → Nat → va_E} {pc : Nat} {lv : List (Nat × Value)} {st : List Value} (hO : Ok Γ own cc nL rm Λ B) {index : Nat} (hw : Cond.fieldLink own index RX5 "FIRST_SETTINGS" "[I" ∈ UW) (hd : decode cc pc = .ok (.getstatic index, 3)) (h : G Γ ids ad k z w (pc + 3) lv (.ref (Λ.2.2.1 0) :: st)) : G Γ ids ad k z w pc lv st := by
  obtain ⟨p, l, e, s, m, args, below, meth, c, Q, rfl, hx, hb, hml, hown, hts, hI, hlk⟩ := hO
  intro H locs ls hP hS hl
  exact va_gets hx hb hI.2.1.1.1 hS hown (hts _ hw) (fun _ h9 => h9) hd (h H locs ls hP hS hl)
theorem G_sald0 {Γ : Cx} {own : String} {cc : ByteArray} {nL : Nat} {rm : Room} {Λ : Lay} {B : Zn} {ids : List (Nat × Nat)} {ad : Nat → Nat → Nat} {k z : Nat} {w : Nat → Nat → va_E} {pc : Nat} {lv : List (Nat × Value)} {st : List Value} (hO : Ok Γ own cc nL rm Λ B) {x : Int32} (hin : vp_in x 9) (hd : decode cc pc = .ok (.iaload, 1)) (h : G Γ ids ad k z w (pc + 1) lv (.int (sv0 x.toNatClampNeg) :: st)) : G Γ ids ad k z w pc lv (.int x :: .ref (Λ.2.2.1 0) :: st) := by
  obtain ⟨p, l, e, s, m, args, below, meth, c, Q, rfl, hx, hb, hml, hown, hts, hI, hlk⟩ := hO
  intro H locs ls hP hS hl
  exact va_ti hx hb hI.2.1.1.2 hS hin rfl hd (h H locs ls hP hS hl)
theorem G_slen0 {Γ : Cx} {own : String} {cc : ByteArray} {nL : Nat} {rm : Room} {Λ : Lay} {B : Zn} {ids : List (Nat × Nat)} {ad : Nat → Nat → Nat} {k z : Nat} {w : Nat → Nat → va_E} {pc : Nat} {lv : List (Nat × Value)} {st : List Value} (hO : Ok Γ own cc nL rm Λ B) (hd : decode cc pc = .ok (.arraylength, 1)) (h : G Γ ids ad k z w (pc + 1) lv (.int 9 :: st)) : G Γ ids ad k z w pc lv (.ref (Λ.2.2.1 0) :: st) := by
  obtain ⟨p, l, e, s, m, args, below, meth, c, Q, rfl, hx, hb, hml, hown, hts, hI, hlk⟩ := hO
  intro H locs ls hP hS hl
  exact va_tlen hx hb hI.2.1.1.2 hS rfl hd (h H locs ls hP hS hl)
theorem G_gets1 {Γ : Cx} {own : String} {cc : ByteArray} {nL : Nat} {rm : Room} {Λ : Lay} {B : Zn} {ids : List (Nat × Nat)} {ad : Nat → Nat → Nat} {k z : Nat} {w : Nat → Nat → va_E} {pc : Nat} {lv : List (Nat × Value)} {st : List Value} (hO : Ok Γ own cc nL rm Λ B) {index : Nat} (hw : Cond.fieldLink own index RX5 "LOWEST_SETTINGS" "[I" ∈ UW) (hd : decode cc pc = .ok (.getstatic index, 3)) (h : G Γ ids ad k z w (pc + 3) lv (.ref (Λ.2.2.1 1) :: st)) : G Γ ids ad k z w pc lv st := by
  obtain ⟨p, l, e, s, m, args, below, meth, c, Q, rfl, hx, hb, hml, hown, hts, hI, hlk⟩ := hO
  intro H locs ls hP hS hl
  exact va_gets hx hb hI.2.1.2.1.1 hS hown (hts _ hw) (fun _ h9 => h9) hd (h H locs ls hP hS hl)
theorem G_sald1 {Γ : Cx} {own : String} {cc : ByteArray} {nL : Nat} {rm : Room} {Λ : Lay} {B : Zn} {ids : List (Nat × Nat)} {ad : Nat → Nat → Nat} {k z : Nat} {w : Nat → Nat → va_E} {pc : Nat} {lv : List (Nat × Value)} {st : List Value} (hO : Ok Γ own cc nL rm Λ B) {x : Int32} (hin : vp_in x 9) (hd : decode cc pc = .ok (.iaload, 1)) (h : G Γ ids ad k z w (pc + 1) lv (.int (sv1 x.toNatClampNeg) :: st)) : G Γ ids ad k z w pc lv (.int x :: .ref (Λ.2.2.1 1) :: st) := by
  obtain ⟨p, l, e, s, m, args, below, meth, c, Q, rfl, hx, hb, hml, hown, hts, hI, hlk⟩ := hO
  intro H locs ls hP hS hl
  exact va_ti hx hb hI.2.1.2.1.2 hS hin rfl hd (h H locs ls hP hS hl)
theorem G_slen1 {Γ : Cx} {own : String} {cc : ByteArray} {nL : Nat} {rm : Room} {Λ : Lay} {B : Zn} {ids : List (Nat × Nat)} {ad : Nat → Nat → Nat} {k z : Nat} {w : Nat → Nat → va_E} {pc : Nat} {lv : List (Nat × Value)} {st : List Value} (hO : Ok Γ own cc nL rm Λ B) (hd : decode cc pc = .ok (.arraylength, 1)) (h : G Γ ids ad k z w (pc + 1) lv (.int 9 :: st)) : G Γ ids ad k z w pc lv (.ref (Λ.2.2.1 1) :: st) := by
  obtain ⟨p, l, e, s, m, args, below, meth, c, Q, rfl, hx, hb, hml, hown, hts, hI, hlk⟩ := hO
  intro H locs ls hP hS hl
  exact va_tlen hx hb hI.2.1.2.1.2 hS rfl hd (h H locs ls hP hS hl)
theorem G_gets2 {Γ : Cx} {own : String} {cc : ByteArray} {nL : Nat} {rm : Room} {Λ : Lay} {B : Zn} {ids : List (Nat × Nat)} {ad : Nat → Nat → Nat} {k z : Nat} {w : Nat → Nat → va_E} {pc : Nat} {lv : List (Nat × Value)} {st : List Value} (hO : Ok Γ own cc nL rm Λ B) {index : Nat} (hw : Cond.fieldLink own index RX5 "HIGHEST_SETTINGS" "[I" ∈ UW) (hd : decode cc pc = .ok (.getstatic index, 3)) (h : G Γ ids ad k z w (pc + 3) lv (.ref (Λ.2.2.1 2) :: st)) : G Γ ids ad k z w pc lv st := by
  obtain ⟨p, l, e, s, m, args, below, meth, c, Q, rfl, hx, hb, hml, hown, hts, hI, hlk⟩ := hO
  intro H locs ls hP hS hl
  exact va_gets hx hb hI.2.1.2.2.1 hS hown (hts _ hw) (fun _ h9 => h9) hd (h H locs ls hP hS hl)
theorem G_sald2 {Γ : Cx} {own : String} {cc : ByteArray} {nL : Nat} {rm : Room} {Λ : Lay} {B : Zn} {ids : List (Nat × Nat)} {ad : Nat → Nat → Nat} {k z : Nat} {w : Nat → Nat → va_E} {pc : Nat} {lv : List (Nat × Value)} {st : List Value} (hO : Ok Γ own cc nL rm Λ B) {x : Int32} (hin : vp_in x 9) (hd : decode cc pc = .ok (.iaload, 1)) (h : G Γ ids ad k z w (pc + 1) lv (.int (sv2 x.toNatClampNeg) :: st)) : G Γ ids ad k z w pc lv (.int x :: .ref (Λ.2.2.1 2) :: st) := by
  obtain ⟨p, l, e, s, m, args, below, meth, c, Q, rfl, hx, hb, hml, hown, hts, hI, hlk⟩ := hO
  intro H locs ls hP hS hl
  exact va_ti hx hb hI.2.1.2.2.2 hS hin rfl hd (h H locs ls hP hS hl)
theorem G_slen2 {Γ : Cx} {own : String} {cc : ByteArray} {nL : Nat} {rm : Room} {Λ : Lay} {B : Zn} {ids : List (Nat × Nat)} {ad : Nat → Nat → Nat} {k z : Nat} {w : Nat → Nat → va_E} {pc : Nat} {lv : List (Nat × Value)} {st : List Value} (hO : Ok Γ own cc nL rm Λ B) (hd : decode cc pc = .ok (.arraylength, 1)) (h : G Γ ids ad k z w (pc + 1) lv (.int 9 :: st)) : G Γ ids ad k z w pc lv (.ref (Λ.2.2.1 2) :: st) := by
  obtain ⟨p, l, e, s, m, args, below, meth, c, Q, rfl, hx, hb, hml, hown, hts, hI, hlk⟩ := hO
  intro H locs ls hP hS hl
  exact va_tlen hx hb hI.2.1.2.2.2 hS rfl hd (h H locs ls hP hS hl)
theorem G_mmax {Γ : Cx} {own : String} {cc : ByteArray} {nL : Nat} {rm : Room} {Λ : Lay} {B : Zn} {ids : List (Nat × Nat)} {ad : Nat → Nat → Nat} {k z : Nat} {w : Nat → Nat → va_E} {pc : Nat} {lv : List (Nat × Value)} {st : List Value} (hO : Ok Γ own cc nL rm Λ B) {x y : Int32} {index : Nat} (hw : Cond.methodLink own index Lib.Math.max.name ∈ UW) (hw1 : Cond.static Lib.Math.max.name ∈ UW) (hw2 : Cond.initialized "java/lang/Math" ∈ UW) (hw3 : Cond.code Lib.Math.max.name Lib.Math.max.code 2 (some .int) ∈ UW) (hf : 1 ≤ rm.frames) (hlc : (st.map fun v => v.category).sum + 13 ≤ rm.locals) (hk : k ≤ rm.cells) (hz : z ≤ rm.slots) (hd : decode cc pc = .ok (.invokestatic index, 3)) (h : G Γ ids ad k z w (pc + 3) lv (.int (if x < y then y else x) :: st)) : G Γ ids ad k z w pc lv (.int y :: .int x :: st) := by
  obtain ⟨p, l, e, s, m, args, below, meth, c, Q, rfl, hx, hb, hml, hown, hts, hI, hlk⟩ := hO
  intro H locs ls hP hS hl
  exact va_mmax hx hb (hml.trans hl.1.symm) hown (hts _ hw) (hts _ hw1) (hts _ hw2) (hts _ hw3) hf hlc hk hz hd (h H locs ls hP hS hl)
theorem G_mmin {Γ : Cx} {own : String} {cc : ByteArray} {nL : Nat} {rm : Room} {Λ : Lay} {B : Zn} {ids : List (Nat × Nat)} {ad : Nat → Nat → Nat} {k z : Nat} {w : Nat → Nat → va_E} {pc : Nat} {lv : List (Nat × Value)} {st : List Value} (hO : Ok Γ own cc nL rm Λ B) {x y : Int32} {index : Nat} (hw : Cond.methodLink own index Lib.Math.min.name ∈ UW) (hw1 : Cond.static Lib.Math.min.name ∈ UW) (hw2 : Cond.initialized "java/lang/Math" ∈ UW) (hw3 : Cond.code Lib.Math.min.name Lib.Math.min.code 2 (some .int) ∈ UW) (hf : 1 ≤ rm.frames) (hlc : (st.map fun v => v.category).sum + 13 ≤ rm.locals) (hk : k ≤ rm.cells) (hz : z ≤ rm.slots) (hd : decode cc pc = .ok (.invokestatic index, 3)) (h : G Γ ids ad k z w (pc + 3) lv (.int (if y < x then y else x) :: st)) : G Γ ids ad k z w pc lv (.int y :: .int x :: st) := by
  obtain ⟨p, l, e, s, m, args, below, meth, c, Q, rfl, hx, hb, hml, hown, hts, hI, hlk⟩ := hO
  intro H locs ls hP hS hl
  exact va_mmin hx hb (hml.trans hl.1.symm) hown (hts _ hw) (hts _ hw1) (hts _ hw2) (hts _ hw3) hf hlc hk hz hd (h H locs ls hP hS hl)
theorem G_iret {Γ : Cx} {own : String} {cc : ByteArray} {nL : Nat} {rm : Room} {Λ : Lay} {B : Zn} {ids : List (Nat × Nat)} {ad : Nat → Nat → Nat} {k z : Nat} {w : Nat → Nat → va_E} {pc : Nat} {lv : List (Nat × Value)} (hO : Ok Γ own cc nL rm Λ B) {v : Int32} {ret : Option FieldType} {mc ms : Nat} {P : Po} (hF : Fin' Γ mc ms ret P) (hr : ret = some .int) (hk : k ≤ mc) (hz : z ≤ ms) (hd : decode cc pc = .ok (.ireturn, 1)) (hp : P (some (.int v)) ids ad w) : G Γ ids ad k z w pc lv [.int v] := by
  obtain ⟨p, l, e, s, m, args, below, meth, c, Q, rfl, hx, hb, hml, hown, hts, hI, hlk⟩ := hO
  intro H locs ls hP hS hl
  obtain ⟨h1, rfl⟩ := hF
  subst hr
  refine W.widen hk hz ?_
  exact W.iret (v := v) hx hb h1 (fun t ht hW => ⟨⟨_, ids, ad, w, rfl, hp, by rw [ht]; exact hP⟩, hS.F ht⟩) hS.2.2 hd
theorem G_zret {Γ : Cx} {own : String} {cc : ByteArray} {nL : Nat} {rm : Room} {Λ : Lay} {B : Zn} {ids : List (Nat × Nat)} {ad : Nat → Nat → Nat} {k z : Nat} {w : Nat → Nat → va_E} {pc : Nat} {lv : List (Nat × Value)} (hO : Ok Γ own cc nL rm Λ B) {v : Int32} {ret : Option FieldType} {mc ms : Nat} {P : Po} (hF : Fin' Γ mc ms ret P) (hr : ret = some .boolean) (hk : k ≤ mc) (hz : z ≤ ms) (hn : narrow .boolean (.int v) = .int v) (hd : decode cc pc = .ok (.ireturn, 1)) (hp : P (some (.int v)) ids ad w) : G Γ ids ad k z w pc lv [.int v] := by
  obtain ⟨p, l, e, s, m, args, below, meth, c, Q, rfl, hx, hb, hml, hown, hts, hI, hlk⟩ := hO
  intro H locs ls hP hS hl
  obtain ⟨h1, rfl⟩ := hF
  subst hr
  refine W.widen hk hz ?_
  exact W.zret (v := v) hx hb h1 hn (fun t ht hW => ⟨⟨_, ids, ad, w, rfl, hp, by rw [ht]; exact hP⟩, hS.F ht⟩) hS.2.2 hd
theorem G_lret {Γ : Cx} {own : String} {cc : ByteArray} {nL : Nat} {rm : Room} {Λ : Lay} {B : Zn} {ids : List (Nat × Nat)} {ad : Nat → Nat → Nat} {k z : Nat} {w : Nat → Nat → va_E} {pc : Nat} {lv : List (Nat × Value)} (hO : Ok Γ own cc nL rm Λ B) {v : Int64} {ret : Option FieldType} {mc ms : Nat} {P : Po} (hF : Fin' Γ mc ms ret P) (hr : ret = some .long) (hk : k ≤ mc) (hz : z ≤ ms) (hd : decode cc pc = .ok (.lreturn, 1)) (hp : P (some (.long v)) ids ad w) : G Γ ids ad k z w pc lv [.long v] := by
  obtain ⟨p, l, e, s, m, args, below, meth, c, Q, rfl, hx, hb, hml, hown, hts, hI, hlk⟩ := hO
  intro H locs ls hP hS hl
  obtain ⟨h1, rfl⟩ := hF
  subst hr
  refine W.widen hk hz ?_
  exact W.lret (v := v) hx hb h1 (fun t ht hW => ⟨⟨_, ids, ad, w, rfl, hp, by rw [ht]; exact hP⟩, hS.F ht⟩) hS.2.2 hd
theorem G_vret {Γ : Cx} {own : String} {cc : ByteArray} {nL : Nat} {rm : Room} {Λ : Lay} {B : Zn} {ids : List (Nat × Nat)} {ad : Nat → Nat → Nat} {k z : Nat} {w : Nat → Nat → va_E} {pc : Nat} {lv : List (Nat × Value)} (hO : Ok Γ own cc nL rm Λ B) {ret : Option FieldType} {mc ms : Nat} {P : Po} (hF : Fin' Γ mc ms ret P) (hr : ret = none) (hk : k ≤ mc) (hz : z ≤ ms) (hd : decode cc pc = .ok (.return_, 1)) (hp : P none ids ad w) : G Γ ids ad k z w pc lv [] := by
  obtain ⟨p, l, e, s, m, args, below, meth, c, Q, rfl, hx, hb, hml, hown, hts, hI, hlk⟩ := hO
  intro H locs ls hP hS hl
  obtain ⟨h1, rfl⟩ := hF
  subst hr
  refine W.widen hk hz ?_
  exact W.vret hx hb h1 (fun t ht hW => ⟨⟨_, ids, ad, w, rfl, hp, by rw [ht]; exact hP⟩, hS.F ht⟩) hS.2.2 hd
/-- what a callee stands on: its words among all words -/
def CV (y : MethodName) (cc : ByteArray) (nL : Nat) (ret : Option FieldType) (n : Nat) : Prop := Cond.initialized y.cls ∈ UW ∧ Cond.code y cc nL ret ∈ UW ∧ (y.cls ≠ "java/lang/invoke/MethodHandle" ∧ y.cls ≠ "java/lang/invoke/VarHandle" ∧ (parseMethodDescriptor y.desc).map (fun d => d.parameters.length) = some n)
theorem uw_good {w : Cond} (h : w ∈ UW) : (w.onTables && w.keeps) = true ∨ ∃ ty, w = .arrayClass ty := good_of_word (List.mem_filter.mp h).2
theorem uw_of {y : MethodName} {cc : ByteArray} {nL : Nat} {ret : Option FieldType} (h : Cond.code y cc nL ret ∈ UW) : GoodIn UW (uw y cc nL ret) := fun w hw => (List.mem_cons.mp hw).elim (fun e => by rw [e]; exact ⟨h, uw_good h⟩) (fun h => ⟨h, uw_good h⟩)
theorem pc_blind {Λ : Lay} {B : Zn} {ids : List (Nat × Nat)} {ad : Nat → Nat → Nat} {w : Nat → Nat → va_E} {av : List Value} : FrameBlind (va_Pc av (fun U => IU Λ B U ∧ HP Λ B ids ad w U.heap)) := fun _ _ _ _ h => ⟨h.1, h.2.1.blind, h.2.2⟩
/-- behind a call -/
theorem run_done {p : Program} {l : Launch} {e : Env} {R : Room} {s : State} {m : MethodId} {args : Array Value} {below : List Frame} {meth : Method} {c : Code} {H : Heap} {locs : List Loc} {k z mc ms pc nL : Nat} {Q : State → Prop} {ls : Array Slot} {st rest : List Value} {Λ : Lay} {B : Zn} {P : Po} {a : Array Value} {lv : List (Nat × Value)}
    (hr : va_Run p l e R s m args below meth c H locs k z mc ms (F0 m pc ls st) rest (QC Λ B P a) (Aq B)) (hS : va_S (Aq B) s.heap H locs) (hl : lv_has ls nL lv)
    (h : ∀ (v : Option Value) (ids : List (Nat × Nat)) (ad : Nat → Nat → Nat) (w : Nat → Nat → va_E), P v ids ad w → G (p, l, e, R, s, m, args, below, meth, c, Q, nL, Λ, B) ids ad (k + mc) (z + ms) w (pc + 3) lv (v.toList ++ rest)) : W p l e R s m args below meth c H locs k z Q (F0 m pc ls st) := by
  intro T hT X
  obtain ⟨v, st₀, t, T', L, h0, X', hL, e1, e2, ⟨⟨v', ids, ad, w, hv, hp, hh⟩, hz, hk⟩, stp⟩ := hr T hT X
  cases hv
  rw [h0] at hz hk
  obtain ⟨t2, a1, b1⟩ := h v ids ad w hp T'.heap (locs ++ L) ls (by rw [e1]; exact hh) ⟨Nat.le_trans hS.1 (by rw [e1]; exact hz), fun q h1 h2 => by rw [e1, hk q (Nat.lt_of_lt_of_le h1 hS.1) h2]; exact hS.2.1 q h1 h2, fun q hq => by
      rcases List.mem_append.mp hq with h | h
      · exact hS.2.2 q h
      · exact hL q h⟩ hl T' rfl X'
  exact ⟨t2, stp t2 a1, b1⟩
theorem G_callV {Γ : Cx} {own : String} {cc : ByteArray} {nL : Nat} {rm : Room} {Λ : Lay} {B : Zn} {ids : List (Nat × Nat)} {ad : Nat → Nat → Nat} {k z : Nat} {w : Nat → Nat → va_E} {pc : Nat} {lv : List (Nat × Value)} {st : List Value} (hO : Ok Γ own cc nL rm Λ B) {rest : List Value} {y : MethodName} {cc' : ByteArray} {nL' : Nat} {ret' : Option FieldType} {rm' : Room} {P : Po} {n index i j : Nat} (As : List Value) (hM : ∀ l : Launch, CT l y cc' nL' ret' rm' Λ B ids ad w (.ref (ad i j) :: As) P) (hv : CV y cc' nL' ret' n) (hin : Cond.instanceMethod y ∈ UW) (hse : Cond.selects y.cls y y ∈ UW) (hl0 : Cond.methodLink own index y ∈ UW) (hid : (i, j) ∈ ids) {ci : Nat} {T : u_T} {N : Nat} {ty : Nat → FieldType} {fs : List Value} (hc : Cl ci y.cls T N ty) (hw : w i j = .inr (ci, fs)) (hn : As.length = n) (hst : st = As.reverse ++ .ref (ad i j) :: rest) (hcat : (rest.map fun v => v.category).sum ≤ 8) (hrm : rm'.frames + 1 ≤ rm.frames ∧ 8 + (nL' + 11) + rm'.locals ≤ rm.locals) (hkz : k + rm'.cells ≤ rm.cells ∧ z + rm'.slots ≤ rm.slots) (hd : decode cc pc = .ok (.invokevirtual index, 3)) (h : ∀ (v : Option Value) (ids' : List (Nat × Nat)) (ad' : Nat → Nat → Nat) (w' : Nat → Nat → va_E), P v ids' ad' w' → G Γ ids' ad' (k + rm'.cells) (z + rm'.slots) w' (pc + 3) lv (v.toList ++ rest)) : G Γ ids ad k z w pc lv st := by
  obtain ⟨p, l, e, s, m, args, below, meth, c, Q, rfl, hx, hb, hml, hown, hts, hI, hlk⟩ := hO
  intro H locs ls hP hS hl
  subst hst
  obtain ⟨q, hq, -⟩ := hP.at hid hw
  refine run_done (va_runV (Ts := UW) (As := As) (rest := rest) ⟨hx, hb, hml, hown, hts⟩ (hM l) ⟨callB_of n hts (uw_of hv.2.1) rfl rfl rfl (hts _ hv.1) (hts _ hl0) hv.2.2 hrm, hts _ hin, hts _ hse⟩ ⟨pc_blind, va_recv hI.1 hP.1 (q := (y.cls, T, N)) hc.1 hq, fun U hU hW => ⟨rfl, hI.moved hS hU hW, by rw [hU]; exact hP⟩⟩ rfl hn hl.1 rfl (lv_room hcat) hd hkz) hS hl h
theorem G_callS {Γ : Cx} {own : String} {cc : ByteArray} {nL : Nat} {rm : Room} {Λ : Lay} {B : Zn} {ids : List (Nat × Nat)} {ad : Nat → Nat → Nat} {k z : Nat} {w : Nat → Nat → va_E} {pc : Nat} {lv : List (Nat × Value)} {st : List Value} (hO : Ok Γ own cc nL rm Λ B) {rest : List Value} {y : MethodName} {cc' : ByteArray} {nL' : Nat} {ret' : Option FieldType} {rm' : Room} {P : Po} {n index : Nat} (As : List Value) (hM : ∀ l : Launch, CT l y cc' nL' ret' rm' Λ B ids ad w As P) (hv : CV y cc' nL' ret' n) (hss : Cond.static y ∈ UW) (hl0 : Cond.methodLink own index y ∈ UW) (hn : As.length = n) (hst : st = As.reverse ++ rest) (hcat : (rest.map fun v => v.category).sum ≤ 8) (hrm : rm'.frames + 1 ≤ rm.frames ∧ 8 + (nL' + 11) + rm'.locals ≤ rm.locals) (hkz : k + rm'.cells ≤ rm.cells ∧ z + rm'.slots ≤ rm.slots) (hd : decode cc pc = .ok (.invokestatic index, 3)) (h : ∀ (v : Option Value) (ids' : List (Nat × Nat)) (ad' : Nat → Nat → Nat) (w' : Nat → Nat → va_E), P v ids' ad' w' → G Γ ids' ad' (k + rm'.cells) (z + rm'.slots) w' (pc + 3) lv (v.toList ++ rest)) : G Γ ids ad k z w pc lv st := by
  obtain ⟨p, l, e, s, m, args, below, meth, c, Q, rfl, hx, hb, hml, hown, hts, hI, hlk⟩ := hO
  intro H locs ls hP hS hl
  subst hst
  refine run_done (va_runS (Ts := UW) (As := As) (rest := rest) ⟨hx, hb, hml, hown, hts⟩ (hM l) ⟨callB_of n hts (uw_of hv.2.1) rfl rfl rfl (hts _ hv.1) (hts _ hl0) hv.2.2 hrm, hts _ hss⟩ ⟨pc_blind, fun U hU hW => ⟨rfl, hI.moved hS hU hW, by rw [hU]; exact hP⟩⟩ rfl hn hl.1 rfl (lv_room hcat) hd hkz) hS hl h
theorem G_callSN {Γ : Cx} {own : String} {cc : ByteArray} {nL : Nat} {rm : Room} {Λ : Lay} {B : Zn} {ids : List (Nat × Nat)} {ad : Nat → Nat → Nat} {k z : Nat} {w : Nat → Nat → va_E} {pc : Nat} {lv : List (Nat × Value)} {st : List Value} (hO : Ok Γ own cc nL rm Λ B) {rest : List Value} {y : MethodName} {cc' : ByteArray} {nL' : Nat} {ret' : Option FieldType} {rm' : Room} {P : Po} {n index : Nat} (As : List Value) (hM : ∀ l : Launch, CT l y cc' nL' ret' rm' Λ B ids ad w As P) (hv : CV y cc' nL' ret' n) (hss : Cond.static y ∈ UW) {host : String} (hl0 : ∀ U : State, NW U → va_Nw (.methodLinkNest own index y host) U) (hn : As.length = n) (hst : st = As.reverse ++ rest) (hcat : (rest.map fun v => v.category).sum ≤ 8) (hrm : rm'.frames + 1 ≤ rm.frames ∧ 8 + (nL' + 11) + rm'.locals ≤ rm.locals) (hkz : k + rm'.cells ≤ rm.cells ∧ z + rm'.slots ≤ rm.slots) (hd : decode cc pc = .ok (.invokestatic index, 3)) (h : ∀ (v : Option Value) (ids' : List (Nat × Nat)) (ad' : Nat → Nat → Nat) (w' : Nat → Nat → va_E), P v ids' ad' w' → G Γ ids' ad' (k + rm'.cells) (z + rm'.slots) w' (pc + 3) lv (v.toList ++ rest)) : G Γ ids ad k z w pc lv st := by
  obtain ⟨p, l, e, s, m, args, below, meth, c, Q, rfl, hx, hb, hml, hown, hts, hI, hlk⟩ := hO
  intro H locs ls hP hS hl
  subst hst
  refine run_done (va_runSN (Ts := UW) (As := As) (rest := rest) ⟨hx, hb, hml, hown, hts⟩ (hM l) ⟨va_cnB n hts (uw_of hv.2.1) rfl rfl rfl (hl0 s hI.2.2.1) (hts _ hv.1) hv.2.2 hrm, hts _ hss, trivial⟩ ⟨pc_blind, fun U hU hW => ⟨rfl, hI.moved hS hU hW, by rw [hU]; exact hP⟩⟩ rfl hn hl.1 rfl (lv_room hcat) hd hkz) hS hl h
theorem G_callI {Γ : Cx} {own : String} {cc : ByteArray} {nL : Nat} {rm : Room} {Λ : Lay} {B : Zn} {ids : List (Nat × Nat)} {ad : Nat → Nat → Nat} {k z : Nat} {w : Nat → Nat → va_E} {pc : Nat} {lv : List (Nat × Value)} {st : List Value} (hO : Ok Γ own cc nL rm Λ B) {rest : List Value} {y : MethodName} {cc' : ByteArray} {nL' : Nat} {rm' : Room} {P : Po} {n index : Nat} (As : List Value) {b : Nat} (hM : ∀ l : Launch, CT l y cc' nL' none rm' Λ B ids ad w (.ref b :: As) P) (hv : CV y cc' nL' none n) (hin : Cond.instanceMethod y ∈ UW) (hy1 : y.name = "<init>") (hl0 : Cond.methodLink own index y ∈ UW) (hn : As.length = n) (hst : st = As.reverse ++ .ref b :: rest) (hcat : (rest.map fun v => v.category).sum ≤ 8) (hrm : rm'.frames + 1 ≤ rm.frames ∧ 8 + (nL' + 11) + rm'.locals ≤ rm.locals) (hkz : k + rm'.cells ≤ rm.cells ∧ z + rm'.slots ≤ rm.slots) (hd : decode cc pc = .ok (.invokespecial index, 3)) (h : ∀ (v : Option Value) (ids' : List (Nat × Nat)) (ad' : Nat → Nat → Nat) (w' : Nat → Nat → va_E), P v ids' ad' w' → G Γ ids' ad' (k + rm'.cells) (z + rm'.slots) w' (pc + 3) lv (v.toList ++ rest)) : G Γ ids ad k z w pc lv st := by
  obtain ⟨p, l, e, s, m, args, below, meth, c, Q, rfl, hx, hb, hml, hown, hts, hI, hlk⟩ := hO
  intro H locs ls hP hS hl
  subst hst
  refine run_done (va_runI (Ts := UW) (As := As) (rest := rest) ⟨hx, hb, hml, hown, hts⟩ (hM l) ⟨callB_of n hts (uw_of hv.2.1) rfl rfl rfl (hts _ hv.1) (hts _ hl0) hv.2.2 hrm, hy1, hts _ hin⟩ ⟨pc_blind, fun U hU hW => ⟨rfl, hI.moved hS hU hW, by rw [hU]; exact hP⟩⟩ rfl hn hl.1 rfl (lv_room hcat) hd hkz) hS hl h
theorem G_callIN {Γ : Cx} {own : String} {cc : ByteArray} {nL : Nat} {rm : Room} {Λ : Lay} {B : Zn} {ids : List (Nat × Nat)} {ad : Nat → Nat → Nat} {k z : Nat} {w : Nat → Nat → va_E} {pc : Nat} {lv : List (Nat × Value)} {st : List Value} (hO : Ok Γ own cc nL rm Λ B) {rest : List Value} {y : MethodName} {cc' : ByteArray} {nL' : Nat} {rm' : Room} {P : Po} {n index : Nat} (As : List Value) {b : Nat} (hM : ∀ l : Launch, CT l y cc' nL' none rm' Λ B ids ad w (.ref b :: As) P) (hv : CV y cc' nL' none n) (hin : Cond.instanceMethod y ∈ UW) (hy1 : y.name = "<init>") {host : String} (hl0 : ∀ U : State, NW U → va_Nw (.methodLinkNest own index y host) U) (hn : As.length = n) (hst : st = As.reverse ++ .ref b :: rest) (hcat : (rest.map fun v => v.category).sum ≤ 8) (hrm : rm'.frames + 1 ≤ rm.frames ∧ 8 + (nL' + 11) + rm'.locals ≤ rm.locals) (hkz : k + rm'.cells ≤ rm.cells ∧ z + rm'.slots ≤ rm.slots) (hd : decode cc pc = .ok (.invokespecial index, 3)) (h : ∀ (v : Option Value) (ids' : List (Nat × Nat)) (ad' : Nat → Nat → Nat) (w' : Nat → Nat → va_E), P v ids' ad' w' → G Γ ids' ad' (k + rm'.cells) (z + rm'.slots) w' (pc + 3) lv (v.toList ++ rest)) : G Γ ids ad k z w pc lv st := by
  obtain ⟨p, l, e, s, m, args, below, meth, c, Q, rfl, hx, hb, hml, hown, hts, hI, hlk⟩ := hO
  intro H locs ls hP hS hl
  subst hst
  refine run_done (va_runIN (Ts := UW) (As := As) (rest := rest) ⟨hx, hb, hml, hown, hts⟩ (hM l) ⟨va_cnB n hts (uw_of hv.2.1) rfl rfl rfl (hl0 s hI.2.2.1) (hts _ hv.1) hv.2.2 hrm, hy1, hts _ hin⟩ ⟨pc_blind, fun U hU hW => ⟨rfl, hI.moved hS hU hW, by rw [hU]; exact hP⟩⟩ rfl hn hl.1 rfl (lv_room hcat) hd hkz) hS hl h
