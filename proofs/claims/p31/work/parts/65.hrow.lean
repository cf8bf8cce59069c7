/-! THE LAW'S OWN METHODS: contracts that stand on what throwing needs, and throw nothing -/
def CY (l : Launch) (y : MethodName) (cc : ByteArray) (nL : Nat) (ret : Option FieldType) (rm : Room) (Λ : Lay) (B : Zn) (ids : List (Nat × Nat)) (ad : Nat → Nat → Nat) (w : Nat → Nat → va_E) (av : List Value) (P : Po) : Prop :=
  Met l y (uw y cc nL ret) rm (va_Pc av (fun U => IU Λ B U ∧ IX Λ B U U.heap ∧ HP Λ B ids ad w U.heap)) (QC Λ B P) rm.cells rm.slots (Aq B)
def OkI (Γ : Cx) : Prop := match Γ with
  | (_, l, _, _, s, _, _, _, _, _, _, _, Λ, B) => IX Λ B s s.heap ∧ l.stackTraces = false
theorem CY.of {l : Launch} {y : MethodName} {cc : ByteArray} {nL : Nat} {ret : Option FieldType} {rm : Room} {Λ : Lay} {B : Zn} {ids : List (Nat × Nat)} {ad : Nat → Nat → Nat} {w : Nat → Nat → va_E} {av : List Value} {P : Po} (hst : l.stackTraces = false) (own : String) (lv : List (Nat × Value))
    (hpl : plainFor y = true) (hown : y.cls = own) (hlen : (lg_sl av).length ≤ nL) (hlv : lv_args 0 av = lv)
    (body : ∀ Γ : Cx, Ok Γ own cc nL rm Λ B → OkI Γ → Fin' Γ rm.cells rm.slots ret P → G Γ ids ad 0 (16 * 0) w 0 lv []) : CY l y cc nL ret rm Λ B ids ad w av P := by
  subst hown
  refine met_ofF (cc := cc) (maxL := nL) (ret := ret) hpl rfl ?_
  intro p e s m args below meth c s₁ B1 hml hv
  obtain ⟨rfl, hI, hI2, hH⟩ := hv
  have hts : ∀ w ∈ uw y cc nL ret, w.before av.toArray s = true := atoms_spec (ws := uw y cc nL ret) B1.pre
  have hl := lv_entry av (n := nL) hlen
  rw [hlv] at hl
  rw [lg_entry_eq]
  have hg := body (p, l, e, rm, s, m, av.toArray, below, meth, c, _, nL, Λ, B) ⟨p, l, e, s, m, _, below, meth, c, _, rfl, B1.exec, B1.bytes, hml, findClass_of_methodNamed B1.named, fun w hw => hts w (List.mem_cons_of_mem _ hw), hI, B1.notSynchronized⟩ ⟨hI2, hst⟩ ⟨B1.returns, rfl⟩
  exact hg s.heap [] _ hH va_S.rf hl
def CW (y : MethodName) (cc : ByteArray) (nL : Nat) (ret : Option FieldType) (hh : List (Nat × Nat × Nat × Nat)) (n : Nat) : Prop := Cond.initialized y.cls ∈ UW ∧ Cond.codeWith y cc nL ret hh ∈ UW ∧ (y.cls ≠ "java/lang/invoke/MethodHandle" ∧ y.cls ≠ "java/lang/invoke/VarHandle" ∧ (parseMethodDescriptor y.desc).map (fun d => d.parameters.length) = some n)
theorem H_callH {Γ : Cx} {own : String} {cc : ByteArray} {nL : Nat} {rm : Room} {Λ : Lay} {B : Zn} {ids : List (Nat × Nat)} {ad : Nat → Nat → Nat} {k : Nat} {w : Nat → Nat → va_E} {pc : Nat} {lv : List (Nat × Value)} {st : List Value} (hO : Ok Γ own cc nL rm Λ B) {rest : List Value} {y : MethodName} {cc' : ByteArray} {nL' : Nat} {ret' : Option FieldType} {hh : List (Nat × Nat × Nat × Nat)} {rm' : Room} {P : Po} {n index : Nat} (c : Nat) (As : List Value) (hX : OkI Γ) (hM : ∀ l : Launch, l.stackTraces = false → CH l y cc' nL' ret' hh rm' Λ B ids ad w As P) (hv : CW y cc' nL' ret' hh n) (hss : Cond.static y ∈ UW) (hl0 : Cond.methodLink own index y ∈ UW) (hn : As.length = n) (hst : st = As.reverse ++ rest) (hcat : (rest.map fun v => v.category).sum ≤ 8) (hrm : rm'.frames + 1 ≤ rm.frames ∧ 8 + (nL' + 11) + rm'.locals ≤ rm.locals) (hc : rm'.cells ≤ c ∧ rm'.slots ≤ 16 * c) (h16 : rm.slots = 16 * rm.cells) (hk : k + c ≤ rm.cells) (hd : decode cc pc = .ok (.invokestatic index, 3)) (h : ∀ (v : Option Value) (ids' : List (Nat × Nat)) (ad' : Nat → Nat → Nat) (w' : Nat → Nat → va_E), P v ids' ad' w' → G Γ ids' ad' (k + c) (16 * (k + c)) w' (pc + 3) lv (v.toList ++ rest)) : G Γ ids ad k (16 * k) w pc lv st := by
  have hO2 := hO
  obtain ⟨p, l, e, s, m, args, below, meth, c, Q, rfl, hx, hb, hml, hown, hts, hI, hlk⟩ := hO
  intro H locs ls hP hS hl
  subst hst
  have hkz : k + rm'.cells ≤ rm.cells ∧ 16 * k + rm'.slots ≤ rm.slots := by omega
  refine run_done (vx_runSW (Ts := UW) (As := As) (rest := rest) ⟨hx, hb, hml, hown, hts⟩ (hM l hX.2) (vx_cwSW (ws' := UW) n hts (fun q hq => ?_) rfl rfl rfl hv.2.2 hrm) ⟨px_blind, fun U hU hW => ⟨rfl, hI.moved hS hU hW, hX.1.moved hS hU hW, by rw [hU]; exact hP⟩⟩ rfl hn hl.1 rfl (lv_room hcat) hd hkz) hS hl (fun v ids' ad' w' hp => G_widen hO2 (by omega) (by omega) (h v ids' ad' w' hp))
  have key : q ∈ UW := by
    simp only [va_wsS, List.mem_append, List.mem_cons, List.not_mem_nil, or_false] at hq
    rcases hq with (rfl | rfl | rfl) | rfl | hq
    all_goals first | exact hss | exact hl0 | exact hv.1 | exact hv.2.1 | exact hq
  exact ⟨key, uw_good key⟩
theorem H_callY {Γ : Cx} {own : String} {cc : ByteArray} {nL : Nat} {rm : Room} {Λ : Lay} {B : Zn} {ids : List (Nat × Nat)} {ad : Nat → Nat → Nat} {k : Nat} {w : Nat → Nat → va_E} {pc : Nat} {lv : List (Nat × Value)} {st : List Value} (hO : Ok Γ own cc nL rm Λ B) {rest : List Value} {y : MethodName} {cc' : ByteArray} {nL' : Nat} {ret' : Option FieldType} {rm' : Room} {P : Po} {n index : Nat} (c : Nat) (As : List Value) (hX : OkI Γ) (hM : ∀ l : Launch, l.stackTraces = false → CY l y cc' nL' ret' rm' Λ B ids ad w As P) (hv : CV y cc' nL' ret' n) (hss : Cond.static y ∈ UW) (hl0 : Cond.methodLink own index y ∈ UW) (hn : As.length = n) (hst : st = As.reverse ++ rest) (hcat : (rest.map fun v => v.category).sum ≤ 8) (hrm : rm'.frames + 1 ≤ rm.frames ∧ 8 + (nL' + 11) + rm'.locals ≤ rm.locals) (hc : rm'.cells ≤ c ∧ rm'.slots ≤ 16 * c) (h16 : rm.slots = 16 * rm.cells) (hk : k + c ≤ rm.cells) (hd : decode cc pc = .ok (.invokestatic index, 3)) (h : ∀ (v : Option Value) (ids' : List (Nat × Nat)) (ad' : Nat → Nat → Nat) (w' : Nat → Nat → va_E), P v ids' ad' w' → G Γ ids' ad' (k + c) (16 * (k + c)) w' (pc + 3) lv (v.toList ++ rest)) : G Γ ids ad k (16 * k) w pc lv st := by
  have hO2 := hO
  obtain ⟨p, l, e, s, m, args, below, meth, c, Q, rfl, hx, hb, hml, hown, hts, hI, hlk⟩ := hO
  intro H locs ls hP hS hl
  subst hst
  have hkz : k + rm'.cells ≤ rm.cells ∧ 16 * k + rm'.slots ≤ rm.slots := by omega
  exact run_done (va_runS (Ts := UW) (As := As) (rest := rest) ⟨hx, hb, hml, hown, hts⟩ (hM l hX.2) ⟨callB_of n hts (uw_of hv.2.1) rfl rfl rfl (hts _ hv.1) (hts _ hl0) hv.2.2 hrm, hts _ hss⟩ ⟨px_blind, fun U hU hW => ⟨rfl, hI.moved hS hU hW, hX.1.moved hS hU hW, by rw [hU]; exact hP⟩⟩ rfl hn hl.1 rfl (lv_room hcat) hd hkz) hS hl (fun v ids' ad' w' hp => G_widen hO2 (by omega) (by omega) (h v ids' ad' w' hp))
theorem H_callHi {Γ : Cx} {own : String} {cc : ByteArray} {nL : Nat} {rm : Room} {Λ : Lay} {B : Zn} {ids : List (Nat × Nat)} {ad : Nat → Nat → Nat} {k : Nat} {M : Mem} {O : Nat → Int64} {pc : Nat} {lv : List (Nat × Value)} {st : List Value} (hO : Ok Γ own cc nL rm Λ B) {rest : List Value} {y : MethodName} {cc' : ByteArray} {nL' : Nat} {ret' : Option FieldType} {hh : List (Nat × Nat × Nat × Nat)} {rm' : Room} {P : Int32 → Mem → Prop} {n index : Nat} (c : Nat) (As : List Value) (hX : OkI Γ) (hM : ∀ l : Launch, l.stackTraces = false → CH l y cc' nL' ret' hh rm' Λ B ids ad (sh Λ ad M O) As (Gi Λ ids ad O P)) (hv : CW y cc' nL' ret' hh n) (hss : Cond.static y ∈ UW) (hl0 : Cond.methodLink own index y ∈ UW) (hn : As.length = n) (hst : st = As.reverse ++ rest) (hcat : (rest.map fun v => v.category).sum ≤ 8) (hrm : rm'.frames + 1 ≤ rm.frames ∧ 8 + (nL' + 11) + rm'.locals ≤ rm.locals) (hc : rm'.cells ≤ c ∧ rm'.slots ≤ 16 * c) (h16 : rm.slots = 16 * rm.cells) (hk : k + c ≤ rm.cells) (hd : decode cc pc = .ok (.invokestatic index, 3)) (h : ∀ (r : Int32) (M1 : Mem), P r M1 → G Γ ids ad (k + c) (16 * (k + c)) (sh Λ ad M1 O) (pc + 3) lv (.int r :: rest)) : G Γ ids ad k (16 * k) (sh Λ ad M O) pc lv st := by
  refine H_callH hO c As hX hM hv hss hl0 hn hst hcat hrm hc h16 hk hd ?_
  rintro v ids' ad' w' ⟨rfl, rfl, M1, r, rfl, rfl, hp⟩
  exact h r M1 hp
theorem H_callHl {Γ : Cx} {own : String} {cc : ByteArray} {nL : Nat} {rm : Room} {Λ : Lay} {B : Zn} {ids : List (Nat × Nat)} {ad : Nat → Nat → Nat} {k : Nat} {M : Mem} {O : Nat → Int64} {pc : Nat} {lv : List (Nat × Value)} {st : List Value} (hO : Ok Γ own cc nL rm Λ B) {rest : List Value} {y : MethodName} {cc' : ByteArray} {nL' : Nat} {ret' : Option FieldType} {hh : List (Nat × Nat × Nat × Nat)} {rm' : Room} {P : Int64 → Mem → Prop} {n index : Nat} (c : Nat) (As : List Value) (hX : OkI Γ) (hM : ∀ l : Launch, l.stackTraces = false → CH l y cc' nL' ret' hh rm' Λ B ids ad (sh Λ ad M O) As (Gl Λ ids ad O P)) (hv : CW y cc' nL' ret' hh n) (hss : Cond.static y ∈ UW) (hl0 : Cond.methodLink own index y ∈ UW) (hn : As.length = n) (hst : st = As.reverse ++ rest) (hcat : (rest.map fun v => v.category).sum ≤ 8) (hrm : rm'.frames + 1 ≤ rm.frames ∧ 8 + (nL' + 11) + rm'.locals ≤ rm.locals) (hc : rm'.cells ≤ c ∧ rm'.slots ≤ 16 * c) (h16 : rm.slots = 16 * rm.cells) (hk : k + c ≤ rm.cells) (hd : decode cc pc = .ok (.invokestatic index, 3)) (h : ∀ (r : Int64) (M1 : Mem), P r M1 → G Γ ids ad (k + c) (16 * (k + c)) (sh Λ ad M1 O) (pc + 3) lv (.long r :: rest)) : G Γ ids ad k (16 * k) (sh Λ ad M O) pc lv st := by
  refine H_callH hO c As hX hM hv hss hl0 hn hst hcat hrm hc h16 hk hd ?_
  rintro v ids' ad' w' ⟨rfl, rfl, M1, r, rfl, rfl, hp⟩
  exact h r M1 hp
theorem H_callYi {Γ : Cx} {own : String} {cc : ByteArray} {nL : Nat} {rm : Room} {Λ : Lay} {B : Zn} {ids : List (Nat × Nat)} {ad : Nat → Nat → Nat} {k : Nat} {M : Mem} {O : Nat → Int64} {pc : Nat} {lv : List (Nat × Value)} {st : List Value} (hO : Ok Γ own cc nL rm Λ B) {rest : List Value} {y : MethodName} {cc' : ByteArray} {nL' : Nat} {ret' : Option FieldType} {rm' : Room} {P : Int32 → Mem → Prop} {n index : Nat} (c : Nat) (As : List Value) (hX : OkI Γ) (hM : ∀ l : Launch, l.stackTraces = false → CY l y cc' nL' ret' rm' Λ B ids ad (sh Λ ad M O) As (Gi Λ ids ad O P)) (hv : CV y cc' nL' ret' n) (hss : Cond.static y ∈ UW) (hl0 : Cond.methodLink own index y ∈ UW) (hn : As.length = n) (hst : st = As.reverse ++ rest) (hcat : (rest.map fun v => v.category).sum ≤ 8) (hrm : rm'.frames + 1 ≤ rm.frames ∧ 8 + (nL' + 11) + rm'.locals ≤ rm.locals) (hc : rm'.cells ≤ c ∧ rm'.slots ≤ 16 * c) (h16 : rm.slots = 16 * rm.cells) (hk : k + c ≤ rm.cells) (hd : decode cc pc = .ok (.invokestatic index, 3)) (h : ∀ (r : Int32) (M1 : Mem), P r M1 → G Γ ids ad (k + c) (16 * (k + c)) (sh Λ ad M1 O) (pc + 3) lv (.int r :: rest)) : G Γ ids ad k (16 * k) (sh Λ ad M O) pc lv st := by
  refine H_callY hO c As hX hM hv hss hl0 hn hst hcat hrm hc h16 hk hd ?_
  rintro v ids' ad' w' ⟨rfl, rfl, M1, r, rfl, rfl, hp⟩
  exact h r M1 hp
theorem H_callYl {Γ : Cx} {own : String} {cc : ByteArray} {nL : Nat} {rm : Room} {Λ : Lay} {B : Zn} {ids : List (Nat × Nat)} {ad : Nat → Nat → Nat} {k : Nat} {M : Mem} {O : Nat → Int64} {pc : Nat} {lv : List (Nat × Value)} {st : List Value} (hO : Ok Γ own cc nL rm Λ B) {rest : List Value} {y : MethodName} {cc' : ByteArray} {nL' : Nat} {ret' : Option FieldType} {rm' : Room} {P : Int64 → Mem → Prop} {n index : Nat} (c : Nat) (As : List Value) (hX : OkI Γ) (hM : ∀ l : Launch, l.stackTraces = false → CY l y cc' nL' ret' rm' Λ B ids ad (sh Λ ad M O) As (Gl Λ ids ad O P)) (hv : CV y cc' nL' ret' n) (hss : Cond.static y ∈ UW) (hl0 : Cond.methodLink own index y ∈ UW) (hn : As.length = n) (hst : st = As.reverse ++ rest) (hcat : (rest.map fun v => v.category).sum ≤ 8) (hrm : rm'.frames + 1 ≤ rm.frames ∧ 8 + (nL' + 11) + rm'.locals ≤ rm.locals) (hc : rm'.cells ≤ c ∧ rm'.slots ≤ 16 * c) (h16 : rm.slots = 16 * rm.cells) (hk : k + c ≤ rm.cells) (hd : decode cc pc = .ok (.invokestatic index, 3)) (h : ∀ (r : Int64) (M1 : Mem), P r M1 → G Γ ids ad (k + c) (16 * (k + c)) (sh Λ ad M1 O) (pc + 3) lv (.long r :: rest)) : G Γ ids ad k (16 * k) (sh Λ ad M O) pc lv st := by
  refine H_callY hO c As hX hM hv hss hl0 hn hst hcat hrm hc h16 hk hd ?_
  rintro v ids' ad' w' ⟨rfl, rfl, M1, r, rfl, rfl, hp⟩
  exact h r M1 hp
theorem H_callVi {Γ : Cx} {own : String} {cc : ByteArray} {nL : Nat} {rm : Room} {Λ : Lay} {B : Zn} {ids : List (Nat × Nat)} {ad : Nat → Nat → Nat} {k : Nat} {M : Mem} {O : Nat → Int64} {pc : Nat} {lv : List (Nat × Value)} {st : List Value} (hO : Ok Γ own cc nL rm Λ B) {rest : List Value} {y : MethodName} {cc' : ByteArray} {nL' : Nat} {ret' : Option FieldType} {rm' : Room} {P : Int32 → Mem → Prop} {n index i j : Nat} (c : Nat) (As : List Value) (hM : ∀ l : Launch, CT l y cc' nL' ret' rm' Λ B ids ad (sh Λ ad M O) (.ref (ad i j) :: As) (Gi Λ ids ad O P)) (hv : CV y cc' nL' ret' n) (hin : Cond.instanceMethod y ∈ UW) (hse : Cond.selects y.cls y y ∈ UW) (hl0 : Cond.methodLink own index y ∈ UW) (hid : (i, j) ∈ ids) {ci : Nat} {T : u_T} {N : Nat} {ty : Nat → FieldType} {fs : List Value} (hc : Cl ci y.cls T N ty) (hw : sh Λ ad M O i j = .inr (ci, fs)) (hn : As.length = n) (hst : st = As.reverse ++ .ref (ad i j) :: rest) (hcat : (rest.map fun v => v.category).sum ≤ 8) (hrm : rm'.frames + 1 ≤ rm.frames ∧ 8 + (nL' + 11) + rm'.locals ≤ rm.locals) (hcc : rm'.cells ≤ c ∧ rm'.slots ≤ 16 * c) (h16 : rm.slots = 16 * rm.cells) (hk : k + c ≤ rm.cells) (hd : decode cc pc = .ok (.invokevirtual index, 3)) (h : ∀ (r : Int32) (M1 : Mem), P r M1 → G Γ ids ad (k + c) (16 * (k + c)) (sh Λ ad M1 O) (pc + 3) lv (.int r :: rest)) : G Γ ids ad k (16 * k) (sh Λ ad M O) pc lv st := by
  have hkz : k + rm'.cells ≤ rm.cells ∧ 16 * k + rm'.slots ≤ rm.slots := by omega
  refine G_callV hO As hM hv hin hse hl0 hid hc hw hn hst hcat hrm hkz hd ?_
  rintro v ids' ad' w' ⟨rfl, rfl, M1, r, rfl, rfl, hp⟩
  exact G_widen hO (by omega) (by omega) (h r M1 hp)
theorem G_ishr {Γ : Cx} {own : String} {cc : ByteArray} {nL : Nat} {rm : Room} {Λ : Lay} {B : Zn} {ids : List (Nat × Nat)} {ad : Nat → Nat → Nat} {k z : Nat} {w : Nat → Nat → va_E} {pc : Nat} {lv : List (Nat × Value)} {st : List Value} (hO : Ok Γ own cc nL rm Λ B) {x y : Int32} (hd : decode cc pc = .ok (.ishr, 1)) (h : G Γ ids ad k z w (pc + 1) lv (.int (x >>> (y &&& 31)) :: st)) : G Γ ids ad k z w pc lv (.int y :: .int x :: st) := by
  obtain ⟨p, l, e, s, m, args, below, meth, c, Q, rfl, hx, hb, hml, hown, hts, hI, hlk⟩ := hO
  intro H locs ls hP hS hl
  exact lv_ishr hx hb hd (h H locs ls hP hS hl)
theorem ha_1 (Λ : Lay) (c : Reg) : haSh Λ c 1 = .inl (Λ.2.1 0, 10, .inl (c 1)) := rfl
theorem sh_ad3 (Λ : Lay) (ad : Nat → Nat → Nat) (a : Nat) (M : Mem) (O : Nat → Int64) : sh Λ (ad2 ad 23 1 a) M O = sh Λ ad M O := by
  have e : ∀ n j : Nat, ¬ (n = 23 ∧ j = 1) → ad2 ad 23 1 a n j = ad n j := fun n j h => ad2_n _ _ _ _ h
  funext n
  show rS Λ (ad2 ad 23 1 a) O n (M n) = rS Λ ad O n (M n)
  unfold rS
  by_cases h : n < 18
  · rw [if_pos h, if_pos h]
    have e1 : ∀ j, ad2 ad 23 1 a n j = ad n j := fun j => e n j (by omega)
    funext j
    match j with
    | 0 => simp only [stSh, stF, e1]
    | 1 => simp only [stSh]
    | 2 => simp only [stSh]
    | 3 => simp only [stSh]
    | 4 => simp only [stSh, e1]
    | 5 => simp only [stSh, leF, e1]
    | 6 => simp only [stSh]
    | 7 => simp only [stSh]
    | 8 => simp only [stSh]
    | r + 9 => simp only [stSh]
  · rw [if_neg h, if_neg h]
    by_cases h1 : n = 21
    · rw [if_pos h1, if_pos h1]
      have e1 : ∀ j, ad2 ad 23 1 a 21 j = ad 21 j := fun j => e 21 j (by omega)
      funext j
      match j with
      | 0 => simp only [mdSh, mdF, e1]
      | 1 => simp only [mdSh]
      | 2 => simp only [mdSh]
      | 3 => simp only [mdSh]
      | 4 => simp only [mdSh]
      | 5 => simp only [mdSh]
      | 6 => simp only [mdSh]
      | r + 7 => simp only [mdSh]
    · rw [if_neg h1, if_neg h1]
      by_cases h2 : n = 20
      · rw [if_pos h2, if_pos h2]
        have e0 : ∀ n, ad2 ad 23 1 a n 0 = ad n 0 := fun n => e n 0 (by omega)
        have e1 := e 20 1 (by omega)
        have e2 := e 20 2 (by omega)
        have e3 := e 20 3 (by omega)
        have e4 := e 20 4 (by omega)
        have e5 := e 20 5 (by omega)
        funext j
        match j with
        | 0 => simp only [glSh, glF, e0, e1, e2, e4, e5]
        | 1 => simp only [glSh]
        | 2 => simp only [glSh, hiF, e3]
        | 3 => simp only [glSh, e0]
        | 4 => simp only [glSh, e0]
        | 5 => simp only [glSh]
        | r + 6 => simp only [glSh, rdF, e1]
      · rw [if_neg h2, if_neg h2]
/-- the law's row of ten was made -/
def Hr (ids : List (Nat × Nat)) (ad : Nat → Nat → Nat) (ids1 : List (Nat × Nat)) (ad1 : Nat → Nat → Nat) : Prop := ids1 = ids ++ [(23, 1)] ∧ (23, 1) ∉ ids ∧ ∃ a, ad1 = ad2 ad 23 1 a
theorem Hr.mem {ids : List (Nat × Nat)} {ad : Nat → Nat → Nat} {ids1 : List (Nat × Nat)} {ad1 : Nat → Nat → Nat} (h : Hr ids ad ids1 ad1) (hm : ∀ q, q ∈ ids0 → q ∈ ids) : ∀ q, q ∈ ids0 → q ∈ ids1 := fun q hq => by
  rw [h.1]; exact List.mem_append_left _ (hm q hq)
theorem Hr.new {ids : List (Nat × Nat)} {ad : Nat → Nat → Nat} {ids1 : List (Nat × Nat)} {ad1 : Nat → Nat → Nat} (h : Hr ids ad ids1 ad1) : (23, 1) ∈ ids1 := by
  rw [h.1]; exact List.mem_append_right _ List.mem_cons_self
theorem Hr.nr {ids : List (Nat × Nat)} {ad : Nat → Nat → Nat} {ids1 : List (Nat × Nat)} {ad1 : Nat → Nat → Nat} (h : Hr ids ad ids1 ad1) (hn : (20, 6) ∉ ids) : (20, 6) ∉ ids1 := by
  rw [h.1]; intro q
  rcases List.mem_append.mp q with q | q
  · exact hn q
  · simp at q
theorem H_newH {Γ : Cx} {own : String} {cc : ByteArray} {nL : Nat} {rm : Room} {Λ : Lay} {B : Zn} {ids : List (Nat × Nat)} {ad : Nat → Nat → Nat} {k : Nat} {M : Mem} {O : Nat → Int64} {pc : Nat} (hO : Ok Γ own cc nL rm Λ B) {n1 n2 : Int32} (hni : (23, 1) ∉ ids) (harr : Cond.arrayClass .int ∈ UW) (h16 : rm.slots = 16 * rm.cells) (hk : k + 1 ≤ rm.cells) (hd : decode cc pc = .ok (.newarray .int, 2)) (h : ∀ (ids1 : List (Nat × Nat)) (ad1 : Nat → Nat → Nat), Hr ids ad ids1 ad1 → G Γ ids1 ad1 (k + 1) (16 * (k + 1)) (sh Λ ad1 (va_up M 23 (va_up (M 23) 1 (fun _ => 0))) O) (pc + 2) [(2, .int n2), (1, .int n1), (0, .ref (ad1 20 0))] [.ref (ad1 23 1)]) : G Γ ids ad k (16 * k) (sh Λ ad M O) pc [(2, .int n2), (1, .int n1), (0, .ref (ad 20 0))] [.int 10] := by
  refine A_newaI hO 10 23 1 hni harr (by decide) (by decide) (Nat.le_of_ble_eq_true rfl) (by omega) (by omega) hd (fun a => ?_)
  refine G_widen hO (k' := k + 1) (z' := 16 * (k + 1)) (Nat.le_refl _) (by omega) ?_
  have hh := h _ _ ⟨rfl, hni, a, rfl⟩
  rw [ad2_s, ad2_n _ _ _ _ (by omega), sh_ad3] at hh
  rw [up2M (rS_ha Λ ad O) (cw_ha Λ) (c' := va_up (M 23) 1 (fun _ => 0)) (by simp only [haSh, va_us]) (fun j' hj => va_un _ _ hj)]
  exact hh
theorem G_dropH {Γ : Cx} {own : String} {cc : ByteArray} {nL : Nat} {rm : Room} {Λ : Lay} {B : Zn} {ids : List (Nat × Nat)} {ad : Nat → Nat → Nat} {k z : Nat} {M : Mem} {O : Nat → Int64} {pc : Nat} {lv : List (Nat × Value)} {st : List Value} (hO : Ok Γ own cc nL rm Λ B) {ids1 : List (Nat × Nat)} {ad1 : Nat → Nat → Nat} (hD : Hr ids ad ids1 ad1) (h : G Γ ids ad k z (sh Λ ad M O) pc lv st) : G Γ ids1 ad1 k z (sh Λ ad1 M O) pc lv st := by
  obtain ⟨p, l, e, s, m, args, below, meth, c, Q, rfl, hx, hb, hml, hown, hts, hI, hlk⟩ := hO
  intro H locs ls hP hS hl
  obtain ⟨rfl, hn, a, rfl⟩ := hD
  rw [sh_ad3] at hP
  refine h H locs ls ?_ hS hl
  have e : wl (ids ++ [(23, 1)]) (ad2 ad 23 1 a) (sh Λ ad M O) = wl ids ad (sh Λ ad M O) ++ [(a, sh Λ ad M O 23 1)] := by
    unfold wl
    rw [List.map_append]
    congr 1
    · apply List.map_congr_left
      intro q hq
      have hne : ¬ (q.1 = 23 ∧ q.2 = 1) := by
        rintro ⟨h1, h2⟩
        apply hn
        have : q = (23, 1) := Prod.ext h1 h2
        rw [← this]; exact hq
      rw [ad2_n _ _ _ _ hne]
  obtain ⟨h1, h2, h3⟩ := hP
  rw [e] at h1 h2 h3
  have lt : ∀ {i : Nat} {q : Nat × va_E}, (wl ids ad (sh Λ ad M O))[i]? = some q → (wl ids ad (sh Λ ad M O) ++ [(a, sh Λ ad M O 23 1)])[i]? = some q := fun {i q} hq => by
    rw [List.getElem?_append_left (List.getElem?_eq_some_iff.mp hq).1]; exact hq
  exact ⟨fun i q hq => h1 i q (lt hq), fun i j p q hp hq => h2 i j p q (lt hp) (lt hq), fun i q hq => h3 i q (lt hq)⟩
