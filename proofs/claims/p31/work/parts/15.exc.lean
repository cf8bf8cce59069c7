def eIAE : String := "java/lang/IllegalArgumentException"
def eISE : String := "java/lang/IllegalStateException"
def eIOB : String := "java/lang/IndexOutOfBoundsException"
def eNames : List String := ["java/lang/RuntimeException", "java/lang/Exception"]
def strs : List (Nat × String) := [(67, "the text is not a station"), (338, "a save slot is 0 or 1"), (340, "nothing has been saved in this slot"), (123, "about what is 0 to 12"), (125, "a setting is 0 to 8"), (137, "no such place with heat"), (149, "what of a place is 0 to 2"), (154, "no such room"), (183, "what of a room is 0 to 6"), (194, "no such way"), (206, "what of a way is 0 to 2"), (185, "a place is 0 to 9"), (217, "a number of the new room is out of its range"), (223, "there are 6 rooms"), (236, "what or the new number is out of its range"), (247, "what or the new setting is out of its range"), (256, "the temperature outside is -20 to 40"), (261, "minutes are 1 to 60"), (276, "minutes are 0 to 240"), (296, "minutes are 1 to 240"), (311, "a script has 1 to 4 commands"), (317, "the script does not have 4 digits for each command"), (326, "rounds are 1 to 60"), (40, "a character code is 0 to 255"), (51, "the text is full"), (270, "no state is remembered")]
def nx : List Cond := [.castable eIAE eIAE, .castable eISE eISE, .castable eIOB eIOB, .declares ⟨"java/lang/RuntimeException", "<init>", "()V"⟩, .declares ⟨"java/lang/RuntimeException", "<init>", "(Ljava/lang/String;)V"⟩, .declares ⟨"java/lang/Exception", "<init>", "()V"⟩, .declares ⟨"java/lang/Exception", "<init>", "(Ljava/lang/String;)V"⟩, .declares ⟨"java/lang/Throwable", "<init>", "()V"⟩, .declares ⟨"java/lang/Throwable", "<init>", "(Ljava/lang/String;)V"⟩]
/-- what throwing and catching stand on -/
def IX (Λ : Lay) (B : Zn) (U : State) (H : Heap) : Prop := vx_Zq Bundle.tN "UNASSIGNED_STACK" Bundle.steD (Aq B) U H ∧ vx_Zq Bundle.tN "SUPPRESSED_SENTINEL" Bundle.listD (Aq B) U H ∧ (∀ q ∈ strs, vk_R RX5 q.1 q.2 (Λ.2.2.2 q.1) U) ∧ (∀ w ∈ nx, va_Nw w U) ∧ va_Nc eISE eIAE U ∧ va_Nc eIAE eIOB U ∧ va_Nc eISE eIOB U
theorem IX.moved {Λ : Lay} {B : Zn} {s U : State} {H : Heap} {locs : List Loc} (h : IX Λ B s s.heap) (hS : va_S (Aq B) s.heap H locs) (hU : U.heap = H) (hW : s.WarmedH U.vm) : IX Λ B U U.heap := by
  obtain ⟨h1, h2, h3, h4, h5, h6, h7⟩ := h
  have hq : ∀ a : Nat, a < s.heap.size → ¬ Aq B a → U.heap[a]? = s.heap[a]? := fun a h1 h2 => by rw [hU]; exact hS.2.1 a h1 h2
  refine ⟨(h1.kept hq).moved hW.alike, (h2.kept hq).moved hW.alike, fun q hq => (h3 q hq).warm hW, fun w hw => ?_, h5.moved hW.alike, h6.moved hW.alike, h7.moved hW.alike⟩
  have h := h4 w hw
  simp only [nx, List.mem_cons, List.not_mem_nil, or_false] at hw
  rcases hw with hw | hw | hw | hw | hw | hw | hw | hw | hw <;> rw [hw] at h ⊢
  · exact h.warmC hW
  · exact h.warmC hW
  · exact h.warmC hW
  · exact h.warmD hW
  · exact h.warmD hW
  · exact h.warmD hW
  · exact h.warmD hW
  · exact h.warmD hW
  · exact h.warmD hW
theorem IX.blind {Λ : Lay} {B : Zn} {U : State} {g : JFrame} {mk : MethodId} {a : Array Value} (h : IX Λ B U U.heap) : IX Λ B (U.calling g mk a) (U.calling g mk a).heap := by
  obtain ⟨h1, h2, h3, h4, h5, h6, h7⟩ := h
  have hA : U.vm.Alike (U.calling g mk a).vm := Vm.Alike.refl U.vm
  refine ⟨h1.moved hA, h2.moved hA, fun q hq => vk_R.same rfl (h3 q hq), fun w hw => ?_, h5.moved hA, h6.moved hA, h7.moved hA⟩
  have h := h4 w hw
  simp only [nx, List.mem_cons, List.not_mem_nil, or_false] at hw
  rcases hw with hw | hw | hw | hw | hw | hw | hw | hw | hw <;> rw [hw] at h ⊢ <;> exact va_Nw.same rfl rfl h
abbrev Xo : Type := String → List (Nat × Nat) → (Nat → Nat → Nat) → (Nat → Nat → va_E) → Prop
def QX (Λ : Lay) (B : Zn) (X : Xo) : String → State → State → Prop := fun E st t => (∃ (ids : List (Nat × Nat)) (ad : Nat → Nat → Nat) (w : Nat → Nat → va_E), X E ids ad w ∧ HP Λ B ids ad w t.heap) ∧ va_F (Aq B) st t
/-- a contract of a method that may throw -/
def CX (l : Launch) (y : MethodName) (cc : ByteArray) (nL : Nat) (ret : Option FieldType) (rm : Room) (Λ : Lay) (B : Zn) (ids : List (Nat × Nat)) (ad : Nat → Nat → Nat) (w : Nat → Nat → va_E) (av : List Value) (P : Po) (X : Xo) : Prop :=
  vx_Met l y (uw y cc nL ret) rm (va_Pc av (fun U => IU Λ B U ∧ IX Λ B U U.heap ∧ HP Λ B ids ad w U.heap)) (QC Λ B P) (QX Λ B X) rm.cells rm.slots (Aq B)
/-- a contract of a method that catches -/
def CH (l : Launch) (y : MethodName) (cc : ByteArray) (nL : Nat) (ret : Option FieldType) (hh : List (Nat × Nat × Nat × Nat)) (rm : Room) (Λ : Lay) (B : Zn) (ids : List (Nat × Nat)) (ad : Nat → Nat → Nat) (w : Nat → Nat → va_E) (av : List Value) (P : Po) : Prop :=
  Met l y (Cond.codeWith y cc nL ret hh :: UW) rm (va_Pc av (fun U => IU Λ B U ∧ IX Λ B U U.heap ∧ HP Λ B ids ad w U.heap)) (QC Λ B P) rm.cells rm.slots (Aq B)
def FinX (Γ : Cx) (mc ms : Nat) (ret : Option FieldType) (P : Po) (X : Xo) : Prop := match Γ with
  | (_, _, _, _, s, _, args, below, meth, _, Q, _, Λ, B) => meth.sig.returnType = ret ∧ Q = vx_MQ below (QC Λ B P) (QX Λ B X) args s mc ms (Aq B)
def OkX (Γ : Cx) (tab : List ExceptionTableEntry) : Prop := match Γ with
  | (_, l, _, _, s, _, _, _, _, c, _, _, Λ, B) => IX Λ B s s.heap ∧ c.exceptionTable.toList = tab ∧ l.stackTraces = false
theorem CX.of {l : Launch} {y : MethodName} {cc : ByteArray} {nL : Nat} {ret : Option FieldType} {rm : Room} {Λ : Lay} {B : Zn} {ids : List (Nat × Nat)} {ad : Nat → Nat → Nat} {w : Nat → Nat → va_E} {av : List Value} {P : Po} {X : Xo} (hst : l.stackTraces = false) (own : String) (lv : List (Nat × Value))
    (hpl : plainName y.cls = true) (hown : y.cls = own) (hlen : (lg_sl av).length ≤ nL) (hlv : lv_args 0 av = lv)
    (body : ∀ Γ : Cx, Ok Γ own cc nL rm Λ B → OkX Γ [] → FinX Γ rm.cells rm.slots ret P X → G Γ ids ad 0 0 w 0 lv []) : CX l y cc nL ret rm Λ B ids ad w av P X := by
  subst hown
  refine vx_ofW (cc := cc) (maxL := nL) (ret := ret) hpl rfl ?_
  intro p e s m args below meth c s₁ B1 hml htab hv
  obtain ⟨rfl, hI, hI2, hH⟩ := hv
  have hts : ∀ w ∈ uw y cc nL ret, w.before av.toArray s = true := atoms_spec (ws := uw y cc nL ret) B1.pre
  have hl := lv_entry av (n := nL) hlen
  rw [hlv] at hl
  rw [lg_entry_eq]
  have htab2 : c.exceptionTable.toList = [] := List.eq_nil_iff_forall_not_mem.mpr htab
  have hg := body (p, l, e, rm, s, m, av.toArray, below, meth, c, _, nL, Λ, B) ⟨p, l, e, s, m, _, below, meth, c, _, rfl, B1.exec, B1.bytes, hml, findClass_of_methodNamed B1.named, fun w hw => hts w (List.mem_cons_of_mem _ hw), hI, B1.notSynchronized⟩ ⟨hI2, htab2, hst⟩ ⟨B1.returns, rfl⟩
  exact hg s.heap [] _ hH va_S.rf hl
theorem CH.of {l : Launch} {y : MethodName} {cc : ByteArray} {nL : Nat} {ret : Option FieldType} {hh : List (Nat × Nat × Nat × Nat)} {rm : Room} {Λ : Lay} {B : Zn} {ids : List (Nat × Nat)} {ad : Nat → Nat → Nat} {w : Nat → Nat → va_E} {av : List Value} {P : Po} (hst : l.stackTraces = false) (own : String) (lv : List (Nat × Value))
    (hpl : plainName y.cls = true) (hown : y.cls = own) (hlen : (lg_sl av).length ≤ nL) (hlv : lv_args 0 av = lv)
    (body : ∀ Γ : Cx, Ok Γ own cc nL rm Λ B → OkX Γ (tableOf hh) → Fin' Γ rm.cells rm.slots ret P → G Γ ids ad 0 0 w 0 lv []) : CH l y cc nL ret hh rm Λ B ids ad w av P := by
  subst hown
  unfold CH Met
  refine MetFree.of_bodyS (code := cc) (maxLocals := nL) (ret := ret) hpl ?_ ?_
  · intro args s m h hn
    obtain ⟨m9, meth, c, hn9, h1, h2, h3, h4, -, h5, h6, -⟩ := Cond.codeWith_spec (atoms_spec (ws := Cond.codeWith y cc nL ret hh :: UW) h _ List.mem_cons_self)
    cases hn.symm.trans hn9
    exact ⟨meth, c, h1, h2, h3, h4, h5, h6⟩
  · intro p e s m args below meth c s₁ B1 hml hv _
    obtain ⟨rfl, hI, hI2, hH⟩ := hv
    have hts : ∀ w ∈ Cond.codeWith y cc nL ret hh :: UW, w.before av.toArray s = true := atoms_spec (ws := Cond.codeWith y cc nL ret hh :: UW) B1.pre
    have hl := lv_entry av (n := nL) hlen
    rw [hlv] at hl
    rw [lg_entry_eq]
    have htab2 := vx_table (x := y) B1 (hts _ List.mem_cons_self)
    have hg := body (p, l, e, rm, s, m, av.toArray, below, meth, c, MQ below (QC Λ B P) av.toArray s rm.cells rm.slots (Aq B), nL, Λ, B) ⟨p, l, e, s, m, _, below, meth, c, _, rfl, B1.exec, B1.bytes, hml, findClass_of_methodNamed B1.named, fun w hw => hts w (List.mem_cons_of_mem _ hw), hI, B1.notSynchronized⟩ ⟨hI2, htab2, hst⟩ ⟨B1.returns, rfl⟩
    have hh0 : s₁.heap = s.heap := by rw [B1.state]; rfl
    obtain ⟨t, a1, o, b1, b2, b3⟩ := hg s.heap [] _ hH va_S.rf hl s₁ hh0 (Stand.of_body B1)
    exact ⟨t, o, a1, b1, b2, ⟨b3.1, b3.2⟩⟩
/-- the machine throws an E at pc -/
def GX (Γ : Cx) (E : String) (ids : List (Nat × Nat)) (ad : Nat → Nat → Nat) (k z : Nat) (w : Nat → Nat → va_E) (pc : Nat) (lv : List (Nat × Value)) (st : List Value) : Prop := match Γ with
  | (p, l, e, R, s, m, args, below, meth, c, Q, nL, Λ, B) => ∀ (H : Heap) (locs : List Loc) (ls : Array Slot) (q : Addr) (ce : Cell), HP Λ B ids ad w H → va_S (Aq B) s.heap H locs → lv_has ls nL lv → H[q]? = some ce → ce.vm = .none → s.vm.findClass E = some ce.cls → vx_W p l e R s m args below meth c H locs k z Q (F0 m pc ls st) q
theorem G_iretX {Γ : Cx} {own : String} {cc : ByteArray} {nL : Nat} {rm : Room} {Λ : Lay} {B : Zn} {ids : List (Nat × Nat)} {ad : Nat → Nat → Nat} {k z : Nat} {w : Nat → Nat → va_E} {pc : Nat} {lv : List (Nat × Value)} (hO : Ok Γ own cc nL rm Λ B)  {v : Int32} {ret : Option FieldType} {mc ms : Nat} {P : Po} {X : Xo} (hF : FinX Γ mc ms ret P X) (hr : ret = some .int) (hk : k ≤ mc) (hz : z ≤ ms) (hd : decode cc pc = .ok (.ireturn, 1)) (hp : P (some (.int v)) ids ad w) : G Γ ids ad k z w pc lv [.int v] := by
  obtain ⟨p, l, e, s, m, args, below, meth, c, Q, rfl, hx, hb, hml, hown, hts, hI, hlk⟩ := hO
  intro H locs ls hP hS hl
  obtain ⟨h1, rfl⟩ := hF
  subst hr
  refine vx_ret ?_
  refine W.widen hk hz ?_
  exact W.iret (v := v) hx hb h1 (fun t ht hW => ⟨⟨_, ids, ad, w, rfl, hp, by rw [ht]; exact hP⟩, hS.F ht⟩) hS.2.2 hd
theorem G_lretX {Γ : Cx} {own : String} {cc : ByteArray} {nL : Nat} {rm : Room} {Λ : Lay} {B : Zn} {ids : List (Nat × Nat)} {ad : Nat → Nat → Nat} {k z : Nat} {w : Nat → Nat → va_E} {pc : Nat} {lv : List (Nat × Value)} (hO : Ok Γ own cc nL rm Λ B)  {v : Int64} {ret : Option FieldType} {mc ms : Nat} {P : Po} {X : Xo} (hF : FinX Γ mc ms ret P X) (hr : ret = some .long) (hk : k ≤ mc) (hz : z ≤ ms) (hd : decode cc pc = .ok (.lreturn, 1)) (hp : P (some (.long v)) ids ad w) : G Γ ids ad k z w pc lv [.long v] := by
  obtain ⟨p, l, e, s, m, args, below, meth, c, Q, rfl, hx, hb, hml, hown, hts, hI, hlk⟩ := hO
  intro H locs ls hP hS hl
  obtain ⟨h1, rfl⟩ := hF
  subst hr
  refine vx_ret ?_
  refine W.widen hk hz ?_
  exact W.lret (v := v) hx hb h1 (fun t ht hW => ⟨⟨_, ids, ad, w, rfl, hp, by rw [ht]; exact hP⟩, hS.F ht⟩) hS.2.2 hd
theorem at_ISE_g : ∀ w ∈ (vx_atS RX5 53 eISE eNames).filter goodWord, w ∈ UW := fun w hw => uw_in ((by decide +kernel : ∀ w ∈ (vx_atS RX5 53 eISE eNames).filter goodWord, w ∈ lw_tbl) w hw) (List.mem_filter.mp hw).2
theorem at_ISE_n : ∀ w ∈ (vx_atS RX5 53 eISE eNames).filter (fun w => !goodWord w), w ∈ nx := by decide +kernel
theorem at_ISE_o : ∀ ik ∈ [38, 49, 135], ∀ w ∈ Cond.classLink RX5 ik eISE :: Cond.initialized eISE :: vx_atS RX5 53 eISE eNames, vx_ot w = true := by decide +kernel
theorem at_IAE_g : ∀ w ∈ (vx_atS RX5 42 eIAE eNames).filter goodWord, w ∈ UW := fun w hw => uw_in ((by decide +kernel : ∀ w ∈ (vx_atS RX5 42 eIAE eNames).filter goodWord, w ∈ lw_tbl) w hw) (List.mem_filter.mp hw).2
theorem at_IAE_n : ∀ w ∈ (vx_atS RX5 42 eIAE eNames).filter (fun w => !goodWord w), w ∈ nx := by decide +kernel
theorem at_IAE_o : ∀ ik ∈ [38, 49, 135], ∀ w ∈ Cond.classLink RX5 ik eIAE :: Cond.initialized eIAE :: vx_atS RX5 42 eIAE eNames, vx_ot w = true := by decide +kernel
theorem at_IOB_g : ∀ w ∈ (vx_atS RX5 139 eIOB eNames).filter goodWord, w ∈ UW := fun w hw => uw_in ((by decide +kernel : ∀ w ∈ (vx_atS RX5 139 eIOB eNames).filter goodWord, w ∈ lw_tbl) w hw) (List.mem_filter.mp hw).2
theorem at_IOB_n : ∀ w ∈ (vx_atS RX5 139 eIOB eNames).filter (fun w => !goodWord w), w ∈ nx := by decide +kernel
theorem at_IOB_o : ∀ ik ∈ [38, 49, 135], ∀ w ∈ Cond.classLink RX5 ik eIOB :: Cond.initialized eIOB :: vx_atS RX5 139 eIOB eNames, vx_ot w = true := by decide +kernel
theorem HP.grown {Λ : Lay} {B : Zn} {ids : List (Nat × Nat)} {ad : Nat → Nat → Nat} {w : Nat → Nat → va_E} {H H1 : Heap} (h : HP Λ B ids ad w H) (hq : ∀ q : Nat, q < H.size → H1[q]? = H[q]?) : HP Λ B ids ad w H1 :=
  ⟨h.1.kept (fun k q hk => hq q.1 (h.1 k q hk).lt), h.2⟩
theorem G_throw_ISE {Γ : Cx} {own : String} {cc : ByteArray} {nL : Nat} {rm : Room} {Λ : Lay} {B : Zn} {ids : List (Nat × Nat)} {ad : Nat → Nat → Nat} {k z : Nat} {w : Nat → Nat → va_E} {pc : Nat} {lv : List (Nat × Value)} (hO : Ok Γ own cc nL rm Λ B) {st : List Value} {ik is : Nat} {text : String} {ret : Option FieldType} {mc ms : Nat} {P : Po} {X : Xo} (hX : OkX Γ []) (hF : FinX Γ mc ms ret P X) (ho : own = RX5) (hk0 : Cond.classLink RX5 ik eISE ∈ UW) (hik : ik ∈ [38, 49, 135]) (hini : Cond.initialized eISE ∈ UW) (hstr : (is, text) ∈ strs)
    (d0 : decode cc pc = .ok (.new ik, 3)) (d3 : decode cc (pc + 3) = .ok (.dup, 1)) (d4 : decode cc (pc + 4) = .ok (.ldc is, 2)) (d6 : decode cc (pc + 6) = .ok (.invokespecial 53, 3)) (d9 : decode cc (pc + 9) = .ok (.athrow, 1))
    (hfr : 5 < rm.frames) (hlo : (st.map fun v => v.category).sum + 82 ≤ rm.locals) (hrc : k + 1 ≤ rm.cells) (hrs : z + 6 ≤ rm.slots) (hk : k + 1 ≤ mc) (hz : z + 6 ≤ ms) (hp : X eISE ids ad w) : G Γ ids ad k z w pc lv st := by
  obtain ⟨p, l, e, s, m, args, below, meth, c, Q, rfl, hx, hb, hml, hown, hts, hI, hlk⟩ := hO
  intro H locs ls hP hS hl
  obtain ⟨h1, rfl⟩ := hF
  obtain ⟨⟨g1, g2, g3, g4, -⟩, htab, hst⟩ := hX
  subst ho
  refine vx_throwS (cls := eISE) (names := eNames) hx hb hst hown (by decide +kernel) (by decide +kernel) (hts _ hk0) (hts _ hini) (g3 _ hstr) (vx_hat (fun w hw => hts w (at_ISE_g w hw)) at_ISE_n (fun w hw => va_Nw.use (by simp only [nx, List.mem_cons, List.not_mem_nil, or_false] at hw; rcases hw with h | h | h | h | h | h | h | h | h <;> rw [h] <;> rfl) (g4 w hw))) (at_ISE_o _ hik) g1 g2 hS (hl.1.trans hml.symm) d0 d3 d4 d6 d9 (by rw [htab]; exact fun _ h => absurd h List.not_mem_nil) hfr hlo hrc hrs hlk (fun t hA hs1 hq1 => ⟨⟨ids, ad, w, hp, hP.grown hq1⟩, Nat.le_trans hS.1 hs1, fun q g5 g6 => by rw [hq1 q (Nat.lt_of_lt_of_le g5 hS.1)]; exact hS.2.1 q g5 g6⟩) hS.2.2 hk hz
theorem G_throw_IAE {Γ : Cx} {own : String} {cc : ByteArray} {nL : Nat} {rm : Room} {Λ : Lay} {B : Zn} {ids : List (Nat × Nat)} {ad : Nat → Nat → Nat} {k z : Nat} {w : Nat → Nat → va_E} {pc : Nat} {lv : List (Nat × Value)} (hO : Ok Γ own cc nL rm Λ B) {st : List Value} {ik is : Nat} {text : String} {ret : Option FieldType} {mc ms : Nat} {P : Po} {X : Xo} (hX : OkX Γ []) (hF : FinX Γ mc ms ret P X) (ho : own = RX5) (hk0 : Cond.classLink RX5 ik eIAE ∈ UW) (hik : ik ∈ [38, 49, 135]) (hini : Cond.initialized eIAE ∈ UW) (hstr : (is, text) ∈ strs)
    (d0 : decode cc pc = .ok (.new ik, 3)) (d3 : decode cc (pc + 3) = .ok (.dup, 1)) (d4 : decode cc (pc + 4) = .ok (.ldc is, 2)) (d6 : decode cc (pc + 6) = .ok (.invokespecial 42, 3)) (d9 : decode cc (pc + 9) = .ok (.athrow, 1))
    (hfr : 5 < rm.frames) (hlo : (st.map fun v => v.category).sum + 82 ≤ rm.locals) (hrc : k + 1 ≤ rm.cells) (hrs : z + 6 ≤ rm.slots) (hk : k + 1 ≤ mc) (hz : z + 6 ≤ ms) (hp : X eIAE ids ad w) : G Γ ids ad k z w pc lv st := by
  obtain ⟨p, l, e, s, m, args, below, meth, c, Q, rfl, hx, hb, hml, hown, hts, hI, hlk⟩ := hO
  intro H locs ls hP hS hl
  obtain ⟨h1, rfl⟩ := hF
  obtain ⟨⟨g1, g2, g3, g4, -⟩, htab, hst⟩ := hX
  subst ho
  refine vx_throwS (cls := eIAE) (names := eNames) hx hb hst hown (by decide +kernel) (by decide +kernel) (hts _ hk0) (hts _ hini) (g3 _ hstr) (vx_hat (fun w hw => hts w (at_IAE_g w hw)) at_IAE_n (fun w hw => va_Nw.use (by simp only [nx, List.mem_cons, List.not_mem_nil, or_false] at hw; rcases hw with h | h | h | h | h | h | h | h | h <;> rw [h] <;> rfl) (g4 w hw))) (at_IAE_o _ hik) g1 g2 hS (hl.1.trans hml.symm) d0 d3 d4 d6 d9 (by rw [htab]; exact fun _ h => absurd h List.not_mem_nil) hfr hlo hrc hrs hlk (fun t hA hs1 hq1 => ⟨⟨ids, ad, w, hp, hP.grown hq1⟩, Nat.le_trans hS.1 hs1, fun q g5 g6 => by rw [hq1 q (Nat.lt_of_lt_of_le g5 hS.1)]; exact hS.2.1 q g5 g6⟩) hS.2.2 hk hz
theorem G_throw_IOB {Γ : Cx} {own : String} {cc : ByteArray} {nL : Nat} {rm : Room} {Λ : Lay} {B : Zn} {ids : List (Nat × Nat)} {ad : Nat → Nat → Nat} {k z : Nat} {w : Nat → Nat → va_E} {pc : Nat} {lv : List (Nat × Value)} (hO : Ok Γ own cc nL rm Λ B) {st : List Value} {ik is : Nat} {text : String} {ret : Option FieldType} {mc ms : Nat} {P : Po} {X : Xo} (hX : OkX Γ []) (hF : FinX Γ mc ms ret P X) (ho : own = RX5) (hk0 : Cond.classLink RX5 ik eIOB ∈ UW) (hik : ik ∈ [38, 49, 135]) (hini : Cond.initialized eIOB ∈ UW) (hstr : (is, text) ∈ strs)
    (d0 : decode cc pc = .ok (.new ik, 3)) (d3 : decode cc (pc + 3) = .ok (.dup, 1)) (d4 : decode cc (pc + 4) = .ok (.ldc is, 2)) (d6 : decode cc (pc + 6) = .ok (.invokespecial 139, 3)) (d9 : decode cc (pc + 9) = .ok (.athrow, 1))
    (hfr : 5 < rm.frames) (hlo : (st.map fun v => v.category).sum + 82 ≤ rm.locals) (hrc : k + 1 ≤ rm.cells) (hrs : z + 6 ≤ rm.slots) (hk : k + 1 ≤ mc) (hz : z + 6 ≤ ms) (hp : X eIOB ids ad w) : G Γ ids ad k z w pc lv st := by
  obtain ⟨p, l, e, s, m, args, below, meth, c, Q, rfl, hx, hb, hml, hown, hts, hI, hlk⟩ := hO
  intro H locs ls hP hS hl
  obtain ⟨h1, rfl⟩ := hF
  obtain ⟨⟨g1, g2, g3, g4, -⟩, htab, hst⟩ := hX
  subst ho
  refine vx_throwS (cls := eIOB) (names := eNames) hx hb hst hown (by decide +kernel) (by decide +kernel) (hts _ hk0) (hts _ hini) (g3 _ hstr) (vx_hat (fun w hw => hts w (at_IOB_g w hw)) at_IOB_n (fun w hw => va_Nw.use (by simp only [nx, List.mem_cons, List.not_mem_nil, or_false] at hw; rcases hw with h | h | h | h | h | h | h | h | h <;> rw [h] <;> rfl) (g4 w hw))) (at_IOB_o _ hik) g1 g2 hS (hl.1.trans hml.symm) d0 d3 d4 d6 d9 (by rw [htab]; exact fun _ h => absurd h List.not_mem_nil) hfr hlo hrc hrs hlk (fun t hA hs1 hq1 => ⟨⟨ids, ad, w, hp, hP.grown hq1⟩, Nat.le_trans hS.1 hs1, fun q g5 g6 => by rw [hq1 q (Nat.lt_of_lt_of_le g5 hS.1)]; exact hS.2.1 q g5 g6⟩) hS.2.2 hk hz
theorem G_throwW_ISE {Γ : Cx} {own : String} {cc : ByteArray} {nL : Nat} {rm : Room} {Λ : Lay} {B : Zn} {ids : List (Nat × Nat)} {ad : Nat → Nat → Nat} {k z : Nat} {w : Nat → Nat → va_E} {pc : Nat} {lv : List (Nat × Value)} (hO : Ok Γ own cc nL rm Λ B) {st : List Value} {ik is : Nat} {text : String} {ret : Option FieldType} {mc ms : Nat} {P : Po} {X : Xo} (hX : OkX Γ []) (hF : FinX Γ mc ms ret P X) (ho : own = RX5) (hk0 : Cond.classLink RX5 ik eISE ∈ UW) (hik : ik ∈ [38, 49, 135]) (hini : Cond.initialized eISE ∈ UW) (hstr : (is, text) ∈ strs)
    (d0 : decode cc pc = .ok (.new ik, 3)) (d3 : decode cc (pc + 3) = .ok (.dup, 1)) (d4 : decode cc (pc + 4) = .ok (.ldc_w is, 3)) (d6 : decode cc (pc + 7) = .ok (.invokespecial 53, 3)) (d9 : decode cc (pc + 10) = .ok (.athrow, 1))
    (hfr : 5 < rm.frames) (hlo : (st.map fun v => v.category).sum + 82 ≤ rm.locals) (hrc : k + 1 ≤ rm.cells) (hrs : z + 6 ≤ rm.slots) (hk : k + 1 ≤ mc) (hz : z + 6 ≤ ms) (hp : X eISE ids ad w) : G Γ ids ad k z w pc lv st := by
  obtain ⟨p, l, e, s, m, args, below, meth, c, Q, rfl, hx, hb, hml, hown, hts, hI, hlk⟩ := hO
  intro H locs ls hP hS hl
  obtain ⟨h1, rfl⟩ := hF
  obtain ⟨⟨g1, g2, g3, g4, -⟩, htab, hst⟩ := hX
  subst ho
  refine vx_throwSW (cls := eISE) (names := eNames) hx hb hst hown (by decide +kernel) (by decide +kernel) (hts _ hk0) (hts _ hini) (g3 _ hstr) (vx_hat (fun w hw => hts w (at_ISE_g w hw)) at_ISE_n (fun w hw => va_Nw.use (by simp only [nx, List.mem_cons, List.not_mem_nil, or_false] at hw; rcases hw with h | h | h | h | h | h | h | h | h <;> rw [h] <;> rfl) (g4 w hw))) (at_ISE_o _ hik) g1 g2 hS (hl.1.trans hml.symm) d0 d3 d4 d6 d9 (by rw [htab]; exact fun _ h => absurd h List.not_mem_nil) hfr hlo hrc hrs hlk (fun t hA hs1 hq1 => ⟨⟨ids, ad, w, hp, hP.grown hq1⟩, Nat.le_trans hS.1 hs1, fun q g5 g6 => by rw [hq1 q (Nat.lt_of_lt_of_le g5 hS.1)]; exact hS.2.1 q g5 g6⟩) hS.2.2 hk hz
theorem G_throwW_IAE {Γ : Cx} {own : String} {cc : ByteArray} {nL : Nat} {rm : Room} {Λ : Lay} {B : Zn} {ids : List (Nat × Nat)} {ad : Nat → Nat → Nat} {k z : Nat} {w : Nat → Nat → va_E} {pc : Nat} {lv : List (Nat × Value)} (hO : Ok Γ own cc nL rm Λ B) {st : List Value} {ik is : Nat} {text : String} {ret : Option FieldType} {mc ms : Nat} {P : Po} {X : Xo} (hX : OkX Γ []) (hF : FinX Γ mc ms ret P X) (ho : own = RX5) (hk0 : Cond.classLink RX5 ik eIAE ∈ UW) (hik : ik ∈ [38, 49, 135]) (hini : Cond.initialized eIAE ∈ UW) (hstr : (is, text) ∈ strs)
    (d0 : decode cc pc = .ok (.new ik, 3)) (d3 : decode cc (pc + 3) = .ok (.dup, 1)) (d4 : decode cc (pc + 4) = .ok (.ldc_w is, 3)) (d6 : decode cc (pc + 7) = .ok (.invokespecial 42, 3)) (d9 : decode cc (pc + 10) = .ok (.athrow, 1))
    (hfr : 5 < rm.frames) (hlo : (st.map fun v => v.category).sum + 82 ≤ rm.locals) (hrc : k + 1 ≤ rm.cells) (hrs : z + 6 ≤ rm.slots) (hk : k + 1 ≤ mc) (hz : z + 6 ≤ ms) (hp : X eIAE ids ad w) : G Γ ids ad k z w pc lv st := by
  obtain ⟨p, l, e, s, m, args, below, meth, c, Q, rfl, hx, hb, hml, hown, hts, hI, hlk⟩ := hO
  intro H locs ls hP hS hl
  obtain ⟨h1, rfl⟩ := hF
  obtain ⟨⟨g1, g2, g3, g4, -⟩, htab, hst⟩ := hX
  subst ho
  refine vx_throwSW (cls := eIAE) (names := eNames) hx hb hst hown (by decide +kernel) (by decide +kernel) (hts _ hk0) (hts _ hini) (g3 _ hstr) (vx_hat (fun w hw => hts w (at_IAE_g w hw)) at_IAE_n (fun w hw => va_Nw.use (by simp only [nx, List.mem_cons, List.not_mem_nil, or_false] at hw; rcases hw with h | h | h | h | h | h | h | h | h <;> rw [h] <;> rfl) (g4 w hw))) (at_IAE_o _ hik) g1 g2 hS (hl.1.trans hml.symm) d0 d3 d4 d6 d9 (by rw [htab]; exact fun _ h => absurd h List.not_mem_nil) hfr hlo hrc hrs hlk (fun t hA hs1 hq1 => ⟨⟨ids, ad, w, hp, hP.grown hq1⟩, Nat.le_trans hS.1 hs1, fun q g5 g6 => by rw [hq1 q (Nat.lt_of_lt_of_le g5 hS.1)]; exact hS.2.1 q g5 g6⟩) hS.2.2 hk hz
theorem G_throwW_IOB {Γ : Cx} {own : String} {cc : ByteArray} {nL : Nat} {rm : Room} {Λ : Lay} {B : Zn} {ids : List (Nat × Nat)} {ad : Nat → Nat → Nat} {k z : Nat} {w : Nat → Nat → va_E} {pc : Nat} {lv : List (Nat × Value)} (hO : Ok Γ own cc nL rm Λ B) {st : List Value} {ik is : Nat} {text : String} {ret : Option FieldType} {mc ms : Nat} {P : Po} {X : Xo} (hX : OkX Γ []) (hF : FinX Γ mc ms ret P X) (ho : own = RX5) (hk0 : Cond.classLink RX5 ik eIOB ∈ UW) (hik : ik ∈ [38, 49, 135]) (hini : Cond.initialized eIOB ∈ UW) (hstr : (is, text) ∈ strs)
    (d0 : decode cc pc = .ok (.new ik, 3)) (d3 : decode cc (pc + 3) = .ok (.dup, 1)) (d4 : decode cc (pc + 4) = .ok (.ldc_w is, 3)) (d6 : decode cc (pc + 7) = .ok (.invokespecial 139, 3)) (d9 : decode cc (pc + 10) = .ok (.athrow, 1))
    (hfr : 5 < rm.frames) (hlo : (st.map fun v => v.category).sum + 82 ≤ rm.locals) (hrc : k + 1 ≤ rm.cells) (hrs : z + 6 ≤ rm.slots) (hk : k + 1 ≤ mc) (hz : z + 6 ≤ ms) (hp : X eIOB ids ad w) : G Γ ids ad k z w pc lv st := by
  obtain ⟨p, l, e, s, m, args, below, meth, c, Q, rfl, hx, hb, hml, hown, hts, hI, hlk⟩ := hO
  intro H locs ls hP hS hl
  obtain ⟨h1, rfl⟩ := hF
  obtain ⟨⟨g1, g2, g3, g4, -⟩, htab, hst⟩ := hX
  subst ho
  refine vx_throwSW (cls := eIOB) (names := eNames) hx hb hst hown (by decide +kernel) (by decide +kernel) (hts _ hk0) (hts _ hini) (g3 _ hstr) (vx_hat (fun w hw => hts w (at_IOB_g w hw)) at_IOB_n (fun w hw => va_Nw.use (by simp only [nx, List.mem_cons, List.not_mem_nil, or_false] at hw; rcases hw with h | h | h | h | h | h | h | h | h <;> rw [h] <;> rfl) (g4 w hw))) (at_IOB_o _ hik) g1 g2 hS (hl.1.trans hml.symm) d0 d3 d4 d6 d9 (by rw [htab]; exact fun _ h => absurd h List.not_mem_nil) hfr hlo hrc hrs hlk (fun t hA hs1 hq1 => ⟨⟨ids, ad, w, hp, hP.grown hq1⟩, Nat.le_trans hS.1 hs1, fun q g5 g6 => by rw [hq1 q (Nat.lt_of_lt_of_le g5 hS.1)]; exact hS.2.1 q g5 g6⟩) hS.2.2 hk hz
theorem px_blind {Λ : Lay} {B : Zn} {ids : List (Nat × Nat)} {ad : Nat → Nat → Nat} {w : Nat → Nat → va_E} {av : List Value} : FrameBlind (va_Pc av (fun U => IU Λ B U ∧ IX Λ B U U.heap ∧ HP Λ B ids ad w U.heap)) := fun _ _ _ _ h => ⟨h.1, h.2.1.blind, h.2.2.1.blind, h.2.2.2⟩
theorem run_doneX {p : Program} {l : Launch} {e : Env} {R : Room} {s : State} {m : MethodId} {args : Array Value} {below : List Frame} {meth : Method} {c : Code} {H : Heap} {locs : List Loc} {k z mc ms pc nL : Nat} {Q : State → Prop} {ls : Array Slot} {st rest : List Value} {Λ : Lay} {B : Zn} {P : Po} {X : Xo} {a : Array Value} {lv : List (Nat × Value)}
    (hr : vx_Run p l e R s m args below meth c H locs k z mc ms (F0 m pc ls st) rest (QC Λ B P a) (QX Λ B X) (Aq B)) (hS : va_S (Aq B) s.heap H locs) (hl : lv_has ls nL lv)
    (h : ∀ (v : Option Value) (ids : List (Nat × Nat)) (ad : Nat → Nat → Nat) (w : Nat → Nat → va_E), P v ids ad w → G (p, l, e, R, s, m, args, below, meth, c, Q, nL, Λ, B) ids ad (k + mc) (z + ms) w (pc + 3) lv (v.toList ++ rest))
    (hx : ∀ (E : String) (ids : List (Nat × Nat)) (ad : Nat → Nat → Nat) (w : Nat → Nat → va_E), X E ids ad w → GX (p, l, e, R, s, m, args, below, meth, c, Q, nL, Λ, B) E ids ad (k + mc) (z + ms) w pc lv rest) : W p l e R s m args below meth c H locs k z Q (F0 m pc ls st) := by
  intro T hT X
  have hkeep : ∀ {st₀ t T' : State} {L : List Loc}, st₀.heap = H → T'.heap = t.heap → (∀ z ∈ L, Aq B z.base) → va_F (Aq B) st₀ t → va_S (Aq B) s.heap T'.heap (locs ++ L) := by
    intro st₀ t T' L h0 e1 hL hF
    obtain ⟨hz, hk⟩ := hF
    rw [h0] at hz hk
    exact ⟨Nat.le_trans hS.1 (by rw [e1]; exact hz), fun q h1 h2 => by rw [e1, hk q (Nat.lt_of_lt_of_le h1 hS.1) h2]; exact hS.2.1 q h1 h2, fun q hq => by
      rcases List.mem_append.mp hq with h | h
      · exact hS.2.2 q h
      · exact hL q h⟩
  rcases hr T hT X with ⟨v, st₀, t, T', L, h0, X', hL, e1, e2, ⟨⟨v', ids, ad, w, hv, hp, hh⟩, hF⟩, stp⟩ | ⟨q, st₀, t, T', L, E, ce, h0, X', hL, e1, e2, ⟨⟨ids, ad, w, hp, hh⟩, hF⟩, hce, hcv, hcl, stp⟩
  · cases hv
    obtain ⟨t2, a1, b1⟩ := h v ids ad w hp T'.heap (locs ++ L) ls (by rw [e1]; exact hh) (hkeep h0 e1 hL hF) hl T' rfl X'
    exact ⟨t2, stp t2 a1, b1⟩
  · obtain ⟨t2, a1, b1⟩ := hx E ids ad w hp T'.heap (locs ++ L) ls q ce (by rw [e1]; exact hh) (hkeep h0 e1 hL hF) hl (by rw [e1]; exact hce) hcv hcl T' rfl X'
    exact ⟨t2, stp.trans a1, b1⟩
theorem G_callVX {Γ : Cx} {own : String} {cc : ByteArray} {nL : Nat} {rm : Room} {Λ : Lay} {B : Zn} {ids : List (Nat × Nat)} {ad : Nat → Nat → Nat} {k z : Nat} {w : Nat → Nat → va_E} {pc : Nat} {lv : List (Nat × Value)} (hO : Ok Γ own cc nL rm Λ B) {st rest : List Value} {y : MethodName} {cc' : ByteArray} {nL' : Nat} {ret' : Option FieldType} {rm' : Room} {P : Po} {X : Xo} {nn index i j : Nat} (As : List Value) {tab : List ExceptionTableEntry} (hX : OkX Γ tab) (hM : ∀ l : Launch, l.stackTraces = false → CX l y cc' nL' ret' rm' Λ B ids ad w (.ref (ad i j) :: As) P X) (hv : CV y cc' nL' ret' nn) (hin : Cond.instanceMethod y ∈ UW) (hse : Cond.selects y.cls y y ∈ UW) (hl0 : Cond.methodLink own index y ∈ UW) (hid : (i, j) ∈ ids) {ci : Nat} {T : u_T} {N : Nat} {ty : Nat → FieldType} {fs : List Value} (hc : Cl ci y.cls T N ty) (hw : w i j = .inr (ci, fs)) (hn : As.length = nn) (hst : st = As.reverse ++ .ref (ad i j) :: rest) (hcat : (rest.map fun v => v.category).sum ≤ 8) (hrm : rm'.frames + 1 ≤ rm.frames ∧ 8 + (nL' + 11) + rm'.locals ≤ rm.locals) (hkz : k + rm'.cells ≤ rm.cells ∧ z + rm'.slots ≤ rm.slots) (hd : decode cc pc = .ok (.invokevirtual index, 3)) (h : ∀ (v : Option Value) (ids' : List (Nat × Nat)) (ad' : Nat → Nat → Nat) (w' : Nat → Nat → va_E), P v ids' ad' w' → G Γ ids' ad' (k + rm'.cells) (z + rm'.slots) w' (pc + 3) lv (v.toList ++ rest))
    (hxx : ∀ (E : String) (ids' : List (Nat × Nat)) (ad' : Nat → Nat → Nat) (w' : Nat → Nat → va_E), X E ids' ad' w' → GX Γ E ids' ad' (k + rm'.cells) (z + rm'.slots) w' pc lv rest) : G Γ ids ad k z w pc lv st := by
  obtain ⟨p, l, e, s, m, args, below, meth, c, Q, rfl, hx, hb, hml, hown, hts, hI, hlk⟩ := hO
  intro H locs ls hP hS hl
  subst hst
  obtain ⟨q, hq, -⟩ := hP.at hid hw
  refine run_doneX (vx_runV (Ts := UW) (As := As) (rest := rest) ⟨hx, hb, hml, hown, hts⟩ (hM l hX.2.2) ⟨callB_of nn hts (uw_of hv.2.1) rfl rfl rfl (hts _ hv.1) (hts _ hl0) hv.2.2 hrm, hts _ hin, hts _ hse⟩ ⟨px_blind, va_recv hI.1 hP.1 (q := (y.cls, T, N)) hc.1 hq, fun U hU hW => ⟨rfl, hI.moved hS hU hW, hX.1.moved hS hU hW, by rw [hU]; exact hP⟩⟩ rfl hn hl.1 rfl (lv_room hcat) hd hkz) hS hl h hxx
/-- caught by the table's first row -/
theorem GX_catch1 {Γ : Cx} {own : String} {cc : ByteArray} {nL : Nat} {rm : Room} {Λ : Lay} {B : Zn} {ids : List (Nat × Nat)} {ad : Nat → Nat → Nat} {k z : Nat} {w : Nat → Nat → va_E} {pc : Nat} {lv : List (Nat × Value)} (hO : Ok Γ own cc nL rm Λ B) {st : List Value} {hh : List (Nat × Nat × Nat × Nat)} {E : String} {a b c0 d : Nat} {hh2 : List (Nat × Nat × Nat × Nat)} (hX : OkX Γ (tableOf hh)) (hE : hh = (a, b, c0, d) :: hh2) (hcov : covers ⟨a, b, c0, d⟩ pc = true) (hd0 : d ≠ 0) (hl0 : Cond.classLink own d E ∈ UW) (hc : Cond.castable E E ∈ nx) (h : ∀ q : Nat, G Γ ids ad k z w c0 lv [.ref q]) : GX Γ E ids ad k z w pc lv st := by
  obtain ⟨p, l, e, s, m, args, below, meth, c, Q, rfl, hx, hb, hml, hown, hts, hI, hlk⟩ := hO
  intro H locs ls q ce hP hS hl hce hcv hcl
  subst hE
  obtain ⟨⟨-, -, -, g4, -⟩, htab, -⟩ := hX
  exact vx_catch (name := E) hown [] ⟨a, b, c0, d⟩ (tableOf hh2) htab (fun _ h => absurd h List.not_mem_nil) hcov hd0 (hts _ hl0) (va_Nw.use rfl (g4 _ hc)) hce hcv hcl (h q H locs ls hP hS hl)
/-- caught by the second row; the first names another class -/
theorem GX_catch2 {Γ : Cx} {own : String} {cc : ByteArray} {nL : Nat} {rm : Room} {Λ : Lay} {B : Zn} {ids : List (Nat × Nat)} {ad : Nat → Nat → Nat} {k z : Nat} {w : Nat → Nat → va_E} {pc : Nat} {lv : List (Nat × Value)} (hO : Ok Γ own cc nL rm Λ B) {st : List Value} {hh : List (Nat × Nat × Nat × Nat)} {E F : String} {a b c0 d a' b' c' d' : Nat} {hh2 : List (Nat × Nat × Nat × Nat)} (hX : OkX Γ (tableOf hh)) (hE : hh = (a', b', c', d') :: (a, b, c0, d) :: hh2) (hcov : covers ⟨a, b, c0, d⟩ pc = true) (hd0 : d ≠ 0) (hl0 : Cond.classLink own d E ∈ UW) (hc : Cond.castable E E ∈ nx) (hd1 : d' ≠ 0) (hl1 : Cond.classLink own d' F ∈ UW) (hnc : ∀ U : State, IX Λ B U U.heap → va_Nc E F U) (h : ∀ q : Nat, G Γ ids ad k z w c0 lv [.ref q]) : GX Γ E ids ad k z w pc lv st := by
  obtain ⟨p, l, e, s, m, args, below, meth, c, Q, rfl, hx, hb, hml, hown, hts, hI, hlk⟩ := hO
  intro H locs ls q ce hP hS hl hce hcv hcl
  subst hE
  obtain ⟨hix, htab, -⟩ := hX
  exact vx_catch (name := E) hown [⟨a', b', c', d'⟩] ⟨a, b, c0, d⟩ (tableOf hh2) htab (fun z hz => by rw [List.mem_singleton.mp hz]; exact Or.inr ⟨hd1, F, hts _ hl1, hnc s hix⟩) hcov hd0 (hts _ hl0) (va_Nw.use rfl (hix.2.2.2.1 _ hc)) hce hcv hcl (h q H locs ls hP hS hl)
def Xg (Λ : Lay) (ids : List (Nat × Nat)) (ad : Nat → Nat → Nat) (O : Nat → Int64) (X : String → Mem → Prop) : Xo := fun E ids' ad' w' => ids' = ids ∧ ad' = ad ∧ ∃ M, w' = sh Λ ad M O ∧ X E M
