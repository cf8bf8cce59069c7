/-! THE CLAIM OUT OF ONE WALK OF THE LAW'S BODY. Your part is whole_start (and what it stands on); all else here is the same for every law, but numbers. -/
def R_law : String := "MixerStationLaw"
def lw_P (b : Addr) (xs : List Int32) (args : Array Value) (s : State) : Prop := args = #[.ref b] ∧ s.IntsAt b xs ∧ xs.length ≤ 260 ∧ (Jvm.Cond.and given_1 narrow_1).before args s = true
def lw_Q (_ : Array Value) (s : State) (o : Outcome) (t : State) : Prop := o = .returned (some (.int 1)) ∧ Framed s o t [] 600104 7301314
def lw_Z (below : List Frame) (a : Array Value) (s : State) : State → Prop := fun t => ∃ o, t.status = .running ∧ Ended t below o ∧ lw_Q a s o t
/-- the law's own end, with 1 on the stack, nothing written that was there before, its room as the claim has it -/
theorem lw_ret {p : Program} {l : Launch} {e : Env} {s : State} {m : MethodId} {below : List Frame} {meth : Method} {c : Code} {b : Nat} (hx : p.tables.exec = Jvm.exec) (hb : c.code = code) (hr : meth.sig.returnType = ret) (hlocks : meth.locks = false) {pc : Nat} {H : Heap} {ls : Array Slot} (hdg : decode code pc = .ok (.ireturn, 1)) : W p l e room_1 s m #[Value.ref b] below meth c H [] 600104 7301314 (lw_Z below #[Value.ref b] s) (F0 m pc ls [.int 1]) := by
  intro T hT X
  obtain ⟨fs, hret, hrun, hended, hW, hframe⟩ := X.leave (v := some (.int 1)) (hlocks := hlocks) (fun h => by rw [hr] at h; cases h)
  have hmeth' : T.vm.method? m = some meth := X.method'
  refine ⟨T.setFrames fs, ?_, .returned (some (.int 1)), hrun, hended, rfl, ⟨_, rfl⟩, hW, hframe⟩
  jvm_step X.here [X.here.top, hx, hb, hdg, hmeth', hr, ret, narrow_b1]
  (try refine ⟨rfl, ?_⟩); (try refine ⟨rfl, ?_⟩)
  first | (intro acts; rw [hret _ acts rfl rfl rfl]) | rw [hret _ _ rfl rfl rfl]
  exact Steps.refl _
/-- what holds at the law's entry: the machine, the code, the tables' words (any of lw_tbl by 'hts w (by decide +kernel)'), the script of L ints xs at the cell b, what the Statement gives of the start (any of its parts by flat_of_before) -/
def lw_At (p : Program) (s : State) (m : MethodId) (meth : Method) (c : Code) (b L : Nat) (xs : Nat → Int32) : Prop :=
  p.tables.exec = Jvm.exec ∧ c.code = code ∧ meth.sig.returnType = ret ∧ c.maxLocals = 7 ∧ s.vm.findClass R_law = some m.cls ∧ (∀ w ∈ lw_tbl, w.before #[Value.ref b] s = true) ∧ va_X b L xs s s.heap ∧ b < s.heap.size ∧ meth.locks = false ∧ (Jvm.Cond.and given_1 narrow_1).before #[Value.ref b] s = true
/-- what the law's entry gives beside Ok: the script, the end -/
def LX (Γ : Cx) (b L : Nat) (xs : Nat → Int32) : Prop := match Γ with
  | (_, _, _, R, s, _, args, below, meth, _, Q, _, _, B) => va_X b L xs s s.heap ∧ b < s.heap.size ∧ (∀ q, B q ↔ s.heap.size ≤ q) ∧ R = room_1 ∧ args = #[Value.ref b] ∧ meth.sig.returnType = ret ∧ Q = lw_Z below #[Value.ref b] s
/-- the script -/
def LD (Γ : Cx) (b L : Nat) (xs : Nat → Int32) : Prop := match Γ with
  | (_, _, _, _, s, _, _, _, _, _, _, _, _, B) => va_X b L xs s s.heap ∧ b < s.heap.size ∧ ¬ B b
def wL_draw (L : Nat) (xs : Nat → Int32) (a1 : Int32) (P : Int32 → Prop) : Prop := ((Int32.ofNat L ≤ a1 → P (((15593213 * a1) + 10321) &&& 2147483647)) ∧ (¬ Int32.ofNat L ≤ a1 → (vp_in a1 L ∧ P ((xs (Int32.toNatClampNeg a1)) &&& 2147483647))))
theorem S_alen {Γ : Cx} {own : String} {cc : ByteArray} {nL : Nat} {rm : Room} {Λ : Lay} {B : Zn} {ids : List (Nat × Nat)} {ad : Nat → Nat → Nat} {k z : Nat} {w : Nat → Nat → va_E} {pc : Nat} {lv : List (Nat × Value)} {st : List Value} (hO : Ok Γ own cc nL rm Λ B) {b L : Nat} {xs : Nat → Int32} (hL : LD Γ b L xs) (hd : decode cc pc = .ok (.arraylength, 1)) (h : G Γ ids ad k z w (pc + 1) lv (.int (Int32.ofNat L) :: st)) : G Γ ids ad k z w pc lv (.ref b :: st) := by
  obtain ⟨p, l, e, s, m, args, below, meth, c, Q, rfl, hx, hb, hml, hown, hts, hI, hlk⟩ := hO
  intro H locs ls hP hS hl
  exact va_slen hx hb hL.1 hL.2.1 hL.2.2 hS hd (h H locs ls hP hS hl)
theorem S_iald {Γ : Cx} {own : String} {cc : ByteArray} {nL : Nat} {rm : Room} {Λ : Lay} {B : Zn} {ids : List (Nat × Nat)} {ad : Nat → Nat → Nat} {k z : Nat} {w : Nat → Nat → va_E} {pc : Nat} {lv : List (Nat × Value)} {st : List Value} (hO : Ok Γ own cc nL rm Λ B) {b L : Nat} {xs : Nat → Int32} (hL : LD Γ b L xs) {x : Int32} (hin : vp_in x L) (hd : decode cc pc = .ok (.iaload, 1)) (h : G Γ ids ad k z w (pc + 1) lv (.int (xs x.toNatClampNeg) :: st)) : G Γ ids ad k z w pc lv (.int x :: .ref b :: st) := by
  obtain ⟨p, l, e, s, m, args, below, meth, c, Q, rfl, hx, hb, hml, hown, hts, hI, hlk⟩ := hO
  intro H locs ls hP hS hl
  exact va_sld hx hb hL.1 hL.2.1 hL.2.2 hS hin hd (h H locs ls hP hS hl)
def CDr (l : Launch) (Λ : Lay) (B : Zn) (ids : List (Nat × Nat)) (ad : Nat → Nat → Nat) (w : Nat → Nat → va_E) (b L : Nat) (xs : Nat → Int32) (a1 : Int32) (P : Int32 → Prop) : Prop :=
  Met l yL_draw (uw yL_draw cL_draw 2 (some .int)) { frames := 0, cells := 0, slots := 0, locals := 0 } (va_Pc [.ref b, .int a1] (fun U => IU Λ B U ∧ (va_X b L xs U U.heap ∧ b < U.heap.size ∧ ¬ B b) ∧ HP Λ B ids ad w U.heap)) (QC Λ B (Ni ids ad w P)) 0 0 (Aq B)
set_option maxHeartbeats 1000000 in
theorem c_L_draw {l : Launch} {Λ : Lay} {B : Zn} {ids : List (Nat × Nat)} {ad : Nat → Nat → Nat} {w : Nat → Nat → va_E} {b L : Nat} {xs : Nat → Int32} {a1 : Int32} {P : Int32 → Prop} (hs : wL_draw L xs a1 P) : CDr l Λ B ids ad w b L xs a1 P := by
  unfold CDr
  refine met_ofF (cc := cL_draw) (maxL := 2) (ret := some .int) (plainFor_of_name (by decide +kernel)) rfl ?_
  intro p e s m args below meth c s₁ B1 hml hv
  obtain ⟨rfl, hI, hL, hH⟩ := hv
  have hts : ∀ w ∈ uw yL_draw cL_draw 2 (some .int), w.before #[Value.ref b, .int a1] s = true := atoms_spec (ws := uw yL_draw cL_draw 2 (some .int)) B1.pre
  have hl := lv_entry [Value.ref b, .int a1] (n := 2) (Nat.le_of_ble_eq_true rfl)
  rw [lg_entry_eq]
  have hg : ∀ Γ : Cx, Ok Γ RL cL_draw 2 { frames := 0, cells := 0, slots := 0, locals := 0 } Λ B → LD Γ b L xs → Fin' Γ 0 0 (some .int) (Ni ids ad w P) → G Γ ids ad 0 0 w 0 [(0, .ref b), (1, .int a1)] [] := by
    intro Γ hO hL hF
    unfold wL_draw at hs
    refine G_iload_n hO 1 dL_draw_0 rfl rfl ?_
    refine G_aload_n hO 0 dL_draw_1 rfl rfl ?_
    refine S_alen hO hL dL_draw_2 ?_
    refine G_icmp_ge hO 12 dL_draw_3 (by decide) (fun h => ?_) (fun h => ?_)
    · refine G_ldc hO mw_203 dL_draw_12 ?_
      refine G_iload_n hO 1 dL_draw_14 rfl rfl ?_
      refine G_imul hO dL_draw_15 ?_
      refine G_sipush hO 10321 dL_draw_16 (by decide) ?_
      refine G_iadd hO dL_draw_19 ?_
      refine G_ldc hO mw_204 dL_draw_20 ?_
      refine G_iand hO dL_draw_22 ?_
      exact G_iret hO hF rfl (Nat.zero_le _) (Nat.zero_le _) dL_draw_23 ⟨rfl, rfl, rfl, _, rfl, hs.1 h⟩
    · replace hs := hs.2 h
      refine G_aload_n hO 0 dL_draw_6 rfl rfl ?_
      refine G_iload_n hO 1 dL_draw_7 rfl rfl ?_
      refine S_iald hO hL hs.1 dL_draw_8 ?_
      refine G_goto hO 20 dL_draw_9 (by decide) ?_
      refine G_ldc hO mw_204 dL_draw_20 ?_
      refine G_iand hO dL_draw_22 ?_
      exact G_iret hO hF rfl (Nat.zero_le _) (Nat.zero_le _) dL_draw_23 ⟨rfl, rfl, rfl, _, rfl, hs.2⟩
  exact hg (p, l, e, { frames := 0, cells := 0, slots := 0, locals := 0 }, s, m, #[Value.ref b, .int a1], below, meth, c, _, 2, Λ, B) ⟨p, l, e, s, m, _, below, meth, c, _, rfl, B1.exec, B1.bytes, hml, findClass_of_methodNamed B1.named, fun w hw => hts w (List.mem_cons_of_mem _ hw), hI, B1.notSynchronized⟩ hL ⟨B1.returns, rfl⟩ s.heap [] _ hH va_S.rf hl
theorem ps_blind {Λ : Lay} {B : Zn} {ids : List (Nat × Nat)} {ad : Nat → Nat → Nat} {w : Nat → Nat → va_E} {av : List Value} {b L : Nat} {xs : Nat → Int32} : FrameBlind (va_Pc av (fun U => IU Λ B U ∧ (va_X b L xs U U.heap ∧ b < U.heap.size ∧ ¬ B b) ∧ HP Λ B ids ad w U.heap)) := fun _ s _ _ h => ⟨h.1, h.2.1.blind, ⟨va_X.moved (Vm.Alike.refl s.vm) h.2.2.1.1, h.2.2.1.2⟩, h.2.2.2⟩
theorem L_draw {Γ : Cx} {own : String} {cc : ByteArray} {nL : Nat} {rm : Room} {Λ : Lay} {B : Zn} {ids : List (Nat × Nat)} {ad : Nat → Nat → Nat} {k z : Nat} {w : Nat → Nat → va_E} {pc : Nat} {lv : List (Nat × Value)} (hO : Ok Γ own cc nL rm Λ B) {b L : Nat} {xs : Nat → Int32} (hL : LX Γ b L xs) {rest : List Value} {a1 : Int32} {P : Int32 → Prop} {index : Nat} (hs : wL_draw L xs a1 P) (hss : Cond.static yL_draw ∈ UW) (hl0 : Cond.methodLink own index yL_draw ∈ UW) (hcat : (rest.map fun v => v.category).sum ≤ 8) (hrm : 0 + 1 ≤ rm.frames ∧ 8 + (2 + 11) + 0 ≤ rm.locals) (hk : k ≤ rm.cells) (hz : z ≤ rm.slots) (hd : decode cc pc = .ok (.invokestatic index, 3)) (h : ∀ r : Int32, P r → G Γ ids ad k z w (pc + 3) lv (.int r :: rest)) : G Γ ids ad k z w pc lv (.int a1 :: .ref b :: rest) := by
  obtain ⟨p, l, e, s, m, args, below, meth, c, Q, rfl, hx, hb, hml, hown, hts, hI, hlk⟩ := hO
  intro H locs ls hP hS hl
  have hcv := cv_L_draw
  have hnB : ¬ B b := fun q => absurd ((hL.2.2.1 b).mp q) (Nat.not_le.mpr hL.2.1)
  refine run_done (Λ := Λ) (B := B) (va_runS (Ts := UW) (As := [.ref b, .int a1]) (rest := rest) ⟨hx, hb, hml, hown, hts⟩ (c_L_draw (l := l) (ids := ids) (ad := ad) (w := w) hs) ⟨callB_of 2 hts (uw_of hcv.2.1) rfl rfl rfl (hts _ hcv.1) (hts _ hl0) hcv.2.2 hrm, hts _ hss⟩ ⟨ps_blind, fun U hU hW => ⟨rfl, hI.moved hS hU hW, ⟨va_X.moved hW.alike (hL.1.kept (by rw [hU]; exact hS.2.1 b hL.2.1 hnB)), by rw [hU]; exact Nat.lt_of_lt_of_le hL.2.1 hS.1, hnB⟩, by rw [hU]; exact hP⟩⟩ rfl rfl hl.1 rfl (lv_room hcat) hd ⟨hk, hz⟩) hS hl ?_
  rintro v ids' ad' w' ⟨rfl, rfl, rfl, r, rfl, hp⟩
  exact h r hp
theorem L_ret {Γ : Cx} {own : String} {cc : ByteArray} {nL : Nat} {rm : Room} {Λ : Lay} {B : Zn} {ids : List (Nat × Nat)} {ad : Nat → Nat → Nat} {k z : Nat} {w : Nat → Nat → va_E} {pc : Nat} {lv : List (Nat × Value)} {st : List Value} (hO : Ok Γ own cc nL rm Λ B) {b L : Nat} {xs : Nat → Int32} (hL : LX Γ b L xs) (hcc : cc = code) (hk : k ≤ 600104) (hz : z ≤ 7301314) (hd : decode cc pc = .ok (.ireturn, 1)) : G Γ ids ad k z w pc lv [.int 1] := by
  obtain ⟨p, l, e, s, m, args, below, meth, c, Q, rfl, hx, hb, hml, hown, hts, hI, hlk⟩ := hO
  intro H locs ls hP hS hl
  subst hcc
  obtain ⟨-, -, hB, rfl, rfl, hr, rfl⟩ := hL
  exact va_forget (fun q hq => (hB _).mp (hS.2.2 q hq)) (W.widen hk hz (lw_ret hx hb hr hlk hd))
theorem D_callA {Γ : Cx} {own : String} {cc : ByteArray} {nL : Nat} {rm : Room} {Λ : Lay} {B : Zn} {ids : List (Nat × Nat)} {ad : Nat → Nat → Nat} {k : Nat} {D : DM} {O : Nat → Int64} {pc : Nat} {lv : List (Nat × Value)} {st : List Value} (hO : Ok Γ own cc nL rm Λ B) {rest : List Value} {y : MethodName} {cc' : ByteArray} {nL' : Nat} {ret' : Option FieldType} {rm' : Room} {n index cap : Nat} {P : Int32 → DM → Prop} (c : Nat) (As : List Value) (hX : OkI Γ) (hM : ∀ l : Launch, l.stackTraces = false → CY l y cc' nL' ret' rm' Λ B ids ad (dw Λ ad D O) As (Gdm Λ ids ad O P)) (hv : CV y cc' nL' ret' n) (hss : Cond.static y ∈ UW) (hl0 : Cond.methodLink own index y ∈ UW) (hn : As.length = n) (hst : st = As.reverse ++ rest) (hcat : (rest.map fun v => v.category).sum ≤ 8) (hrm : rm'.frames + 1 ≤ rm.frames ∧ 8 + (nL' + 11) + rm'.locals ≤ rm.locals) (hc : rm'.cells ≤ c ∧ rm'.slots ≤ 16 * c) (hcap : cap ≤ rm.cells ∧ 16 * cap ≤ rm.slots) (hk : k + c ≤ cap) (hd : decode cc pc = .ok (.invokestatic index, 3)) (h : ∀ (r : Int32) (D1 : DM), P r D1 → G Γ ids ad (k + c) (16 * (k + c)) (dw Λ ad D1 O) (pc + 3) lv (.int r :: rest)) : G Γ ids ad k (16 * k) (dw Λ ad D O) pc lv st := by
  have hO2 := hO
  obtain ⟨p, l, e, s, m, args, below, meth, c, Q, rfl, hx, hb, hml, hown, hts, hI, hlk⟩ := hO
  intro H locs ls hP hS hl
  subst hst
  have hkz : k + rm'.cells ≤ rm.cells ∧ 16 * k + rm'.slots ≤ rm.slots := by omega
  refine run_done (va_runS (Ts := UW) (As := As) (rest := rest) ⟨hx, hb, hml, hown, hts⟩ (hM l hX.2) ⟨callB_of n hts (uw_of hv.2.1) rfl rfl rfl (hts _ hv.1) (hts _ hl0) hv.2.2 hrm, hts _ hss⟩ ⟨px_blind, fun U hU hW => ⟨rfl, hI.moved hS hU hW, hX.1.moved hS hU hW, by rw [hU]; exact hP⟩⟩ rfl hn hl.1 rfl (lv_room hcat) hd hkz) hS hl ?_
  rintro v ids' ad' w' ⟨rfl, rfl, D1, r, rfl, rfl, hp⟩
  exact G_widen hO2 (by omega) (by omega) (h r D1 hp)
