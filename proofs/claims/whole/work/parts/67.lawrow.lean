/-- what the law's entry gives beside Ok: the script, the strings' and exceptions' facts, the end -/
def LX (Γ : Cx) (b L : Nat) (xs : Nat → Int32) : Prop := match Γ with
  | (_, l, _, R, s, _, args, below, meth, _, Q, _, Λ, B) => va_X b L xs s s.heap ∧ b < s.heap.size ∧ s.heap.size = B ∧ l.stackTraces = false ∧ IX Λ B s s.heap ∧ R = room_1 ∧ args = #[Value.ref b] ∧ meth.sig.returnType = ret ∧ Q = lw_Z below #[Value.ref b] s
theorem L_alen {Γ : Cx} {own : String} {cc : ByteArray} {nL : Nat} {rm : Room} {Λ : Lay} {B : Nat} {ids : List (Nat × Nat)} {ad : Nat → Nat → Nat} {k z : Nat} {w : Nat → Nat → va_E} {pc : Nat} {lv : List (Nat × Value)} {st : List Value} (hO : Ok Γ own cc nL rm Λ B) {b L : Nat} {xs : Nat → Int32} (hL : LX Γ b L xs) (hd : decode cc pc = .ok (.arraylength, 1)) (h : G Γ ids ad k z w (pc + 1) lv (.int (Int32.ofNat L) :: st)) : G Γ ids ad k z w pc lv (.ref b :: st) := by
  obtain ⟨p, l, e, s, m, args, below, meth, c, Q, rfl, hx, hb, hml, hown, hts, hI, hlk⟩ := hO
  intro H locs ls hP hS hl
  exact va_slen hx hb hL.1 hL.2.1 (Nat.not_le.mpr (hL.2.2.1 ▸ hL.2.1)) hS hd (h H locs ls hP hS hl)
theorem L_iald {Γ : Cx} {own : String} {cc : ByteArray} {nL : Nat} {rm : Room} {Λ : Lay} {B : Nat} {ids : List (Nat × Nat)} {ad : Nat → Nat → Nat} {k z : Nat} {w : Nat → Nat → va_E} {pc : Nat} {lv : List (Nat × Value)} {st : List Value} (hO : Ok Γ own cc nL rm Λ B) {b L : Nat} {xs : Nat → Int32} (hL : LX Γ b L xs) {x : Int32} (hin : vp_in x L) (hd : decode cc pc = .ok (.iaload, 1)) (h : G Γ ids ad k z w (pc + 1) lv (.int (xs x.toNatClampNeg) :: st)) : G Γ ids ad k z w pc lv (.int x :: .ref b :: st) := by
  obtain ⟨p, l, e, s, m, args, below, meth, c, Q, rfl, hx, hb, hml, hown, hts, hI, hlk⟩ := hO
  intro H locs ls hP hS hl
  exact va_sld hx hb hL.1 hL.2.1 (Nat.not_le.mpr (hL.2.2.1 ▸ hL.2.1)) hS hin hd (h H locs ls hP hS hl)
def CW (y : MethodName) (cc : ByteArray) (nL : Nat) (ret : Option FieldType) (hh : List (Nat × Nat × Nat × Nat)) (n : Nat) : Prop := Cond.initialized y.cls ∈ UW ∧ Cond.codeWith y cc nL ret hh ∈ UW ∧ (y.cls ≠ "java/lang/invoke/MethodHandle" ∧ y.cls ≠ "java/lang/invoke/VarHandle" ∧ (parseMethodDescriptor y.desc).map (fun d => d.parameters.length) = some n)
theorem L_call {Γ : Cx} {own : String} {cc : ByteArray} {nL : Nat} {rm : Room} {Λ : Lay} {B : Nat} {ids : List (Nat × Nat)} {ad : Nat → Nat → Nat} {k z : Nat} {w : Nat → Nat → va_E} {pc : Nat} {lv : List (Nat × Value)} {st : List Value} (hO : Ok Γ own cc nL rm Λ B) {b L : Nat} {xs : Nat → Int32} (hL : LX Γ b L xs) {rest : List Value} {y : MethodName} {cc' : ByteArray} {nL' : Nat} {ret' : Option FieldType} {hh : List (Nat × Nat × Nat × Nat)} {rm' : Room} {P : Po} {n index : Nat} (As : List Value) (hM : ∀ l : Launch, l.stackTraces = false → CH l y cc' nL' ret' hh rm' Λ B ids ad w As P) (hv : CW y cc' nL' ret' hh n) (hss : Cond.static y ∈ UW) (hl0 : Cond.methodLink own index y ∈ UW) (hn : As.length = n) (hst : st = As.reverse ++ rest) (hcat : (rest.map fun v => v.category).sum ≤ 8) (hrm : rm'.frames + 1 ≤ rm.frames ∧ 8 + (nL' + 11) + rm'.locals ≤ rm.locals) (hkz : k + rm'.cells ≤ rm.cells ∧ z + rm'.slots ≤ rm.slots) (hd : decode cc pc = .ok (.invokestatic index, 3)) (h : ∀ (v : Option Value) (ids' : List (Nat × Nat)) (ad' : Nat → Nat → Nat) (w' : Nat → Nat → va_E), P v ids' ad' w' → G Γ ids' ad' (k + rm'.cells) (z + rm'.slots) w' (pc + 3) lv (v.toList ++ rest)) : G Γ ids ad k z w pc lv st := by
  obtain ⟨p, l, e, s, m, args, below, meth, c, Q, rfl, hx, hb, hml, hown, hts, hI, hlk⟩ := hO
  intro H locs ls hP hS hl
  subst hst
  obtain ⟨-, -, -, hst9, hX9, -⟩ := hL
  refine run_done (vx_runSW (Ts := UW) (As := As) (rest := rest) ⟨hx, hb, hml, hown, hts⟩ (hM l hst9) (vx_cwSW (ws' := UW) n hts (fun q hq => ?_) rfl rfl rfl hv.2.2 hrm) ⟨px_blind, fun U hU hW => ⟨rfl, hI.moved hS hU hW, hX9.moved hS hU hW, by rw [hU]; exact hP⟩⟩ rfl hn hl.1 rfl (lv_room hcat) hd hkz) hS hl h
  have key : q ∈ UW := by
    simp only [va_wsS, List.mem_append, List.mem_cons, List.not_mem_nil, or_false] at hq
    rcases hq with (rfl | rfl | rfl) | rfl | hq
    all_goals first | exact hss | exact hl0 | exact hv.1 | exact hv.2.1 | exact hq
  exact ⟨key, uw_good key⟩
theorem L_ret {Γ : Cx} {own : String} {cc : ByteArray} {nL : Nat} {rm : Room} {Λ : Lay} {B : Nat} {ids : List (Nat × Nat)} {ad : Nat → Nat → Nat} {k z : Nat} {w : Nat → Nat → va_E} {pc : Nat} {lv : List (Nat × Value)} {st : List Value} (hO : Ok Γ own cc nL rm Λ B) {b L : Nat} {xs : Nat → Int32} (hL : LX Γ b L xs) (hcc : cc = code) (hk : k ≤ 601024) (hz : z ≤ 7293034) (hd : decode cc pc = .ok (.ireturn, 1)) : G Γ ids ad k z w pc lv [.int 1] := by
  obtain ⟨p, l, e, s, m, args, below, meth, c, Q, rfl, hx, hb, hml, hown, hts, hI, hlk⟩ := hO
  intro H locs ls hP hS hl
  subst hcc
  obtain ⟨-, -, hB, -, -, rfl, rfl, hr, rfl⟩ := hL
  exact va_forget (fun q hq => Nat.le_trans (Nat.le_of_eq hB) (hS.2.2 q hq)) (W.widen hk hz (lw_ret hx hb hr hlk hd))
