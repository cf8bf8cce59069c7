def ad2 (ad : Nat → Nat → Nat) (i j a : Nat) : Nat → Nat → Nat := fun i' j' => if i' = i ∧ j' = j then a else ad i' j'
theorem ad2_s (ad : Nat → Nat → Nat) (i j a : Nat) : ad2 ad i j a i j = a := by simp [ad2]
theorem ad2_n (ad : Nat → Nat → Nat) (i j a : Nat) {i' j' : Nat} (h : ¬ (i' = i ∧ j' = j)) : ad2 ad i j a i' j' = ad i' j' := by simp only [ad2, if_neg h]
theorem wl_new {ids : List (Nat × Nat)} {ad : Nat → Nat → Nat} {w : Nat → Nat → va_E} {i j a : Nat} {e : va_E} (h : (i, j) ∉ ids) : wl (ids ++ [(i, j)]) (ad2 ad i j a) (up2 w i j e) = wl ids ad w ++ [(a, e)] := by
  unfold wl
  rw [List.map_append]
  congr 1
  · apply List.map_congr_left
    intro q hq
    have hne : ¬ (q.1 = i ∧ q.2 = j) := by
      rintro ⟨h1, h2⟩
      apply h
      have : q = (i, j) := Prod.ext h1 h2
      rw [← this]; exact hq
    rw [ad2_n _ _ _ _ hne, up2_n _ _ _ _ hne]
  · simp [ad2_s, up2_s]
/-- the method is a constructor -/
def OkN (Γ : Cx) : Prop := match Γ with
  | (_, _, _, _, _, _, _, _, meth, _, _, _, _, _) => meth.name = "<init>"
theorem CT.ofI {l : Launch} {y : MethodName} {cc : ByteArray} {nL : Nat} {ret : Option FieldType} {rm : Room} {Λ : Lay} {B : Zn} {ids : List (Nat × Nat)} {ad : Nat → Nat → Nat} {w : Nat → Nat → va_E} {av : List Value} {P : Po} (own : String) (lv : List (Nat × Value))
    (hpl : plainFor y = true) (hown : y.cls = own) (hn : y.name = "<init>") (hlen : (lg_sl av).length ≤ nL) (hlv : lv_args 0 av = lv)
    (body : ∀ Γ : Cx, Ok Γ own cc nL rm Λ B → OkN Γ → Fin' Γ rm.cells rm.slots ret P → G Γ ids ad 0 0 w 0 lv []) : CT l y cc nL ret rm Λ B ids ad w av P := by
  subst hown
  refine met_ofF (cc := cc) (maxL := nL) (ret := ret) hpl rfl ?_
  intro p e s m args below meth c s₁ B1 hml hv
  obtain ⟨rfl, hI, hH⟩ := hv
  have hts : ∀ w ∈ uw y cc nL ret, w.before av.toArray s = true := atoms_spec (ws := uw y cc nL ret) B1.pre
  have hl := lv_entry av (n := nL) hlen
  rw [hlv] at hl
  rw [lg_entry_eq]
  have hg := body (p, l, e, rm, s, m, av.toArray, below, meth, c, _, nL, Λ, B) ⟨p, l, e, s, m, _, below, meth, c, _, rfl, B1.exec, B1.bytes, hml, findClass_of_methodNamed B1.named, fun w hw => hts w (List.mem_cons_of_mem _ hw), hI, B1.notSynchronized⟩ ((name_of_methodNamed B1.named B1.method).1.trans hn) ⟨B1.returns, rfl⟩
  exact hg s.heap [] _ hH va_S.rf hl
theorem G_objInit {Γ : Cx} {own : String} {cc : ByteArray} {nL : Nat} {rm : Room} {Λ : Lay} {B : Zn} {ids : List (Nat × Nat)} {ad : Nat → Nat → Nat} {k z : Nat} {w : Nat → Nat → va_E} {pc : Nat} {lv : List (Nat × Value)} {st : List Value} (hO : Ok Γ own cc nL rm Λ B) {index a : Nat} (hw0 : Cond.methodLink own index Lib.objectInit ∈ UW) (hf : 1 ≤ rm.frames) (hlc : 2 * 0 + (st.map fun v => v.category).sum + 12 ≤ rm.locals) (hd : decode cc pc = .ok (.invokespecial index, 3)) (h : G Γ ids ad k z w (pc + 3) lv st) : G Γ ids ad k z w pc lv (.ref a :: st) := by
  obtain ⟨p, l, e, s, m, args, below, meth, c, Q, rfl, hx, hb, hml, hown, hts, hI, hlk⟩ := hO
  intro H locs ls hP hS hl
  exact W.objInit hx hb hown (hts _ hw0) (hts _ mw_21) (hts _ mw_22) rfl (by rw [hml]; exact hl.1) rfl hd hf hlc (h H locs ls hP hS hl)
theorem G_putF {Γ : Cx} {own : String} {cc : ByteArray} {nL : Nat} {rm : Room} {Λ : Lay} {B : Zn} {ids : List (Nat × Nat)} {ad : Nat → Nat → Nat} {k z : Nat} {w : Nat → Nat → va_E} {pc : Nat} {lv : List (Nat × Value)} {st : List Value} (hO : Ok Γ own cc nL rm Λ B) (hN : OkN Γ) {ci : Nat} {C : String} {T : u_T} {N : Nat} {ty : Nat → FieldType} (hc : Cl ci C T N ty) {i j index : Nat} {fs : List Value} {v : Value} {ref : String} (f : Nat) (hid : (i, j) ∈ ids) (hw : w i j = .inr (ci, fs)) (hf : f < N) (hl0 : Cond.fieldLink own index ref (T f).2.1 (T f).2.2.1 ∈ UW) (hr : ref = (T f).1) (hfin : (T f).2.2.2 = true) (hdc : (T f).1 = own) (hn : narrow (ty f) v = v) (hfit : fits (ty f) v = true) (hlen : f < fs.length) (hd : decode cc pc = .ok (.putfield index, 3)) (h : G Γ ids ad k z (up2 w i j (.inr (ci, fs.set f v))) (pc + 3) lv st) : G Γ ids ad k z w pc lv (v :: .ref (ad i j) :: st) := by
  obtain ⟨p, l, e, s, m, args, below, meth, c, Q, rfl, hx, hb, hml, hown, hts, hI, hlk⟩ := hO
  intro H locs ls hP hS hl
  obtain ⟨q, hq, hset⟩ := hP.at hid hw
  subst hr
  refine va_putF hx hb hts hc.2.1 ty hc.2.2.1 hc.2.2.2 hown hI.1 hP.1 hP.2 hS q hq hc.1 f hf (hts _ hl0) (fun _ h9 => h9) hfin hN hdc (hc.2.2.1 f hf) hn hfit hlen hd (fun H1 locs1 hP1 hD1 hS1 => ?_)
  rw [hset] at hP1 hD1
  exact h H1 locs1 ls ⟨hP1, hD1⟩ hS1 hl
theorem G_new {Γ : Cx} {own : String} {cc : ByteArray} {nL : Nat} {rm : Room} {Λ : Lay} {B : Zn} {ids : List (Nat × Nat)} {ad : Nat → Nat → Nat} {k z : Nat} {w : Nat → Nat → va_E} {pc : Nat} {lv : List (Nat × Value)} {st : List Value} (hO : Ok Γ own cc nL rm Λ B) {ci : Nat} {C : String} {T : u_T} {N : Nat} {ty : Nat → FieldType} (hc : Cl ci C T N ty) {index : Nat} {fs : List Value} (i j : Nat) (hni : (i, j) ∉ ids) (hcl : Cond.classLink own index C ∈ UW) (hin : Cond.instantiable C N ∈ UW) (hini : Cond.initialized C ∈ UW) (hfs : ∀ q, q < N → defaultValue (ty q) = vp_V fs q) (hk : k + 1 ≤ rm.cells) (hz : z + N ≤ rm.slots) (hd : decode cc pc = .ok (.new index, 3)) (h : ∀ a : Nat, G Γ (ids ++ [(i, j)]) (ad2 ad i j a) (k + 1) (z + N) (up2 w i j (.inr (ci, fs))) (pc + 3) lv (.ref a :: st)) : G Γ ids ad k z w pc lv st := by
  obtain ⟨p, l, e, s, m, args, below, meth, c, Q, rfl, hx, hb, hml, hown, hts, hI, hlk⟩ := hO
  intro H locs ls hP hS hl
  refine va_new (fs := fs) hx hb hts hc.2.1 ty hc.2.2.1 hown (hts _ hcl) (hts _ hin) (hts _ hini) hI.1 hP.1 hP.2 hS (fun q h9 => hI.2.2.2 q h9) hc.1 hfs hk hz hd (fun q H1 hP1 hD1 hS1 => ?_)
  rw [← wl_new hni] at hP1 hD1
  exact h q H1 locs ls ⟨hP1, hD1⟩ hS1 hl
theorem sh_ad2 (Λ : Lay) (ad : Nat → Nat → Nat) (a : Nat) (M : Mem) (O : Nat → Int64) : sh Λ (ad2 ad 20 6 a) M O = sh Λ ad M O := by
  have e : ∀ n j : Nat, ¬ (n = 20 ∧ j = 6) → ad2 ad 20 6 a n j = ad n j := fun n j h => ad2_n _ _ _ _ h
  funext n
  show rS Λ (ad2 ad 20 6 a) O n (M n) = rS Λ ad O n (M n)
  unfold rS
  by_cases h : n < 18
  · rw [if_pos h, if_pos h]
    have e1 : ∀ j, ad2 ad 20 6 a n j = ad n j := fun j => e n j (by omega)
    funext j
    match j with
    | 0 => simp only [stSh, stF, e1]
    | 1 => simp only [stSh]
    | 2 => simp only [stSh]
    | 3 => simp only [stSh]
    | 4 => simp only [stSh, e1]
    | 5 => simp only [stSh, leF, e1]
    | 6 => simp only [stSh]
    | 7 => simp only [stSh]
    | 8 => simp only [stSh]
    | r + 9 => simp only [stSh]
  · rw [if_neg h, if_neg h]
    by_cases h1 : n = 21
    · rw [if_pos h1, if_pos h1]
      have e1 : ∀ j, ad2 ad 20 6 a 21 j = ad 21 j := fun j => e 21 j (by omega)
      funext j
      match j with
      | 0 => simp only [mdSh, mdF, e1]
      | 1 => simp only [mdSh]
      | 2 => simp only [mdSh]
      | 3 => simp only [mdSh]
      | 4 => simp only [mdSh]
      | 5 => simp only [mdSh]
      | 6 => simp only [mdSh]
      | r + 7 => simp only [mdSh]
    · rw [if_neg h1, if_neg h1]
      by_cases h2 : n = 20
      · rw [if_pos h2, if_pos h2]
        have e0 : ∀ n, ad2 ad 20 6 a n 0 = ad n 0 := fun n => e n 0 (by omega)
        have e1 := e 20 1 (by omega)
        have e2 := e 20 2 (by omega)
        have e3 := e 20 3 (by omega)
        have e4 := e 20 4 (by omega)
        have e5 := e 20 5 (by omega)
        funext j
        match j with
        | 0 => simp only [glSh, glF, e0, e1, e2, e4, e5]
        | 1 => simp only [glSh]
        | 2 => simp only [glSh, hiF, e3]
        | 3 => simp only [glSh, e0]
        | 4 => simp only [glSh, e0]
        | 5 => simp only [glSh]
        | r + 6 => simp only [glSh, rdF, e1]
      · rw [if_neg h2, if_neg h2]
/-- a reader was made -/
def Dr (ids : List (Nat × Nat)) (ad : Nat → Nat → Nat) (ids1 : List (Nat × Nat)) (ad1 : Nat → Nat → Nat) : Prop := ids1 = ids ++ [(20, 6)] ∧ (20, 6) ∉ ids ∧ ∃ a, ad1 = ad2 ad 20 6 a
theorem Dr.mem {ids : List (Nat × Nat)} {ad : Nat → Nat → Nat} {ids1 : List (Nat × Nat)} {ad1 : Nat → Nat → Nat} (h : Dr ids ad ids1 ad1) (hm : ∀ q, q ∈ ids0 → q ∈ ids) : ∀ q, q ∈ ids0 → q ∈ ids1 := fun q hq => by
  rw [h.1]; exact List.mem_append_left _ (hm q hq)
theorem Dr.new {ids : List (Nat × Nat)} {ad : Nat → Nat → Nat} {ids1 : List (Nat × Nat)} {ad1 : Nat → Nat → Nat} (h : Dr ids ad ids1 ad1) : (20, 6) ∈ ids1 := by
  rw [h.1]; exact List.mem_append_right _ List.mem_cons_self
theorem G_newR {Γ : Cx} {own : String} {cc : ByteArray} {nL : Nat} {rm : Room} {Λ : Lay} {B : Zn} {ids : List (Nat × Nat)} {ad : Nat → Nat → Nat} {M : Mem} {O : Nat → Int64} {pc : Nat} (hO : Ok Γ own cc nL rm Λ B) {index : Nat} (hni : (20, 6) ∉ ids) (hcl : Cond.classLink own index RX4 ∈ UW) (hk : 1 ≤ rm.cells) (hz : 3 ≤ rm.slots) (hd : decode cc pc = .ok (.new index, 3)) (h : ∀ (ids1 : List (Nat × Nat)) (ad1 : Nat → Nat → Nat), Dr ids ad ids1 ad1 → G Γ ids1 ad1 1 3 (sh Λ ad1 (va_up M 20 (va_up (M 20) 6 (fun _ => 0))) O) (pc + 3) [(0, .ref (ad1 20 0))] [.ref (ad1 20 6)]) : G Γ ids ad 0 0 (sh Λ ad M O) pc [(0, .ref (ad 20 0))] [] := by
  refine G_new hO (fs := [.null, .int 0, .int 0]) cl4 20 6 hni hcl mw_214 mw_13 (by intro q hq; rcases (by omega : q = 0 ∨ q = 1 ∨ q = 2) with h | h | h <;> subst h <;> rfl) hk hz hd (fun a => ?_)
  have hh := h _ _ ⟨rfl, hni, a, rfl⟩
  rw [ad2_s, ad2_n _ _ _ _ (by omega), sh_ad2] at hh
  rw [up2M (rS_gl Λ ad O) (cw_gl Λ ad) (c' := va_up (M 20) 6 (fun _ => 0)) (by simp only [glSh, va_us]; rfl) (fun j' hj => va_un _ _ hj)]
  exact hh
theorem G_drop {Γ : Cx} {own : String} {cc : ByteArray} {nL : Nat} {rm : Room} {Λ : Lay} {B : Zn} {ids : List (Nat × Nat)} {ad : Nat → Nat → Nat} {k z : Nat} {M : Mem} {O : Nat → Int64} {pc : Nat} {lv : List (Nat × Value)} {st : List Value} (hO : Ok Γ own cc nL rm Λ B) {ids1 : List (Nat × Nat)} {ad1 : Nat → Nat → Nat} (hD : Dr ids ad ids1 ad1) (h : G Γ ids ad k z (sh Λ ad M O) pc lv st) : G Γ ids1 ad1 k z (sh Λ ad1 M O) pc lv st := by
  obtain ⟨p, l, e, s, m, args, below, meth, c, Q, rfl, hx, hb, hml, hown, hts, hI, hlk⟩ := hO
  intro H locs ls hP hS hl
  obtain ⟨rfl, hn, a, rfl⟩ := hD
  rw [sh_ad2] at hP
  refine h H locs ls ?_ hS hl
  have e : wl (ids ++ [(20, 6)]) (ad2 ad 20 6 a) (sh Λ ad M O) = wl ids ad (sh Λ ad M O) ++ [(a, sh Λ ad M O 20 6)] := by
    unfold wl
    rw [List.map_append]
    congr 1
    · apply List.map_congr_left
      intro q hq
      have hne : ¬ (q.1 = 20 ∧ q.2 = 6) := by
        rintro ⟨h1, h2⟩
        apply hn
        have : q = (20, 6) := Prod.ext h1 h2
        rw [← this]; exact hq
      rw [ad2_n _ _ _ _ hne]
  obtain ⟨h1, h2, h3⟩ := hP
  rw [e] at h1 h2 h3
  have lt : ∀ {i : Nat} {q : Nat × va_E}, (wl ids ad (sh Λ ad M O))[i]? = some q → (wl ids ad (sh Λ ad M O) ++ [(a, sh Λ ad M O 20 6)])[i]? = some q := fun {i q} hq => by
    rw [List.getElem?_append_left (List.getElem?_eq_some_iff.mp hq).1]; exact hq
  exact ⟨fun i q hq => h1 i q (lt hq), fun i j p q hp hq => h2 i j p q (lt hp) (lt hq), fun i q hq => h3 i q (lt hq)⟩
def wX4_init (a2 : Int32) (M : Mem) (P : Mem → Prop) : Prop := P (va_up M 20 (va_up (M 20) 6 (upd (upd (M 20 6) 3 1) 1 a2)))
set_option maxHeartbeats 4000000 in
theorem c_X4_init {l : Launch} {Λ : Lay} {B : Zn} {ids : List (Nat × Nat)} {ad : Nat → Nat → Nat} (hm : ∀ q, q ∈ ids0 → q ∈ ids) (hrd : (20, 6) ∈ ids) {a2 : Int32} {M : Mem} {O : Nat → Int64} {P : Mem → Prop} (hs : wX4_init a2 M P) : CT l yX4_init cX4_init 3 none { frames := 1, cells := 0, slots := 0, locals := 13 } Λ B ids ad (sh Λ ad M O) [.ref (ad 20 6), .ref (ad 20 1), .int a2] (Gv Λ ids ad O P) := by
  refine CT.ofI RX4 [(0, .ref (ad 20 6)), (1, .ref (ad 20 1)), (2, .int a2)] (plainFor_of_name (by decide +kernel)) rfl rfl (Nat.le_of_ble_eq_true rfl) rfl (fun Γ hO hN hF => ?_)
  have e6 : sh Λ ad M O 20 6 = .inr (4, rdF ad (M 20 6)) := by show rS Λ ad O 20 (M 20) 6 = _; rw [rS_gl]; exact gl_6 _ _ _
  refine G_aload_n hO 0 dX4_init_0 rfl rfl ?_
  refine G_objInit hO mw_218 (Nat.le_of_ble_eq_true rfl) (Nat.le_of_ble_eq_true rfl) dX4_init_1 ?_
  refine G_aload_n hO 0 dX4_init_4 rfl rfl ?_
  refine G_aload_n hO 1 dX4_init_5 rfl rfl ?_
  refine G_putF hO hN cl4 0 hrd e6 (by decide) mw_219 rfl rfl rfl rfl rfl (Nat.le_of_ble_eq_true rfl) dX4_init_6 ?_
  refine G_aload_n hO 0 dX4_init_9 rfl rfl ?_
  refine G_iload_n hO 2 dX4_init_10 rfl rfl ?_
  refine G_putF hO hN cl4 1 hrd (up2_s _ _ _ _) (by decide) mw_220 rfl rfl rfl rfl rfl (Nat.le_of_ble_eq_true rfl) dX4_init_11 ?_
  have e7 : up2 (up2 (sh Λ ad M O) 20 6 (.inr (4, (rdF ad (M 20 6)).set 0 (.ref (ad 20 1))))) 20 6 (.inr (4, ((rdF ad (M 20 6)).set 0 (.ref (ad 20 1))).set 1 (.int a2))) = sh Λ ad (va_up M 20 (va_up (M 20) 6 (upd (upd (M 20 6) 3 1) 1 a2))) O := by
    rw [← up2M (rS_gl Λ ad O) (cw_gl Λ ad) (c' := va_up (M 20) 6 (upd (upd (M 20 6) 3 1) 1 a2)) (e := .inr (4, rdF ad (upd (upd (M 20 6) 3 1) 1 a2))) (by rw [gl_6, va_us]) (fun j' hj => va_un _ _ hj)]
    unfold up2
    rw [va_us, va_uu, va_uu]
    congr 3
  rw [e7]
  exact G_vret hO hF rfl (Nat.zero_le _) (Nat.zero_le _) dX4_init_14 ⟨rfl, rfl, _, rfl, rfl, hs⟩
theorem KI_Gv {Γ : Cx} {own : String} {cc : ByteArray} {nL : Nat} {rm : Room} {Λ : Lay} {B : Zn} {ids : List (Nat × Nat)} {ad : Nat → Nat → Nat} {k z pc : Nat} {lv : List (Nat × Value)} {st : List Value} (hO : Ok Γ own cc nL rm Λ B) {rest : List Value} {y : MethodName} {cc' : ByteArray} {nL' : Nat} {rm' : Room} {nn index b : Nat} (As : List Value) {M : Mem} {O : Nat → Int64} {P : Mem → Prop} (hM : ∀ l : Launch, CT l y cc' nL' none rm' Λ B ids ad (sh Λ ad M O) (.ref b :: As) (Gv Λ ids ad O P)) (hv : CV y cc' nL' none nn) (hin : Cond.instanceMethod y ∈ UW) (hy1 : y.name = "<init>") (hl0 : Cond.methodLink own index y ∈ UW) (hn : As.length = nn) (hst : st = As.reverse ++ .ref b :: rest) (hcat : (rest.map fun v => v.category).sum ≤ 8) (hrm : rm'.frames + 1 ≤ rm.frames ∧ 8 + (nL' + 11) + rm'.locals ≤ rm.locals) (hc0 : rm'.cells = 0) (hz0 : rm'.slots = 0) (hk : k ≤ rm.cells) (hz : z ≤ rm.slots) (hd : decode cc pc = .ok (.invokespecial index, 3)) (h : ∀ (M1 : Mem), P M1 → G Γ ids ad k z (sh Λ ad M1 O) (pc + 3) lv rest) : G Γ ids ad k z (sh Λ ad M O) pc lv st := by
  refine G_callI hO As hM hv hin hy1 hl0 hn hst hcat hrm ⟨by omega, by omega⟩ hd ?_
  rintro v ids' ad' w' ⟨rfl, rfl, M1, rfl, rfl, hp⟩
  rw [hc0, hz0]
  exact h M1 hp
