/-! SHAPES. A region's memory is c : Nat → Nat → Int32 (cell, place); all memory is M : region → cell → place. -/
abbrev Reg : Type := Nat → Nat → Int32
abbrev Mem : Type := Nat → Reg
def cu (c : Reg) (j i : Nat) (v : Int32) : Reg := va_up c j (upd (c j) i v)
def mu (M : Mem) (n j i : Nat) (v : Int32) : Mem := va_up M n (cu (M n) j i v)
def stF (ad : Nat → Nat → Nat) (n : Nat) (c : Reg) : List Value := [.int (c 0 0), .int (c 0 1), .int (c 0 2), .int (c 0 3), .int (c 0 4), .int (c 0 5), .int (c 0 6), .int (c 0 7), .int (c 0 8), .ref (ad n 1), .ref (ad n 2), .ref (ad n 3), .ref (ad n 4), .ref (ad n 5)]
def rmF (f : Nat → Int32) : List Value := [.int (f 0), .int (f 1), .int (f 2), .int (f 3), .int (f 4), .int (f 5), .int (f 6)]
def leF (ad : Nat → Nat → Nat) (n : Nat) (c : Reg) : List Value := [.ref (ad n 6), .ref (ad n 7), .ref (ad n 8), .int (c 5 3)]
/-- a State with its arrays, its ledger and its rooms -/
def stSh (Λ : Lay) (ad : Nat → Nat → Nat) (n : Nat) (c : Reg) : Nat → va_E := fun j => match j with
  | 0 => .inr (3, stF ad n c)
  | 1 => .inl (Λ.2.1 0, 9, .inl (c 1))
  | 2 => .inl (Λ.2.1 0, 8, .inl (c 2))
  | 3 => .inl (Λ.2.1 0, 8, .inl (c 3))
  | 4 => .inl (Λ.2.1 5, 6, .inr (.inr (.inr (.inr (fun r => some (ad n (r + 9)))))))
  | 5 => .inr (1, leF ad n c)
  | 6 => .inl (Λ.2.1 0, 26, .inl (c 6))
  | 7 => .inl (Λ.2.1 0, 26, .inl (c 7))
  | 8 => .inl (Λ.2.1 0, 26, .inl (c 8))
  | r + 9 => .inr (2, rmF (c (r + 9)))
def mdF (ad : Nat → Nat → Nat) (c : Reg) : List Value := [.int (c 0 0), .ref (ad 21 1), .int (c 0 2), .int (c 0 3), .int (c 0 4), .ref (ad 21 2), .ref (ad 21 3), .ref (ad 21 4), .ref (ad 21 5), .int (c 0 9), .ref (ad 21 6), .ref (ad 21 7)]
/-- the model: its object and its arrays -/
def mdSh (Λ : Lay) (ad : Nat → Nat → Nat) (c : Reg) : Nat → va_E := fun j => match j with
  | 0 => .inr (6, mdF ad c)
  | 1 => .inl (Λ.2.1 0, 80, .inl (c 1))
  | 2 => .inl (Λ.2.1 0, 128, .inl (c 2))
  | 3 => .inl (Λ.2.1 0, 128, .inl (c 3))
  | 4 => .inl (Λ.2.1 0, 128, .inl (c 4))
  | 5 => .inl (Λ.2.1 0, 1792, .inl (c 5))
  | 6 => .inl (Λ.2.1 0, 256, .inl (c 6))
  | j => .inl (Λ.2.1 2, 2, .inl (c j))
def glF (ad : Nat → Nat → Nat) (c : Reg) : List Value := [.ref (ad 20 1), .int (c 0 1), .ref (ad 0 0), .ref (ad 1 0), .ref (ad 20 2), .ref (ad 20 4), .ref (ad 20 5)]
def hiF (ad : Nat → Nat → Nat) (c : Reg) : List Value := [.ref (ad 20 3), .int (c 2 1)]
/-- a reader; place 3 tells whether its text is set -/
def rdF (ad : Nat → Nat → Nat) (f : Nat → Int32) : List Value := [if f 3 = 0 then .null else .ref (ad 20 1), .int (f 1), .int (f 2)]
/-- the class: its object, its text, its history, its slots; the reader -/
def glSh (Λ : Lay) (ad : Nat → Nat → Nat) (c : Reg) : Nat → va_E := fun j => match j with
  | 0 => .inr (5, glF ad c)
  | 1 => .inl (Λ.2.1 1, 80, .inl (c 1))
  | 2 => .inr (0, hiF ad c)
  | 3 => .inl (Λ.2.1 4, 14, .inr (.inr (.inr (.inr (fun k => some (ad ((c 3 k).toNatClampNeg + 2) 0))))))
  | 4 => .inl (Λ.2.1 4, 2, .inr (.inr (.inr (.inr (fun k => some (ad (k + 16) 0))))))
  | 5 => .inl (Λ.2.1 2, 2, .inl (c 5))
  | j => .inr (4, rdF ad (c j))
def ouSh (Λ : Lay) (O : Nat → Int64) : Nat → va_E := fun j => match j with
  | 0 => .inl (Λ.2.1 3, 1, .inr (.inl O))
  | _ => .inl (Λ.2.1 3, 0, .inr (.inl (fun _ => 0)))
/-- the law's own row of ten -/
def haSh (Λ : Lay) (c : Reg) : Nat → va_E := fun j => .inl (Λ.2.1 0, 10, .inl (c j))
def rS (Λ : Lay) (ad : Nat → Nat → Nat) (O : Nat → Int64) (n : Nat) (c : Reg) : Nat → va_E :=
  if n < 18 then stSh Λ ad n c else if n = 21 then mdSh Λ ad c else if n = 20 then glSh Λ ad c else if n = 22 then ouSh Λ O else if n = 23 then haSh Λ c else (fun _ => .inl (Λ.2.1 3, 0, .inr (.inl (fun _ => 0))))
/-- the world when all is made -/
def sh (Λ : Lay) (ad : Nat → Nat → Nat) (M : Mem) (O : Nat → Int64) : Nat → Nat → va_E := fun n => rS Λ ad O n (M n)
def Cw (S : Reg → Nat → va_E) : Prop := ∀ (c c' : Reg) (j : Nat), c j = c' j → S c j = S c' j
theorem va_us {α : Type} (f : Nat → α) (k : Nat) (v : α) : va_up f k v k = v := by simp [va_up]
theorem va_un {α : Type} (f : Nat → α) {k j : Nat} (v : α) (h : j ≠ k) : va_up f k v j = f j := by simp [va_up, h]
theorem va_ue {α : Type} (f : Nat → α) (k : Nat) : va_up f k (f k) = f := by
  funext j
  by_cases h : j = k
  · subst h; simp [va_up]
  · simp [va_up, h]
theorem va_uu {α : Type} (f : Nat → α) (k : Nat) (v v' : α) : va_up (va_up f k v) k v' = va_up f k v' := by
  funext j
  by_cases h : j = k <;> simp [va_up, h]
theorem cw_st (Λ : Lay) (ad : Nat → Nat → Nat) (n : Nat) : Cw (stSh Λ ad n) := by
  intro c c' j h
  match j with
  | 0 => simp [stSh, stF, h]
  | 1 => simp [stSh, h]
  | 2 => simp [stSh, h]
  | 3 => simp [stSh, h]
  | 4 => rfl
  | 5 => simp [stSh, leF, h]
  | 6 => simp [stSh, h]
  | 7 => simp [stSh, h]
  | 8 => simp [stSh, h]
  | r + 9 => simp [stSh, h]
theorem cw_md (Λ : Lay) (ad : Nat → Nat → Nat) : Cw (mdSh Λ ad) := by
  intro c c' j h
  match j with
  | 0 => simp [mdSh, mdF, h]
  | 1 => simp [mdSh, h]
  | 2 => simp [mdSh, h]
  | 3 => simp [mdSh, h]
  | 4 => simp [mdSh, h]
  | 5 => simp [mdSh, h]
  | 6 => simp [mdSh, h]
  | r + 7 => simp [mdSh, h]
theorem cw_gl0 (Λ : Lay) (ad : Nat → Nat → Nat) (c c' : Reg) (h : c 0 = c' 0) : glSh Λ ad c 0 = glSh Λ ad c' 0 := by
  show (.inr (5, glF ad c) : va_E) = .inr (5, glF ad c')
  simp [glF, h]
theorem cw_gl1 (Λ : Lay) (ad : Nat → Nat → Nat) (c c' : Reg) (h : c 1 = c' 1) : glSh Λ ad c 1 = glSh Λ ad c' 1 := by
  show (.inl (Λ.2.1 1, 80, .inl (c 1)) : va_E) = .inl (Λ.2.1 1, 80, .inl (c' 1))
  rw [h]
theorem cw_gl2 (Λ : Lay) (ad : Nat → Nat → Nat) (c c' : Reg) (h : c 2 = c' 2) : glSh Λ ad c 2 = glSh Λ ad c' 2 := by
  show (.inr (0, hiF ad c) : va_E) = .inr (0, hiF ad c')
  simp [hiF, h]
theorem cw_gl3 (Λ : Lay) (ad : Nat → Nat → Nat) (c c' : Reg) (h : c 3 = c' 3) : glSh Λ ad c 3 = glSh Λ ad c' 3 := by
  unfold glSh
  simp only [h]
theorem cw_gl4 (Λ : Lay) (ad : Nat → Nat → Nat) (c c' : Reg) : glSh Λ ad c 4 = glSh Λ ad c' 4 := by
  have e : ∀ c : Reg, glSh Λ ad c 4 = .inl (Λ.2.1 4, 2, .inr (.inr (.inr (.inr (fun k => some (ad (k + 16) 0)))))) := fun c => by simp only [glSh]
  rw [e, e]
theorem cw_gl5 (Λ : Lay) (ad : Nat → Nat → Nat) (c c' : Reg) (h : c 5 = c' 5) : glSh Λ ad c 5 = glSh Λ ad c' 5 := by
  unfold glSh
  simp only [h]
theorem cw_gl6 (Λ : Lay) (ad : Nat → Nat → Nat) (c c' : Reg) (r : Nat) (h : c (r + 6) = c' (r + 6)) : glSh Λ ad c (r + 6) = glSh Λ ad c' (r + 6) := by
  unfold glSh
  simp only [h]
theorem cw_gl (Λ : Lay) (ad : Nat → Nat → Nat) : Cw (glSh Λ ad) := by
  intro c c' j h
  match j, h with
  | 0, h => exact cw_gl0 Λ ad c c' h
  | 1, h => exact cw_gl1 Λ ad c c' h
  | 2, h => exact cw_gl2 Λ ad c c' h
  | 3, h => exact cw_gl3 Λ ad c c' h
  | 4, h => exact cw_gl4 Λ ad c c'
  | 5, h => exact cw_gl5 Λ ad c c' h
  | r + 6, h => exact cw_gl6 Λ ad c c' r h
theorem rS_st (Λ : Lay) (ad : Nat → Nat → Nat) (O : Nat → Int64) {n : Nat} (h : n < 18) : rS Λ ad O n = stSh Λ ad n := by
  funext c; simp [rS, h]
theorem rS_md (Λ : Lay) (ad : Nat → Nat → Nat) (O : Nat → Int64) : rS Λ ad O 21 = mdSh Λ ad := by
  funext c; simp [rS]
theorem rS_gl (Λ : Lay) (ad : Nat → Nat → Nat) (O : Nat → Int64) : rS Λ ad O 20 = glSh Λ ad := by
  funext c; simp [rS]
theorem rS_ou (Λ : Lay) (ad : Nat → Nat → Nat) (O : Nat → Int64) : rS Λ ad O 22 = fun _ => ouSh Λ O := by
  funext c; simp [rS]
theorem rS_ha (Λ : Lay) (ad : Nat → Nat → Nat) (O : Nat → Int64) : rS Λ ad O 23 = haSh Λ := by
  funext c; simp [rS]
theorem cw_ha (Λ : Lay) : Cw (haSh Λ) := by
  intro c c' j h
  simp [haSh, h]
theorem ha_0 (Λ : Lay) (c : Reg) : haSh Λ c 0 = .inl (Λ.2.1 0, 10, .inl (c 0)) := rfl
theorem sh_out (Λ : Lay) (ad : Nat → Nat → Nat) (M : Mem) (O O' : Nat → Int64) : up2 (sh Λ ad M O) 22 0 (.inl (Λ.2.1 3, 1, .inr (.inl O'))) = sh Λ ad M O' := by
  have e : ∀ (O : Nat → Int64) (n : Nat), n ≠ 22 → sh Λ ad M O n = sh Λ ad M (fun _ => 0) n := by
    intro O n h
    simp only [sh, rS, if_neg h]
  have e2 : ∀ O : Nat → Int64, sh Λ ad M O 22 = ouSh Λ O := fun O => by unfold sh; rw [rS_ou]
  funext n
  by_cases h : n = 22
  · subst h
    unfold up2
    rw [va_us, e2, e2]
    funext j
    by_cases hj : j = 0
    · subst hj; rw [va_us]; rfl
    · rw [va_un _ _ hj]
      match j, hj with
      | 0, hj => exact absurd rfl hj
      | j + 1, _ => rfl
  · unfold up2
    rw [va_un _ _ h, e O n h, e O' n h]
theorem up2C {S : Reg → Nat → va_E} (cw : Cw S) {w : Nat → Nat → va_E} {n j : Nat} {c c' : Reg} {e : va_E} (he : S c' j = e) (hc : ∀ j', j' ≠ j → c' j' = c j') : up2 (va_up w n (S c)) n j e = va_up w n (S c') := by
  unfold up2
  rw [va_us, va_uu]
  congr 1
  funext j'
  by_cases h : j' = j
  · subst h; rw [va_us, he]
  · rw [va_un _ _ h]
    exact cw _ _ _ (hc j' h).symm
theorem sh_eta (Λ : Lay) (ad : Nat → Nat → Nat) (M : Mem) (O : Nat → Int64) (n : Nat) : va_up (sh Λ ad M O) n (rS Λ ad O n (M n)) = sh Λ ad M O := va_ue _ n
theorem sh_fold (Λ : Lay) (ad : Nat → Nat → Nat) (M : Mem) (O : Nat → Int64) (n : Nat) (c : Reg) : va_up (sh Λ ad M O) n (rS Λ ad O n c) = sh Λ ad (va_up M n c) O := by
  funext i
  by_cases h : i = n
  · subst h; rw [va_us]; unfold sh; rw [va_us]
  · rw [va_un _ _ h]; unfold sh; rw [va_un _ _ h]
theorem up2M {Λ : Lay} {ad : Nat → Nat → Nat} {M : Mem} {O : Nat → Int64} {n j : Nat} {c' : Reg} {e : va_E} {S : Reg → Nat → va_E} (hS : rS Λ ad O n = S) (cw : Cw S) (he : S c' j = e) (hc : ∀ j', j' ≠ j → c' j' = M n j') : up2 (sh Λ ad M O) n j e = sh Λ ad (va_up M n c') O := by
  subst hS
  rw [← sh_fold, ← up2C cw he hc, sh_eta]
theorem cu_n (c : Reg) (j i : Nat) (v : Int32) : ∀ j', j' ≠ j → cu c j i v j' = c j' := fun _ h => va_un _ _ h
theorem cu_s (c : Reg) (j i : Nat) (v : Int32) : cu c j i v j = upd (c j) i v := va_us _ _ _
def bZ (v : Int32) : Prop := v = 0 ∨ v = 1
theorem bZ.nar {v : Int32} (h : bZ v) : narrow .boolean (.int v) = .int v := by
  rcases h with rfl | rfl <;> rfl
theorem bZ.fit {v : Int32} (h : bZ v) : fits .boolean (.int v) = true := by
  rcases h with rfl | rfl <;> rfl
theorem lt_in {i : Int32} {n : Nat} (h : vp_in i n) : i.toNatClampNeg < n := Nat.not_le.mp fun q => h (Or.inr q)

theorem C_getf {Γ : Cx} {own : String} {cc : ByteArray} {nL : Nat} {rm : Room} {Λ : Lay} {B : Zn} {ids : List (Nat × Nat)} {ad : Nat → Nat → Nat} {k z pc : Nat} {lv : List (Nat × Value)} {st : List Value} (hO : Ok Γ own cc nL rm Λ B) {w : Nat → Nat → va_E} {n : Nat} {c : Reg} {S : Reg → Nat → va_E} {ci : Nat} {C : String} {T : u_T} {N : Nat} {ty : Nat → FieldType} (hc : Cl ci C T N ty) {j index : Nat} {fs : List Value} {v : Value} {ref : String} (f : Nat) (hid : (n, j) ∈ ids) (hs : S c j = .inr (ci, fs)) (hf : f < N) (hl0 : Cond.fieldLink own index ref (T f).2.1 (T f).2.2.1 ∈ UW) (hr : ref = (T f).1) (hv : fs[f]? = some v) (hd : decode cc pc = .ok (.getfield index, 3)) (h : G Γ ids ad k z (va_up w n (S c)) (pc + 3) lv (v :: st)) : G Γ ids ad k z (va_up w n (S c)) pc lv (.ref (ad n j) :: st) :=
  G_getf hO hc f hid (by rw [va_us]; exact hs) hf hl0 hr hv hd h
theorem C_putf {Γ : Cx} {own : String} {cc : ByteArray} {nL : Nat} {rm : Room} {Λ : Lay} {B : Zn} {ids : List (Nat × Nat)} {ad : Nat → Nat → Nat} {k z pc : Nat} {lv : List (Nat × Value)} {st : List Value} (hO : Ok Γ own cc nL rm Λ B) {w : Nat → Nat → va_E} {n : Nat} {c : Reg} {S : Reg → Nat → va_E} (cw : Cw S) {ci : Nat} {C : String} {T : u_T} {N : Nat} {ty : Nat → FieldType} (hc : Cl ci C T N ty) {j index : Nat} {fs : List Value} {x : Int32} {ref : String} (f : Nat) (hid : (n, j) ∈ ids) (hs : S c j = .inr (ci, fs)) (hf : f < N) (hl0 : Cond.fieldLink own index ref (T f).2.1 (T f).2.2.1 ∈ UW) (hr : ref = (T f).1) (hfin : (T f).2.2.2 = false) (hn : narrow (ty f) (.int x) = .int x) (hfit : fits (ty f) (.int x) = true) (hlen : f < fs.length) (hs2 : S (cu c j f x) j = .inr (ci, fs.set f (.int x))) (hd : decode cc pc = .ok (.putfield index, 3)) (h : G Γ ids ad k z (va_up w n (S (cu c j f x))) (pc + 3) lv st) : G Γ ids ad k z (va_up w n (S c)) pc lv (.int x :: .ref (ad n j) :: st) := by
  refine G_putf hO hc f hid (by rw [va_us]; exact hs) hf hl0 hr hfin hn hfit hlen hd ?_
  rw [up2C cw (c' := cu c j f x) hs2 (cu_n _ _ _ _)]
  exact h
theorem C_iald {Γ : Cx} {own : String} {cc : ByteArray} {nL : Nat} {rm : Room} {Λ : Lay} {B : Zn} {ids : List (Nat × Nat)} {ad : Nat → Nat → Nat} {k z pc : Nat} {lv : List (Nat × Value)} {st : List Value} (hO : Ok Γ own cc nL rm Λ B) {w : Nat → Nat → va_E} {n : Nat} {c : Reg} {S : Reg → Nat → va_E} {j m : Nat} {x : Int32} (kx : Nat) (hkx : x.toNatClampNeg = kx) (hid : (n, j) ∈ ids) (hs : S c j = .inl (Λ.2.1 0, m, .inl (c j))) (hin : vp_in x m) (hd : decode cc pc = .ok (.iaload, 1)) (h : G Γ ids ad k z (va_up w n (S c)) (pc + 1) lv (.int (c j kx) :: st)) : G Γ ids ad k z (va_up w n (S c)) pc lv (.int x :: .ref (ad n j) :: st) := by
  subst hkx
  exact G_iald hO hid (by rw [va_us]; exact hs) hin hd h
theorem C_cald {Γ : Cx} {own : String} {cc : ByteArray} {nL : Nat} {rm : Room} {Λ : Lay} {B : Zn} {ids : List (Nat × Nat)} {ad : Nat → Nat → Nat} {k z pc : Nat} {lv : List (Nat × Value)} {st : List Value} (hO : Ok Γ own cc nL rm Λ B) {w : Nat → Nat → va_E} {n : Nat} {c : Reg} {S : Reg → Nat → va_E} {j m : Nat} {x : Int32} (kx : Nat) (hkx : x.toNatClampNeg = kx) (hid : (n, j) ∈ ids) (hs : S c j = .inl (Λ.2.1 1, m, .inl (c j))) (hin : vp_in x m) (hd : decode cc pc = .ok (.caload, 1)) (h : G Γ ids ad k z (va_up w n (S c)) (pc + 1) lv (.int (c j kx) :: st)) : G Γ ids ad k z (va_up w n (S c)) pc lv (.int x :: .ref (ad n j) :: st) := by
  subst hkx
  exact G_cald hO hid (by rw [va_us]; exact hs) hin hd h
theorem C_zald {Γ : Cx} {own : String} {cc : ByteArray} {nL : Nat} {rm : Room} {Λ : Lay} {B : Zn} {ids : List (Nat × Nat)} {ad : Nat → Nat → Nat} {k z pc : Nat} {lv : List (Nat × Value)} {st : List Value} (hO : Ok Γ own cc nL rm Λ B) {w : Nat → Nat → va_E} {n : Nat} {c : Reg} {S : Reg → Nat → va_E} {j m : Nat} {x : Int32} (kx : Nat) (hkx : x.toNatClampNeg = kx) (hid : (n, j) ∈ ids) (hs : S c j = .inl (Λ.2.1 2, m, .inl (c j))) (hin : vp_in x m) (hd : decode cc pc = .ok (.baload, 1)) (h : G Γ ids ad k z (va_up w n (S c)) (pc + 1) lv (.int (c j kx) :: st)) : G Γ ids ad k z (va_up w n (S c)) pc lv (.int x :: .ref (ad n j) :: st) := by
  subst hkx
  exact G_zald hO hid (by rw [va_us]; exact hs) hin hd h
theorem C_iast {Γ : Cx} {own : String} {cc : ByteArray} {nL : Nat} {rm : Room} {Λ : Lay} {B : Zn} {ids : List (Nat × Nat)} {ad : Nat → Nat → Nat} {k z pc : Nat} {lv : List (Nat × Value)} {st : List Value} (hO : Ok Γ own cc nL rm Λ B) {w : Nat → Nat → va_E} {n : Nat} {c : Reg} {S : Reg → Nat → va_E} (cw : Cw S) {j m : Nat} {x y : Int32} (kx : Nat) (hkx : y.toNatClampNeg = kx) (hid : (n, j) ∈ ids) (hs : ∀ c : Reg, S c j = .inl (Λ.2.1 0, m, .inl (c j))) (hin : vp_in y m) (hd : decode cc pc = .ok (.iastore, 1)) (h : G Γ ids ad k z (va_up w n (S (cu c j kx x))) (pc + 1) lv st) : G Γ ids ad k z (va_up w n (S c)) pc lv (.int x :: .int y :: .ref (ad n j) :: st) := by
  subst hkx
  refine G_iast hO hid (by rw [va_us]; exact hs _) hin hd ?_
  rw [up2C cw (c' := cu c j y.toNatClampNeg x) (by rw [hs, cu_s]) (cu_n _ _ _ _)]
  exact h
theorem C_cast {Γ : Cx} {own : String} {cc : ByteArray} {nL : Nat} {rm : Room} {Λ : Lay} {B : Zn} {ids : List (Nat × Nat)} {ad : Nat → Nat → Nat} {k z pc : Nat} {lv : List (Nat × Value)} {st : List Value} (hO : Ok Γ own cc nL rm Λ B) {w : Nat → Nat → va_E} {n : Nat} {c : Reg} {S : Reg → Nat → va_E} (cw : Cw S) {j m : Nat} {x y : Int32} (kx : Nat) (hkx : y.toNatClampNeg = kx) (hid : (n, j) ∈ ids) (hs : ∀ c : Reg, S c j = .inl (Λ.2.1 1, m, .inl (c j))) (hin : vp_in y m) (hd : decode cc pc = .ok (.castore, 1)) (h : G Γ ids ad k z (va_up w n (S (cu c j kx (vp_nar .char x)))) (pc + 1) lv st) : G Γ ids ad k z (va_up w n (S c)) pc lv (.int x :: .int y :: .ref (ad n j) :: st) := by
  subst hkx
  refine G_cast hO hid (by rw [va_us]; exact hs _) hin hd ?_
  rw [up2C cw (c' := cu c j y.toNatClampNeg (vp_nar .char x)) (by rw [hs, cu_s]) (cu_n _ _ _ _)]
  exact h
theorem C_zast {Γ : Cx} {own : String} {cc : ByteArray} {nL : Nat} {rm : Room} {Λ : Lay} {B : Zn} {ids : List (Nat × Nat)} {ad : Nat → Nat → Nat} {k z pc : Nat} {lv : List (Nat × Value)} {st : List Value} (hO : Ok Γ own cc nL rm Λ B) {w : Nat → Nat → va_E} {n : Nat} {c : Reg} {S : Reg → Nat → va_E} (cw : Cw S) {j m : Nat} {x y : Int32} (kx : Nat) (hkx : y.toNatClampNeg = kx) (hid : (n, j) ∈ ids) (hs : ∀ c : Reg, S c j = .inl (Λ.2.1 2, m, .inl (c j))) (hin : vp_in y m) (hd : decode cc pc = .ok (.bastore, 1)) (h : G Γ ids ad k z (va_up w n (S (cu c j kx (vp_nar .boolean x)))) (pc + 1) lv st) : G Γ ids ad k z (va_up w n (S c)) pc lv (.int x :: .int y :: .ref (ad n j) :: st) := by
  subst hkx
  refine G_zast hO hid (by rw [va_us]; exact hs _) hin hd ?_
  rw [up2C cw (c' := cu c j y.toNatClampNeg (vp_nar .boolean x)) (by rw [hs, cu_s]) (cu_n _ _ _ _)]
  exact h
theorem C_aaldS {Γ : Cx} {own : String} {cc : ByteArray} {nL : Nat} {rm : Room} {Λ : Lay} {B : Zn} {ids : List (Nat × Nat)} {ad : Nat → Nat → Nat} {k z pc : Nat} {lv : List (Nat × Value)} {st : List Value} (hO : Ok Γ own cc nL rm Λ B) {w : Nat → Nat → va_E} {n : Nat} {c : Reg} {S : Reg → Nat → va_E} {j m : Nat} {f : Nat → Option Nat} {x : Int32} {v : Value} (hid : (n, j) ∈ ids) (hs : S c j = .inl (Λ.2.1 4, m, .inr (.inr (.inr (.inr f))))) (hin : vp_in x m) (hv : va_rf (f x.toNatClampNeg) = v) (hd : decode cc pc = .ok (.aaload, 1)) (h : G Γ ids ad k z (va_up w n (S c)) (pc + 1) lv (v :: st)) : G Γ ids ad k z (va_up w n (S c)) pc lv (.int x :: .ref (ad n j) :: st) :=
  G_aaldS hO hid (by rw [va_us]; exact hs) hin hv hd h
theorem C_aaldR {Γ : Cx} {own : String} {cc : ByteArray} {nL : Nat} {rm : Room} {Λ : Lay} {B : Zn} {ids : List (Nat × Nat)} {ad : Nat → Nat → Nat} {k z pc : Nat} {lv : List (Nat × Value)} {st : List Value} (hO : Ok Γ own cc nL rm Λ B) {w : Nat → Nat → va_E} {n : Nat} {c : Reg} {S : Reg → Nat → va_E} {j m : Nat} {f : Nat → Option Nat} {x : Int32} {v : Value} (hid : (n, j) ∈ ids) (hs : S c j = .inl (Λ.2.1 5, m, .inr (.inr (.inr (.inr f))))) (hin : vp_in x m) (hv : va_rf (f x.toNatClampNeg) = v) (hd : decode cc pc = .ok (.aaload, 1)) (h : G Γ ids ad k z (va_up w n (S c)) (pc + 1) lv (v :: st)) : G Γ ids ad k z (va_up w n (S c)) pc lv (.int x :: .ref (ad n j) :: st) :=
  G_aaldR hO hid (by rw [va_us]; exact hs) hin hv hd h
theorem C_alen {Γ : Cx} {own : String} {cc : ByteArray} {nL : Nat} {rm : Room} {Λ : Lay} {B : Zn} {ids : List (Nat × Nat)} {ad : Nat → Nat → Nat} {k z pc : Nat} {lv : List (Nat × Value)} {st : List Value} (hO : Ok Γ own cc nL rm Λ B) {w : Nat → Nat → va_E} {n : Nat} {c : Reg} {S : Reg → Nat → va_E} {j : Nat} {a : vp_A} {ty : FieldType} {cA : ClassId} {v : Int32} (t0 : Nat) (hid : (n, j) ∈ ids) (hs : S c j = .inl (cA, a)) (ht : (gtys Λ)[t0]? = some (cA, ty)) (hv : Int32.ofNat a.1 = v) (hd : decode cc pc = .ok (.arraylength, 1)) (h : G Γ ids ad k z (va_up w n (S c)) (pc + 1) lv (.int v :: st)) : G Γ ids ad k z (va_up w n (S c)) pc lv (.ref (ad n j) :: st) :=
  G_alen hO t0 hid (by rw [va_us]; exact hs) ht hv hd h
theorem M_getf {Γ : Cx} {own : String} {cc : ByteArray} {nL : Nat} {rm : Room} {Λ : Lay} {B : Zn} {ids : List (Nat × Nat)} {ad : Nat → Nat → Nat} {k z pc : Nat} {lv : List (Nat × Value)} {st : List Value} (hO : Ok Γ own cc nL rm Λ B) {M : Mem} {O : Nat → Int64} {n : Nat} {S : Reg → Nat → va_E} (hR : rS Λ ad O n = S) {ci : Nat} {C : String} {T : u_T} {N : Nat} {ty : Nat → FieldType} (hc : Cl ci C T N ty) {j index : Nat} {fs : List Value} {v : Value} {ref : String} (f : Nat) (hid : (n, j) ∈ ids) (hs : S (M n) j = .inr (ci, fs)) (hf : f < N) (hl0 : Cond.fieldLink own index ref (T f).2.1 (T f).2.2.1 ∈ UW) (hr : ref = (T f).1) (hv : fs[f]? = some v) (hd : decode cc pc = .ok (.getfield index, 3)) (h : G Γ ids ad k z (sh Λ ad M O) (pc + 3) lv (v :: st)) : G Γ ids ad k z (sh Λ ad M O) pc lv (.ref (ad n j) :: st) :=
  G_getf hO hc f hid (by show rS Λ ad O n (M n) _ = _; rw [hR]; exact hs) hf hl0 hr hv hd h
theorem M_putf {Γ : Cx} {own : String} {cc : ByteArray} {nL : Nat} {rm : Room} {Λ : Lay} {B : Zn} {ids : List (Nat × Nat)} {ad : Nat → Nat → Nat} {k z pc : Nat} {lv : List (Nat × Value)} {st : List Value} (hO : Ok Γ own cc nL rm Λ B) {M : Mem} {O : Nat → Int64} {n : Nat} {S : Reg → Nat → va_E} (hR : rS Λ ad O n = S) (cw : Cw S) {ci : Nat} {C : String} {T : u_T} {N : Nat} {ty : Nat → FieldType} (hc : Cl ci C T N ty) {j index : Nat} {fs : List Value} {x : Int32} {ref : String} (f : Nat) (hid : (n, j) ∈ ids) (hs : S (M n) j = .inr (ci, fs)) (hf : f < N) (hl0 : Cond.fieldLink own index ref (T f).2.1 (T f).2.2.1 ∈ UW) (hr : ref = (T f).1) (hfin : (T f).2.2.2 = false) (hn : narrow (ty f) (.int x) = .int x) (hfit : fits (ty f) (.int x) = true) (hlen : f < fs.length) (hs2 : S (cu (M n) j f x) j = .inr (ci, fs.set f (.int x))) (hd : decode cc pc = .ok (.putfield index, 3)) (h : G Γ ids ad k z (sh Λ ad (va_up M n (cu (M n) j f x)) O) (pc + 3) lv st) : G Γ ids ad k z (sh Λ ad M O) pc lv (.int x :: .ref (ad n j) :: st) := by
  refine G_putf hO hc f hid (by show rS Λ ad O n (M n) _ = _; rw [hR]; exact hs) hf hl0 hr hfin hn hfit hlen hd ?_
  rw [up2M hR cw (c' := cu (M n) j f x) hs2 (cu_n _ _ _ _)]
  exact h
theorem M_iald {Γ : Cx} {own : String} {cc : ByteArray} {nL : Nat} {rm : Room} {Λ : Lay} {B : Zn} {ids : List (Nat × Nat)} {ad : Nat → Nat → Nat} {k z pc : Nat} {lv : List (Nat × Value)} {st : List Value} (hO : Ok Γ own cc nL rm Λ B) {M : Mem} {O : Nat → Int64} {n : Nat} {S : Reg → Nat → va_E} (hR : rS Λ ad O n = S) {j m : Nat} {x : Int32} (kx : Nat) (hkx : x.toNatClampNeg = kx) (hid : (n, j) ∈ ids) (hs : S (M n) j = .inl (Λ.2.1 0, m, .inl ((M n) j))) (hin : vp_in x m) (hd : decode cc pc = .ok (.iaload, 1)) (h : G Γ ids ad k z (sh Λ ad M O) (pc + 1) lv (.int ((M n) j kx) :: st)) : G Γ ids ad k z (sh Λ ad M O) pc lv (.int x :: .ref (ad n j) :: st) := by
  subst hkx
  exact G_iald hO hid (by show rS Λ ad O n (M n) _ = _; rw [hR]; exact hs) hin hd h
theorem M_cald {Γ : Cx} {own : String} {cc : ByteArray} {nL : Nat} {rm : Room} {Λ : Lay} {B : Zn} {ids : List (Nat × Nat)} {ad : Nat → Nat → Nat} {k z pc : Nat} {lv : List (Nat × Value)} {st : List Value} (hO : Ok Γ own cc nL rm Λ B) {M : Mem} {O : Nat → Int64} {n : Nat} {S : Reg → Nat → va_E} (hR : rS Λ ad O n = S) {j m : Nat} {x : Int32} (kx : Nat) (hkx : x.toNatClampNeg = kx) (hid : (n, j) ∈ ids) (hs : S (M n) j = .inl (Λ.2.1 1, m, .inl ((M n) j))) (hin : vp_in x m) (hd : decode cc pc = .ok (.caload, 1)) (h : G Γ ids ad k z (sh Λ ad M O) (pc + 1) lv (.int ((M n) j kx) :: st)) : G Γ ids ad k z (sh Λ ad M O) pc lv (.int x :: .ref (ad n j) :: st) := by
  subst hkx
  exact G_cald hO hid (by show rS Λ ad O n (M n) _ = _; rw [hR]; exact hs) hin hd h
theorem M_zald {Γ : Cx} {own : String} {cc : ByteArray} {nL : Nat} {rm : Room} {Λ : Lay} {B : Zn} {ids : List (Nat × Nat)} {ad : Nat → Nat → Nat} {k z pc : Nat} {lv : List (Nat × Value)} {st : List Value} (hO : Ok Γ own cc nL rm Λ B) {M : Mem} {O : Nat → Int64} {n : Nat} {S : Reg → Nat → va_E} (hR : rS Λ ad O n = S) {j m : Nat} {x : Int32} (kx : Nat) (hkx : x.toNatClampNeg = kx) (hid : (n, j) ∈ ids) (hs : S (M n) j = .inl (Λ.2.1 2, m, .inl ((M n) j))) (hin : vp_in x m) (hd : decode cc pc = .ok (.baload, 1)) (h : G Γ ids ad k z (sh Λ ad M O) (pc + 1) lv (.int ((M n) j kx) :: st)) : G Γ ids ad k z (sh Λ ad M O) pc lv (.int x :: .ref (ad n j) :: st) := by
  subst hkx
  exact G_zald hO hid (by show rS Λ ad O n (M n) _ = _; rw [hR]; exact hs) hin hd h
theorem M_iast {Γ : Cx} {own : String} {cc : ByteArray} {nL : Nat} {rm : Room} {Λ : Lay} {B : Zn} {ids : List (Nat × Nat)} {ad : Nat → Nat → Nat} {k z pc : Nat} {lv : List (Nat × Value)} {st : List Value} (hO : Ok Γ own cc nL rm Λ B) {M : Mem} {O : Nat → Int64} {n : Nat} {S : Reg → Nat → va_E} (hR : rS Λ ad O n = S) (cw : Cw S) {j m : Nat} {x y : Int32} (kx : Nat) (hkx : y.toNatClampNeg = kx) (hid : (n, j) ∈ ids) (hs : ∀ c : Reg, S c j = .inl (Λ.2.1 0, m, .inl (c j))) (hin : vp_in y m) (hd : decode cc pc = .ok (.iastore, 1)) (h : G Γ ids ad k z (sh Λ ad (va_up M n (cu (M n) j kx x)) O) (pc + 1) lv st) : G Γ ids ad k z (sh Λ ad M O) pc lv (.int x :: .int y :: .ref (ad n j) :: st) := by
  subst hkx
  refine G_iast hO hid (by show rS Λ ad O n (M n) _ = _; rw [hR]; exact hs _) hin hd ?_
  rw [up2M hR cw (c' := cu (M n) j y.toNatClampNeg x) (by rw [hs, cu_s]) (cu_n _ _ _ _)]
  exact h
theorem M_cast {Γ : Cx} {own : String} {cc : ByteArray} {nL : Nat} {rm : Room} {Λ : Lay} {B : Zn} {ids : List (Nat × Nat)} {ad : Nat → Nat → Nat} {k z pc : Nat} {lv : List (Nat × Value)} {st : List Value} (hO : Ok Γ own cc nL rm Λ B) {M : Mem} {O : Nat → Int64} {n : Nat} {S : Reg → Nat → va_E} (hR : rS Λ ad O n = S) (cw : Cw S) {j m : Nat} {x y : Int32} (kx : Nat) (hkx : y.toNatClampNeg = kx) (hid : (n, j) ∈ ids) (hs : ∀ c : Reg, S c j = .inl (Λ.2.1 1, m, .inl (c j))) (hin : vp_in y m) (hd : decode cc pc = .ok (.castore, 1)) (h : G Γ ids ad k z (sh Λ ad (va_up M n (cu (M n) j kx (vp_nar .char x))) O) (pc + 1) lv st) : G Γ ids ad k z (sh Λ ad M O) pc lv (.int x :: .int y :: .ref (ad n j) :: st) := by
  subst hkx
  refine G_cast hO hid (by show rS Λ ad O n (M n) _ = _; rw [hR]; exact hs _) hin hd ?_
  rw [up2M hR cw (c' := cu (M n) j y.toNatClampNeg (vp_nar .char x)) (by rw [hs, cu_s]) (cu_n _ _ _ _)]
  exact h
theorem M_zast {Γ : Cx} {own : String} {cc : ByteArray} {nL : Nat} {rm : Room} {Λ : Lay} {B : Zn} {ids : List (Nat × Nat)} {ad : Nat → Nat → Nat} {k z pc : Nat} {lv : List (Nat × Value)} {st : List Value} (hO : Ok Γ own cc nL rm Λ B) {M : Mem} {O : Nat → Int64} {n : Nat} {S : Reg → Nat → va_E} (hR : rS Λ ad O n = S) (cw : Cw S) {j m : Nat} {x y : Int32} (kx : Nat) (hkx : y.toNatClampNeg = kx) (hid : (n, j) ∈ ids) (hs : ∀ c : Reg, S c j = .inl (Λ.2.1 2, m, .inl (c j))) (hin : vp_in y m) (hd : decode cc pc = .ok (.bastore, 1)) (h : G Γ ids ad k z (sh Λ ad (va_up M n (cu (M n) j kx (vp_nar .boolean x))) O) (pc + 1) lv st) : G Γ ids ad k z (sh Λ ad M O) pc lv (.int x :: .int y :: .ref (ad n j) :: st) := by
  subst hkx
  refine G_zast hO hid (by show rS Λ ad O n (M n) _ = _; rw [hR]; exact hs _) hin hd ?_
  rw [up2M hR cw (c' := cu (M n) j y.toNatClampNeg (vp_nar .boolean x)) (by rw [hs, cu_s]) (cu_n _ _ _ _)]
  exact h
theorem M_aaldS {Γ : Cx} {own : String} {cc : ByteArray} {nL : Nat} {rm : Room} {Λ : Lay} {B : Zn} {ids : List (Nat × Nat)} {ad : Nat → Nat → Nat} {k z pc : Nat} {lv : List (Nat × Value)} {st : List Value} (hO : Ok Γ own cc nL rm Λ B) {M : Mem} {O : Nat → Int64} {n : Nat} {S : Reg → Nat → va_E} (hR : rS Λ ad O n = S) {j m : Nat} {f : Nat → Option Nat} {x : Int32} {v : Value} (hid : (n, j) ∈ ids) (hs : S (M n) j = .inl (Λ.2.1 4, m, .inr (.inr (.inr (.inr f))))) (hin : vp_in x m) (hv : va_rf (f x.toNatClampNeg) = v) (hd : decode cc pc = .ok (.aaload, 1)) (h : G Γ ids ad k z (sh Λ ad M O) (pc + 1) lv (v :: st)) : G Γ ids ad k z (sh Λ ad M O) pc lv (.int x :: .ref (ad n j) :: st) :=
  G_aaldS hO hid (by show rS Λ ad O n (M n) _ = _; rw [hR]; exact hs) hin hv hd h
theorem M_aaldR {Γ : Cx} {own : String} {cc : ByteArray} {nL : Nat} {rm : Room} {Λ : Lay} {B : Zn} {ids : List (Nat × Nat)} {ad : Nat → Nat → Nat} {k z pc : Nat} {lv : List (Nat × Value)} {st : List Value} (hO : Ok Γ own cc nL rm Λ B) {M : Mem} {O : Nat → Int64} {n : Nat} {S : Reg → Nat → va_E} (hR : rS Λ ad O n = S) {j m : Nat} {f : Nat → Option Nat} {x : Int32} {v : Value} (hid : (n, j) ∈ ids) (hs : S (M n) j = .inl (Λ.2.1 5, m, .inr (.inr (.inr (.inr f))))) (hin : vp_in x m) (hv : va_rf (f x.toNatClampNeg) = v) (hd : decode cc pc = .ok (.aaload, 1)) (h : G Γ ids ad k z (sh Λ ad M O) (pc + 1) lv (v :: st)) : G Γ ids ad k z (sh Λ ad M O) pc lv (.int x :: .ref (ad n j) :: st) :=
  G_aaldR hO hid (by show rS Λ ad O n (M n) _ = _; rw [hR]; exact hs) hin hv hd h
theorem M_alen {Γ : Cx} {own : String} {cc : ByteArray} {nL : Nat} {rm : Room} {Λ : Lay} {B : Zn} {ids : List (Nat × Nat)} {ad : Nat → Nat → Nat} {k z pc : Nat} {lv : List (Nat × Value)} {st : List Value} (hO : Ok Γ own cc nL rm Λ B) {M : Mem} {O : Nat → Int64} {n : Nat} {S : Reg → Nat → va_E} (hR : rS Λ ad O n = S) {j : Nat} {a : vp_A} {ty : FieldType} {cA : ClassId} {v : Int32} (t0 : Nat) (hid : (n, j) ∈ ids) (hs : S (M n) j = .inl (cA, a)) (ht : (gtys Λ)[t0]? = some (cA, ty)) (hv : Int32.ofNat a.1 = v) (hd : decode cc pc = .ok (.arraylength, 1)) (h : G Γ ids ad k z (sh Λ ad M O) (pc + 1) lv (.int v :: st)) : G Γ ids ad k z (sh Λ ad M O) pc lv (.ref (ad n j) :: st) :=
  G_alen hO t0 hid (by show rS Λ ad O n (M n) _ = _; rw [hR]; exact hs) ht hv hd h
theorem G_eta {Γ : Cx} {own : String} {cc : ByteArray} {nL : Nat} {rm : Room} {Λ : Lay} {B : Zn} {ids : List (Nat × Nat)} {ad : Nat → Nat → Nat} {k z pc : Nat} {lv : List (Nat × Value)} {st : List Value} (hO : Ok Γ own cc nL rm Λ B) {M : Mem} {O : Nat → Int64} (n : Nat) {S : Reg → Nat → va_E} (hR : rS Λ ad O n = S) (h : G Γ ids ad k z (va_up (sh Λ ad M O) n (S (M n))) pc lv st) : G Γ ids ad k z (sh Λ ad M O) pc lv st := by
  rw [← sh_eta Λ ad M O n, hR]
  exact h
theorem G_fold {Γ : Cx} {own : String} {cc : ByteArray} {nL : Nat} {rm : Room} {Λ : Lay} {B : Zn} {ids : List (Nat × Nat)} {ad : Nat → Nat → Nat} {k z pc : Nat} {lv : List (Nat × Value)} {st : List Value} (hO : Ok Γ own cc nL rm Λ B) {M : Mem} {O : Nat → Int64} (n : Nat) {c : Reg} {S : Reg → Nat → va_E} (hR : rS Λ ad O n = S) (h : G Γ ids ad k z (sh Λ ad (va_up M n c) O) pc lv st) : G Γ ids ad k z (va_up (sh Λ ad M O) n (S c)) pc lv st := by
  rw [← hR, sh_fold]
  exact h
theorem vp_lit {x : Int32} {n : Nat} (h : (!(decide (x < 0)) && decide (x.toNatClampNeg < n)) = true) : vp_in x n := by
  simp only [Bool.and_eq_true, Bool.not_eq_true', decide_eq_false_iff_not, decide_eq_true_eq] at h
  exact fun q => q.elim h.1 (fun q => absurd h.2 (Nat.not_lt.mpr q))
theorem oth {w : Nat → Nat → va_E} {n n2 : Nat} {S S2 : Reg → Nat → va_E} {c c2 : Reg} {j : Nat} {e : va_E} (hne : n2 ≠ n) (hw2 : w n2 = S2 c2) (h : S2 c2 j = e) : (va_up w n (S c)) n2 j = e := by
  rw [va_un _ _ hne, hw2]; exact h
theorem sh_st {Λ : Lay} {ad : Nat → Nat → Nat} {M : Mem} {O : Nat → Int64} {n : Nat} (h : n < 18) : sh Λ ad M O n = stSh Λ ad n (M n) := by
  unfold sh; rw [rS_st Λ ad O h]
theorem M_aastS {Γ : Cx} {own : String} {cc : ByteArray} {nL : Nat} {rm : Room} {Λ : Lay} {B : Zn} {ids : List (Nat × Nat)} {ad : Nat → Nat → Nat} {k z pc : Nat} {lv : List (Nat × Value)} {st : List Value} (hO : Ok Γ own cc nL rm Λ B) {M : Mem} {O : Nat → Int64} {x y : Int32} (kx : Nat) (hkx : y.toNatClampNeg = kx) (hid : (20, 3) ∈ ids) (hid2 : (x.toNatClampNeg + 2, 0) ∈ ids) (hn : x.toNatClampNeg + 2 < 18) (hin : vp_in y 14) (hd : decode cc pc = .ok (.aastore, 1)) (h : G Γ ids ad k z (sh Λ ad (va_up M 20 (cu (M 20) 3 kx x)) O) (pc + 1) lv st) : G Γ ids ad k z (sh Λ ad M O) pc lv (.ref (ad (x.toNatClampNeg + 2) 0) :: .int y :: .ref (ad 20 3) :: st) := by
  subst hkx
  have e3 : ∀ c : Reg, glSh Λ ad c 3 = .inl (Λ.2.1 4, 14, .inr (.inr (.inr (.inr (fun k => some (ad ((c 3 k).toNatClampNeg + 2) 0)))))) := fun c => by simp only [glSh]
  have e0 : sh Λ ad M O 20 3 = glSh Λ ad (M 20) 3 := by unfold sh; rw [rS_gl]
  refine G_aastS hO hid (e0.trans (e3 _)) hid2 (show sh Λ ad M O _ 0 = .inr (3, stF ad (x.toNatClampNeg + 2) (M (x.toNatClampNeg + 2))) by rw [sh_st hn]; rfl) hin hd ?_
  rw [up2M (rS_gl Λ ad O) (cw_gl Λ ad) (c' := cu (M 20) 3 y.toNatClampNeg x) ?_ (cu_n _ _ _ _)]
  · exact h
  · rw [e3, cu_s]
    congr 7
    funext q
    by_cases hq : q = y.toNatClampNeg
    · subst hq; simp [upd, va_up]
    · simp [upd, va_up, hq]
theorem G_getsN {Γ : Cx} {cc : ByteArray} {nL : Nat} {rm : Room} {Λ : Lay} {B : Zn} {ids : List (Nat × Nat)} {ad : Nat → Nat → Nat} {k z pc : Nat} {lv : List (Nat × Value)} {st : List Value} (hO : Ok Γ RX3 cc nL rm Λ B) {w : Nat → Nat → va_E} (hd : decode cc pc = .ok (.getstatic 70, 3)) (h : G Γ ids ad k z w (pc + 3) lv (.ref (Λ.2.2.1 0) :: st)) : G Γ ids ad k z w pc lv st := by
  obtain ⟨p, l, e, s, m, args, below, meth, c, Q, rfl, hx, hb, hml, hown, hts, hI, hlk⟩ := hO
  intro H locs ls hP hS hl
  exact va_getsN hx hb hI.2.1.1.1 hS hown (va_Nw.use rfl hI.2.2.1.2.2.1) (fun _ h9 => h9) hd (h H locs ls hP hS hl)
theorem D_getf {Γ : Cx} {own : String} {cc : ByteArray} {nL : Nat} {rm : Room} {Λ : Lay} {B : Zn} {ids : List (Nat × Nat)} {ad : Nat → Nat → Nat} {k z pc : Nat} {lv : List (Nat × Value)} {st : List Value} (hO : Ok Γ own cc nL rm Λ B) {w : Nat → Nat → va_E} {n : Nat} {c : Reg} {S : Reg → Nat → va_E} {n2 : Nat} {S2 : Reg → Nat → va_E} {c2 : Reg} (hne : n2 ≠ n) (hw2 : w n2 = S2 c2) {ci : Nat} {C : String} {T : u_T} {N : Nat} {ty : Nat → FieldType} (hc : Cl ci C T N ty) {j index : Nat} {fs : List Value} {v : Value} {ref : String} (f : Nat) (hid : (n2, j) ∈ ids) (hs : S2 c2 j = .inr (ci, fs)) (hf : f < N) (hl0 : Cond.fieldLink own index ref (T f).2.1 (T f).2.2.1 ∈ UW) (hr : ref = (T f).1) (hv : fs[f]? = some v) (hd : decode cc pc = .ok (.getfield index, 3)) (h : G Γ ids ad k z (va_up w n (S c)) (pc + 3) lv (v :: st)) : G Γ ids ad k z (va_up w n (S c)) pc lv (.ref (ad n2 j) :: st) :=
  G_getf hO hc f hid (oth hne hw2 hs) hf hl0 hr hv hd h
theorem D_aaldR {Γ : Cx} {own : String} {cc : ByteArray} {nL : Nat} {rm : Room} {Λ : Lay} {B : Zn} {ids : List (Nat × Nat)} {ad : Nat → Nat → Nat} {k z pc : Nat} {lv : List (Nat × Value)} {st : List Value} (hO : Ok Γ own cc nL rm Λ B) {w : Nat → Nat → va_E} {n : Nat} {c : Reg} {S : Reg → Nat → va_E} {n2 : Nat} {S2 : Reg → Nat → va_E} {c2 : Reg} (hne : n2 ≠ n) (hw2 : w n2 = S2 c2) {j m : Nat} {f : Nat → Option Nat} {x : Int32} {v : Value} (hid : (n2, j) ∈ ids) (hs : S2 c2 j = .inl (Λ.2.1 5, m, .inr (.inr (.inr (.inr f))))) (hin : vp_in x m) (hv : va_rf (f x.toNatClampNeg) = v) (hd : decode cc pc = .ok (.aaload, 1)) (h : G Γ ids ad k z (va_up w n (S c)) (pc + 1) lv (v :: st)) : G Γ ids ad k z (va_up w n (S c)) pc lv (.int x :: .ref (ad n2 j) :: st) :=
  G_aaldR hO hid (oth hne hw2 hs) hin hv hd h
/-- ends: without the world; in a region; in all memory -/
def Ni (ids : List (Nat × Nat)) (ad : Nat → Nat → Nat) (w : Nat → Nat → va_E) (P : Int32 → Prop) : Po := Sm ids ad fun v w' => w' = w ∧ ∃ r, v = some (.int r) ∧ P r
def Nl (ids : List (Nat × Nat)) (ad : Nat → Nat → Nat) (w : Nat → Nat → va_E) (P : Int64 → Prop) : Po := Sm ids ad fun v w' => w' = w ∧ ∃ r, v = some (.long r) ∧ P r
def Ri (ids : List (Nat × Nat)) (ad : Nat → Nat → Nat) (w : Nat → Nat → va_E) (n : Nat) (S : Reg → Nat → va_E) (P : Int32 → Reg → Prop) : Po := Sm ids ad fun v w' => ∃ c r, w' = va_up w n (S c) ∧ v = some (.int r) ∧ P r c
def Rl (ids : List (Nat × Nat)) (ad : Nat → Nat → Nat) (w : Nat → Nat → va_E) (n : Nat) (S : Reg → Nat → va_E) (P : Int64 → Reg → Prop) : Po := Sm ids ad fun v w' => ∃ c r, w' = va_up w n (S c) ∧ v = some (.long r) ∧ P r c
def Rv (ids : List (Nat × Nat)) (ad : Nat → Nat → Nat) (w : Nat → Nat → va_E) (n : Nat) (S : Reg → Nat → va_E) (P : Reg → Prop) : Po := Sm ids ad fun v w' => ∃ c, w' = va_up w n (S c) ∧ v = none ∧ P c
def Gi (Λ : Lay) (ids : List (Nat × Nat)) (ad : Nat → Nat → Nat) (O : Nat → Int64) (P : Int32 → Mem → Prop) : Po := Sm ids ad fun v w' => ∃ M r, w' = sh Λ ad M O ∧ v = some (.int r) ∧ P r M
def Gl (Λ : Lay) (ids : List (Nat × Nat)) (ad : Nat → Nat → Nat) (O : Nat → Int64) (P : Int64 → Mem → Prop) : Po := Sm ids ad fun v w' => ∃ M r, w' = sh Λ ad M O ∧ v = some (.long r) ∧ P r M
def Gv (Λ : Lay) (ids : List (Nat × Nat)) (ad : Nat → Nat → Nat) (O : Nat → Int64) (P : Mem → Prop) : Po := Sm ids ad fun v w' => ∃ M, w' = sh Λ ad M O ∧ v = none ∧ P M
