/-! CELLS of the shapes, as rows -/
theorem st_0 (Λ : Lay) (ad : Nat → Nat → Nat) (n : Nat) (c : Reg) : stSh Λ ad n c 0 = .inr (3, stF ad n c) := rfl
theorem st_1 (Λ : Lay) (ad : Nat → Nat → Nat) (n : Nat) (c : Reg) : stSh Λ ad n c 1 = .inl (Λ.2.1 0, 9, .inl (c 1)) := rfl
theorem st_2 (Λ : Lay) (ad : Nat → Nat → Nat) (n : Nat) (c : Reg) : stSh Λ ad n c 2 = .inl (Λ.2.1 0, 8, .inl (c 2)) := rfl
theorem st_3 (Λ : Lay) (ad : Nat → Nat → Nat) (n : Nat) (c : Reg) : stSh Λ ad n c 3 = .inl (Λ.2.1 0, 8, .inl (c 3)) := rfl
theorem st_4 (Λ : Lay) (ad : Nat → Nat → Nat) (n : Nat) (c : Reg) : stSh Λ ad n c 4 = .inl (Λ.2.1 5, 6, .inr (.inr (.inr (.inr (fun r => some (ad n (r + 9))))))) := by simp only [stSh]
theorem st_5 (Λ : Lay) (ad : Nat → Nat → Nat) (n : Nat) (c : Reg) : stSh Λ ad n c 5 = .inr (1, leF ad n c) := rfl
theorem st_6 (Λ : Lay) (ad : Nat → Nat → Nat) (n : Nat) (c : Reg) : stSh Λ ad n c 6 = .inl (Λ.2.1 0, 26, .inl (c 6)) := rfl
theorem st_7 (Λ : Lay) (ad : Nat → Nat → Nat) (n : Nat) (c : Reg) : stSh Λ ad n c 7 = .inl (Λ.2.1 0, 26, .inl (c 7)) := rfl
theorem st_8 (Λ : Lay) (ad : Nat → Nat → Nat) (n : Nat) (c : Reg) : stSh Λ ad n c 8 = .inl (Λ.2.1 0, 26, .inl (c 8)) := rfl
theorem st_r (Λ : Lay) (ad : Nat → Nat → Nat) (n : Nat) (c : Reg) (r : Nat) : stSh Λ ad n c (r + 9) = .inr (2, rmF (c (r + 9))) := by simp only [stSh]
theorem stP {Λ : Lay} {ad : Nat → Nat → Nat} {n : Nat} {c : Reg} {x : Int32} {f : Nat} (h : f < 9) : stSh Λ ad n (cu c 0 f x) 0 = .inr (3, (stF ad n c).set f (.int x)) := by
  rw [st_0]
  rcases (by omega : f = 0 ∨ f = 1 ∨ f = 2 ∨ f = 3 ∨ f = 4 ∨ f = 5 ∨ f = 6 ∨ f = 7 ∨ f = 8) with h | h | h | h | h | h | h | h | h <;> subst h <;> simp [stF, cu, va_up, upd]
theorem rmP {Λ : Lay} {ad : Nat → Nat → Nat} {n r : Nat} {c : Reg} {x : Int32} {f : Nat} (h : f < 7) : stSh Λ ad n (cu c (r + 9) f x) (r + 9) = .inr (2, (rmF (c (r + 9))).set f (.int x)) := by
  rw [st_r, cu_s]
  rcases (by omega : f = 0 ∨ f = 1 ∨ f = 2 ∨ f = 3 ∨ f = 4 ∨ f = 5 ∨ f = 6) with h | h | h | h | h | h | h <;> subst h <;> simp [rmF, upd]
theorem leP {Λ : Lay} {ad : Nat → Nat → Nat} {n : Nat} {c : Reg} {x : Int32} : stSh Λ ad n (cu c 5 3 x) 5 = .inr (1, (leF ad n c).set 3 (.int x)) := by
  rw [st_5]; simp [leF, cu, va_up, upd]
theorem md_0 (Λ : Lay) (ad : Nat → Nat → Nat) (c : Reg) : mdSh Λ ad c 0 = .inr (6, mdF ad c) := rfl
theorem md_1 (Λ : Lay) (ad : Nat → Nat → Nat) (c : Reg) : mdSh Λ ad c 1 = .inl (Λ.2.1 0, 80, .inl (c 1)) := rfl
theorem md_2 (Λ : Lay) (ad : Nat → Nat → Nat) (c : Reg) : mdSh Λ ad c 2 = .inl (Λ.2.1 0, 128, .inl (c 2)) := rfl
theorem md_3 (Λ : Lay) (ad : Nat → Nat → Nat) (c : Reg) : mdSh Λ ad c 3 = .inl (Λ.2.1 0, 128, .inl (c 3)) := rfl
theorem md_4 (Λ : Lay) (ad : Nat → Nat → Nat) (c : Reg) : mdSh Λ ad c 4 = .inl (Λ.2.1 0, 128, .inl (c 4)) := rfl
theorem md_5 (Λ : Lay) (ad : Nat → Nat → Nat) (c : Reg) : mdSh Λ ad c 5 = .inl (Λ.2.1 0, 1792, .inl (c 5)) := rfl
theorem md_6 (Λ : Lay) (ad : Nat → Nat → Nat) (c : Reg) : mdSh Λ ad c 6 = .inl (Λ.2.1 0, 256, .inl (c 6)) := rfl
theorem md_7 (Λ : Lay) (ad : Nat → Nat → Nat) (c : Reg) : mdSh Λ ad c 7 = .inl (Λ.2.1 2, 2, .inl (c 7)) := rfl
/-- the length of an array of ints of the model -/
def mdl (j : Nat) : Nat := if j = 1 then 80 else if j = 5 then 1792 else if j = 6 then 256 else 128
theorem md_a (Λ : Lay) (ad : Nat → Nat → Nat) {j : Nat} (h : 1 ≤ j ∧ j ≤ 6) (c : Reg) : mdSh Λ ad c j = .inl (Λ.2.1 0, mdl j, .inl (c j)) := by
  rcases (by omega : j = 1 ∨ j = 2 ∨ j = 3 ∨ j = 4 ∨ j = 5 ∨ j = 6) with h | h | h | h | h | h <;> subst h <;> simp [mdSh, mdl]
/-- the rows of the model -/
theorem md_w (Λ : Lay) (ad : Nat → Nat → Nat) {j : Nat} (h : 2 ≤ j ∧ j ≤ 4) (c : Reg) : mdSh Λ ad c j = .inl (Λ.2.1 0, 128, .inl (c j)) := by
  rcases (by omega : j = 2 ∨ j = 3 ∨ j = 4) with h | h | h <;> subst h <;> simp [mdSh]
theorem mdP {Λ : Lay} {ad : Nat → Nat → Nat} {c : Reg} {x : Int32} {f : Nat} (h : f = 0 ∨ f = 2 ∨ f = 3 ∨ f = 4 ∨ f = 9) : mdSh Λ ad (cu c 0 f x) 0 = .inr (6, (mdF ad c).set f (.int x)) := by
  rw [md_0]
  rcases h with h | h | h | h | h <;> subst h <;> simp [mdF, cu, va_up, upd]
theorem gl_0 (Λ : Lay) (ad : Nat → Nat → Nat) (c : Reg) : glSh Λ ad c 0 = .inr (5, glF ad c) := by simp only [glSh]
theorem gl_1 (Λ : Lay) (ad : Nat → Nat → Nat) (c : Reg) : glSh Λ ad c 1 = .inl (Λ.2.1 1, 80, .inl (c 1)) := by simp only [glSh]
theorem gl_2 (Λ : Lay) (ad : Nat → Nat → Nat) (c : Reg) : glSh Λ ad c 2 = .inr (0, hiF ad c) := by simp only [glSh]
theorem gl_3 (Λ : Lay) (ad : Nat → Nat → Nat) (c : Reg) : glSh Λ ad c 3 = .inl (Λ.2.1 4, 14, .inr (.inr (.inr (.inr (fun k => some (ad ((c 3 k).toNatClampNeg + 2) 0)))))) := by simp only [glSh]
theorem gl_4 (Λ : Lay) (ad : Nat → Nat → Nat) (c : Reg) : glSh Λ ad c 4 = .inl (Λ.2.1 4, 2, .inr (.inr (.inr (.inr (fun k => some (ad (k + 16) 0)))))) := by simp only [glSh]
theorem gl_5 (Λ : Lay) (ad : Nat → Nat → Nat) (c : Reg) : glSh Λ ad c 5 = .inl (Λ.2.1 2, 2, .inl (c 5)) := by simp only [glSh]
theorem glP {Λ : Lay} {ad : Nat → Nat → Nat} {c : Reg} {x : Int32} : glSh Λ ad (cu c 0 1 x) 0 = .inr (5, (glF ad c).set 1 (.int x)) := by
  rw [gl_0]; simp [glF, cu, va_up, upd]
theorem hiP {Λ : Lay} {ad : Nat → Nat → Nat} {c : Reg} {x : Int32} : glSh Λ ad (cu c 2 1 x) 2 = .inr (0, (hiF ad c).set 1 (.int x)) := by
  rw [gl_2]; simp [hiF, cu, va_up, upd]
theorem gl_6 (Λ : Lay) (ad : Nat → Nat → Nat) (c : Reg) : glSh Λ ad c 6 = .inr (4, rdF ad (c 6)) := by simp only [glSh]
theorem rdP {Λ : Lay} {ad : Nat → Nat → Nat} {c : Reg} {x : Int32} {f : Nat} (h : f = 1 ∨ f = 2) : glSh Λ ad (cu c 6 f x) 6 = .inr (4, (rdF ad (c 6)).set f (.int x)) := by
  rw [gl_6, cu_s]
  rcases h with h | h <;> subst h <;> simp [rdF, upd]
theorem rd_t {ad : Nat → Nat → Nat} {f : Nat → Int32} (h : ¬ f 3 = 0) : (rdF ad f)[0]? = some (.ref (ad 20 1)) := by simp [rdF, h]
/-- the cells when all is made -/
def ids0 : List (Nat × Nat) := (List.range 18).flatMap (fun n => (List.range 15).map fun j => (n, j)) ++ ((List.range 6).map (fun j => (20, j)) ++ ((List.range 8).map (fun j => (21, j)) ++ [(22, 0)]))
theorem id_st {n j : Nat} (hn : n < 18) (hj : j < 15) : (n, j) ∈ ids0 := List.mem_append_left _ (List.mem_flatMap.mpr ⟨n, List.mem_range.mpr hn, List.mem_map.mpr ⟨j, List.mem_range.mpr hj, rfl⟩⟩)
theorem id_gl {j : Nat} (hj : j < 6) : (20, j) ∈ ids0 := List.mem_append_right _ (List.mem_append_left _ (List.mem_map.mpr ⟨j, List.mem_range.mpr hj, rfl⟩))
theorem id_md {j : Nat} (hj : j < 8) : (21, j) ∈ ids0 := List.mem_append_right _ (List.mem_append_right _ (List.mem_append_left _ (List.mem_map.mpr ⟨j, List.mem_range.mpr hj, rfl⟩)))
theorem id_ou : (22, 0) ∈ ids0 := List.mem_append_right _ (List.mem_append_right _ (List.mem_append_right _ List.mem_cons_self))
theorem l15_9 {r : Nat} (h : r < 6) : r + 9 < 15 := by omega
theorem cv_X0_init : CV yX0_init cX0_init 2 none 0 := ⟨mw_6, mw_165, by decide +kernel, by decide +kernel, by decide +kernel⟩
theorem cv_X0_isEmpty : CV yX0_isEmpty cX0_isEmpty 1 (some .boolean) 0 := ⟨mw_6, mw_706, by decide +kernel, by decide +kernel, by decide +kernel⟩
theorem cv_X0_forgetAll : CV yX0_forgetAll cX0_forgetAll 1 none 0 := ⟨mw_6, mw_476, by decide +kernel, by decide +kernel, by decide +kernel⟩
theorem cv_X0_remember : CV yX0_remember cX0_remember 2 none 1 := ⟨mw_6, mw_600, by decide +kernel, by decide +kernel, by decide +kernel⟩
theorem cv_X0_forgetOldest : CV yX0_forgetOldest cX0_forgetOldest 3 none 0 := ⟨mw_6, mw_604, by decide +kernel, by decide +kernel, by decide +kernel⟩
theorem cv_X0_takeBackInto : CV yX0_takeBackInto cX0_takeBackInto 3 none 1 := ⟨mw_6, mw_711, by decide +kernel, by decide +kernel, by decide +kernel⟩
theorem cv_X1_init : CV yX1_init cX1_init 1 none 0 := ⟨mw_3, mw_36, by decide +kernel, by decide +kernel, by decide +kernel⟩
theorem cv_X1_copyFrom : CV yX1_copyFrom cX1_copyFrom 2 none 1 := ⟨mw_3, mw_309, by decide +kernel, by decide +kernel, by decide +kernel⟩
theorem cv_X1_hasWay : CV yX1_hasWay cX1_hasWay 2 (some .boolean) 1 := ⟨mw_3, mw_575, by decide +kernel, by decide +kernel, by decide +kernel⟩
theorem cv_X1_note : CV yX1_note cX1_note 5 none 3 := ⟨mw_3, mw_292, by decide +kernel, by decide +kernel, by decide +kernel⟩
theorem cv_X1_sumBetween : CV yX1_sumBetween cX1_sumBetween 4 (some .int) 2 := ⟨mw_3, mw_564, by decide +kernel, by decide +kernel, by decide +kernel⟩
theorem cv_X2_init : CV yX2_init cX2_init 1 none 0 := ⟨mw_4, mw_61, by decide +kernel, by decide +kernel, by decide +kernel⟩
theorem cv_X2_copyFrom : CV yX2_copyFrom cX2_copyFrom 2 none 1 := ⟨mw_4, mw_314, by decide +kernel, by decide +kernel, by decide +kernel⟩
theorem cv_X2_begin : CV yX2_begin cX2_begin 4 none 3 := ⟨mw_4, mw_280, by decide +kernel, by decide +kernel, by decide +kernel⟩
theorem cv_X2_change : CV yX2_change cX2_change 4 (some .int) 2 := ⟨mw_4, mw_621, by decide +kernel, by decide +kernel, by decide +kernel⟩
theorem cv_X2_judge : CV yX2_judge cX2_judge 2 none 1 := ⟨mw_4, mw_695, by decide +kernel, by decide +kernel, by decide +kernel⟩
theorem cv_X3_init : CV yX3_init cX3_init 2 none 0 := ⟨mw_2, mw_28, by decide +kernel, by decide +kernel, by decide +kernel⟩
theorem cv_X3_beginAnew : CV yX3_beginAnew cX3_beginAnew 1 none 0 := ⟨mw_2, mw_100, by decide +kernel, by decide +kernel, by decide +kernel⟩
theorem cv_X3_copyFrom : CV yX3_copyFrom cX3_copyFrom 3 none 1 := ⟨mw_2, mw_305, by decide +kernel, by decide +kernel, by decide +kernel⟩
theorem cv_X3_hasRoom : CV yX3_hasRoom cX3_hasRoom 2 (some .boolean) 1 := ⟨mw_2, mw_517, by decide +kernel, by decide +kernel, by decide +kernel⟩
theorem cv_X3_hasPlace : CV yX3_hasPlace cX3_hasPlace 2 (some .boolean) 1 := ⟨mw_2, mw_513, by decide +kernel, by decide +kernel, by decide +kernel⟩
theorem cv_X3_isFull : CV yX3_isFull cX3_isFull 1 (some .boolean) 0 := ⟨mw_2, mw_268, by decide +kernel, by decide +kernel, by decide +kernel⟩
theorem cv_X3_settingOf : CV yX3_settingOf cX3_settingOf 2 (some .int) 1 := ⟨mw_2, mw_322, by decide +kernel, by decide +kernel, by decide +kernel⟩
theorem cv_X3_changeSetting : CV yX3_changeSetting cX3_changeSetting 3 none 2 := ⟨mw_2, mw_260, by decide +kernel, by decide +kernel, by decide +kernel⟩
theorem cv_X3_turnWindow : CV yX3_turnWindow cX3_turnWindow 3 none 2 := ⟨mw_2, mw_797, by decide +kernel, by decide +kernel, by decide +kernel⟩
theorem cv_X3_buildRoom : CV yX3_buildRoom cX3_buildRoom 7 none 4 := ⟨mw_2, mw_276, by decide +kernel, by decide +kernel, by decide +kernel⟩
theorem cv_X3_heatOf : CV yX3_heatOf cX3_heatOf 2 (some .int) 1 := ⟨mw_2, mw_537, by decide +kernel, by decide +kernel, by decide +kernel⟩
theorem cv_X3_capacityOf : CV yX3_capacityOf cX3_capacityOf 2 (some .int) 1 := ⟨mw_2, mw_541, by decide +kernel, by decide +kernel, by decide +kernel⟩
theorem cv_X3_degrees : CV yX3_degrees cX3_degrees 2 (some .int) 1 := ⟨mw_2, mw_334, by decide +kernel, by decide +kernel, by decide +kernel⟩
theorem cv_X3_allHeat : CV yX3_allHeat cX3_allHeat 3 (some .int) 0 := ⟨mw_2, mw_488, by decide +kernel, by decide +kernel, by decide +kernel⟩
theorem cv_X3_allComfort : CV yX3_allComfort cX3_allComfort 3 (some .int) 0 := ⟨mw_2, mw_492, by decide +kernel, by decide +kernel, by decide +kernel⟩
theorem cv_X3_openWindows : CV yX3_openWindows cX3_openWindows 3 (some .int) 0 := ⟨mw_2, mw_632, by decide +kernel, by decide +kernel, by decide +kernel⟩
theorem cv_X3_heatMade : CV yX3_heatMade cX3_heatMade 1 (some .int) 0 := ⟨mw_2, mw_764, by decide +kernel, by decide +kernel, by decide +kernel⟩
theorem cv_X3_isAsWarmAsWanted : CV yX3_isAsWarmAsWanted cX3_isAsWarmAsWanted 2 (some .boolean) 1 := ⟨mw_2, mw_730, by decide +kernel, by decide +kernel, by decide +kernel⟩
theorem cv_X3_warmRooms : CV yX3_warmRooms cX3_warmRooms 3 (some .int) 0 := ⟨mw_2, mw_752, by decide +kernel, by decide +kernel, by decide +kernel⟩
theorem cv_X3_loopShouldHave : CV yX3_loopShouldHave cX3_loopShouldHave 1 (some .int) 0 := ⟨mw_2, mw_359, by decide +kernel, by decide +kernel, by decide +kernel⟩
theorem cv_X3_advance : CV yX3_advance cX3_advance 3 none 1 := ⟨mw_2, mw_672, by decide +kernel, by decide +kernel, by decide +kernel⟩
theorem cv_X3_turnSeason : CV yX3_turnSeason cX3_turnSeason 2 none 0 := ⟨mw_2, mw_318, by decide +kernel, by decide +kernel, by decide +kernel⟩
theorem cv_X3_runBoiler : CV yX3_runBoiler cX3_runBoiler 1 none 0 := ⟨mw_2, mw_326, by decide +kernel, by decide +kernel, by decide +kernel⟩
theorem cv_X3_mustStop : CV yX3_mustStop cX3_mustStop 2 (some .boolean) 0 := ⟨mw_2, mw_330, by decide +kernel, by decide +kernel, by decide +kernel⟩
theorem cv_X3_mayStart : CV yX3_mayStart cX3_mayStart 1 (some .boolean) 0 := ⟨mw_2, mw_341, by decide +kernel, by decide +kernel, by decide +kernel⟩
theorem cv_X3_moveValve : CV yX3_moveValve cX3_moveValve 3 none 0 := ⟨mw_2, mw_351, by decide +kernel, by decide +kernel, by decide +kernel⟩
theorem cv_X3_isPinched : CV yX3_isPinched cX3_isPinched 1 (some .boolean) 0 := ⟨mw_2, mw_369, by decide +kernel, by decide +kernel, by decide +kernel⟩
theorem cv_X3_freeTarget : CV yX3_freeTarget cX3_freeTarget 2 (some .int) 0 := ⟨mw_2, mw_355, by decide +kernel, by decide +kernel, by decide +kernel⟩
theorem cv_X3_mix : CV yX3_mix cX3_mix 2 none 0 := ⟨mw_2, mw_679, by decide +kernel, by decide +kernel, by decide +kernel⟩
theorem cv_X3_heatRooms : CV yX3_heatRooms cX3_heatRooms 4 none 0 := ⟨mw_2, mw_683, by decide +kernel, by decide +kernel, by decide +kernel⟩
theorem cv_X3_leakRooms : CV yX3_leakRooms cX3_leakRooms 4 none 0 := ⟨mw_2, mw_687, by decide +kernel, by decide +kernel, by decide +kernel⟩
theorem cv_X3_judgeRooms : CV yX3_judgeRooms cX3_judgeRooms 2 none 0 := ⟨mw_2, mw_691, by decide +kernel, by decide +kernel, by decide +kernel⟩
theorem cv_X3_move : CV yX3_move cX3_move 4 none 3 := ⟨mw_2, mw_284, by decide +kernel, by decide +kernel, by decide +kernel⟩
theorem cv_X3_addHeat : CV yX3_addHeat cX3_addHeat 3 none 2 := ⟨mw_2, mw_288, by decide +kernel, by decide +kernel, by decide +kernel⟩
theorem cv_X4_init : CV yX4_init cX4_init 3 none 2 := ⟨mw_13, mw_213, by decide +kernel, by decide +kernel, by decide +kernel⟩
theorem cv_X4_readInto : CV yX4_readInto cX4_readInto 3 (some .boolean) 1 := ⟨mw_13, mw_229, by decide +kernel, by decide +kernel, by decide +kernel⟩
theorem cv_X4_readHead : CV yX4_readHead cX4_readHead 2 (some .boolean) 1 := ⟨mw_13, mw_234, by decide +kernel, by decide +kernel, by decide +kernel⟩
theorem cv_X4_readPart : CV yX4_readPart cX4_readPart 4 (some .boolean) 1 := ⟨mw_13, mw_264, by decide +kernel, by decide +kernel, by decide +kernel⟩
theorem cv_X4_readSetting : CV yX4_readSetting cX4_readSetting 5 (some .boolean) 3 := ⟨mw_13, mw_242, by decide +kernel, by decide +kernel, by decide +kernel⟩
theorem cv_X4_readRoom : CV yX4_readRoom cX4_readRoom 6 (some .boolean) 1 := ⟨mw_13, mw_272, by decide +kernel, by decide +kernel, by decide +kernel⟩
theorem cv_X4_readOutside : CV yX4_readOutside cX4_readOutside 4 (some .boolean) 1 := ⟨mw_13, mw_296, by decide +kernel, by decide +kernel, by decide +kernel⟩
theorem cv_X4_readNumber : CV yX4_readNumber cX4_readNumber 9 (some .int) 3 := ⟨mw_13, mw_256, by decide +kernel, by decide +kernel, by decide +kernel⟩
theorem cv_X4_here : CV yX4_here cX4_here 1 (some .int) 0 := ⟨mw_13, mw_238, by decide +kernel, by decide +kernel, by decide +kernel⟩
theorem cv_X5_init : CV yX5_init cX5_init 2 none 0 := ⟨mw_1, mw_20, by decide +kernel, by decide +kernel, by decide +kernel⟩
theorem cv_X5_append : CV yX5_append cX5_append 2 (some .int) 1 := ⟨mw_1, mw_380, by decide +kernel, by decide +kernel, by decide +kernel⟩
theorem cv_X5_clearText : CV yX5_clearText cX5_clearText 2 (some .int) 0 := ⟨mw_1, mw_204, by decide +kernel, by decide +kernel, by decide +kernel⟩
theorem cv_X5_errorPosition : CV yX5_errorPosition cX5_errorPosition 2 (some .int) 0 := ⟨mw_1, mw_208, by decide +kernel, by decide +kernel, by decide +kernel⟩
theorem cv_X5_load : CV yX5_load cX5_load 3 (some .int) 0 := ⟨mw_1, mw_471, by decide +kernel, by decide +kernel, by decide +kernel⟩
theorem cv_X5_about : CV yX5_about cX5_about 2 (some .int) 1 := ⟨mw_1, mw_483, by decide +kernel, by decide +kernel, by decide +kernel⟩
theorem cv_X5_setting : CV yX5_setting cX5_setting 2 (some .int) 1 := ⟨mw_1, mw_500, by decide +kernel, by decide +kernel, by decide +kernel⟩
theorem cv_X5_place : CV yX5_place cX5_place 3 (some .int) 2 := ⟨mw_1, mw_509, by decide +kernel, by decide +kernel, by decide +kernel⟩
theorem cv_X5_room : CV yX5_room cX5_room 4 (some .int) 2 := ⟨mw_1, mw_549, by decide +kernel, by decide +kernel, by decide +kernel⟩
theorem cv_X5_moved : CV yX5_moved cX5_moved 3 (some .int) 2 := ⟨mw_1, mw_559, by decide +kernel, by decide +kernel, by decide +kernel⟩
theorem cv_X5_way : CV yX5_way cX5_way 3 (some .int) 2 := ⟨mw_1, mw_571, by decide +kernel, by decide +kernel, by decide +kernel⟩
theorem cv_X5_addRoom : CV yX5_addRoom cX5_addRoom 5 (some .int) 4 := ⟨mw_1, mw_584, by decide +kernel, by decide +kernel, by decide +kernel⟩
theorem cv_X5_setRoom : CV yX5_setRoom cX5_setRoom 4 (some .int) 3 := ⟨mw_1, mw_613, by decide +kernel, by decide +kernel, by decide +kernel⟩
theorem cv_X5_window : CV yX5_window cX5_window 3 (some .int) 2 := ⟨mw_1, mw_628, by decide +kernel, by decide +kernel, by decide +kernel⟩
theorem cv_X5_set : CV yX5_set cX5_set 4 (some .int) 2 := ⟨mw_1, mw_639, by decide +kernel, by decide +kernel, by decide +kernel⟩
theorem cv_X5_outside : CV yX5_outside cX5_outside 3 (some .int) 1 := ⟨mw_1, mw_653, by decide +kernel, by decide +kernel, by decide +kernel⟩
theorem cv_X5_pass : CV yX5_pass cX5_pass 3 (some .int) 1 := ⟨mw_1, mw_664, by decide +kernel, by decide +kernel, by decide +kernel⟩
theorem cv_X5_undo : CV yX5_undo cX5_undo 1 (some .int) 0 := ⟨mw_1, mw_702, by decide +kernel, by decide +kernel, by decide +kernel⟩
theorem cv_X5_ahead : CV yX5_ahead cX5_ahead 3 (some .int) 2 := ⟨mw_1, mw_718, by decide +kernel, by decide +kernel, by decide +kernel⟩
theorem cv_X5_minutesTo : CV yX5_minutesTo cX5_minutesTo 3 (some .int) 1 := ⟨mw_1, mw_726, by decide +kernel, by decide +kernel, by decide +kernel⟩
theorem cv_X5_whyOff : CV yX5_whyOff cX5_whyOff 1 (some .int) 0 := ⟨mw_1, mw_301, by decide +kernel, by decide +kernel, by decide +kernel⟩
theorem cv_X5_whyShare : CV yX5_whyShare cX5_whyShare 1 (some .int) 0 := ⟨mw_1, mw_347, by decide +kernel, by decide +kernel, by decide +kernel⟩
theorem cv_X5_bestSlope : CV yX5_bestSlope cX5_bestSlope 6 (some .int) 1 := ⟨mw_1, mw_737, by decide +kernel, by decide +kernel, by decide +kernel⟩
theorem cv_X5_leastPower : CV yX5_leastPower cX5_leastPower 3 (some .int) 1 := ⟨mw_1, mw_745, by decide +kernel, by decide +kernel, by decide +kernel⟩
theorem cv_X5_heatFor : CV yX5_heatFor cX5_heatFor 2 (some .int) 1 := ⟨mw_1, mw_760, by decide +kernel, by decide +kernel, by decide +kernel⟩
theorem cv_X5_runScript : CV yX5_runScript cX5_runScript 5 (some .int) 2 := ⟨mw_1, mw_772, by decide +kernel, by decide +kernel, by decide +kernel⟩
theorem cv_X5_simulate : CV yX5_simulate cX5_simulate 8 (some .long) 2 := ⟨mw_1, mw_807, by decide +kernel, by decide +kernel, by decide +kernel⟩
theorem cv_X5_save : CV yX5_save cX5_save 2 (some .int) 1 := ⟨mw_1, mw_818, by decide +kernel, by decide +kernel, by decide +kernel⟩
theorem cv_X5_restore : CV yX5_restore cX5_restore 2 (some .int) 1 := ⟨mw_1, mw_826, by decide +kernel, by decide +kernel, by decide +kernel⟩
theorem cv_X5_lowestSetting : CV yX5_lowestSetting cX5_lowestSetting 1 (some .int) 1 := ⟨mw_1, mw_245, by decide +kernel, by decide +kernel, by decide +kernel⟩
theorem cv_X5_highestSetting : CV yX5_highestSetting cX5_highestSetting 1 (some .int) 1 := ⟨mw_1, mw_250, by decide +kernel, by decide +kernel, by decide +kernel⟩
theorem cv_X5_settingAllowed : CV yX5_settingAllowed cX5_settingAllowed 2 (some .boolean) 2 := ⟨mw_1, mw_642, by decide +kernel, by decide +kernel, by decide +kernel⟩
theorem cv_X5_outsideAllowed : CV yX5_outsideAllowed cX5_outsideAllowed 1 (some .boolean) 1 := ⟨mw_1, mw_656, by decide +kernel, by decide +kernel, by decide +kernel⟩
theorem cv_X5_passAllowed : CV yX5_passAllowed cX5_passAllowed 1 (some .boolean) 1 := ⟨mw_1, mw_667, by decide +kernel, by decide +kernel, by decide +kernel⟩
theorem cv_X5_wantedAllowed : CV yX5_wantedAllowed cX5_wantedAllowed 1 (some .boolean) 1 := ⟨mw_1, mw_587, by decide +kernel, by decide +kernel, by decide +kernel⟩
theorem cv_X5_radiatorsAllowed : CV yX5_radiatorsAllowed cX5_radiatorsAllowed 1 (some .boolean) 1 := ⟨mw_1, mw_590, by decide +kernel, by decide +kernel, by decide +kernel⟩
theorem cv_X5_leakAllowed : CV yX5_leakAllowed cX5_leakAllowed 1 (some .boolean) 1 := ⟨mw_1, mw_593, by decide +kernel, by decide +kernel, by decide +kernel⟩
theorem cv_X5_roomNumberAllowed : CV yX5_roomNumberAllowed cX5_roomNumberAllowed 2 (some .boolean) 2 := ⟨mw_1, mw_616, by decide +kernel, by decide +kernel, by decide +kernel⟩
theorem cv_X5_allRoomsGetWarm : CV yX5_allRoomsGetWarm cX5_allRoomsGetWarm 5 (some .boolean) 2 := ⟨mw_1, mw_748, by decide +kernel, by decide +kernel, by decide +kernel⟩
theorem cv_X5_longestScript : CV yX5_longestScript cX5_longestScript 4 (some .long) 1 := ⟨mw_1, mw_776, by decide +kernel, by decide +kernel, by decide +kernel⟩
theorem cv_X5_groupAt : CV yX5_groupAt cX5_groupAt 7 (some .int) 3 := ⟨mw_1, mw_781, by decide +kernel, by decide +kernel, by decide +kernel⟩
theorem cv_X5_commandSucceeds : CV yX5_commandSucceeds cX5_commandSucceeds 5 (some .boolean) 2 := ⟨mw_1, mw_784, by decide +kernel, by decide +kernel, by decide +kernel⟩
theorem cv_X5_outsideCommand : CV yX5_outsideCommand cX5_outsideCommand 2 (some .boolean) 2 := ⟨mw_1, mw_787, by decide +kernel, by decide +kernel, by decide +kernel⟩
theorem cv_X5_settingCommand : CV yX5_settingCommand cX5_settingCommand 3 (some .boolean) 3 := ⟨mw_1, mw_790, by decide +kernel, by decide +kernel, by decide +kernel⟩
theorem cv_X5_windowCommand : CV yX5_windowCommand cX5_windowCommand 3 (some .boolean) 3 := ⟨mw_1, mw_793, by decide +kernel, by decide +kernel, by decide +kernel⟩
theorem cv_X5_wantedCommand : CV yX5_wantedCommand cX5_wantedCommand 3 (some .boolean) 3 := ⟨mw_1, mw_800, by decide +kernel, by decide +kernel, by decide +kernel⟩
theorem cv_X6_init : CV yX6_init cX6_init 1 none 0 := ⟨mw_7, mw_832, by decide +kernel, by decide +kernel, by decide +kernel⟩
theorem cv_X6_thrown : CV yX6_thrown cX6_thrown 1 (some .int) 0 := ⟨mw_7, mw_877, by decide +kernel, by decide +kernel, by decide +kernel⟩
theorem cv_X6_refused : CV yX6_refused cX6_refused 2 (some .boolean) 1 := ⟨mw_7, mw_889, by decide +kernel, by decide +kernel, by decide +kernel⟩
theorem cv_X6_in : CV yX6_in cX6_in 6 (some .boolean) 3 := ⟨mw_7, mw_885, by decide +kernel, by decide +kernel, by decide +kernel⟩
theorem cv_X6_copy : CV yX6_copy cX6_copy 6 none 5 := ⟨mw_7, mw_956, by decide +kernel, by decide +kernel, by decide +kernel⟩
theorem cv_X6_tenTo : CV yX6_tenTo cX6_tenTo 4 (some .long) 1 := ⟨mw_7, mw_1140, by decide +kernel, by decide +kernel, by decide +kernel⟩
theorem cv_X6_down : CV yX6_down cX6_down 3 (some .int) 2 := ⟨mw_7, mw_993, by decide +kernel, by decide +kernel, by decide +kernel⟩
theorem cv_X6_least : CV yX6_least cX6_least 1 (some .int) 1 := ⟨mw_7, mw_946, by decide +kernel, by decide +kernel, by decide +kernel⟩
theorem cv_X6_most : CV yX6_most cX6_most 1 (some .int) 1 := ⟨mw_7, mw_949, by decide +kernel, by decide +kernel, by decide +kernel⟩
theorem cv_X6_clean : CV yX6_clean cX6_clean 2 none 1 := ⟨mw_7, mw_836, by decide +kernel, by decide +kernel, by decide +kernel⟩
theorem cv_X6_note : CV yX6_note cX6_note 1 none 0 := ⟨mw_7, mw_1023, by decide +kernel, by decide +kernel, by decide +kernel⟩
theorem cv_X6_begin : CV yX6_begin cX6_begin 1 none 0 := ⟨mw_7, mw_1104, by decide +kernel, by decide +kernel, by decide +kernel⟩
theorem cv_X6_cell : CV yX6_cell cX6_cell 2 (some .int) 2 := ⟨mw_7, mw_929, by decide +kernel, by decide +kernel, by decide +kernel⟩
theorem cv_X6_isRoom : CV yX6_isRoom cX6_isRoom 2 (some .boolean) 1 := ⟨mw_7, mw_1001, by decide +kernel, by decide +kernel, by decide +kernel⟩
theorem cv_X6_isWarmPlace : CV yX6_isWarmPlace cX6_isWarmPlace 2 (some .boolean) 1 := ⟨mw_7, mw_983, by decide +kernel, by decide +kernel, by decide +kernel⟩
theorem cv_X6_capacity : CV yX6_capacity cX6_capacity 2 (some .int) 2 := ⟨mw_7, mw_990, by decide +kernel, by decide +kernel, by decide +kernel⟩
theorem cv_X6_degrees : CV yX6_degrees cX6_degrees 2 (some .int) 2 := ⟨mw_7, mw_987, by decide +kernel, by decide +kernel, by decide +kernel⟩
theorem cv_X6_wayOf : CV yX6_wayOf cX6_wayOf 5 (some .int) 3 := ⟨mw_7, mw_935, by decide +kernel, by decide +kernel, by decide +kernel⟩
theorem cv_X6_movedOf : CV yX6_movedOf cX6_movedOf 4 (some .int) 3 := ⟨mw_7, mw_1009, by decide +kernel, by decide +kernel, by decide +kernel⟩
theorem cv_X6_go : CV yX6_go cX6_go 5 none 4 := ⟨mw_7, mw_932, by decide +kernel, by decide +kernel, by decide +kernel⟩
theorem cv_X6_addTo : CV yX6_addTo cX6_addTo 6 none 5 := ⟨mw_7, mw_926, by decide +kernel, by decide +kernel, by decide +kernel⟩
theorem cv_X6_wish : CV yX6_wish cX6_wish 2 (some .int) 1 := ⟨mw_7, mw_964, by decide +kernel, by decide +kernel, by decide +kernel⟩
theorem cv_X6_goSeason : CV yX6_goSeason cX6_goSeason 2 none 1 := ⟨mw_7, mw_1061, by decide +kernel, by decide +kernel, by decide +kernel⟩
theorem cv_X6_turn : CV yX6_turn cX6_turn 2 none 2 := ⟨mw_7, mw_1067, by decide +kernel, by decide +kernel, by decide +kernel⟩
theorem cv_X6_goBoiler : CV yX6_goBoiler cX6_goBoiler 4 none 1 := ⟨mw_7, mw_1064, by decide +kernel, by decide +kernel, by decide +kernel⟩
theorem cv_X6_freeTarget : CV yX6_freeTarget cX6_freeTarget 2 (some .int) 1 := ⟨mw_7, mw_1076, by decide +kernel, by decide +kernel, by decide +kernel⟩
theorem cv_X6_isPinched : CV yX6_isPinched cX6_isPinched 1 (some .boolean) 1 := ⟨mw_7, mw_1073, by decide +kernel, by decide +kernel, by decide +kernel⟩
theorem cv_X6_goValve : CV yX6_goValve cX6_goValve 3 none 1 := ⟨mw_7, mw_1070, by decide +kernel, by decide +kernel, by decide +kernel⟩
theorem cv_X6_goMixing : CV yX6_goMixing cX6_goMixing 2 none 1 := ⟨mw_7, mw_1079, by decide +kernel, by decide +kernel, by decide +kernel⟩
theorem cv_X6_goRadiators : CV yX6_goRadiators cX6_goRadiators 5 none 2 := ⟨mw_7, mw_1082, by decide +kernel, by decide +kernel, by decide +kernel⟩
theorem cv_X6_goLeak : CV yX6_goLeak cX6_goLeak 4 none 2 := ⟨mw_7, mw_1085, by decide +kernel, by decide +kernel, by decide +kernel⟩
theorem cv_X6_feels : CV yX6_feels cX6_feels 5 (some .boolean) 2 := ⟨mw_7, mw_1088, by decide +kernel, by decide +kernel, by decide +kernel⟩
theorem cv_X6_goMinute : CV yX6_goMinute cX6_goMinute 3 (some .int) 1 := ⟨mw_7, mw_1058, by decide +kernel, by decide +kernel, by decide +kernel⟩
theorem cv_X6_goMinutes : CV yX6_goMinutes cX6_goMinutes 4 (some .int) 2 := ⟨mw_7, mw_1055, by decide +kernel, by decide +kernel, by decide +kernel⟩
theorem cv_X6_append : CV yX6_append cX6_append 2 (some .int) 1 := ⟨mw_7, mw_881, by decide +kernel, by decide +kernel, by decide +kernel⟩
theorem cv_X6_clearText : CV yX6_clearText cX6_clearText 2 (some .int) 0 := ⟨mw_7, mw_893, by decide +kernel, by decide +kernel, by decide +kernel⟩
theorem cv_X6_isNext : CV yX6_isNext cX6_isNext 2 (some .boolean) 1 := ⟨mw_7, mw_905, by decide +kernel, by decide +kernel, by decide +kernel⟩
theorem cv_X6_accept : CV yX6_accept cX6_accept 2 none 1 := ⟨mw_7, mw_909, by decide +kernel, by decide +kernel, by decide +kernel⟩
theorem cv_X6_digit : CV yX6_digit cX6_digit 4 (some .int) 2 := ⟨mw_7, mw_913, by decide +kernel, by decide +kernel, by decide +kernel⟩
theorem cv_X6_two : CV yX6_two cX6_two 6 (some .int) 2 := ⟨mw_7, mw_919, by decide +kernel, by decide +kernel, by decide +kernel⟩
theorem cv_X6_readRoom : CV yX6_readRoom cX6_readRoom 5 none 0 := ⟨mw_7, mw_923, by decide +kernel, by decide +kernel, by decide +kernel⟩
theorem cv_X6_readOutside : CV yX6_readOutside cX6_readOutside 3 none 0 := ⟨mw_7, mw_939, by decide +kernel, by decide +kernel, by decide +kernel⟩
theorem cv_X6_readSetting : CV yX6_readSetting cX6_readSetting 3 none 0 := ⟨mw_7, mw_943, by decide +kernel, by decide +kernel, by decide +kernel⟩
theorem cv_X6_readText : CV yX6_readText cX6_readText 4 (some .int) 0 := ⟨mw_7, mw_901, by decide +kernel, by decide +kernel, by decide +kernel⟩
theorem cv_X6_errorPosition : CV yX6_errorPosition cX6_errorPosition 1 (some .int) 0 := ⟨mw_7, mw_897, by decide +kernel, by decide +kernel, by decide +kernel⟩
theorem cv_X6_load : CV yX6_load cX6_load 1 (some .int) 0 := ⟨mw_7, mw_953, by decide +kernel, by decide +kernel, by decide +kernel⟩
theorem cv_X6_allHeat : CV yX6_allHeat cX6_allHeat 3 (some .int) 1 := ⟨mw_7, mw_967, by decide +kernel, by decide +kernel, by decide +kernel⟩
theorem cv_X6_allOf : CV yX6_allOf cX6_allOf 4 (some .int) 2 := ⟨mw_7, mw_970, by decide +kernel, by decide +kernel, by decide +kernel⟩
theorem cv_X6_about : CV yX6_about cX6_about 2 (some .int) 1 := ⟨mw_7, mw_960, by decide +kernel, by decide +kernel, by decide +kernel⟩
theorem cv_X6_setting : CV yX6_setting cX6_setting 2 (some .int) 1 := ⟨mw_7, mw_974, by decide +kernel, by decide +kernel, by decide +kernel⟩
theorem cv_X6_place : CV yX6_place cX6_place 3 (some .int) 2 := ⟨mw_7, mw_979, by decide +kernel, by decide +kernel, by decide +kernel⟩
theorem cv_X6_room : CV yX6_room cX6_room 3 (some .int) 2 := ⟨mw_7, mw_997, by decide +kernel, by decide +kernel, by decide +kernel⟩
theorem cv_X6_moved : CV yX6_moved cX6_moved 3 (some .int) 2 := ⟨mw_7, mw_1006, by decide +kernel, by decide +kernel, by decide +kernel⟩
theorem cv_X6_way : CV yX6_way cX6_way 4 (some .int) 2 := ⟨mw_7, mw_1013, by decide +kernel, by decide +kernel, by decide +kernel⟩
theorem cv_X6_addRoom : CV yX6_addRoom cX6_addRoom 6 (some .int) 4 := ⟨mw_7, mw_1017, by decide +kernel, by decide +kernel, by decide +kernel⟩
theorem cv_X6_setRoom : CV yX6_setRoom cX6_setRoom 6 (some .int) 3 := ⟨mw_7, mw_1027, by decide +kernel, by decide +kernel, by decide +kernel⟩
theorem cv_X6_window : CV yX6_window cX6_window 3 (some .int) 2 := ⟨mw_7, mw_1031, by decide +kernel, by decide +kernel, by decide +kernel⟩
theorem cv_X6_isSetting : CV yX6_isSetting cX6_isSetting 2 (some .boolean) 2 := ⟨mw_7, mw_1038, by decide +kernel, by decide +kernel, by decide +kernel⟩
theorem cv_X6_set : CV yX6_set cX6_set 4 (some .int) 2 := ⟨mw_7, mw_1035, by decide +kernel, by decide +kernel, by decide +kernel⟩
theorem cv_X6_isOutside : CV yX6_isOutside cX6_isOutside 1 (some .boolean) 1 := ⟨mw_7, mw_1045, by decide +kernel, by decide +kernel, by decide +kernel⟩
theorem cv_X6_outside : CV yX6_outside cX6_outside 3 (some .int) 1 := ⟨mw_7, mw_1042, by decide +kernel, by decide +kernel, by decide +kernel⟩
theorem cv_X6_pass : CV yX6_pass cX6_pass 2 (some .int) 1 := ⟨mw_7, mw_1051, by decide +kernel, by decide +kernel, by decide +kernel⟩
theorem cv_X6_undo : CV yX6_undo cX6_undo 1 (some .int) 0 := ⟨mw_7, mw_1092, by decide +kernel, by decide +kernel, by decide +kernel⟩
theorem cv_X6_isAhead : CV yX6_isAhead cX6_isAhead 1 (some .boolean) 1 := ⟨mw_7, mw_1099, by decide +kernel, by decide +kernel, by decide +kernel⟩
theorem cv_X6_ahead : CV yX6_ahead cX6_ahead 3 (some .int) 2 := ⟨mw_7, mw_1096, by decide +kernel, by decide +kernel, by decide +kernel⟩
theorem cv_X6_minutesTo : CV yX6_minutesTo cX6_minutesTo 3 (some .int) 1 := ⟨mw_7, mw_1108, by decide +kernel, by decide +kernel, by decide +kernel⟩
theorem cv_X6_whyOff : CV yX6_whyOff cX6_whyOff 1 (some .int) 0 := ⟨mw_7, mw_1112, by decide +kernel, by decide +kernel, by decide +kernel⟩
theorem cv_X6_whyShare : CV yX6_whyShare cX6_whyShare 3 (some .int) 0 := ⟨mw_7, mw_1116, by decide +kernel, by decide +kernel, by decide +kernel⟩
theorem cv_X6_bestSlope : CV yX6_bestSlope cX6_bestSlope 6 (some .int) 1 := ⟨mw_7, mw_1120, by decide +kernel, by decide +kernel, by decide +kernel⟩
theorem cv_X6_allReach : CV yX6_allReach cX6_allReach 5 (some .boolean) 1 := ⟨mw_7, mw_1128, by decide +kernel, by decide +kernel, by decide +kernel⟩
theorem cv_X6_leastPower : CV yX6_leastPower cX6_leastPower 3 (some .int) 1 := ⟨mw_7, mw_1124, by decide +kernel, by decide +kernel, by decide +kernel⟩
theorem cv_X6_heatFor : CV yX6_heatFor cX6_heatFor 2 (some .int) 1 := ⟨mw_7, mw_1132, by decide +kernel, by decide +kernel, by decide +kernel⟩
theorem cv_X6_does : CV yX6_does cX6_does 7 (some .boolean) 1 := ⟨mw_7, mw_1145, by decide +kernel, by decide +kernel, by decide +kernel⟩
theorem cv_X6_runScript : CV yX6_runScript cX6_runScript 6 (some .int) 2 := ⟨mw_7, mw_1136, by decide +kernel, by decide +kernel, by decide +kernel⟩
theorem cv_X6_simulate : CV yX6_simulate cX6_simulate 10 (some .long) 2 := ⟨mw_7, mw_1149, by decide +kernel, by decide +kernel, by decide +kernel⟩
theorem cv_X6_save : CV yX6_save cX6_save 2 (some .int) 1 := ⟨mw_7, mw_1156, by decide +kernel, by decide +kernel, by decide +kernel⟩
theorem cv_X6_restore : CV yX6_restore cX6_restore 2 (some .int) 1 := ⟨mw_7, mw_1160, by decide +kernel, by decide +kernel, by decide +kernel⟩
theorem cv_J9_floorDiv_7cf53 : CV yJ9_floorDiv_7cf53 cJ9_floorDiv_7cf53 3 (some .int) 2 := ⟨mw_14, mw_337, by decide +kernel, by decide +kernel, by decide +kernel⟩
theorem cv_J9_max_7cf53 : CV yJ9_max_7cf53 cJ9_max_7cf53 2 (some .int) 2 := ⟨mw_14, mw_365, by decide +kernel, by decide +kernel, by decide +kernel⟩
theorem cv_J9_min_7cf53 : CV yJ9_min_7cf53 cJ9_min_7cf53 2 (some .int) 2 := ⟨mw_14, mw_362, by decide +kernel, by decide +kernel, by decide +kernel⟩
