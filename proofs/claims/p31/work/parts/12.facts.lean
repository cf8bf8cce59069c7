/-! CELLS of the shapes, as rows -/
theorem st_0 (Λ : Lay) (ad : Nat → Nat → Nat) (n : Nat) (c : Reg) : stSh Λ ad n c 0 = .inr (3, stF ad n c) := rfl
theorem st_1 (Λ : Lay) (ad : Nat → Nat → Nat) (n : Nat) (c : Reg) : stSh Λ ad n c 1 = .inl (Λ.2.1 0, 9, .inl (c 1)) := rfl
theorem st_2 (Λ : Lay) (ad : Nat → Nat → Nat) (n : Nat) (c : Reg) : stSh Λ ad n c 2 = .inl (Λ.2.1 0, 8, .inl (c 2)) := rfl
theorem st_3 (Λ : Lay) (ad : Nat → Nat → Nat) (n : Nat) (c : Reg) : stSh Λ ad n c 3 = .inl (Λ.2.1 0, 8, .inl (c 3)) := rfl
theorem st_4 (Λ : Lay) (ad : Nat → Nat → Nat) (n : Nat) (c : Reg) : stSh Λ ad n c 4 = .inl (Λ.2.1 5, 6, .inr (.inr (.inr (.inr (fun r => some (ad n (r + 9))))))) := by simp only [stSh]
theorem st_5 (Λ : Lay) (ad : Nat → Nat → Nat) (n : Nat) (c : Reg) : stSh Λ ad n c 5 = .inr (1, leF ad n c) := rfl
theorem st_6 (Λ : Lay) (ad : Nat → Nat → Nat) (n : Nat) (c : Reg) : stSh Λ ad n c 6 = .inl (Λ.2.1 0, 26, .inl (c 6)) := rfl
theorem st_7 (Λ : Lay) (ad : Nat → Nat → Nat) (n : Nat) (c : Reg) : stSh Λ ad n c 7 = .inl (Λ.2.1 0, 26, .inl (c 7)) := rfl
theorem st_8 (Λ : Lay) (ad : Nat → Nat → Nat) (n : Nat) (c : Reg) : stSh Λ ad n c 8 = .inl (Λ.2.1 0, 26, .inl (c 8)) := rfl
theorem st_r (Λ : Lay) (ad : Nat → Nat → Nat) (n : Nat) (c : Reg) (r : Nat) : stSh Λ ad n c (r + 9) = .inr (2, rmF (c (r + 9))) := by simp only [stSh]
theorem stP {Λ : Lay} {ad : Nat → Nat → Nat} {n : Nat} {c : Reg} {x : Int32} {f : Nat} (h : f < 9) : stSh Λ ad n (cu c 0 f x) 0 = .inr (3, (stF ad n c).set f (.int x)) := by
  rw [st_0]
  rcases (by omega : f = 0 ∨ f = 1 ∨ f = 2 ∨ f = 3 ∨ f = 4 ∨ f = 5 ∨ f = 6 ∨ f = 7 ∨ f = 8) with h | h | h | h | h | h | h | h | h <;> subst h <;> simp [stF, cu, va_up, upd]
theorem rmP {Λ : Lay} {ad : Nat → Nat → Nat} {n r : Nat} {c : Reg} {x : Int32} {f : Nat} (h : f < 7) : stSh Λ ad n (cu c (r + 9) f x) (r + 9) = .inr (2, (rmF (c (r + 9))).set f (.int x)) := by
  rw [st_r, cu_s]
  rcases (by omega : f = 0 ∨ f = 1 ∨ f = 2 ∨ f = 3 ∨ f = 4 ∨ f = 5 ∨ f = 6) with h | h | h | h | h | h | h <;> subst h <;> simp [rmF, upd]
theorem leP {Λ : Lay} {ad : Nat → Nat → Nat} {n : Nat} {c : Reg} {x : Int32} : stSh Λ ad n (cu c 5 3 x) 5 = .inr (1, (leF ad n c).set 3 (.int x)) := by
  rw [st_5]; simp [leF, cu, va_up, upd]
theorem gl_0 (Λ : Lay) (ad : Nat → Nat → Nat) (c : Reg) : glSh Λ ad c 0 = .inr (5, glF ad c) := by simp only [glSh]
theorem gl_1 (Λ : Lay) (ad : Nat → Nat → Nat) (c : Reg) : glSh Λ ad c 1 = .inl (Λ.2.1 1, 80, .inl (c 1)) := by simp only [glSh]
theorem gl_2 (Λ : Lay) (ad : Nat → Nat → Nat) (c : Reg) : glSh Λ ad c 2 = .inr (0, hiF ad c) := by simp only [glSh]
theorem gl_3 (Λ : Lay) (ad : Nat → Nat → Nat) (c : Reg) : glSh Λ ad c 3 = .inl (Λ.2.1 4, 14, .inr (.inr (.inr (.inr (fun k => some (ad ((c 3 k).toNatClampNeg + 2) 0)))))) := by simp only [glSh]
theorem gl_4 (Λ : Lay) (ad : Nat → Nat → Nat) (c : Reg) : glSh Λ ad c 4 = .inl (Λ.2.1 4, 2, .inr (.inr (.inr (.inr (fun k => some (ad (k + 16) 0)))))) := by simp only [glSh]
theorem gl_5 (Λ : Lay) (ad : Nat → Nat → Nat) (c : Reg) : glSh Λ ad c 5 = .inl (Λ.2.1 2, 2, .inl (c 5)) := by simp only [glSh]
theorem glP {Λ : Lay} {ad : Nat → Nat → Nat} {c : Reg} {x : Int32} : glSh Λ ad (cu c 0 1 x) 0 = .inr (5, (glF ad c).set 1 (.int x)) := by
  rw [gl_0]; simp [glF, cu, va_up, upd]
theorem hiP {Λ : Lay} {ad : Nat → Nat → Nat} {c : Reg} {x : Int32} : glSh Λ ad (cu c 2 1 x) 2 = .inr (0, (hiF ad c).set 1 (.int x)) := by
  rw [gl_2]; simp [hiF, cu, va_up, upd]
theorem gl_6 (Λ : Lay) (ad : Nat → Nat → Nat) (c : Reg) : glSh Λ ad c 6 = .inr (4, rdF ad (c 6)) := by simp only [glSh]
theorem rdP {Λ : Lay} {ad : Nat → Nat → Nat} {c : Reg} {x : Int32} {f : Nat} (h : f = 1 ∨ f = 2) : glSh Λ ad (cu c 6 f x) 6 = .inr (4, (rdF ad (c 6)).set f (.int x)) := by
  rw [gl_6, cu_s]
  rcases h with h | h <;> subst h <;> simp [rdF, upd]
theorem rd_t {ad : Nat → Nat → Nat} {f : Nat → Int32} (h : ¬ f 3 = 0) : (rdF ad f)[0]? = some (.ref (ad 20 1)) := by simp [rdF, h]
/-- the cells when all is made -/
def ids0 : List (Nat × Nat) := (List.range 18).flatMap (fun n => (List.range 15).map fun j => (n, j)) ++ (List.range 6).map (fun j => (20, j))
theorem id_st {n j : Nat} (hn : n < 18) (hj : j < 15) : (n, j) ∈ ids0 := List.mem_append_left _ (List.mem_flatMap.mpr ⟨n, List.mem_range.mpr hn, List.mem_map.mpr ⟨j, List.mem_range.mpr hj, rfl⟩⟩)
theorem id_gl {j : Nat} (hj : j < 6) : (20, j) ∈ ids0 := List.mem_append_right _ (List.mem_map.mpr ⟨j, List.mem_range.mpr hj, rfl⟩)
theorem l15_9 {r : Nat} (h : r < 6) : r + 9 < 15 := by omega
theorem cv_X0_init : CV yX0_init cX0_init 2 none 0 := ⟨mw_6, mw_164, by decide +kernel, by decide +kernel, by decide +kernel⟩
theorem cv_X0_isEmpty : CV yX0_isEmpty cX0_isEmpty 1 (some .boolean) 0 := ⟨mw_6, mw_851, by decide +kernel, by decide +kernel, by decide +kernel⟩
theorem cv_X0_forgetAll : CV yX0_forgetAll cX0_forgetAll 1 none 0 := ⟨mw_6, mw_385, by decide +kernel, by decide +kernel, by decide +kernel⟩
theorem cv_X0_remember : CV yX0_remember cX0_remember 2 none 1 := ⟨mw_6, mw_571, by decide +kernel, by decide +kernel, by decide +kernel⟩
theorem cv_X0_forgetOldest : CV yX0_forgetOldest cX0_forgetOldest 3 none 0 := ⟨mw_6, mw_575, by decide +kernel, by decide +kernel, by decide +kernel⟩
theorem cv_X0_takeBackInto : CV yX0_takeBackInto cX0_takeBackInto 3 none 1 := ⟨mw_6, mw_856, by decide +kernel, by decide +kernel, by decide +kernel⟩
theorem cv_X1_init : CV yX1_init cX1_init 1 none 0 := ⟨mw_3, mw_35, by decide +kernel, by decide +kernel, by decide +kernel⟩
theorem cv_X1_copyFrom : CV yX1_copyFrom cX1_copyFrom 2 none 1 := ⟨mw_3, mw_376, by decide +kernel, by decide +kernel, by decide +kernel⟩
theorem cv_X1_hasWay : CV yX1_hasWay cX1_hasWay 2 (some .boolean) 1 := ⟨mw_3, mw_534, by decide +kernel, by decide +kernel, by decide +kernel⟩
theorem cv_X1_note : CV yX1_note cX1_note 5 none 3 := ⟨mw_3, mw_296, by decide +kernel, by decide +kernel, by decide +kernel⟩
theorem cv_X1_sumBetween : CV yX1_sumBetween cX1_sumBetween 4 (some .int) 2 := ⟨mw_3, mw_548, by decide +kernel, by decide +kernel, by decide +kernel⟩
theorem cv_X2_init : CV yX2_init cX2_init 1 none 0 := ⟨mw_4, mw_60, by decide +kernel, by decide +kernel, by decide +kernel⟩
theorem cv_X2_copyFrom : CV yX2_copyFrom cX2_copyFrom 2 none 1 := ⟨mw_4, mw_381, by decide +kernel, by decide +kernel, by decide +kernel⟩
theorem cv_X2_begin : CV yX2_begin cX2_begin 4 none 3 := ⟨mw_4, mw_284, by decide +kernel, by decide +kernel, by decide +kernel⟩
theorem cv_X2_change : CV yX2_change cX2_change 4 (some .int) 2 := ⟨mw_4, mw_592, by decide +kernel, by decide +kernel, by decide +kernel⟩
theorem cv_X2_judge : CV yX2_judge cX2_judge 2 none 1 := ⟨mw_4, mw_696, by decide +kernel, by decide +kernel, by decide +kernel⟩
theorem cv_X3_init : CV yX3_init cX3_init 2 none 0 := ⟨mw_2, mw_27, by decide +kernel, by decide +kernel, by decide +kernel⟩
theorem cv_X3_beginAnew : CV yX3_beginAnew cX3_beginAnew 1 none 0 := ⟨mw_2, mw_99, by decide +kernel, by decide +kernel, by decide +kernel⟩
theorem cv_X3_copyFrom : CV yX3_copyFrom cX3_copyFrom 3 none 1 := ⟨mw_2, mw_372, by decide +kernel, by decide +kernel, by decide +kernel⟩
theorem cv_X3_hasRoom : CV yX3_hasRoom cX3_hasRoom 2 (some .boolean) 1 := ⟨mw_2, mw_496, by decide +kernel, by decide +kernel, by decide +kernel⟩
theorem cv_X3_hasPlace : CV yX3_hasPlace cX3_hasPlace 2 (some .boolean) 1 := ⟨mw_2, mw_492, by decide +kernel, by decide +kernel, by decide +kernel⟩
theorem cv_X3_isFull : CV yX3_isFull cX3_isFull 1 (some .boolean) 0 := ⟨mw_2, mw_272, by decide +kernel, by decide +kernel, by decide +kernel⟩
theorem cv_X3_settingOf : CV yX3_settingOf cX3_settingOf 2 (some .int) 1 := ⟨mw_2, mw_443, by decide +kernel, by decide +kernel, by decide +kernel⟩
theorem cv_X3_changeSetting : CV yX3_changeSetting cX3_changeSetting 3 none 2 := ⟨mw_2, mw_264, by decide +kernel, by decide +kernel, by decide +kernel⟩
theorem cv_X3_turnWindow : CV yX3_turnWindow cX3_turnWindow 3 none 2 := ⟨mw_2, mw_783, by decide +kernel, by decide +kernel, by decide +kernel⟩
theorem cv_X3_buildRoom : CV yX3_buildRoom cX3_buildRoom 7 none 4 := ⟨mw_2, mw_280, by decide +kernel, by decide +kernel, by decide +kernel⟩
theorem cv_X3_heatOf : CV yX3_heatOf cX3_heatOf 2 (some .int) 1 := ⟨mw_2, mw_501, by decide +kernel, by decide +kernel, by decide +kernel⟩
theorem cv_X3_capacityOf : CV yX3_capacityOf cX3_capacityOf 2 (some .int) 1 := ⟨mw_2, mw_512, by decide +kernel, by decide +kernel, by decide +kernel⟩
theorem cv_X3_degrees : CV yX3_degrees cX3_degrees 2 (some .int) 1 := ⟨mw_2, mw_505, by decide +kernel, by decide +kernel, by decide +kernel⟩
theorem cv_X3_allHeat : CV yX3_allHeat cX3_allHeat 3 (some .int) 0 := ⟨mw_2, mw_450, by decide +kernel, by decide +kernel, by decide +kernel⟩
theorem cv_X3_allComfort : CV yX3_allComfort cX3_allComfort 3 (some .int) 0 := ⟨mw_2, mw_454, by decide +kernel, by decide +kernel, by decide +kernel⟩
theorem cv_X3_openWindows : CV yX3_openWindows cX3_openWindows 3 (some .int) 0 := ⟨mw_2, mw_603, by decide +kernel, by decide +kernel, by decide +kernel⟩
theorem cv_X3_heatMade : CV yX3_heatMade cX3_heatMade 1 (some .int) 0 := ⟨mw_2, mw_750, by decide +kernel, by decide +kernel, by decide +kernel⟩
theorem cv_X3_isAsWarmAsWanted : CV yX3_isAsWarmAsWanted cX3_isAsWarmAsWanted 2 (some .boolean) 1 := ⟨mw_2, mw_715, by decide +kernel, by decide +kernel, by decide +kernel⟩
theorem cv_X3_warmRooms : CV yX3_warmRooms cX3_warmRooms 3 (some .int) 0 := ⟨mw_2, mw_738, by decide +kernel, by decide +kernel, by decide +kernel⟩
theorem cv_X3_loopShouldHave : CV yX3_loopShouldHave cX3_loopShouldHave 1 (some .int) 0 := ⟨mw_2, mw_439, by decide +kernel, by decide +kernel, by decide +kernel⟩
theorem cv_X3_advance : CV yX3_advance cX3_advance 3 none 1 := ⟨mw_2, mw_643, by decide +kernel, by decide +kernel, by decide +kernel⟩
theorem cv_X3_turnSeason : CV yX3_turnSeason cX3_turnSeason 2 none 0 := ⟨mw_2, mw_647, by decide +kernel, by decide +kernel, by decide +kernel⟩
theorem cv_X3_runBoiler : CV yX3_runBoiler cX3_runBoiler 1 none 0 := ⟨mw_2, mw_651, by decide +kernel, by decide +kernel, by decide +kernel⟩
theorem cv_X3_mustStop : CV yX3_mustStop cX3_mustStop 2 (some .boolean) 0 := ⟨mw_2, mw_655, by decide +kernel, by decide +kernel, by decide +kernel⟩
theorem cv_X3_mayStart : CV yX3_mayStart cX3_mayStart 1 (some .boolean) 0 := ⟨mw_2, mw_660, by decide +kernel, by decide +kernel, by decide +kernel⟩
theorem cv_X3_moveValve : CV yX3_moveValve cX3_moveValve 3 none 0 := ⟨mw_2, mw_664, by decide +kernel, by decide +kernel, by decide +kernel⟩
theorem cv_X3_isPinched : CV yX3_isPinched cX3_isPinched 1 (some .boolean) 0 := ⟨mw_2, mw_676, by decide +kernel, by decide +kernel, by decide +kernel⟩
theorem cv_X3_freeTarget : CV yX3_freeTarget cX3_freeTarget 2 (some .int) 0 := ⟨mw_2, mw_668, by decide +kernel, by decide +kernel, by decide +kernel⟩
theorem cv_X3_mix : CV yX3_mix cX3_mix 2 none 0 := ⟨mw_2, mw_680, by decide +kernel, by decide +kernel, by decide +kernel⟩
theorem cv_X3_heatRooms : CV yX3_heatRooms cX3_heatRooms 4 none 0 := ⟨mw_2, mw_684, by decide +kernel, by decide +kernel, by decide +kernel⟩
theorem cv_X3_leakRooms : CV yX3_leakRooms cX3_leakRooms 4 none 0 := ⟨mw_2, mw_688, by decide +kernel, by decide +kernel, by decide +kernel⟩
theorem cv_X3_judgeRooms : CV yX3_judgeRooms cX3_judgeRooms 2 none 0 := ⟨mw_2, mw_692, by decide +kernel, by decide +kernel, by decide +kernel⟩
theorem cv_X3_move : CV yX3_move cX3_move 4 none 3 := ⟨mw_2, mw_288, by decide +kernel, by decide +kernel, by decide +kernel⟩
theorem cv_X3_addHeat : CV yX3_addHeat cX3_addHeat 3 none 2 := ⟨mw_2, mw_292, by decide +kernel, by decide +kernel, by decide +kernel⟩
theorem cv_X4_init : CV yX4_init cX4_init 3 none 2 := ⟨mw_13, mw_217, by decide +kernel, by decide +kernel, by decide +kernel⟩
theorem cv_X4_readInto : CV yX4_readInto cX4_readInto 3 (some .boolean) 1 := ⟨mw_13, mw_233, by decide +kernel, by decide +kernel, by decide +kernel⟩
theorem cv_X4_readHead : CV yX4_readHead cX4_readHead 2 (some .boolean) 1 := ⟨mw_13, mw_238, by decide +kernel, by decide +kernel, by decide +kernel⟩
theorem cv_X4_readPart : CV yX4_readPart cX4_readPart 4 (some .boolean) 1 := ⟨mw_13, mw_268, by decide +kernel, by decide +kernel, by decide +kernel⟩
theorem cv_X4_readSetting : CV yX4_readSetting cX4_readSetting 5 (some .boolean) 3 := ⟨mw_13, mw_246, by decide +kernel, by decide +kernel, by decide +kernel⟩
theorem cv_X4_readRoom : CV yX4_readRoom cX4_readRoom 6 (some .boolean) 1 := ⟨mw_13, mw_276, by decide +kernel, by decide +kernel, by decide +kernel⟩
theorem cv_X4_readOutside : CV yX4_readOutside cX4_readOutside 4 (some .boolean) 1 := ⟨mw_13, mw_300, by decide +kernel, by decide +kernel, by decide +kernel⟩
theorem cv_X4_readNumber : CV yX4_readNumber cX4_readNumber 9 (some .int) 3 := ⟨mw_13, mw_260, by decide +kernel, by decide +kernel, by decide +kernel⟩
theorem cv_X4_here : CV yX4_here cX4_here 1 (some .int) 0 := ⟨mw_13, mw_242, by decide +kernel, by decide +kernel, by decide +kernel⟩
theorem cv_X5_init : CV yX5_init cX5_init 2 none 0 := ⟨mw_1, mw_19, by decide +kernel, by decide +kernel, by decide +kernel⟩
theorem cv_X5_append : CV yX5_append cX5_append 2 (some .int) 1 := ⟨mw_1, mw_805, by decide +kernel, by decide +kernel, by decide +kernel⟩
theorem cv_X5_clearText : CV yX5_clearText cX5_clearText 2 (some .int) 0 := ⟨mw_1, mw_875, by decide +kernel, by decide +kernel, by decide +kernel⟩
theorem cv_X5_errorPosition : CV yX5_errorPosition cX5_errorPosition 2 (some .int) 0 := ⟨mw_1, mw_867, by decide +kernel, by decide +kernel, by decide +kernel⟩
theorem cv_X5_load : CV yX5_load cX5_load 3 (some .int) 0 := ⟨mw_1, mw_212, by decide +kernel, by decide +kernel, by decide +kernel⟩
theorem cv_X5_about : CV yX5_about cX5_about 2 (some .int) 1 := ⟨mw_1, mw_435, by decide +kernel, by decide +kernel, by decide +kernel⟩
theorem cv_X5_setting : CV yX5_setting cX5_setting 2 (some .int) 1 := ⟨mw_1, mw_478, by decide +kernel, by decide +kernel, by decide +kernel⟩
theorem cv_X5_place : CV yX5_place cX5_place 3 (some .int) 2 := ⟨mw_1, mw_488, by decide +kernel, by decide +kernel, by decide +kernel⟩
theorem cv_X5_room : CV yX5_room cX5_room 4 (some .int) 2 := ⟨mw_1, mw_520, by decide +kernel, by decide +kernel, by decide +kernel⟩
theorem cv_X5_moved : CV yX5_moved cX5_moved 3 (some .int) 2 := ⟨mw_1, mw_543, by decide +kernel, by decide +kernel, by decide +kernel⟩
theorem cv_X5_way : CV yX5_way cX5_way 3 (some .int) 2 := ⟨mw_1, mw_530, by decide +kernel, by decide +kernel, by decide +kernel⟩
theorem cv_X5_addRoom : CV yX5_addRoom cX5_addRoom 5 (some .int) 4 := ⟨mw_1, mw_555, by decide +kernel, by decide +kernel, by decide +kernel⟩
theorem cv_X5_setRoom : CV yX5_setRoom cX5_setRoom 4 (some .int) 3 := ⟨mw_1, mw_584, by decide +kernel, by decide +kernel, by decide +kernel⟩
theorem cv_X5_window : CV yX5_window cX5_window 3 (some .int) 2 := ⟨mw_1, mw_599, by decide +kernel, by decide +kernel, by decide +kernel⟩
theorem cv_X5_set : CV yX5_set cX5_set 4 (some .int) 2 := ⟨mw_1, mw_610, by decide +kernel, by decide +kernel, by decide +kernel⟩
theorem cv_X5_outside : CV yX5_outside cX5_outside 3 (some .int) 1 := ⟨mw_1, mw_624, by decide +kernel, by decide +kernel, by decide +kernel⟩
theorem cv_X5_pass : CV yX5_pass cX5_pass 3 (some .int) 1 := ⟨mw_1, mw_635, by decide +kernel, by decide +kernel, by decide +kernel⟩
theorem cv_X5_undo : CV yX5_undo cX5_undo 1 (some .int) 0 := ⟨mw_1, mw_847, by decide +kernel, by decide +kernel, by decide +kernel⟩
theorem cv_X5_ahead : CV yX5_ahead cX5_ahead 3 (some .int) 2 := ⟨mw_1, mw_703, by decide +kernel, by decide +kernel, by decide +kernel⟩
theorem cv_X5_minutesTo : CV yX5_minutesTo cX5_minutesTo 3 (some .int) 1 := ⟨mw_1, mw_711, by decide +kernel, by decide +kernel, by decide +kernel⟩
theorem cv_X5_whyOff : CV yX5_whyOff cX5_whyOff 1 (some .int) 0 := ⟨mw_1, mw_830, by decide +kernel, by decide +kernel, by decide +kernel⟩
theorem cv_X5_whyShare : CV yX5_whyShare cX5_whyShare 1 (some .int) 0 := ⟨mw_1, mw_836, by decide +kernel, by decide +kernel, by decide +kernel⟩
theorem cv_X5_bestSlope : CV yX5_bestSlope cX5_bestSlope 6 (some .int) 1 := ⟨mw_1, mw_723, by decide +kernel, by decide +kernel, by decide +kernel⟩
theorem cv_X5_leastPower : CV yX5_leastPower cX5_leastPower 3 (some .int) 1 := ⟨mw_1, mw_731, by decide +kernel, by decide +kernel, by decide +kernel⟩
theorem cv_X5_heatFor : CV yX5_heatFor cX5_heatFor 2 (some .int) 1 := ⟨mw_1, mw_746, by decide +kernel, by decide +kernel, by decide +kernel⟩
theorem cv_X5_runScript : CV yX5_runScript cX5_runScript 5 (some .int) 2 := ⟨mw_1, mw_758, by decide +kernel, by decide +kernel, by decide +kernel⟩
theorem cv_X5_simulate : CV yX5_simulate cX5_simulate 8 (some .long) 2 := ⟨mw_1, mw_794, by decide +kernel, by decide +kernel, by decide +kernel⟩
theorem cv_X5_save : CV yX5_save cX5_save 2 (some .int) 1 := ⟨mw_1, mw_394, by decide +kernel, by decide +kernel, by decide +kernel⟩
theorem cv_X5_restore : CV yX5_restore cX5_restore 2 (some .int) 1 := ⟨mw_1, mw_418, by decide +kernel, by decide +kernel, by decide +kernel⟩
theorem cv_X5_lowestSetting : CV yX5_lowestSetting cX5_lowestSetting 1 (some .int) 1 := ⟨mw_1, mw_249, by decide +kernel, by decide +kernel, by decide +kernel⟩
theorem cv_X5_highestSetting : CV yX5_highestSetting cX5_highestSetting 1 (some .int) 1 := ⟨mw_1, mw_254, by decide +kernel, by decide +kernel, by decide +kernel⟩
theorem cv_X5_settingAllowed : CV yX5_settingAllowed cX5_settingAllowed 2 (some .boolean) 2 := ⟨mw_1, mw_613, by decide +kernel, by decide +kernel, by decide +kernel⟩
theorem cv_X5_outsideAllowed : CV yX5_outsideAllowed cX5_outsideAllowed 1 (some .boolean) 1 := ⟨mw_1, mw_627, by decide +kernel, by decide +kernel, by decide +kernel⟩
theorem cv_X5_passAllowed : CV yX5_passAllowed cX5_passAllowed 1 (some .boolean) 1 := ⟨mw_1, mw_638, by decide +kernel, by decide +kernel, by decide +kernel⟩
theorem cv_X5_wantedAllowed : CV yX5_wantedAllowed cX5_wantedAllowed 1 (some .boolean) 1 := ⟨mw_1, mw_558, by decide +kernel, by decide +kernel, by decide +kernel⟩
theorem cv_X5_radiatorsAllowed : CV yX5_radiatorsAllowed cX5_radiatorsAllowed 1 (some .boolean) 1 := ⟨mw_1, mw_561, by decide +kernel, by decide +kernel, by decide +kernel⟩
theorem cv_X5_leakAllowed : CV yX5_leakAllowed cX5_leakAllowed 1 (some .boolean) 1 := ⟨mw_1, mw_564, by decide +kernel, by decide +kernel, by decide +kernel⟩
theorem cv_X5_roomNumberAllowed : CV yX5_roomNumberAllowed cX5_roomNumberAllowed 2 (some .boolean) 2 := ⟨mw_1, mw_587, by decide +kernel, by decide +kernel, by decide +kernel⟩
theorem cv_X5_allRoomsGetWarm : CV yX5_allRoomsGetWarm cX5_allRoomsGetWarm 5 (some .boolean) 2 := ⟨mw_1, mw_734, by decide +kernel, by decide +kernel, by decide +kernel⟩
theorem cv_X5_longestScript : CV yX5_longestScript cX5_longestScript 4 (some .long) 1 := ⟨mw_1, mw_762, by decide +kernel, by decide +kernel, by decide +kernel⟩
theorem cv_X5_groupAt : CV yX5_groupAt cX5_groupAt 7 (some .int) 3 := ⟨mw_1, mw_767, by decide +kernel, by decide +kernel, by decide +kernel⟩
theorem cv_X5_commandSucceeds : CV yX5_commandSucceeds cX5_commandSucceeds 5 (some .boolean) 2 := ⟨mw_1, mw_770, by decide +kernel, by decide +kernel, by decide +kernel⟩
theorem cv_X5_outsideCommand : CV yX5_outsideCommand cX5_outsideCommand 2 (some .boolean) 2 := ⟨mw_1, mw_773, by decide +kernel, by decide +kernel, by decide +kernel⟩
theorem cv_X5_settingCommand : CV yX5_settingCommand cX5_settingCommand 3 (some .boolean) 3 := ⟨mw_1, mw_776, by decide +kernel, by decide +kernel, by decide +kernel⟩
theorem cv_X5_windowCommand : CV yX5_windowCommand cX5_windowCommand 3 (some .boolean) 3 := ⟨mw_1, mw_779, by decide +kernel, by decide +kernel, by decide +kernel⟩
theorem cv_X5_wantedCommand : CV yX5_wantedCommand cX5_wantedCommand 3 (some .boolean) 3 := ⟨mw_1, mw_786, by decide +kernel, by decide +kernel, by decide +kernel⟩
theorem cv_J9_floorDiv_7cf53 : CV yJ9_floorDiv_7cf53 cJ9_floorDiv_7cf53 3 (some .int) 2 := ⟨mw_7, mw_508, by decide +kernel, by decide +kernel, by decide +kernel⟩
theorem cv_J9_max_7cf53 : CV yJ9_max_7cf53 cJ9_max_7cf53 2 (some .int) 2 := ⟨mw_7, mw_672, by decide +kernel, by decide +kernel, by decide +kernel⟩
theorem cv_J9_min_7cf53 : CV yJ9_min_7cf53 cJ9_min_7cf53 2 (some .int) 2 := ⟨mw_7, mw_446, by decide +kernel, by decide +kernel, by decide +kernel⟩
theorem cv_L_draw : CV yL_draw cL_draw 2 (some .int) 2 := ⟨mw_0, mw_202, by decide +kernel, by decide +kernel, by decide +kernel⟩
theorem cv_L_in : CV yL_in cL_in 6 (some .boolean) 3 := ⟨mw_0, mw_814, by decide +kernel, by decide +kernel, by decide +kernel⟩
theorem cv_L_now : CV yL_now cL_now 5 (some .long) 1 := ⟨mw_0, mw_425, by decide +kernel, by decide +kernel, by decide +kernel⟩
theorem cv_L_errors : CV yL_errors cL_errors 5 (some .boolean) 1 := ⟨mw_0, mw_422, by decide +kernel, by decide +kernel, by decide +kernel⟩
theorem cv_L_kept : CV yL_kept cL_kept 14 (some .boolean) 1 := ⟨mw_0, mw_810, by decide +kernel, by decide +kernel, by decide +kernel⟩
theorem cv_L_follows : CV yL_follows cL_follows 36 (some .boolean) 2 := ⟨mw_0, mw_823, by decide +kernel, by decide +kernel, by decide +kernel⟩
theorem cv_L_o : CV yL_o cL_o 2 (some .int) 2 := ⟨mw_0, mw_826, by decide +kernel, by decide +kernel, by decide +kernel⟩
theorem cv_L_alike : CV yL_alike cL_alike 4 (some .boolean) 3 := ⟨mw_0, mw_863, by decide +kernel, by decide +kernel, by decide +kernel⟩
theorem cv_L_types : CV yL_types cL_types 5 (some .boolean) 3 := ⟨mw_0, mw_878, by decide +kernel, by decide +kernel, by decide +kernel⟩
theorem cv_L_tells : CV yL_tells cL_tells 6 (some .boolean) 3 := ⟨mw_0, mw_871, by decide +kernel, by decide +kernel, by decide +kernel⟩
theorem cv_L_act : CV yL_act cL_act 4 (some .long) 3 := ⟨mw_0, mw_883, by decide +kernel, by decide +kernel, by decide +kernel⟩
